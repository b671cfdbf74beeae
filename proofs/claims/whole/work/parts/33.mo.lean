abbrev bMo_sort : ByteArray := prog_8_method_36_code
abbrev yMo_sort : MethodName := ⟨RMo, "sort", "(I)V"⟩
abbrev wMo_sort : List Cond := .code yMo_sort bMo_sort 6 none :: jw
theorem dMo_sort_0 : decode bMo_sort 0 = .ok (.iload_n 1, 1) := by decide +kernel
theorem dMo_sort_1 : decode bMo_sort 1 = .ok (.iconst 2, 1) := by decide +kernel
theorem dMo_sort_2 : decode bMo_sort 2 = .ok (.idiv, 1) := by decide +kernel
theorem dMo_sort_3 : decode bMo_sort 3 = .ok (.istore_n 2, 1) := by decide +kernel
theorem dMo_sort_4 : decode bMo_sort 4 = .ok (.iload_n 2, 1) := by decide +kernel
theorem dMo_sort_5 : decode bMo_sort 5 = .ok (.ifCond .le 88, 3) := by decide +kernel
theorem dMo_sort_8 : decode bMo_sort 8 = .ok (.iload_n 2, 1) := by decide +kernel
theorem dMo_sort_9 : decode bMo_sort 9 = .ok (.istore_n 3, 1) := by decide +kernel
theorem dMo_sort_10 : decode bMo_sort 10 = .ok (.iload_n 3, 1) := by decide +kernel
theorem dMo_sort_11 : decode bMo_sort 11 = .ok (.iload_n 1, 1) := by decide +kernel
theorem dMo_sort_12 : decode bMo_sort 12 = .ok (.if_icmp .ge 74, 3) := by decide +kernel
theorem dMo_sort_15 : decode bMo_sort 15 = .ok (.aload_n 0, 1) := by decide +kernel
theorem dMo_sort_16 : decode bMo_sort 16 = .ok (.getfield 50, 3) := by decide +kernel
theorem dMo_sort_19 : decode bMo_sort 19 = .ok (.iload_n 3, 1) := by decide +kernel
theorem dMo_sort_20 : decode bMo_sort 20 = .ok (.iaload, 1) := by decide +kernel
theorem dMo_sort_21 : decode bMo_sort 21 = .ok (.istore 4, 2) := by decide +kernel
theorem dMo_sort_23 : decode bMo_sort 23 = .ok (.iload_n 3, 1) := by decide +kernel
theorem dMo_sort_24 : decode bMo_sort 24 = .ok (.istore 5, 2) := by decide +kernel
theorem dMo_sort_26 : decode bMo_sort 26 = .ok (.iload 5, 2) := by decide +kernel
theorem dMo_sort_28 : decode bMo_sort 28 = .ok (.iload_n 2, 1) := by decide +kernel
theorem dMo_sort_29 : decode bMo_sort 29 = .ok (.if_icmp .lt 42, 3) := by decide +kernel
theorem dMo_sort_32 : decode bMo_sort 32 = .ok (.aload_n 0, 1) := by decide +kernel
theorem dMo_sort_33 : decode bMo_sort 33 = .ok (.getfield 50, 3) := by decide +kernel
theorem dMo_sort_36 : decode bMo_sort 36 = .ok (.iload 5, 2) := by decide +kernel
theorem dMo_sort_38 : decode bMo_sort 38 = .ok (.iload_n 2, 1) := by decide +kernel
theorem dMo_sort_39 : decode bMo_sort 39 = .ok (.isub, 1) := by decide +kernel
theorem dMo_sort_40 : decode bMo_sort 40 = .ok (.iaload, 1) := by decide +kernel
theorem dMo_sort_41 : decode bMo_sort 41 = .ok (.iload 4, 2) := by decide +kernel
theorem dMo_sort_43 : decode bMo_sort 43 = .ok (.if_icmp .le 28, 3) := by decide +kernel
theorem dMo_sort_46 : decode bMo_sort 46 = .ok (.aload_n 0, 1) := by decide +kernel
theorem dMo_sort_47 : decode bMo_sort 47 = .ok (.getfield 50, 3) := by decide +kernel
theorem dMo_sort_50 : decode bMo_sort 50 = .ok (.iload 5, 2) := by decide +kernel
theorem dMo_sort_52 : decode bMo_sort 52 = .ok (.aload_n 0, 1) := by decide +kernel
theorem dMo_sort_53 : decode bMo_sort 53 = .ok (.getfield 50, 3) := by decide +kernel
theorem dMo_sort_56 : decode bMo_sort 56 = .ok (.iload 5, 2) := by decide +kernel
theorem dMo_sort_58 : decode bMo_sort 58 = .ok (.iload_n 2, 1) := by decide +kernel
theorem dMo_sort_59 : decode bMo_sort 59 = .ok (.isub, 1) := by decide +kernel
theorem dMo_sort_60 : decode bMo_sort 60 = .ok (.iaload, 1) := by decide +kernel
theorem dMo_sort_61 : decode bMo_sort 61 = .ok (.iastore, 1) := by decide +kernel
theorem dMo_sort_62 : decode bMo_sort 62 = .ok (.iload 5, 2) := by decide +kernel
theorem dMo_sort_64 : decode bMo_sort 64 = .ok (.iload_n 2, 1) := by decide +kernel
theorem dMo_sort_65 : decode bMo_sort 65 = .ok (.isub, 1) := by decide +kernel
theorem dMo_sort_66 : decode bMo_sort 66 = .ok (.istore 5, 2) := by decide +kernel
theorem dMo_sort_68 : decode bMo_sort 68 = .ok (.goto (-42), 3) := by decide +kernel
theorem dMo_sort_71 : decode bMo_sort 71 = .ok (.aload_n 0, 1) := by decide +kernel
theorem dMo_sort_72 : decode bMo_sort 72 = .ok (.getfield 50, 3) := by decide +kernel
theorem dMo_sort_75 : decode bMo_sort 75 = .ok (.iload 5, 2) := by decide +kernel
theorem dMo_sort_77 : decode bMo_sort 77 = .ok (.iload 4, 2) := by decide +kernel
theorem dMo_sort_79 : decode bMo_sort 79 = .ok (.iastore, 1) := by decide +kernel
theorem dMo_sort_80 : decode bMo_sort 80 = .ok (.iinc 3 1, 3) := by decide +kernel
theorem dMo_sort_83 : decode bMo_sort 83 = .ok (.goto (-73), 3) := by decide +kernel
theorem dMo_sort_86 : decode bMo_sort 86 = .ok (.iload_n 2, 1) := by decide +kernel
theorem dMo_sort_87 : decode bMo_sort 87 = .ok (.iconst 2, 1) := by decide +kernel
theorem dMo_sort_88 : decode bMo_sort 88 = .ok (.idiv, 1) := by decide +kernel
theorem dMo_sort_89 : decode bMo_sort 89 = .ok (.istore_n 2, 1) := by decide +kernel
theorem dMo_sort_90 : decode bMo_sort 90 = .ok (.goto (-86), 3) := by decide +kernel
theorem dMo_sort_93 : decode bMo_sort 93 = .ok (.return_, 1) := by decide +kernel
abbrev rMo_sort : Room := { frames := 0, cells := 0, slots := 0, locals := 0 }
def fMo_sort_26 (k71 : Int32 → Int32 → Int32 → Int32 → Int32 → jM → jF → jL → Option (Int32 × jM × jF × jL)) : Nat → Int32 → Int32 → Int32 → Int32 → Int32 → jM → jF → jL → Option (Int32 × jM × jF × jL)
  | 0, _, _, _, _, _, _, _, _ => none
  | n + 1, x1, x2, x3, x4, x5, M, F, L => (if x5 < x2 then k71 x1 x2 x3 x4 x5 M F L else (if jib (x5 - x2) 3000 then (if (M 14 (x5 - x2).toNatClampNeg) ≤ x4 then k71 x1 x2 x3 x4 x5 M F L else (if jib (x5 - x2) 3000 then (if jib x5 3000 then fMo_sort_26 k71 n x1 x2 x3 x4 (x5 - x2) (jmu M 14 x5.toNatClampNeg (M 14 (x5 - x2).toNatClampNeg)) F L else none) else none)) else none))
def fMo_sort_71 (k10 : Int32 → Int32 → Int32 → jM → jF → jL → Option (Int32 × jM × jF × jL)) (x1 : Int32) (x2 : Int32) (x3 : Int32) (x4 : Int32) (x5 : Int32) (M : jM) (F : jF) (L : jL) : Option (Int32 × jM × jF × jL) := (if jib x5 3000 then k10 x1 x2 (x3 + 1) (jmu M 14 x5.toNatClampNeg x4) F L else none)
def fMo_sort_10 (k86 : Int32 → Int32 → jM → jF → jL → Option (Int32 × jM × jF × jL)) : Nat → Int32 → Int32 → Int32 → jM → jF → jL → Option (Int32 × jM × jF × jL)
  | 0, _, _, _, _, _, _ => none
  | n + 1, x1, x2, x3, M, F, L => (if x1 ≤ x3 then k86 x1 x2 M F L else (if jib x3 3000 then fMo_sort_26 (fun x1 x2 x3 x4 x5 M F L => fMo_sort_71 (fun x1 x2 x3 M F L => fMo_sort_10 k86 n x1 x2 x3 M F L) x1 x2 x3 x4 x5 M F L) jfuel x1 x2 x3 (M 14 x3.toNatClampNeg) x3 M F L else none))
def fMo_sort_4 : Nat → Int32 → Int32 → jM → jF → jL → Option (Int32 × jM × jF × jL)
  | 0, _, _, _, _, _ => none
  | n + 1, x1, x2, M, F, L => (if x2 ≤ 0 then some (0, M, F, L) else fMo_sort_10 (fun x1 x2 M F L => (if (2 : Int32) = 0 then none else fMo_sort_4 n x1 (x2 / 2) M F L)) jfuel x1 x2 x2 M F L)
def fMo_sort_0 (x1 : Int32) (M : jM) (F : jF) (L : jL) : Option (Int32 × jM × jF × jL) := (if (2 : Int32) = 0 then none else fMo_sort_4 jfuel x1 (x1 / 2) M F L)
abbrev fMo_sort (x1 : Int32) (M : jM) (F : jF) (L : jL) : Option (Int32 × jM × jF × jL) := fMo_sort_0 x1 M F L
set_option maxHeartbeats 4000000 in
set_option maxRecDepth 100000 in
theorem uMo_sort_26 {p : Program} {e : Env} {s : State} {m : MethodId} {args : Array Value} {below : List Frame} {meth : Method} {c : Code} (l : Launch) (dC : Nat → ClassId) (dI : Nat → Nat → Nat) (cA cL : ClassId) (A : Nat → Nat) (Ap : Nat → Prop) (hC : jAt p s m args meth c bMo_sort 6 none wMo_sort RMo) (hA : ∀ q : Nat, s.heap.size ≤ q → Ap q) {r : Int32} {M' : jM} {F' : jF} {L' : jL} (k71 : Int32 → Int32 → Int32 → Int32 → Int32 → jM → jF → jL → Option (Int32 × jM × jF × jL)) (hk71 : ∀ (x1 : Int32) (x2 : Int32) (x3 : Int32) (x4 : Int32) (x5 : Int32) (M : jM) (F : jF) (L : jL) (B : Nat → Nat) (H : Heap) (locs : List Loc) (ls : Array Slot), jH (dC, dI) jCl [(cA, .int), (cL, .long)] (mW cA cL A M F L) Ap s H locs → lv_has ls 6 [(0, .ref (A 0)), (1, .int x1), (2, .int x2), (3, .int x3), (4, .int x4), (5, .int x5)] → k71 x1 x2 x3 x4 x5 M F L = some (r, M', F', L') → W p l e (headSpec wMo_sort rMo_sort).room s m args below meth c H locs 0 0 (jQv below (dC, dI) jCl [(cA, .int), (cL, .long)] (fun _ : Nat → Nat => mW cA cL A (M') (F') (L')) Ap args s) (F0 m 71 ls [])) : ∀ (n : Nat) (x1 : Int32) (x2 : Int32) (x3 : Int32) (x4 : Int32) (x5 : Int32) (M : jM) (F : jF) (L : jL) (B : Nat → Nat) (H : Heap) (locs : List Loc) (ls : Array Slot), jH (dC, dI) jCl [(cA, .int), (cL, .long)] (mW cA cL A M F L) Ap s H locs → lv_has ls 6 [(0, .ref (A 0)), (1, .int x1), (2, .int x2), (3, .int x3), (4, .int x4), (5, .int x5)] → fMo_sort_26 k71 n x1 x2 x3 x4 x5 M F L = some (r, M', F', L') → W p l e (headSpec wMo_sort rMo_sort).room s m args below meth c H locs 0 0 (jQv below (dC, dI) jCl [(cA, .int), (cL, .long)] (fun _ : Nat → Nat => mW cA cL A (M') (F') (L')) Ap args s) (F0 m 26 ls []) := by
  obtain ⟨hx, hb, hml, hr, hts, hown, hlocks, hN⟩ := id hC
  have hj : ∀ w ∈ jw, w.before args s = true := fun w h => hts w (List.mem_cons_of_mem _ h)
  intro n
  induction n with
  | zero =>
    intro x1 x2 x3 x4 x5 M F L B H locs ls hJ hl h
    rw [fMo_sort_26] at h
    cases h
  | succ n ih =>
    intro x1 x2 x3 x4 x5 M F L B H locs ls hJ hl h
    rw [fMo_sort_26] at h
    refine lv_iload hx hb dMo_sort_26 (lv_at hl 5 rfl) ?_
    refine lv_iload_n hx hb dMo_sort_28 rfl (lv_at hl 2 rfl) ?_
    refine lv_icmp_lt (tgt := 71) hx hb dMo_sort_29 (by decide) (fun c4 => ?_) (fun c4 => ?_)
    · replace h := jif_t c4 h
      exact hk71 _ _ _ _ _ _ _ _ B _ _ _ hJ (lv_sub hl [0, 1, 2, 3, 4, 5] rfl) h
    · replace h := jif_f c4 h
      refine lv_aload_n hx hb dMo_sort_32 rfl (lv_at hl 0 rfl) ?_
      refine mget_19 hx hb hj hown hJ (hj _ jw_618) dMo_sort_33 ?_
      refine lv_iload hx hb dMo_sort_36 (lv_at hl 5 rfl) ?_
      refine lv_iload_n hx hb dMo_sort_38 rfl (lv_at hl 2 rfl) ?_
      refine lv_isub hx hb dMo_sort_39 ?_
      obtain ⟨hi5, h⟩ := jib_h h
      refine mald_14 hx hb hJ hi5 dMo_sort_40 ?_
      refine lv_iload hx hb dMo_sort_41 (lv_at hl 4 rfl) ?_
      refine lv_icmp_le (tgt := 71) hx hb dMo_sort_43 (by decide) (fun c6 => ?_) (fun c6 => ?_)
      · replace h := jif_t c6 h
        exact hk71 _ _ _ _ _ _ _ _ B _ _ _ hJ (lv_sub hl [0, 1, 2, 3, 4, 5] rfl) h
      · replace h := jif_f c6 h
        refine lv_aload_n hx hb dMo_sort_46 rfl (lv_at hl 0 rfl) ?_
        refine mget_19 hx hb hj hown hJ (hj _ jw_618) dMo_sort_47 ?_
        refine lv_iload hx hb dMo_sort_50 (lv_at hl 5 rfl) ?_
        refine lv_aload_n hx hb dMo_sort_52 rfl (lv_at hl 0 rfl) ?_
        refine mget_19 hx hb hj hown hJ (hj _ jw_618) dMo_sort_53 ?_
        refine lv_iload hx hb dMo_sort_56 (lv_at hl 5 rfl) ?_
        refine lv_iload_n hx hb dMo_sort_58 rfl (lv_at hl 2 rfl) ?_
        refine lv_isub hx hb dMo_sort_59 ?_
        obtain ⟨hi7, h⟩ := jib_h h
        refine mald_14 hx hb hJ hi7 dMo_sort_60 ?_
        obtain ⟨hi8, h⟩ := jib_h h
        refine mast_14 hx hb hJ hi8 dMo_sort_61 (fun H locs hJ => ?_)
        refine lv_iload hx hb dMo_sort_62 (lv_at hl 5 rfl) ?_
        refine lv_iload_n hx hb dMo_sort_64 rfl (lv_at hl 2 rfl) ?_
        refine lv_isub hx hb dMo_sort_65 ?_
        refine lv_istore (lv' := [(5, .int (x5 - x2)), (0, .ref (A 0)), (1, .int x1), (2, .int x2), (3, .int x3), (4, .int x4)]) hx hb dMo_sort_66 hl (by decide) rfl (fun ls hl => ?_)
        refine lv_goto (tgt := 26) hx hb dMo_sort_68 (by decide) ?_
        exact ih _ _ _ _ _ _ _ _ B _ _ _ hJ (lv_sub hl [1, 2, 3, 4, 5, 0] rfl) h
set_option maxHeartbeats 4000000 in
set_option maxRecDepth 100000 in
theorem uMo_sort_71 {p : Program} {e : Env} {s : State} {m : MethodId} {args : Array Value} {below : List Frame} {meth : Method} {c : Code} (l : Launch) (dC : Nat → ClassId) (dI : Nat → Nat → Nat) (cA cL : ClassId) (A : Nat → Nat) (Ap : Nat → Prop) (hC : jAt p s m args meth c bMo_sort 6 none wMo_sort RMo) (hA : ∀ q : Nat, s.heap.size ≤ q → Ap q) {r : Int32} {M' : jM} {F' : jF} {L' : jL} (k10 : Int32 → Int32 → Int32 → jM → jF → jL → Option (Int32 × jM × jF × jL)) (hk10 : ∀ (x1 : Int32) (x2 : Int32) (x3 : Int32) (M : jM) (F : jF) (L : jL) (B : Nat → Nat) (H : Heap) (locs : List Loc) (ls : Array Slot), jH (dC, dI) jCl [(cA, .int), (cL, .long)] (mW cA cL A M F L) Ap s H locs → lv_has ls 6 [(0, .ref (A 0)), (1, .int x1), (2, .int x2), (3, .int x3)] → k10 x1 x2 x3 M F L = some (r, M', F', L') → W p l e (headSpec wMo_sort rMo_sort).room s m args below meth c H locs 0 0 (jQv below (dC, dI) jCl [(cA, .int), (cL, .long)] (fun _ : Nat → Nat => mW cA cL A (M') (F') (L')) Ap args s) (F0 m 10 ls [])) : ∀ (x1 : Int32) (x2 : Int32) (x3 : Int32) (x4 : Int32) (x5 : Int32) (M : jM) (F : jF) (L : jL) (B : Nat → Nat) (H : Heap) (locs : List Loc) (ls : Array Slot), jH (dC, dI) jCl [(cA, .int), (cL, .long)] (mW cA cL A M F L) Ap s H locs → lv_has ls 6 [(0, .ref (A 0)), (1, .int x1), (2, .int x2), (3, .int x3), (4, .int x4), (5, .int x5)] → fMo_sort_71 k10 x1 x2 x3 x4 x5 M F L = some (r, M', F', L') → W p l e (headSpec wMo_sort rMo_sort).room s m args below meth c H locs 0 0 (jQv below (dC, dI) jCl [(cA, .int), (cL, .long)] (fun _ : Nat → Nat => mW cA cL A (M') (F') (L')) Ap args s) (F0 m 71 ls []) := by
  obtain ⟨hx, hb, hml, hr, hts, hown, hlocks, hN⟩ := id hC
  have hj : ∀ w ∈ jw, w.before args s = true := fun w h => hts w (List.mem_cons_of_mem _ h)
  intro x1 x2 x3 x4 x5 M F L B H locs ls hJ hl h
  unfold fMo_sort_71 at h
  refine lv_aload_n hx hb dMo_sort_71 rfl (lv_at hl 0 rfl) ?_
  refine mget_19 hx hb hj hown hJ (hj _ jw_618) dMo_sort_72 ?_
  refine lv_iload hx hb dMo_sort_75 (lv_at hl 5 rfl) ?_
  refine lv_iload hx hb dMo_sort_77 (lv_at hl 4 rfl) ?_
  obtain ⟨hi9, h⟩ := jib_h h
  refine mast_14 hx hb hJ hi9 dMo_sort_79 (fun H locs hJ => ?_)
  refine lv_iinc (v := x3 + 1) (lv' := [(3, .int (x3 + 1)), (0, .ref (A 0)), (1, .int x1), (2, .int x2), (4, .int x4), (5, .int x5)]) hx hb dMo_sort_80 hl (k := 3) rfl rfl (by decide) rfl (fun ls hl => ?_)
  refine lv_goto (tgt := 10) hx hb dMo_sort_83 (by decide) ?_
  exact hk10 _ _ _ _ _ _ B _ _ _ hJ (lv_sub hl [1, 2, 3, 0] rfl) h
set_option maxHeartbeats 4000000 in
set_option maxRecDepth 100000 in
theorem uMo_sort_10 {p : Program} {e : Env} {s : State} {m : MethodId} {args : Array Value} {below : List Frame} {meth : Method} {c : Code} (l : Launch) (dC : Nat → ClassId) (dI : Nat → Nat → Nat) (cA cL : ClassId) (A : Nat → Nat) (Ap : Nat → Prop) (hC : jAt p s m args meth c bMo_sort 6 none wMo_sort RMo) (hA : ∀ q : Nat, s.heap.size ≤ q → Ap q) {r : Int32} {M' : jM} {F' : jF} {L' : jL} (k86 : Int32 → Int32 → jM → jF → jL → Option (Int32 × jM × jF × jL)) (hk86 : ∀ (x1 : Int32) (x2 : Int32) (M : jM) (F : jF) (L : jL) (B : Nat → Nat) (H : Heap) (locs : List Loc) (ls : Array Slot), jH (dC, dI) jCl [(cA, .int), (cL, .long)] (mW cA cL A M F L) Ap s H locs → lv_has ls 6 [(0, .ref (A 0)), (1, .int x1), (2, .int x2)] → k86 x1 x2 M F L = some (r, M', F', L') → W p l e (headSpec wMo_sort rMo_sort).room s m args below meth c H locs 0 0 (jQv below (dC, dI) jCl [(cA, .int), (cL, .long)] (fun _ : Nat → Nat => mW cA cL A (M') (F') (L')) Ap args s) (F0 m 86 ls [])) : ∀ (n : Nat) (x1 : Int32) (x2 : Int32) (x3 : Int32) (M : jM) (F : jF) (L : jL) (B : Nat → Nat) (H : Heap) (locs : List Loc) (ls : Array Slot), jH (dC, dI) jCl [(cA, .int), (cL, .long)] (mW cA cL A M F L) Ap s H locs → lv_has ls 6 [(0, .ref (A 0)), (1, .int x1), (2, .int x2), (3, .int x3)] → fMo_sort_10 k86 n x1 x2 x3 M F L = some (r, M', F', L') → W p l e (headSpec wMo_sort rMo_sort).room s m args below meth c H locs 0 0 (jQv below (dC, dI) jCl [(cA, .int), (cL, .long)] (fun _ : Nat → Nat => mW cA cL A (M') (F') (L')) Ap args s) (F0 m 10 ls []) := by
  obtain ⟨hx, hb, hml, hr, hts, hown, hlocks, hN⟩ := id hC
  have hj : ∀ w ∈ jw, w.before args s = true := fun w h => hts w (List.mem_cons_of_mem _ h)
  intro n
  induction n with
  | zero =>
    intro x1 x2 x3 M F L B H locs ls hJ hl h
    rw [fMo_sort_10] at h
    cases h
  | succ n ih =>
    intro x1 x2 x3 M F L B H locs ls hJ hl h
    rw [fMo_sort_10] at h
    refine lv_iload_n hx hb dMo_sort_10 rfl (lv_at hl 3 rfl) ?_
    refine lv_iload_n hx hb dMo_sort_11 rfl (lv_at hl 1 rfl) ?_
    refine lv_icmp_ge (tgt := 86) hx hb dMo_sort_12 (by decide) (fun c2 => ?_) (fun c2 => ?_)
    · replace h := jif_t c2 h
      exact hk86 _ _ _ _ _ B _ _ _ hJ (lv_sub hl [0, 1, 2] rfl) h
    · replace h := jif_f c2 h
      refine lv_aload_n hx hb dMo_sort_15 rfl (lv_at hl 0 rfl) ?_
      refine mget_19 hx hb hj hown hJ (hj _ jw_618) dMo_sort_16 ?_
      refine lv_iload_n hx hb dMo_sort_19 rfl (lv_at hl 3 rfl) ?_
      obtain ⟨hi3, h⟩ := jib_h h
      refine mald_14 hx hb hJ hi3 dMo_sort_20 ?_
      refine lv_istore (lv' := [(4, .int (M 14 x3.toNatClampNeg)), (0, .ref (A 0)), (1, .int x1), (2, .int x2), (3, .int x3)]) hx hb dMo_sort_21 hl (by decide) rfl (fun ls hl => ?_)
      refine lv_iload_n hx hb dMo_sort_23 rfl (lv_at hl 4 rfl) ?_
      refine lv_istore (lv' := [(5, .int x3), (4, .int (M 14 x3.toNatClampNeg)), (0, .ref (A 0)), (1, .int x1), (2, .int x2), (3, .int x3)]) hx hb dMo_sort_24 hl (by decide) rfl (fun ls hl => ?_)
      refine uMo_sort_26 l dC dI cA cL A Ap hC hA _ ?_ jfuel _ _ _ _ _ _ _ _ B _ _ _ hJ (lv_sub hl [2, 3, 4, 5, 1, 0] rfl) h
      · intro x1 x2 x3 x4 x5 M F L B H locs ls hJ hl h
        refine uMo_sort_71 l dC dI cA cL A Ap hC hA _ ?_ _ _ _ _ _ _ _ _ B _ _ _ hJ (lv_sub hl [0, 1, 2, 3, 4, 5] rfl) h
        · intro x1 x2 x3 M F L B H locs ls hJ hl h
          exact ih _ _ _ _ _ _ B _ _ _ hJ (lv_sub hl [0, 1, 2, 3] rfl) h
set_option maxHeartbeats 4000000 in
set_option maxRecDepth 100000 in
theorem uMo_sort_4 {p : Program} {e : Env} {s : State} {m : MethodId} {args : Array Value} {below : List Frame} {meth : Method} {c : Code} (l : Launch) (dC : Nat → ClassId) (dI : Nat → Nat → Nat) (cA cL : ClassId) (A : Nat → Nat) (Ap : Nat → Prop) (hC : jAt p s m args meth c bMo_sort 6 none wMo_sort RMo) (hA : ∀ q : Nat, s.heap.size ≤ q → Ap q) {r : Int32} {M' : jM} {F' : jF} {L' : jL} : ∀ (n : Nat) (x1 : Int32) (x2 : Int32) (M : jM) (F : jF) (L : jL) (B : Nat → Nat) (H : Heap) (locs : List Loc) (ls : Array Slot), jH (dC, dI) jCl [(cA, .int), (cL, .long)] (mW cA cL A M F L) Ap s H locs → lv_has ls 6 [(0, .ref (A 0)), (1, .int x1), (2, .int x2)] → fMo_sort_4 n x1 x2 M F L = some (r, M', F', L') → W p l e (headSpec wMo_sort rMo_sort).room s m args below meth c H locs 0 0 (jQv below (dC, dI) jCl [(cA, .int), (cL, .long)] (fun _ : Nat → Nat => mW cA cL A (M') (F') (L')) Ap args s) (F0 m 4 ls []) := by
  obtain ⟨hx, hb, hml, hr, hts, hown, hlocks, hN⟩ := id hC
  have hj : ∀ w ∈ jw, w.before args s = true := fun w h => hts w (List.mem_cons_of_mem _ h)
  intro n
  induction n with
  | zero =>
    intro x1 x2 M F L B H locs ls hJ hl h
    rw [fMo_sort_4] at h
    cases h
  | succ n ih =>
    intro x1 x2 M F L B H locs ls hJ hl h
    rw [fMo_sort_4] at h
    refine lv_iload_n hx hb dMo_sort_4 rfl (lv_at hl 2 rfl) ?_
    refine lv_if_le (tgt := 93) hx hb dMo_sort_5 (by decide) (fun c1 => ?_) (fun c1 => ?_)
    · replace h := jif_t c1 h
      cases h
      exact jretv (u := B) hx hb hr hlocks hJ dMo_sort_93
    · replace h := jif_f c1 h
      refine lv_iload_n hx hb dMo_sort_8 rfl (lv_at hl 2 rfl) ?_
      refine lv_istore_n (lv' := [(3, .int x2), (0, .ref (A 0)), (1, .int x1), (2, .int x2)]) hx hb dMo_sort_9 rfl hl (by decide) rfl (fun ls hl => ?_)
      refine uMo_sort_10 l dC dI cA cL A Ap hC hA _ ?_ jfuel _ _ _ _ _ _ B _ _ _ hJ (lv_sub hl [1, 2, 3, 0] rfl) h
      · intro x1 x2 M F L B H locs ls hJ hl h
        refine lv_iload_n hx hb dMo_sort_86 rfl (lv_at hl 2 rfl) ?_
        refine lv_iconst (v := 2) hx hb dMo_sort_87 (by decide) ?_
        obtain ⟨hz, h⟩ := jdz_h h
        refine lv_idiv hx hb dMo_sort_88 hz ?_
        refine lv_istore_n (lv' := [(2, .int (x2 / 2)), (0, .ref (A 0)), (1, .int x1)]) hx hb dMo_sort_89 rfl hl (by decide) rfl (fun ls hl => ?_)
        refine lv_goto (tgt := 4) hx hb dMo_sort_90 (by decide) ?_
        exact ih _ _ _ _ _ B _ _ _ hJ (lv_sub hl [1, 2, 0] rfl) h
set_option maxHeartbeats 4000000 in
set_option maxRecDepth 100000 in
theorem uMo_sort_0 {p : Program} {e : Env} {s : State} {m : MethodId} {args : Array Value} {below : List Frame} {meth : Method} {c : Code} (l : Launch) (dC : Nat → ClassId) (dI : Nat → Nat → Nat) (cA cL : ClassId) (A : Nat → Nat) (Ap : Nat → Prop) (hC : jAt p s m args meth c bMo_sort 6 none wMo_sort RMo) (hA : ∀ q : Nat, s.heap.size ≤ q → Ap q) {r : Int32} {M' : jM} {F' : jF} {L' : jL} : ∀ (x1 : Int32) (M : jM) (F : jF) (L : jL) (B : Nat → Nat) (H : Heap) (locs : List Loc) (ls : Array Slot), jH (dC, dI) jCl [(cA, .int), (cL, .long)] (mW cA cL A M F L) Ap s H locs → lv_has ls 6 [(0, .ref (A 0)), (1, .int x1)] → fMo_sort_0 x1 M F L = some (r, M', F', L') → W p l e (headSpec wMo_sort rMo_sort).room s m args below meth c H locs 0 0 (jQv below (dC, dI) jCl [(cA, .int), (cL, .long)] (fun _ : Nat → Nat => mW cA cL A (M') (F') (L')) Ap args s) (F0 m 0 ls []) := by
  obtain ⟨hx, hb, hml, hr, hts, hown, hlocks, hN⟩ := id hC
  have hj : ∀ w ∈ jw, w.before args s = true := fun w h => hts w (List.mem_cons_of_mem _ h)
  intro x1 M F L B H locs ls hJ hl h
  unfold fMo_sort_0 at h
  refine lv_iload_n hx hb dMo_sort_0 rfl (lv_at hl 1 rfl) ?_
  refine lv_iconst (v := 2) hx hb dMo_sort_1 (by decide) ?_
  obtain ⟨hz, h⟩ := jdz_h h
  refine lv_idiv hx hb dMo_sort_2 hz ?_
  refine lv_istore_n (lv' := [(2, .int (x1 / 2)), (0, .ref (A 0)), (1, .int x1)]) hx hb dMo_sort_3 rfl hl (by decide) rfl (fun ls hl => ?_)
  exact uMo_sort_4 l dC dI cA cL A Ap hC hA jfuel _ _ _ _ _ B _ _ _ hJ (lv_sub hl [1, 2, 0] rfl) h
set_option maxHeartbeats 4000000 in
set_option maxRecDepth 100000 in
theorem cMo_sort (l : Launch) (dC : Nat → ClassId) (dI : Nat → Nat → Nat) (cA cL : ClassId) (A : Nat → Nat) (x1 : Int32) (M : jM) (F : jF) (L : jL) (B : Nat → Nat) (sz : Nat) {r : Int32} {M' : jM} {F' : jF} {L' : jL} (h : fMo_sort x1 M F L = some (r, M', F', L')) : jCv l yMo_sort wMo_sort rMo_sort (dC, dI) jCl [(cA, .int), (cL, .long)] [.ref (A 0), .int x1] (mW cA cL A M F L) sz (fun _ : Nat → Nat => mW cA cL A (M') (F') (L')) :=
  jOf (Qc := fun Ap => va_Qv (fun _ : Nat → Nat => True) (jPost (dC, dI) jCl [(cA, .int), (cL, .long)] (fun _ : Nat → Nat => mW cA cL A (M') (F') (L')) Ap) Ap) (by decide) rfl (Nat.le_of_ble_eq_true rfl) (fun p e s m below meth c Ap ls hC hA hJ hl => uMo_sort_0 l dC dI cA cL A Ap hC hA _ _ _ _ B _ _ _ hJ (lv_sub hl [0, 1] rfl) h)
abbrev bMo_run : ByteArray := prog_8_method_37_code
abbrev yMo_run : MethodName := ⟨RMo, "run", "()I"⟩
abbrev wMo_run : List Cond := .code yMo_run bMo_run 13 (some .int) :: jw
theorem dMo_run_0 : decode bMo_run 0 = .ok (.aload_n 0, 1) := by decide +kernel
theorem dMo_run_1 : decode bMo_run 1 = .ok (.iconst 0, 1) := by decide +kernel
theorem dMo_run_2 : decode bMo_run 2 = .ok (.putfield 56, 3) := by decide +kernel
theorem dMo_run_5 : decode bMo_run 5 = .ok (.aload_n 0, 1) := by decide +kernel
theorem dMo_run_6 : decode bMo_run 6 = .ok (.getfield 64, 3) := by decide +kernel
theorem dMo_run_9 : decode bMo_run 9 = .ok (.ifCond .le 7, 3) := by decide +kernel
theorem dMo_run_12 : decode bMo_run 12 = .ok (.aload_n 0, 1) := by decide +kernel
theorem dMo_run_13 : decode bMo_run 13 = .ok (.invokevirtual 111, 3) := by decide +kernel
theorem dMo_run_16 : decode bMo_run 16 = .ok (.aload_n 0, 1) := by decide +kernel
theorem dMo_run_17 : decode bMo_run 17 = .ok (.getfield 64, 3) := by decide +kernel
theorem dMo_run_20 : decode bMo_run 20 = .ok (.ifCond .le 7, 3) := by decide +kernel
theorem dMo_run_23 : decode bMo_run 23 = .ok (.iconst 1, 1) := by decide +kernel
theorem dMo_run_24 : decode bMo_run 24 = .ok (.goto 4, 3) := by decide +kernel
theorem dMo_run_27 : decode bMo_run 27 = .ok (.iconst 0, 1) := by decide +kernel
theorem dMo_run_28 : decode bMo_run 28 = .ok (.istore_n 1, 1) := by decide +kernel
theorem dMo_run_29 : decode bMo_run 29 = .ok (.iconst 0, 1) := by decide +kernel
theorem dMo_run_30 : decode bMo_run 30 = .ok (.istore_n 2, 1) := by decide +kernel
theorem dMo_run_31 : decode bMo_run 31 = .ok (.aload_n 0, 1) := by decide +kernel
theorem dMo_run_32 : decode bMo_run 32 = .ok (.getfield 50, 3) := by decide +kernel
theorem dMo_run_35 : decode bMo_run 35 = .ok (.iconst 0, 1) := by decide +kernel
theorem dMo_run_36 : decode bMo_run 36 = .ok (.iconst 0, 1) := by decide +kernel
theorem dMo_run_37 : decode bMo_run 37 = .ok (.iastore, 1) := by decide +kernel
theorem dMo_run_38 : decode bMo_run 38 = .ok (.iconst 0, 1) := by decide +kernel
theorem dMo_run_39 : decode bMo_run 39 = .ok (.istore_n 3, 1) := by decide +kernel
theorem dMo_run_40 : decode bMo_run 40 = .ok (.iload_n 3, 1) := by decide +kernel
theorem dMo_run_41 : decode bMo_run 41 = .ok (.aload_n 0, 1) := by decide +kernel
theorem dMo_run_42 : decode bMo_run 42 = .ok (.getfield 64, 3) := by decide +kernel
theorem dMo_run_45 : decode bMo_run 45 = .ok (.if_icmp .ge 246, 3) := by decide +kernel
theorem dMo_run_48 : decode bMo_run 48 = .ok (.aload_n 0, 1) := by decide +kernel
theorem dMo_run_49 : decode bMo_run 49 = .ok (.getfield 44, 3) := by decide +kernel
theorem dMo_run_52 : decode bMo_run 52 = .ok (.iload_n 3, 1) := by decide +kernel
theorem dMo_run_53 : decode bMo_run 53 = .ok (.iaload, 1) := by decide +kernel
theorem dMo_run_54 : decode bMo_run 54 = .ok (.istore 4, 2) := by decide +kernel
theorem dMo_run_56 : decode bMo_run 56 = .ok (.aload_n 0, 1) := by decide +kernel
theorem dMo_run_57 : decode bMo_run 57 = .ok (.iload_n 3, 1) := by decide +kernel
theorem dMo_run_58 : decode bMo_run 58 = .ok (.invokevirtual 121, 3) := by decide +kernel
theorem dMo_run_61 : decode bMo_run 61 = .ok (.istore 5, 2) := by decide +kernel
theorem dMo_run_63 : decode bMo_run 63 = .ok (.aload_n 0, 1) := by decide +kernel
theorem dMo_run_64 : decode bMo_run 64 = .ok (.iload_n 3, 1) := by decide +kernel
theorem dMo_run_65 : decode bMo_run 65 = .ok (.invokevirtual 127, 3) := by decide +kernel
theorem dMo_run_68 : decode bMo_run 68 = .ok (.istore 6, 2) := by decide +kernel
theorem dMo_run_70 : decode bMo_run 70 = .ok (.iload 6, 2) := by decide +kernel
theorem dMo_run_72 : decode bMo_run 72 = .ok (.iconst 3, 1) := by decide +kernel
theorem dMo_run_73 : decode bMo_run 73 = .ok (.if_icmp .ne 7, 3) := by decide +kernel
theorem dMo_run_76 : decode bMo_run 76 = .ok (.iconst (-1), 1) := by decide +kernel
theorem dMo_run_77 : decode bMo_run 77 = .ok (.goto 13, 3) := by decide +kernel
theorem dMo_run_80 : decode bMo_run 80 = .ok (.aload_n 0, 1) := by decide +kernel
theorem dMo_run_81 : decode bMo_run 81 = .ok (.iload 6, 2) := by decide +kernel
theorem dMo_run_83 : decode bMo_run 83 = .ok (.iload 4, 2) := by decide +kernel
theorem dMo_run_85 : decode bMo_run 85 = .ok (.iload 5, 2) := by decide +kernel
theorem dMo_run_87 : decode bMo_run 87 = .ok (.invokevirtual 124, 3) := by decide +kernel
theorem dMo_run_90 : decode bMo_run 90 = .ok (.istore 7, 2) := by decide +kernel
theorem dMo_run_92 : decode bMo_run 92 = .ok (.aload_n 0, 1) := by decide +kernel
theorem dMo_run_93 : decode bMo_run 93 = .ok (.getfield 13, 3) := by decide +kernel
theorem dMo_run_96 : decode bMo_run 96 = .ok (.aload_n 0, 1) := by decide +kernel
theorem dMo_run_97 : decode bMo_run 97 = .ok (.getfield 19, 3) := by decide +kernel
theorem dMo_run_100 : decode bMo_run 100 = .ok (.iload 4, 2) := by decide +kernel
theorem dMo_run_102 : decode bMo_run 102 = .ok (.iaload, 1) := by decide +kernel
theorem dMo_run_103 : decode bMo_run 103 = .ok (.iaload, 1) := by decide +kernel
theorem dMo_run_104 : decode bMo_run 104 = .ok (.istore 8, 2) := by decide +kernel
theorem dMo_run_106 : decode bMo_run 106 = .ok (.iload_n 2, 1) := by decide +kernel
theorem dMo_run_107 : decode bMo_run 107 = .ok (.iload 6, 2) := by decide +kernel
theorem dMo_run_109 : decode bMo_run 109 = .ok (.iconst 2, 1) := by decide +kernel
theorem dMo_run_110 : decode bMo_run 110 = .ok (.if_icmp .ne 8, 3) := by decide +kernel
theorem dMo_run_113 : decode bMo_run 113 = .ok (.iload 8, 2) := by decide +kernel
theorem dMo_run_115 : decode bMo_run 115 = .ok (.goto 4, 3) := by decide +kernel
theorem dMo_run_118 : decode bMo_run 118 = .ok (.iconst 0, 1) := by decide +kernel
theorem dMo_run_119 : decode bMo_run 119 = .ok (.iadd, 1) := by decide +kernel
theorem dMo_run_120 : decode bMo_run 120 = .ok (.istore_n 2, 1) := by decide +kernel
theorem dMo_run_121 : decode bMo_run 121 = .ok (.iconst 0, 1) := by decide +kernel
theorem dMo_run_122 : decode bMo_run 122 = .ok (.istore 9, 2) := by decide +kernel
theorem dMo_run_124 : decode bMo_run 124 = .ok (.iconst 0, 1) := by decide +kernel
theorem dMo_run_125 : decode bMo_run 125 = .ok (.istore 10, 2) := by decide +kernel
theorem dMo_run_127 : decode bMo_run 127 = .ok (.iload 10, 2) := by decide +kernel
theorem dMo_run_129 : decode bMo_run 129 = .ok (.iload_n 1, 1) := by decide +kernel
theorem dMo_run_130 : decode bMo_run 130 = .ok (.if_icmp .ge 123, 3) := by decide +kernel
theorem dMo_run_133 : decode bMo_run 133 = .ok (.iconst 0, 1) := by decide +kernel
theorem dMo_run_134 : decode bMo_run 134 = .ok (.istore 11, 2) := by decide +kernel
theorem dMo_run_136 : decode bMo_run 136 = .ok (.iload 11, 2) := by decide +kernel
theorem dMo_run_138 : decode bMo_run 138 = .ok (.iload 8, 2) := by decide +kernel
theorem dMo_run_140 : decode bMo_run 140 = .ok (.if_icmp .ge 107, 3) := by decide +kernel
theorem dMo_run_143 : decode bMo_run 143 = .ok (.iload 7, 2) := by decide +kernel
theorem dMo_run_145 : decode bMo_run 145 = .ok (.iconst (-1), 1) := by decide +kernel
theorem dMo_run_146 : decode bMo_run 146 = .ok (.if_icmp .eq 28, 3) := by decide +kernel
theorem dMo_run_149 : decode bMo_run 149 = .ok (.aload_n 0, 1) := by decide +kernel
theorem dMo_run_150 : decode bMo_run 150 = .ok (.iload 7, 2) := by decide +kernel
theorem dMo_run_152 : decode bMo_run 152 = .ok (.iload 4, 2) := by decide +kernel
theorem dMo_run_154 : decode bMo_run 154 = .ok (.iload 11, 2) := by decide +kernel
theorem dMo_run_156 : decode bMo_run 156 = .ok (.aload_n 0, 1) := by decide +kernel
theorem dMo_run_157 : decode bMo_run 157 = .ok (.getfield 50, 3) := by decide +kernel
theorem dMo_run_160 : decode bMo_run 160 = .ok (.iload 10, 2) := by decide +kernel
theorem dMo_run_162 : decode bMo_run 162 = .ok (.iaload, 1) := by decide +kernel
theorem dMo_run_163 : decode bMo_run 163 = .ok (.iload 5, 2) := by decide +kernel
theorem dMo_run_165 : decode bMo_run 165 = .ok (.invokevirtual 142, 3) := by decide +kernel
theorem dMo_run_168 : decode bMo_run 168 = .ok (.ifCond .ne 6, 3) := by decide +kernel
theorem dMo_run_171 : decode bMo_run 171 = .ok (.goto 70, 3) := by decide +kernel
theorem dMo_run_174 : decode bMo_run 174 = .ok (.iinc 2 1, 3) := by decide +kernel
theorem dMo_run_177 : decode bMo_run 177 = .ok (.aload_n 0, 1) := by decide +kernel
theorem dMo_run_178 : decode bMo_run 178 = .ok (.getfield 50, 3) := by decide +kernel
theorem dMo_run_181 : decode bMo_run 181 = .ok (.iload 10, 2) := by decide +kernel
theorem dMo_run_183 : decode bMo_run 183 = .ok (.iaload, 1) := by decide +kernel
theorem dMo_run_184 : decode bMo_run 184 = .ok (.iload 11, 2) := by decide +kernel
theorem dMo_run_186 : decode bMo_run 186 = .ok (.iload 4, 2) := by decide +kernel
theorem dMo_run_188 : decode bMo_run 188 = .ok (.invokestatic 130, 3) := by decide +kernel
theorem dMo_run_191 : decode bMo_run 191 = .ok (.imul, 1) := by decide +kernel
theorem dMo_run_192 : decode bMo_run 192 = .ok (.iadd, 1) := by decide +kernel
theorem dMo_run_193 : decode bMo_run 193 = .ok (.istore 12, 2) := by decide +kernel
theorem dMo_run_195 : decode bMo_run 195 = .ok (.aload_n 0, 1) := by decide +kernel
theorem dMo_run_196 : decode bMo_run 196 = .ok (.iload 12, 2) := by decide +kernel
theorem dMo_run_198 : decode bMo_run 198 = .ok (.iload 5, 2) := by decide +kernel
theorem dMo_run_200 : decode bMo_run 200 = .ok (.iconst 1, 1) := by decide +kernel
theorem dMo_run_201 : decode bMo_run 201 = .ok (.iload 4, 2) := by decide +kernel
theorem dMo_run_203 : decode bMo_run 203 = .ok (.ishl, 1) := by decide +kernel
theorem dMo_run_204 : decode bMo_run 204 = .ok (.ior, 1) := by decide +kernel
theorem dMo_run_205 : decode bMo_run 205 = .ok (.invokevirtual 146, 3) := by decide +kernel
theorem dMo_run_208 : decode bMo_run 208 = .ok (.ifCond .ne 6, 3) := by decide +kernel
theorem dMo_run_211 : decode bMo_run 211 = .ok (.goto 30, 3) := by decide +kernel
theorem dMo_run_214 : decode bMo_run 214 = .ok (.iload 9, 2) := by decide +kernel
theorem dMo_run_216 : decode bMo_run 216 = .ok (.sipush 3000, 3) := by decide +kernel
theorem dMo_run_219 : decode bMo_run 219 = .ok (.if_icmp .ne 10, 3) := by decide +kernel
theorem dMo_run_222 : decode bMo_run 222 = .ok (.aload_n 0, 1) := by decide +kernel
theorem dMo_run_223 : decode bMo_run 223 = .ok (.iconst 1, 1) := by decide +kernel
theorem dMo_run_224 : decode bMo_run 224 = .ok (.putfield 56, 3) := by decide +kernel
theorem dMo_run_227 : decode bMo_run 227 = .ok (.iconst 0, 1) := by decide +kernel
theorem dMo_run_228 : decode bMo_run 228 = .ok (.ireturn, 1) := by decide +kernel
theorem dMo_run_229 : decode bMo_run 229 = .ok (.aload_n 0, 1) := by decide +kernel
theorem dMo_run_230 : decode bMo_run 230 = .ok (.getfield 53, 3) := by decide +kernel
theorem dMo_run_233 : decode bMo_run 233 = .ok (.iload 9, 2) := by decide +kernel
theorem dMo_run_235 : decode bMo_run 235 = .ok (.iload 12, 2) := by decide +kernel
theorem dMo_run_237 : decode bMo_run 237 = .ok (.iastore, 1) := by decide +kernel
theorem dMo_run_238 : decode bMo_run 238 = .ok (.iinc 9 1, 3) := by decide +kernel
theorem dMo_run_241 : decode bMo_run 241 = .ok (.iinc 11 1, 3) := by decide +kernel
theorem dMo_run_244 : decode bMo_run 244 = .ok (.goto (-108), 3) := by decide +kernel
theorem dMo_run_247 : decode bMo_run 247 = .ok (.iinc 10 1, 3) := by decide +kernel
theorem dMo_run_250 : decode bMo_run 250 = .ok (.goto (-123), 3) := by decide +kernel
theorem dMo_run_253 : decode bMo_run 253 = .ok (.iload 9, 2) := by decide +kernel
theorem dMo_run_255 : decode bMo_run 255 = .ok (.istore_n 1, 1) := by decide +kernel
theorem dMo_run_256 : decode bMo_run 256 = .ok (.iconst 0, 1) := by decide +kernel
theorem dMo_run_257 : decode bMo_run 257 = .ok (.istore 10, 2) := by decide +kernel
theorem dMo_run_259 : decode bMo_run 259 = .ok (.iload 10, 2) := by decide +kernel
theorem dMo_run_261 : decode bMo_run 261 = .ok (.iload_n 1, 1) := by decide +kernel
theorem dMo_run_262 : decode bMo_run 262 = .ok (.if_icmp .ge 23, 3) := by decide +kernel
theorem dMo_run_265 : decode bMo_run 265 = .ok (.aload_n 0, 1) := by decide +kernel
theorem dMo_run_266 : decode bMo_run 266 = .ok (.getfield 50, 3) := by decide +kernel
theorem dMo_run_269 : decode bMo_run 269 = .ok (.iload 10, 2) := by decide +kernel
theorem dMo_run_271 : decode bMo_run 271 = .ok (.aload_n 0, 1) := by decide +kernel
theorem dMo_run_272 : decode bMo_run 272 = .ok (.getfield 53, 3) := by decide +kernel
theorem dMo_run_275 : decode bMo_run 275 = .ok (.iload 10, 2) := by decide +kernel
theorem dMo_run_277 : decode bMo_run 277 = .ok (.iaload, 1) := by decide +kernel
theorem dMo_run_278 : decode bMo_run 278 = .ok (.iastore, 1) := by decide +kernel
theorem dMo_run_279 : decode bMo_run 279 = .ok (.iinc 10 1, 3) := by decide +kernel
theorem dMo_run_282 : decode bMo_run 282 = .ok (.goto (-23), 3) := by decide +kernel
theorem dMo_run_285 : decode bMo_run 285 = .ok (.iinc 3 1, 3) := by decide +kernel
theorem dMo_run_288 : decode bMo_run 288 = .ok (.goto (-248), 3) := by decide +kernel
theorem dMo_run_291 : decode bMo_run 291 = .ok (.aload_n 0, 1) := by decide +kernel
theorem dMo_run_292 : decode bMo_run 292 = .ok (.iload_n 1, 1) := by decide +kernel
theorem dMo_run_293 : decode bMo_run 293 = .ok (.invokevirtual 149, 3) := by decide +kernel
theorem dMo_run_296 : decode bMo_run 296 = .ok (.iconst 0, 1) := by decide +kernel
theorem dMo_run_297 : decode bMo_run 297 = .ok (.istore_n 3, 1) := by decide +kernel
theorem dMo_run_298 : decode bMo_run 298 = .ok (.iload_n 3, 1) := by decide +kernel
theorem dMo_run_299 : decode bMo_run 299 = .ok (.iload_n 1, 1) := by decide +kernel
theorem dMo_run_300 : decode bMo_run 300 = .ok (.if_icmp .ge 21, 3) := by decide +kernel
theorem dMo_run_303 : decode bMo_run 303 = .ok (.aload_n 0, 1) := by decide +kernel
theorem dMo_run_304 : decode bMo_run 304 = .ok (.getfield 47, 3) := by decide +kernel
theorem dMo_run_307 : decode bMo_run 307 = .ok (.iload_n 3, 1) := by decide +kernel
theorem dMo_run_308 : decode bMo_run 308 = .ok (.aload_n 0, 1) := by decide +kernel
theorem dMo_run_309 : decode bMo_run 309 = .ok (.getfield 50, 3) := by decide +kernel
theorem dMo_run_312 : decode bMo_run 312 = .ok (.iload_n 3, 1) := by decide +kernel
theorem dMo_run_313 : decode bMo_run 313 = .ok (.iaload, 1) := by decide +kernel
theorem dMo_run_314 : decode bMo_run 314 = .ok (.iastore, 1) := by decide +kernel
theorem dMo_run_315 : decode bMo_run 315 = .ok (.iinc 3 1, 3) := by decide +kernel
theorem dMo_run_318 : decode bMo_run 318 = .ok (.goto (-20), 3) := by decide +kernel
theorem dMo_run_321 : decode bMo_run 321 = .ok (.aload_n 0, 1) := by decide +kernel
theorem dMo_run_322 : decode bMo_run 322 = .ok (.iload_n 1, 1) := by decide +kernel
theorem dMo_run_323 : decode bMo_run 323 = .ok (.putfield 153, 3) := by decide +kernel
theorem dMo_run_326 : decode bMo_run 326 = .ok (.aload_n 0, 1) := by decide +kernel
theorem dMo_run_327 : decode bMo_run 327 = .ok (.iload_n 2, 1) := by decide +kernel
theorem dMo_run_328 : decode bMo_run 328 = .ok (.putfield 156, 3) := by decide +kernel
theorem dMo_run_331 : decode bMo_run 331 = .ok (.aload_n 0, 1) := by decide +kernel
theorem dMo_run_332 : decode bMo_run 332 = .ok (.aload_n 0, 1) := by decide +kernel
theorem dMo_run_333 : decode bMo_run 333 = .ok (.getfield 64, 3) := by decide +kernel
theorem dMo_run_336 : decode bMo_run 336 = .ok (.putfield 159, 3) := by decide +kernel
theorem dMo_run_339 : decode bMo_run 339 = .ok (.iload_n 1, 1) := by decide +kernel
theorem dMo_run_340 : decode bMo_run 340 = .ok (.ireturn, 1) := by decide +kernel
abbrev rMo_run : Room := { frames := 5, cells := 0, slots := 0, locals := 123 }
def fMo_run_298 : Nat → Int32 → Int32 → Int32 → jM → jF → jL → Option (Int32 × jM × jF × jL)
  | 0, _, _, _, _, _, _ => none
  | n + 1, x1, x2, x3, M, F, L => (if x1 ≤ x3 then some (x1, M, jfu (jfu (jfu F 4 x1) 5 x2) 3 ((jfu (jfu F 4 x1) 5 x2) 1), L) else (if jib x3 3000 then (if jib x3 3000 then fMo_run_298 n x1 x2 (x3 + 1) (jmu M 13 x3.toNatClampNeg (M 14 x3.toNatClampNeg)) F L else none) else none))
def fMo_run_174 (k136 : Int32 → Int32 → Int32 → Int32 → Int32 → Int32 → Int32 → Int32 → Int32 → Int32 → jM → jF → jL → Option (Int32 × jM × jF × jL)) (x1 : Int32) (x2 : Int32) (x3 : Int32) (x4 : Int32) (x5 : Int32) (x7 : Int32) (x8 : Int32) (x9 : Int32) (x10 : Int32) (x11 : Int32) (M : jM) (F : jF) (L : jL) : Option (Int32 × jM × jF × jL) := (if jib x10 3000 then ((fMo_digit x4 M F L).bind fun q21 => ((fMo_allHold ((M 14 x10.toNatClampNeg) + (x11 * q21)) (x5 ||| (1 <<< (x4 &&& 31))) M F L).bind fun q22 => (if q22 = 0 then k136 x1 (x2 + 1) x3 x4 x5 x7 x8 x9 x10 (x11 + 1) M F L else (if x9 = 3000 then some (0, M, jfu F 0 1, L) else (if jib x9 3000 then k136 x1 (x2 + 1) x3 x4 x5 x7 x8 (x9 + 1) x10 (x11 + 1) (jmu M 15 x9.toNatClampNeg ((M 14 x10.toNatClampNeg) + (x11 * q21))) F L else none))))) else none)
def fMo_run_136 (k247 : Int32 → Int32 → Int32 → Int32 → Int32 → Int32 → Int32 → Int32 → Int32 → jM → jF → jL → Option (Int32 × jM × jF × jL)) : Nat → Int32 → Int32 → Int32 → Int32 → Int32 → Int32 → Int32 → Int32 → Int32 → Int32 → jM → jF → jL → Option (Int32 × jM × jF × jL)
  | 0, _, _, _, _, _, _, _, _, _, _, _, _, _ => none
  | n + 1, x1, x2, x3, x4, x5, x7, x8, x9, x10, x11, M, F, L => (if x8 ≤ x11 then k247 x1 x2 x3 x4 x5 x7 x8 x9 x10 M F L else (if x7 = (-1) then fMo_run_174 (fun x1 x2 x3 x4 x5 x7 x8 x9 x10 x11 M F L => fMo_run_136 k247 n x1 x2 x3 x4 x5 x7 x8 x9 x10 x11 M F L) x1 x2 x3 x4 x5 x7 x8 x9 x10 x11 M F L else (if jib x10 3000 then ((fMo_isLooked x7 x4 x11 (M 14 x10.toNatClampNeg) x5 M F L).bind fun q27 => (if q27 = 0 then fMo_run_136 k247 n x1 x2 x3 x4 x5 x7 x8 x9 x10 (x11 + 1) M F L else fMo_run_174 (fun x1 x2 x3 x4 x5 x7 x8 x9 x10 x11 M F L => fMo_run_136 k247 n x1 x2 x3 x4 x5 x7 x8 x9 x10 x11 M F L) x1 x2 x3 x4 x5 x7 x8 x9 x10 x11 M F L)) else none)))
def fMo_run_127 (k253 : Int32 → Int32 → Int32 → jM → jF → jL → Option (Int32 × jM × jF × jL)) : Nat → Int32 → Int32 → Int32 → Int32 → Int32 → Int32 → Int32 → Int32 → Int32 → jM → jF → jL → Option (Int32 × jM × jF × jL)
  | 0, _, _, _, _, _, _, _, _, _, _, _, _ => none
  | n + 1, x1, x2, x3, x4, x5, x7, x8, x9, x10, M, F, L => (if x1 ≤ x10 then k253 x2 x3 x9 M F L else fMo_run_136 (fun x1 x2 x3 x4 x5 x7 x8 x9 x10 M F L => fMo_run_127 k253 n x1 x2 x3 x4 x5 x7 x8 x9 (x10 + 1) M F L) jfuel x1 x2 x3 x4 x5 x7 x8 x9 x10 0 M F L)
def fMo_run_259 (k285 : Int32 → Int32 → Int32 → jM → jF → jL → Option (Int32 × jM × jF × jL)) : Nat → Int32 → Int32 → Int32 → Int32 → jM → jF → jL → Option (Int32 × jM × jF × jL)
  | 0, _, _, _, _, _, _, _ => none
  | n + 1, x1, x2, x3, x10, M, F, L => (if x1 ≤ x10 then k285 x1 x2 x3 M F L else (if jib x10 3000 then (if jib x10 3000 then fMo_run_259 k285 n x1 x2 x3 (x10 + 1) (jmu M 14 x10.toNatClampNeg (M 15 x10.toNatClampNeg)) F L else none) else none))
def fMo_run_119 (k40 : Int32 → Int32 → Int32 → jM → jF → jL → Option (Int32 × jM × jF × jL)) (x1 : Int32) (x3 : Int32) (x4 : Int32) (x5 : Int32) (x7 : Int32) (x8 : Int32) (s0 : Int32) (s1 : Int32) (M : jM) (F : jF) (L : jL) : Option (Int32 × jM × jF × jL) := fMo_run_127 (fun x2 x3 x9 M F L => fMo_run_259 (fun x1 x2 x3 M F L => k40 x1 x2 (x3 + 1) M F L) jfuel x9 x2 x3 0 M F L) jfuel x1 (s0 + s1) x3 x4 x5 x7 x8 0 0 M F L
def fMo_run_90 (k40 : Int32 → Int32 → Int32 → jM → jF → jL → Option (Int32 × jM × jF × jL)) (x1 : Int32) (x2 : Int32) (x3 : Int32) (x4 : Int32) (x5 : Int32) (x6 : Int32) (s0 : Int32) (M : jM) (F : jF) (L : jL) : Option (Int32 × jM × jF × jL) := (if jib x4 6 then (if jib (M 4 x4.toNatClampNeg) 6 then (if x6 = 2 then fMo_run_119 (fun x1 x2 x3 M F L => k40 x1 x2 x3 M F L) x1 x3 x4 x5 s0 (M 2 (M 4 x4.toNatClampNeg).toNatClampNeg) x2 (M 2 (M 4 x4.toNatClampNeg).toNatClampNeg) M F L else fMo_run_119 (fun x1 x2 x3 M F L => k40 x1 x2 x3 M F L) x1 x3 x4 x5 s0 (M 2 (M 4 x4.toNatClampNeg).toNatClampNeg) x2 0 M F L) else none) else none)
def fMo_run_40 : Nat → Int32 → Int32 → Int32 → jM → jF → jL → Option (Int32 × jM × jF × jL)
  | 0, _, _, _, _, _, _ => none
  | n + 1, x1, x2, x3, M, F, L => (if (F 1) ≤ x3 then ((fMo_sort x1 M F L).bind fun q5 => fMo_run_298 jfuel x1 x2 0 q5.2.1 q5.2.2.1 q5.2.2.2) else (if jib x3 6 then ((fMo_ahead x3 M F L).bind fun q10 => ((fMo_methodAt x3 M F L).bind fun q11 => (if q11 = 3 then fMo_run_90 (fun x1 x2 x3 M F L => fMo_run_40 n x1 x2 x3 M F L) x1 x2 x3 (M 12 x3.toNatClampNeg) q10 q11 (-1) M F L else ((fMo_conditionFor q11 (M 12 x3.toNatClampNeg) q10 M F L).bind fun q13 => fMo_run_90 (fun x1 x2 x3 M F L => fMo_run_40 n x1 x2 x3 M F L) x1 x2 x3 (M 12 x3.toNatClampNeg) q10 q11 q13 M F L)))) else none))
def fMo_run_28 (s0 : Int32) (M : jM) (F : jF) (L : jL) : Option (Int32 × jM × jF × jL) := (if jib 0 3000 then fMo_run_40 jfuel s0 0 0 (jmu M 14 (0 : Int32).toNatClampNeg 0) F L else none)
def fMo_run_16 (M : jM) (F : jF) (L : jL) : Option (Int32 × jM × jF × jL) := (if (F 1) ≤ 0 then fMo_run_28 0 M F L else fMo_run_28 1 M F L)
def fMo_run_0 (M : jM) (F : jF) (L : jL) : Option (Int32 × jM × jF × jL) := (if ((jfu F 0 0) 1) ≤ 0 then fMo_run_16 M (jfu F 0 0) L else ((fMo_makePlan M (jfu F 0 0) L).bind fun q32 => fMo_run_16 q32.2.1 q32.2.2.1 q32.2.2.2))
abbrev fMo_run (M : jM) (F : jF) (L : jL) : Option (Int32 × jM × jF × jL) := fMo_run_0  M F L
set_option maxHeartbeats 4000000 in
set_option maxRecDepth 100000 in
theorem uMo_run_298 {p : Program} {e : Env} {s : State} {m : MethodId} {args : Array Value} {below : List Frame} {meth : Method} {c : Code} (l : Launch) (dC : Nat → ClassId) (dI : Nat → Nat → Nat) (cA cL : ClassId) (A : Nat → Nat) (Ap : Nat → Prop) (hC : jAt p s m args meth c bMo_run 13 (some .int) wMo_run RMo) (hA : ∀ q : Nat, s.heap.size ≤ q → Ap q) {r : Int32} {M' : jM} {F' : jF} {L' : jL} : ∀ (n : Nat) (x1 : Int32) (x2 : Int32) (x3 : Int32) (M : jM) (F : jF) (L : jL) (B : Nat → Nat) (H : Heap) (locs : List Loc) (ls : Array Slot), jH (dC, dI) jCl [(cA, .int), (cL, .long)] (mW cA cL A M F L) Ap s H locs → lv_has ls 13 [(0, .ref (A 0)), (1, .int x1), (2, .int x2), (3, .int x3)] → fMo_run_298 n x1 x2 x3 M F L = some (r, M', F', L') → W p l e (headSpec wMo_run rMo_run).room s m args below meth c H locs 0 0 (jQi below (dC, dI) jCl [(cA, .int), (cL, .long)] (fun _ : Nat → Nat => mW cA cL A (M') (F') (L')) Ap args s r) (F0 m 298 ls []) := by
  obtain ⟨hx, hb, hml, hr, hts, hown, hlocks, hN⟩ := id hC
  have hj : ∀ w ∈ jw, w.before args s = true := fun w h => hts w (List.mem_cons_of_mem _ h)
  intro n
  induction n with
  | zero =>
    intro x1 x2 x3 M F L B H locs ls hJ hl h
    rw [fMo_run_298] at h
    cases h
  | succ n ih =>
    intro x1 x2 x3 M F L B H locs ls hJ hl h
    rw [fMo_run_298] at h
    refine lv_iload_n hx hb dMo_run_298 rfl (lv_at hl 3 rfl) ?_
    refine lv_iload_n hx hb dMo_run_299 rfl (lv_at hl 1 rfl) ?_
    refine lv_icmp_ge (tgt := 321) hx hb dMo_run_300 (by decide) (fun c6 => ?_) (fun c6 => ?_)
    · replace h := jif_t c6 h
      refine lv_aload_n hx hb dMo_run_321 rfl (lv_at hl 0 rfl) ?_
      refine lv_iload_n hx hb dMo_run_322 rfl (lv_at hl 1 rfl) ?_
      refine mput_16 hx hb hj hown hJ (hj _ jw_615) dMo_run_323 (fun H locs hJ => ?_)
      refine lv_aload_n hx hb dMo_run_326 rfl (lv_at hl 0 rfl) ?_
      refine lv_iload_n hx hb dMo_run_327 rfl (lv_at hl 2 rfl) ?_
      refine mput_17 hx hb hj hown hJ (hj _ jw_616) dMo_run_328 (fun H locs hJ => ?_)
      refine lv_aload_n hx hb dMo_run_331 rfl (lv_at hl 0 rfl) ?_
      refine lv_aload_n hx hb dMo_run_332 rfl (lv_at hl 0 rfl) ?_
      refine mget_4 hx hb hj hown hJ (hj _ jw_603) dMo_run_333 ?_
      refine mput_15 hx hb hj hown hJ (hj _ jw_614) dMo_run_336 (fun H locs hJ => ?_)
      refine lv_iload_n hx hb dMo_run_339 rfl (lv_at hl 1 rfl) ?_
      cases h
      exact jreti (u := B) hx hb hr rfl hlocks hJ dMo_run_340 rfl
    · replace h := jif_f c6 h
      refine lv_aload_n hx hb dMo_run_303 rfl (lv_at hl 0 rfl) ?_
      refine mget_18 hx hb hj hown hJ (hj _ jw_617) dMo_run_304 ?_
      refine lv_iload_n hx hb dMo_run_307 rfl (lv_at hl 3 rfl) ?_
      refine lv_aload_n hx hb dMo_run_308 rfl (lv_at hl 0 rfl) ?_
      refine mget_19 hx hb hj hown hJ (hj _ jw_618) dMo_run_309 ?_
      refine lv_iload_n hx hb dMo_run_312 rfl (lv_at hl 3 rfl) ?_
      obtain ⟨hi7, h⟩ := jib_h h
      refine mald_14 hx hb hJ hi7 dMo_run_313 ?_
      obtain ⟨hi8, h⟩ := jib_h h
      refine mast_13 hx hb hJ hi8 dMo_run_314 (fun H locs hJ => ?_)
      refine lv_iinc (v := x3 + 1) (lv' := [(3, .int (x3 + 1)), (0, .ref (A 0)), (1, .int x1), (2, .int x2)]) hx hb dMo_run_315 hl (k := 3) rfl rfl (by decide) rfl (fun ls hl => ?_)
      refine lv_goto (tgt := 298) hx hb dMo_run_318 (by decide) ?_
      exact ih _ _ _ _ _ _ B _ _ _ hJ (lv_sub hl [1, 2, 3, 0] rfl) h
set_option maxHeartbeats 4000000 in
set_option maxRecDepth 100000 in
theorem uMo_run_174 {p : Program} {e : Env} {s : State} {m : MethodId} {args : Array Value} {below : List Frame} {meth : Method} {c : Code} (l : Launch) (dC : Nat → ClassId) (dI : Nat → Nat → Nat) (cA cL : ClassId) (A : Nat → Nat) (Ap : Nat → Prop) (hC : jAt p s m args meth c bMo_run 13 (some .int) wMo_run RMo) (hA : ∀ q : Nat, s.heap.size ≤ q → Ap q) {r : Int32} {M' : jM} {F' : jF} {L' : jL} (k136 : Int32 → Int32 → Int32 → Int32 → Int32 → Int32 → Int32 → Int32 → Int32 → Int32 → jM → jF → jL → Option (Int32 × jM × jF × jL)) (hk136 : ∀ (x1 : Int32) (x2 : Int32) (x3 : Int32) (x4 : Int32) (x5 : Int32) (x7 : Int32) (x8 : Int32) (x9 : Int32) (x10 : Int32) (x11 : Int32) (M : jM) (F : jF) (L : jL) (B : Nat → Nat) (H : Heap) (locs : List Loc) (ls : Array Slot), jH (dC, dI) jCl [(cA, .int), (cL, .long)] (mW cA cL A M F L) Ap s H locs → lv_has ls 13 [(0, .ref (A 0)), (1, .int x1), (2, .int x2), (3, .int x3), (4, .int x4), (5, .int x5), (7, .int x7), (8, .int x8), (9, .int x9), (10, .int x10), (11, .int x11)] → k136 x1 x2 x3 x4 x5 x7 x8 x9 x10 x11 M F L = some (r, M', F', L') → W p l e (headSpec wMo_run rMo_run).room s m args below meth c H locs 0 0 (jQi below (dC, dI) jCl [(cA, .int), (cL, .long)] (fun _ : Nat → Nat => mW cA cL A (M') (F') (L')) Ap args s r) (F0 m 136 ls [])) : ∀ (x1 : Int32) (x2 : Int32) (x3 : Int32) (x4 : Int32) (x5 : Int32) (x7 : Int32) (x8 : Int32) (x9 : Int32) (x10 : Int32) (x11 : Int32) (M : jM) (F : jF) (L : jL) (B : Nat → Nat) (H : Heap) (locs : List Loc) (ls : Array Slot), jH (dC, dI) jCl [(cA, .int), (cL, .long)] (mW cA cL A M F L) Ap s H locs → lv_has ls 13 [(0, .ref (A 0)), (1, .int x1), (2, .int x2), (3, .int x3), (4, .int x4), (5, .int x5), (7, .int x7), (8, .int x8), (9, .int x9), (10, .int x10), (11, .int x11)] → fMo_run_174 k136 x1 x2 x3 x4 x5 x7 x8 x9 x10 x11 M F L = some (r, M', F', L') → W p l e (headSpec wMo_run rMo_run).room s m args below meth c H locs 0 0 (jQi below (dC, dI) jCl [(cA, .int), (cL, .long)] (fun _ : Nat → Nat => mW cA cL A (M') (F') (L')) Ap args s r) (F0 m 174 ls []) := by
  obtain ⟨hx, hb, hml, hr, hts, hown, hlocks, hN⟩ := id hC
  have hj : ∀ w ∈ jw, w.before args s = true := fun w h => hts w (List.mem_cons_of_mem _ h)
  intro x1 x2 x3 x4 x5 x7 x8 x9 x10 x11 M F L B H locs ls hJ hl h
  unfold fMo_run_174 at h
  refine lv_iinc (v := x2 + 1) (lv' := [(2, .int (x2 + 1)), (0, .ref (A 0)), (1, .int x1), (3, .int x3), (4, .int x4), (5, .int x5), (7, .int x7), (8, .int x8), (9, .int x9), (10, .int x10), (11, .int x11)]) hx hb dMo_run_174 hl (k := 2) rfl rfl (by decide) rfl (fun ls hl => ?_)
  refine lv_aload_n hx hb dMo_run_177 rfl (lv_at hl 1 rfl) ?_
  refine mget_19 hx hb hj hown hJ (hj _ jw_618) dMo_run_178 ?_
  refine lv_iload hx hb dMo_run_181 (lv_at hl 9 rfl) ?_
  obtain ⟨hi20, h⟩ := jib_h h
  refine mald_14 hx hb hJ hi20 dMo_run_183 ?_
  refine lv_iload hx hb dMo_run_184 (lv_at hl 10 rfl) ?_
  refine lv_iload hx hb dMo_run_186 (lv_at hl 4 rfl) ?_
  obtain ⟨q21, hq21, h⟩ := jbi_h h
  refine jcalli (w' := fun _ : Nat → Nat => mW cA cL A M F L) (va_runS (As := [.int x4]) (rest := [.int x11, .int (M 14 x10.toNatClampNeg)]) ⟨hx, hb, hml, hown, hts⟩ (cMo_digit l dC dI cA cL A x4 M F L B H.size hq21) (va_cwS 1 hts (jgoodS jw_791 jw_792 jw_7 jw_793) rfl rfl rfl (by decide +kernel) ⟨Nat.le_of_ble_eq_true rfl, Nat.le_of_ble_eq_true rfl⟩) (jpreS hN hJ) rfl rfl hl.1 rfl (lv_room (Nat.le_of_ble_eq_true rfl)) dMo_run_188 ⟨Nat.zero_le _, Nat.zero_le _⟩) hA hJ (fun B H locs hJ => ?_)
  refine lv_imul hx hb dMo_run_191 ?_
  refine lv_iadd hx hb dMo_run_192 ?_
  refine lv_istore (lv' := [(12, .int ((M 14 x10.toNatClampNeg) + (x11 * q21))), (2, .int (x2 + 1)), (0, .ref (A 0)), (1, .int x1), (3, .int x3), (4, .int x4), (5, .int x5), (7, .int x7), (8, .int x8), (9, .int x9), (10, .int x10), (11, .int x11)]) hx hb dMo_run_193 hl (by decide) rfl (fun ls hl => ?_)
  refine lv_aload_n hx hb dMo_run_195 rfl (lv_at hl 2 rfl) ?_
  refine lv_iload hx hb dMo_run_196 (lv_at hl 0 rfl) ?_
  refine lv_iload hx hb dMo_run_198 (lv_at hl 6 rfl) ?_
  refine lv_iconst (v := 1) hx hb dMo_run_200 (by decide) ?_
  refine lv_iload hx hb dMo_run_201 (lv_at hl 5 rfl) ?_
  refine lv_ishl hx hb dMo_run_203 ?_
  refine lv_ior hx hb dMo_run_204 ?_
  obtain ⟨q22, hq22, h⟩ := jbi_h h
  refine jcalli (w' := fun _ : Nat → Nat => mW cA cL A M F L) (va_runV (As := [.int ((M 14 x10.toNatClampNeg) + (x11 * q21)), .int (x5 ||| (1 <<< (x4 &&& 31)))]) (rest := []) ⟨hx, hb, hml, hown, hts⟩ (cMo_allHold l dC dI cA cL A ((M 14 x10.toNatClampNeg) + (x11 * q21)) (x5 ||| (1 <<< (x4 &&& 31))) M F L B H.size hq22) (cwV 2 hts (jgoodV jw_794 jw_796 jws_35 jw_7 jw_797) rfl rfl rfl (by decide +kernel) ⟨Nat.le_of_ble_eq_true rfl, Nat.le_of_ble_eq_true rfl⟩) (jpreV hN hJ (ci := 6) (q0 := 0) rfl rfl) rfl rfl hl.1 rfl (lv_room (Nat.le_of_ble_eq_true rfl)) dMo_run_205 ⟨Nat.zero_le _, Nat.zero_le _⟩) hA hJ (fun B H locs hJ => ?_)
  refine lv_if_ne (tgt := 214) hx hb dMo_run_208 (by decide) (fun c23 => ?_) (fun c23 => ?_)
  · replace h := jif_f c23 h
    refine lv_iload hx hb dMo_run_214 (lv_at hl 9 rfl) ?_
    refine lv_sipush (v := 3000) hx hb dMo_run_216 (by decide) ?_
    refine lv_icmp_ne (tgt := 229) hx hb dMo_run_219 (by decide) (fun c24 => ?_) (fun c24 => ?_)
    · replace h := jif_f c24 h
      refine lv_aload_n hx hb dMo_run_229 rfl (lv_at hl 2 rfl) ?_
      refine mget_20 hx hb hj hown hJ (hj _ jw_619) dMo_run_230 ?_
      refine lv_iload hx hb dMo_run_233 (lv_at hl 9 rfl) ?_
      refine lv_iload hx hb dMo_run_235 (lv_at hl 0 rfl) ?_
      obtain ⟨hi25, h⟩ := jib_h h
      refine mast_15 hx hb hJ hi25 dMo_run_237 (fun H locs hJ => ?_)
      refine lv_iinc (v := x9 + 1) (lv' := [(9, .int (x9 + 1)), (12, .int ((M 14 x10.toNatClampNeg) + (x11 * q21))), (2, .int (x2 + 1)), (0, .ref (A 0)), (1, .int x1), (3, .int x3), (4, .int x4), (5, .int x5), (7, .int x7), (8, .int x8), (10, .int x10), (11, .int x11)]) hx hb dMo_run_238 hl (k := 9) rfl rfl (by decide) rfl (fun ls hl => ?_)
      refine lv_iinc (v := x11 + 1) (lv' := [(11, .int (x11 + 1)), (9, .int (x9 + 1)), (12, .int ((M 14 x10.toNatClampNeg) + (x11 * q21))), (2, .int (x2 + 1)), (0, .ref (A 0)), (1, .int x1), (3, .int x3), (4, .int x4), (5, .int x5), (7, .int x7), (8, .int x8), (10, .int x10)]) hx hb dMo_run_241 hl (k := 11) rfl rfl (by decide) rfl (fun ls hl => ?_)
      refine lv_goto (tgt := 136) hx hb dMo_run_244 (by decide) ?_
      exact hk136 _ _ _ _ _ _ _ _ _ _ _ _ _ B _ _ _ hJ (lv_sub hl [4, 5, 3, 6, 7, 8, 9, 10, 1, 11, 0] rfl) h
    · replace h := jif_t c24 h
      refine lv_aload_n hx hb dMo_run_222 rfl (lv_at hl 2 rfl) ?_
      refine lv_iconst (v := 1) hx hb dMo_run_223 (by decide) ?_
      refine mput_0 hx hb hj hown hJ (hj _ jw_599) dMo_run_224 (fun H locs hJ => ?_)
      refine lv_iconst (v := 0) hx hb dMo_run_227 (by decide) ?_
      cases h
      exact jreti (u := B) hx hb hr rfl hlocks hJ dMo_run_228 rfl
  · replace h := jif_t c23 h
    refine lv_goto (tgt := 241) hx hb dMo_run_211 (by decide) ?_
    refine lv_iinc (v := x11 + 1) (lv' := [(11, .int (x11 + 1)), (12, .int ((M 14 x10.toNatClampNeg) + (x11 * q21))), (2, .int (x2 + 1)), (0, .ref (A 0)), (1, .int x1), (3, .int x3), (4, .int x4), (5, .int x5), (7, .int x7), (8, .int x8), (9, .int x9), (10, .int x10)]) hx hb dMo_run_241 hl (k := 11) rfl rfl (by decide) rfl (fun ls hl => ?_)
    refine lv_goto (tgt := 136) hx hb dMo_run_244 (by decide) ?_
    exact hk136 _ _ _ _ _ _ _ _ _ _ _ _ _ B _ _ _ hJ (lv_sub hl [3, 4, 2, 5, 6, 7, 8, 9, 10, 11, 0] rfl) h
set_option maxHeartbeats 4000000 in
set_option maxRecDepth 100000 in
theorem uMo_run_136 {p : Program} {e : Env} {s : State} {m : MethodId} {args : Array Value} {below : List Frame} {meth : Method} {c : Code} (l : Launch) (dC : Nat → ClassId) (dI : Nat → Nat → Nat) (cA cL : ClassId) (A : Nat → Nat) (Ap : Nat → Prop) (hC : jAt p s m args meth c bMo_run 13 (some .int) wMo_run RMo) (hA : ∀ q : Nat, s.heap.size ≤ q → Ap q) {r : Int32} {M' : jM} {F' : jF} {L' : jL} (k247 : Int32 → Int32 → Int32 → Int32 → Int32 → Int32 → Int32 → Int32 → Int32 → jM → jF → jL → Option (Int32 × jM × jF × jL)) (hk247 : ∀ (x1 : Int32) (x2 : Int32) (x3 : Int32) (x4 : Int32) (x5 : Int32) (x7 : Int32) (x8 : Int32) (x9 : Int32) (x10 : Int32) (M : jM) (F : jF) (L : jL) (B : Nat → Nat) (H : Heap) (locs : List Loc) (ls : Array Slot), jH (dC, dI) jCl [(cA, .int), (cL, .long)] (mW cA cL A M F L) Ap s H locs → lv_has ls 13 [(0, .ref (A 0)), (1, .int x1), (2, .int x2), (3, .int x3), (4, .int x4), (5, .int x5), (7, .int x7), (8, .int x8), (9, .int x9), (10, .int x10)] → k247 x1 x2 x3 x4 x5 x7 x8 x9 x10 M F L = some (r, M', F', L') → W p l e (headSpec wMo_run rMo_run).room s m args below meth c H locs 0 0 (jQi below (dC, dI) jCl [(cA, .int), (cL, .long)] (fun _ : Nat → Nat => mW cA cL A (M') (F') (L')) Ap args s r) (F0 m 247 ls [])) : ∀ (n : Nat) (x1 : Int32) (x2 : Int32) (x3 : Int32) (x4 : Int32) (x5 : Int32) (x7 : Int32) (x8 : Int32) (x9 : Int32) (x10 : Int32) (x11 : Int32) (M : jM) (F : jF) (L : jL) (B : Nat → Nat) (H : Heap) (locs : List Loc) (ls : Array Slot), jH (dC, dI) jCl [(cA, .int), (cL, .long)] (mW cA cL A M F L) Ap s H locs → lv_has ls 13 [(0, .ref (A 0)), (1, .int x1), (2, .int x2), (3, .int x3), (4, .int x4), (5, .int x5), (7, .int x7), (8, .int x8), (9, .int x9), (10, .int x10), (11, .int x11)] → fMo_run_136 k247 n x1 x2 x3 x4 x5 x7 x8 x9 x10 x11 M F L = some (r, M', F', L') → W p l e (headSpec wMo_run rMo_run).room s m args below meth c H locs 0 0 (jQi below (dC, dI) jCl [(cA, .int), (cL, .long)] (fun _ : Nat → Nat => mW cA cL A (M') (F') (L')) Ap args s r) (F0 m 136 ls []) := by
  obtain ⟨hx, hb, hml, hr, hts, hown, hlocks, hN⟩ := id hC
  have hj : ∀ w ∈ jw, w.before args s = true := fun w h => hts w (List.mem_cons_of_mem _ h)
  intro n
  induction n with
  | zero =>
    intro x1 x2 x3 x4 x5 x7 x8 x9 x10 x11 M F L B H locs ls hJ hl h
    rw [fMo_run_136] at h
    cases h
  | succ n ih =>
    intro x1 x2 x3 x4 x5 x7 x8 x9 x10 x11 M F L B H locs ls hJ hl h
    rw [fMo_run_136] at h
    refine lv_iload hx hb dMo_run_136 (lv_at hl 10 rfl) ?_
    refine lv_iload hx hb dMo_run_138 (lv_at hl 7 rfl) ?_
    refine lv_icmp_ge (tgt := 247) hx hb dMo_run_140 (by decide) (fun c18 => ?_) (fun c18 => ?_)
    · replace h := jif_t c18 h
      exact hk247 _ _ _ _ _ _ _ _ _ _ _ _ B _ _ _ hJ (lv_sub hl [0, 1, 2, 3, 4, 5, 6, 7, 8, 9] rfl) h
    · replace h := jif_f c18 h
      refine lv_iload hx hb dMo_run_143 (lv_at hl 6 rfl) ?_
      refine lv_iconst (v := (-1)) hx hb dMo_run_145 (by decide) ?_
      refine lv_icmp_eq (tgt := 174) hx hb dMo_run_146 (by decide) (fun c19 => ?_) (fun c19 => ?_)
      · replace h := jif_t c19 h
        refine uMo_run_174 l dC dI cA cL A Ap hC hA _ ?_ _ _ _ _ _ _ _ _ _ _ _ _ _ B _ _ _ hJ (lv_sub hl [0, 1, 2, 3, 4, 5, 6, 7, 8, 9, 10] rfl) h
        · intro x1 x2 x3 x4 x5 x7 x8 x9 x10 x11 M F L B H locs ls hJ hl h
          exact ih _ _ _ _ _ _ _ _ _ _ _ _ _ B _ _ _ hJ (lv_sub hl [0, 1, 2, 3, 4, 5, 6, 7, 8, 9, 10] rfl) h
      · replace h := jif_f c19 h
        refine lv_aload_n hx hb dMo_run_149 rfl (lv_at hl 0 rfl) ?_
        refine lv_iload hx hb dMo_run_150 (lv_at hl 6 rfl) ?_
        refine lv_iload hx hb dMo_run_152 (lv_at hl 4 rfl) ?_
        refine lv_iload hx hb dMo_run_154 (lv_at hl 10 rfl) ?_
        refine lv_aload_n hx hb dMo_run_156 rfl (lv_at hl 0 rfl) ?_
        refine mget_19 hx hb hj hown hJ (hj _ jw_618) dMo_run_157 ?_
        refine lv_iload hx hb dMo_run_160 (lv_at hl 9 rfl) ?_
        obtain ⟨hi26, h⟩ := jib_h h
        refine mald_14 hx hb hJ hi26 dMo_run_162 ?_
        refine lv_iload hx hb dMo_run_163 (lv_at hl 5 rfl) ?_
        obtain ⟨q27, hq27, h⟩ := jbi_h h
        refine jcalli (w' := fun _ : Nat → Nat => mW cA cL A M F L) (va_runV (As := [.int x7, .int x4, .int x11, .int (M 14 x10.toNatClampNeg), .int x5]) (rest := []) ⟨hx, hb, hml, hown, hts⟩ (cMo_isLooked l dC dI cA cL A x7 x4 x11 (M 14 x10.toNatClampNeg) x5 M F L B H.size hq27) (cwV 5 hts (jgoodV jw_780 jw_782 jws_33 jw_7 jw_783) rfl rfl rfl (by decide +kernel) ⟨Nat.le_of_ble_eq_true rfl, Nat.le_of_ble_eq_true rfl⟩) (jpreV hN hJ (ci := 6) (q0 := 0) rfl rfl) rfl rfl hl.1 rfl (lv_room (Nat.le_of_ble_eq_true rfl)) dMo_run_165 ⟨Nat.zero_le _, Nat.zero_le _⟩) hA hJ (fun B H locs hJ => ?_)
        refine lv_if_ne (tgt := 174) hx hb dMo_run_168 (by decide) (fun c28 => ?_) (fun c28 => ?_)
        · replace h := jif_f c28 h
          refine uMo_run_174 l dC dI cA cL A Ap hC hA _ ?_ _ _ _ _ _ _ _ _ _ _ _ _ _ B _ _ _ hJ (lv_sub hl [0, 1, 2, 3, 4, 5, 6, 7, 8, 9, 10] rfl) h
          · intro x1 x2 x3 x4 x5 x7 x8 x9 x10 x11 M F L B H locs ls hJ hl h
            exact ih _ _ _ _ _ _ _ _ _ _ _ _ _ B _ _ _ hJ (lv_sub hl [0, 1, 2, 3, 4, 5, 6, 7, 8, 9, 10] rfl) h
        · replace h := jif_t c28 h
          refine lv_goto (tgt := 241) hx hb dMo_run_171 (by decide) ?_
          refine lv_iinc (v := x11 + 1) (lv' := [(11, .int (x11 + 1)), (0, .ref (A 0)), (1, .int x1), (2, .int x2), (3, .int x3), (4, .int x4), (5, .int x5), (7, .int x7), (8, .int x8), (9, .int x9), (10, .int x10)]) hx hb dMo_run_241 hl (k := 10) rfl rfl (by decide) rfl (fun ls hl => ?_)
          refine lv_goto (tgt := 136) hx hb dMo_run_244 (by decide) ?_
          exact ih _ _ _ _ _ _ _ _ _ _ _ _ _ B _ _ _ hJ (lv_sub hl [1, 2, 3, 4, 5, 6, 7, 8, 9, 10, 0] rfl) h
set_option maxHeartbeats 4000000 in
set_option maxRecDepth 100000 in
theorem uMo_run_127 {p : Program} {e : Env} {s : State} {m : MethodId} {args : Array Value} {below : List Frame} {meth : Method} {c : Code} (l : Launch) (dC : Nat → ClassId) (dI : Nat → Nat → Nat) (cA cL : ClassId) (A : Nat → Nat) (Ap : Nat → Prop) (hC : jAt p s m args meth c bMo_run 13 (some .int) wMo_run RMo) (hA : ∀ q : Nat, s.heap.size ≤ q → Ap q) {r : Int32} {M' : jM} {F' : jF} {L' : jL} (k253 : Int32 → Int32 → Int32 → jM → jF → jL → Option (Int32 × jM × jF × jL)) (hk253 : ∀ (x2 : Int32) (x3 : Int32) (x9 : Int32) (M : jM) (F : jF) (L : jL) (B : Nat → Nat) (H : Heap) (locs : List Loc) (ls : Array Slot), jH (dC, dI) jCl [(cA, .int), (cL, .long)] (mW cA cL A M F L) Ap s H locs → lv_has ls 13 [(0, .ref (A 0)), (2, .int x2), (3, .int x3), (9, .int x9)] → k253 x2 x3 x9 M F L = some (r, M', F', L') → W p l e (headSpec wMo_run rMo_run).room s m args below meth c H locs 0 0 (jQi below (dC, dI) jCl [(cA, .int), (cL, .long)] (fun _ : Nat → Nat => mW cA cL A (M') (F') (L')) Ap args s r) (F0 m 253 ls [])) : ∀ (n : Nat) (x1 : Int32) (x2 : Int32) (x3 : Int32) (x4 : Int32) (x5 : Int32) (x7 : Int32) (x8 : Int32) (x9 : Int32) (x10 : Int32) (M : jM) (F : jF) (L : jL) (B : Nat → Nat) (H : Heap) (locs : List Loc) (ls : Array Slot), jH (dC, dI) jCl [(cA, .int), (cL, .long)] (mW cA cL A M F L) Ap s H locs → lv_has ls 13 [(0, .ref (A 0)), (1, .int x1), (2, .int x2), (3, .int x3), (4, .int x4), (5, .int x5), (7, .int x7), (8, .int x8), (9, .int x9), (10, .int x10)] → fMo_run_127 k253 n x1 x2 x3 x4 x5 x7 x8 x9 x10 M F L = some (r, M', F', L') → W p l e (headSpec wMo_run rMo_run).room s m args below meth c H locs 0 0 (jQi below (dC, dI) jCl [(cA, .int), (cL, .long)] (fun _ : Nat → Nat => mW cA cL A (M') (F') (L')) Ap args s r) (F0 m 127 ls []) := by
  obtain ⟨hx, hb, hml, hr, hts, hown, hlocks, hN⟩ := id hC
  have hj : ∀ w ∈ jw, w.before args s = true := fun w h => hts w (List.mem_cons_of_mem _ h)
  intro n
  induction n with
  | zero =>
    intro x1 x2 x3 x4 x5 x7 x8 x9 x10 M F L B H locs ls hJ hl h
    rw [fMo_run_127] at h
    cases h
  | succ n ih =>
    intro x1 x2 x3 x4 x5 x7 x8 x9 x10 M F L B H locs ls hJ hl h
    rw [fMo_run_127] at h
    refine lv_iload hx hb dMo_run_127 (lv_at hl 9 rfl) ?_
    refine lv_iload_n hx hb dMo_run_129 rfl (lv_at hl 1 rfl) ?_
    refine lv_icmp_ge (tgt := 253) hx hb dMo_run_130 (by decide) (fun c17 => ?_) (fun c17 => ?_)
    · replace h := jif_t c17 h
      exact hk253 _ _ _ _ _ _ B _ _ _ hJ (lv_sub hl [0, 2, 3, 8] rfl) h
    · replace h := jif_f c17 h
      refine lv_iconst (v := 0) hx hb dMo_run_133 (by decide) ?_
      refine lv_istore (lv' := [(11, .int 0), (0, .ref (A 0)), (1, .int x1), (2, .int x2), (3, .int x3), (4, .int x4), (5, .int x5), (7, .int x7), (8, .int x8), (9, .int x9), (10, .int x10)]) hx hb dMo_run_134 hl (by decide) rfl (fun ls hl => ?_)
      refine uMo_run_136 l dC dI cA cL A Ap hC hA _ ?_ jfuel _ _ _ _ _ _ _ _ _ _ _ _ _ B _ _ _ hJ (lv_sub hl [1, 2, 3, 4, 5, 6, 7, 8, 9, 10, 0] rfl) h
      · intro x1 x2 x3 x4 x5 x7 x8 x9 x10 M F L B H locs ls hJ hl h
        refine lv_iinc (v := x10 + 1) (lv' := [(10, .int (x10 + 1)), (0, .ref (A 0)), (1, .int x1), (2, .int x2), (3, .int x3), (4, .int x4), (5, .int x5), (7, .int x7), (8, .int x8), (9, .int x9)]) hx hb dMo_run_247 hl (k := 9) rfl rfl (by decide) rfl (fun ls hl => ?_)
        refine lv_goto (tgt := 127) hx hb dMo_run_250 (by decide) ?_
        exact ih _ _ _ _ _ _ _ _ _ _ _ _ B _ _ _ hJ (lv_sub hl [1, 2, 3, 4, 5, 6, 7, 8, 9, 0] rfl) h
set_option maxHeartbeats 4000000 in
set_option maxRecDepth 100000 in
theorem uMo_run_259 {p : Program} {e : Env} {s : State} {m : MethodId} {args : Array Value} {below : List Frame} {meth : Method} {c : Code} (l : Launch) (dC : Nat → ClassId) (dI : Nat → Nat → Nat) (cA cL : ClassId) (A : Nat → Nat) (Ap : Nat → Prop) (hC : jAt p s m args meth c bMo_run 13 (some .int) wMo_run RMo) (hA : ∀ q : Nat, s.heap.size ≤ q → Ap q) {r : Int32} {M' : jM} {F' : jF} {L' : jL} (k285 : Int32 → Int32 → Int32 → jM → jF → jL → Option (Int32 × jM × jF × jL)) (hk285 : ∀ (x1 : Int32) (x2 : Int32) (x3 : Int32) (M : jM) (F : jF) (L : jL) (B : Nat → Nat) (H : Heap) (locs : List Loc) (ls : Array Slot), jH (dC, dI) jCl [(cA, .int), (cL, .long)] (mW cA cL A M F L) Ap s H locs → lv_has ls 13 [(0, .ref (A 0)), (1, .int x1), (2, .int x2), (3, .int x3)] → k285 x1 x2 x3 M F L = some (r, M', F', L') → W p l e (headSpec wMo_run rMo_run).room s m args below meth c H locs 0 0 (jQi below (dC, dI) jCl [(cA, .int), (cL, .long)] (fun _ : Nat → Nat => mW cA cL A (M') (F') (L')) Ap args s r) (F0 m 285 ls [])) : ∀ (n : Nat) (x1 : Int32) (x2 : Int32) (x3 : Int32) (x10 : Int32) (M : jM) (F : jF) (L : jL) (B : Nat → Nat) (H : Heap) (locs : List Loc) (ls : Array Slot), jH (dC, dI) jCl [(cA, .int), (cL, .long)] (mW cA cL A M F L) Ap s H locs → lv_has ls 13 [(0, .ref (A 0)), (1, .int x1), (2, .int x2), (3, .int x3), (10, .int x10)] → fMo_run_259 k285 n x1 x2 x3 x10 M F L = some (r, M', F', L') → W p l e (headSpec wMo_run rMo_run).room s m args below meth c H locs 0 0 (jQi below (dC, dI) jCl [(cA, .int), (cL, .long)] (fun _ : Nat → Nat => mW cA cL A (M') (F') (L')) Ap args s r) (F0 m 259 ls []) := by
  obtain ⟨hx, hb, hml, hr, hts, hown, hlocks, hN⟩ := id hC
  have hj : ∀ w ∈ jw, w.before args s = true := fun w h => hts w (List.mem_cons_of_mem _ h)
  intro n
  induction n with
  | zero =>
    intro x1 x2 x3 x10 M F L B H locs ls hJ hl h
    rw [fMo_run_259] at h
    cases h
  | succ n ih =>
    intro x1 x2 x3 x10 M F L B H locs ls hJ hl h
    rw [fMo_run_259] at h
    refine lv_iload hx hb dMo_run_259 (lv_at hl 4 rfl) ?_
    refine lv_iload_n hx hb dMo_run_261 rfl (lv_at hl 1 rfl) ?_
    refine lv_icmp_ge (tgt := 285) hx hb dMo_run_262 (by decide) (fun c29 => ?_) (fun c29 => ?_)
    · replace h := jif_t c29 h
      exact hk285 _ _ _ _ _ _ B _ _ _ hJ (lv_sub hl [0, 1, 2, 3] rfl) h
    · replace h := jif_f c29 h
      refine lv_aload_n hx hb dMo_run_265 rfl (lv_at hl 0 rfl) ?_
      refine mget_19 hx hb hj hown hJ (hj _ jw_618) dMo_run_266 ?_
      refine lv_iload hx hb dMo_run_269 (lv_at hl 4 rfl) ?_
      refine lv_aload_n hx hb dMo_run_271 rfl (lv_at hl 0 rfl) ?_
      refine mget_20 hx hb hj hown hJ (hj _ jw_619) dMo_run_272 ?_
      refine lv_iload hx hb dMo_run_275 (lv_at hl 4 rfl) ?_
      obtain ⟨hi30, h⟩ := jib_h h
      refine mald_15 hx hb hJ hi30 dMo_run_277 ?_
      obtain ⟨hi31, h⟩ := jib_h h
      refine mast_14 hx hb hJ hi31 dMo_run_278 (fun H locs hJ => ?_)
      refine lv_iinc (v := x10 + 1) (lv' := [(10, .int (x10 + 1)), (0, .ref (A 0)), (1, .int x1), (2, .int x2), (3, .int x3)]) hx hb dMo_run_279 hl (k := 4) rfl rfl (by decide) rfl (fun ls hl => ?_)
      refine lv_goto (tgt := 259) hx hb dMo_run_282 (by decide) ?_
      exact ih _ _ _ _ _ _ _ B _ _ _ hJ (lv_sub hl [1, 2, 3, 4, 0] rfl) h
set_option maxHeartbeats 4000000 in
set_option maxRecDepth 100000 in
theorem uMo_run_119 {p : Program} {e : Env} {s : State} {m : MethodId} {args : Array Value} {below : List Frame} {meth : Method} {c : Code} (l : Launch) (dC : Nat → ClassId) (dI : Nat → Nat → Nat) (cA cL : ClassId) (A : Nat → Nat) (Ap : Nat → Prop) (hC : jAt p s m args meth c bMo_run 13 (some .int) wMo_run RMo) (hA : ∀ q : Nat, s.heap.size ≤ q → Ap q) {r : Int32} {M' : jM} {F' : jF} {L' : jL} (k40 : Int32 → Int32 → Int32 → jM → jF → jL → Option (Int32 × jM × jF × jL)) (hk40 : ∀ (x1 : Int32) (x2 : Int32) (x3 : Int32) (M : jM) (F : jF) (L : jL) (B : Nat → Nat) (H : Heap) (locs : List Loc) (ls : Array Slot), jH (dC, dI) jCl [(cA, .int), (cL, .long)] (mW cA cL A M F L) Ap s H locs → lv_has ls 13 [(0, .ref (A 0)), (1, .int x1), (2, .int x2), (3, .int x3)] → k40 x1 x2 x3 M F L = some (r, M', F', L') → W p l e (headSpec wMo_run rMo_run).room s m args below meth c H locs 0 0 (jQi below (dC, dI) jCl [(cA, .int), (cL, .long)] (fun _ : Nat → Nat => mW cA cL A (M') (F') (L')) Ap args s r) (F0 m 40 ls [])) : ∀ (x1 : Int32) (x3 : Int32) (x4 : Int32) (x5 : Int32) (x7 : Int32) (x8 : Int32) (s0 : Int32) (s1 : Int32) (M : jM) (F : jF) (L : jL) (B : Nat → Nat) (H : Heap) (locs : List Loc) (ls : Array Slot), jH (dC, dI) jCl [(cA, .int), (cL, .long)] (mW cA cL A M F L) Ap s H locs → lv_has ls 13 [(0, .ref (A 0)), (1, .int x1), (3, .int x3), (4, .int x4), (5, .int x5), (7, .int x7), (8, .int x8)] → fMo_run_119 k40 x1 x3 x4 x5 x7 x8 s0 s1 M F L = some (r, M', F', L') → W p l e (headSpec wMo_run rMo_run).room s m args below meth c H locs 0 0 (jQi below (dC, dI) jCl [(cA, .int), (cL, .long)] (fun _ : Nat → Nat => mW cA cL A (M') (F') (L')) Ap args s r) (F0 m 119 ls [.int s1, .int s0]) := by
  obtain ⟨hx, hb, hml, hr, hts, hown, hlocks, hN⟩ := id hC
  have hj : ∀ w ∈ jw, w.before args s = true := fun w h => hts w (List.mem_cons_of_mem _ h)
  intro x1 x3 x4 x5 x7 x8 s0 s1 M F L B H locs ls hJ hl h
  unfold fMo_run_119 at h
  refine lv_iadd hx hb dMo_run_119 ?_
  refine lv_istore_n (lv' := [(2, .int (s0 + s1)), (0, .ref (A 0)), (1, .int x1), (3, .int x3), (4, .int x4), (5, .int x5), (7, .int x7), (8, .int x8)]) hx hb dMo_run_120 rfl hl (by decide) rfl (fun ls hl => ?_)
  refine lv_iconst (v := 0) hx hb dMo_run_121 (by decide) ?_
  refine lv_istore (lv' := [(9, .int 0), (2, .int (s0 + s1)), (0, .ref (A 0)), (1, .int x1), (3, .int x3), (4, .int x4), (5, .int x5), (7, .int x7), (8, .int x8)]) hx hb dMo_run_122 hl (by decide) rfl (fun ls hl => ?_)
  refine lv_iconst (v := 0) hx hb dMo_run_124 (by decide) ?_
  refine lv_istore (lv' := [(10, .int 0), (9, .int 0), (2, .int (s0 + s1)), (0, .ref (A 0)), (1, .int x1), (3, .int x3), (4, .int x4), (5, .int x5), (7, .int x7), (8, .int x8)]) hx hb dMo_run_125 hl (by decide) rfl (fun ls hl => ?_)
  refine uMo_run_127 l dC dI cA cL A Ap hC hA _ ?_ jfuel _ _ _ _ _ _ _ _ _ _ _ _ B _ _ _ hJ (lv_sub hl [3, 4, 2, 5, 6, 7, 8, 9, 1, 0] rfl) h
  · intro x2 x3 x9 M F L B H locs ls hJ hl h
    refine lv_iload hx hb dMo_run_253 (lv_at hl 3 rfl) ?_
    refine lv_istore_n (lv' := [(1, .int x9), (0, .ref (A 0)), (2, .int x2), (3, .int x3), (9, .int x9)]) hx hb dMo_run_255 rfl hl (by decide) rfl (fun ls hl => ?_)
    refine lv_iconst (v := 0) hx hb dMo_run_256 (by decide) ?_
    refine lv_istore (lv' := [(10, .int 0), (1, .int x9), (0, .ref (A 0)), (2, .int x2), (3, .int x3), (9, .int x9)]) hx hb dMo_run_257 hl (by decide) rfl (fun ls hl => ?_)
    refine uMo_run_259 l dC dI cA cL A Ap hC hA _ ?_ jfuel _ _ _ _ _ _ _ B _ _ _ hJ (lv_sub hl [2, 1, 3, 4, 0] rfl) h
    · intro x1 x2 x3 M F L B H locs ls hJ hl h
      refine lv_iinc (v := x3 + 1) (lv' := [(3, .int (x3 + 1)), (0, .ref (A 0)), (1, .int x1), (2, .int x2)]) hx hb dMo_run_285 hl (k := 3) rfl rfl (by decide) rfl (fun ls hl => ?_)
      refine lv_goto (tgt := 40) hx hb dMo_run_288 (by decide) ?_
      exact hk40 _ _ _ _ _ _ B _ _ _ hJ (lv_sub hl [1, 2, 3, 0] rfl) h
set_option maxHeartbeats 4000000 in
set_option maxRecDepth 100000 in
theorem uMo_run_90 {p : Program} {e : Env} {s : State} {m : MethodId} {args : Array Value} {below : List Frame} {meth : Method} {c : Code} (l : Launch) (dC : Nat → ClassId) (dI : Nat → Nat → Nat) (cA cL : ClassId) (A : Nat → Nat) (Ap : Nat → Prop) (hC : jAt p s m args meth c bMo_run 13 (some .int) wMo_run RMo) (hA : ∀ q : Nat, s.heap.size ≤ q → Ap q) {r : Int32} {M' : jM} {F' : jF} {L' : jL} (k40 : Int32 → Int32 → Int32 → jM → jF → jL → Option (Int32 × jM × jF × jL)) (hk40 : ∀ (x1 : Int32) (x2 : Int32) (x3 : Int32) (M : jM) (F : jF) (L : jL) (B : Nat → Nat) (H : Heap) (locs : List Loc) (ls : Array Slot), jH (dC, dI) jCl [(cA, .int), (cL, .long)] (mW cA cL A M F L) Ap s H locs → lv_has ls 13 [(0, .ref (A 0)), (1, .int x1), (2, .int x2), (3, .int x3)] → k40 x1 x2 x3 M F L = some (r, M', F', L') → W p l e (headSpec wMo_run rMo_run).room s m args below meth c H locs 0 0 (jQi below (dC, dI) jCl [(cA, .int), (cL, .long)] (fun _ : Nat → Nat => mW cA cL A (M') (F') (L')) Ap args s r) (F0 m 40 ls [])) : ∀ (x1 : Int32) (x2 : Int32) (x3 : Int32) (x4 : Int32) (x5 : Int32) (x6 : Int32) (s0 : Int32) (M : jM) (F : jF) (L : jL) (B : Nat → Nat) (H : Heap) (locs : List Loc) (ls : Array Slot), jH (dC, dI) jCl [(cA, .int), (cL, .long)] (mW cA cL A M F L) Ap s H locs → lv_has ls 13 [(0, .ref (A 0)), (1, .int x1), (2, .int x2), (3, .int x3), (4, .int x4), (5, .int x5), (6, .int x6)] → fMo_run_90 k40 x1 x2 x3 x4 x5 x6 s0 M F L = some (r, M', F', L') → W p l e (headSpec wMo_run rMo_run).room s m args below meth c H locs 0 0 (jQi below (dC, dI) jCl [(cA, .int), (cL, .long)] (fun _ : Nat → Nat => mW cA cL A (M') (F') (L')) Ap args s r) (F0 m 90 ls [.int s0]) := by
  obtain ⟨hx, hb, hml, hr, hts, hown, hlocks, hN⟩ := id hC
  have hj : ∀ w ∈ jw, w.before args s = true := fun w h => hts w (List.mem_cons_of_mem _ h)
  intro x1 x2 x3 x4 x5 x6 s0 M F L B H locs ls hJ hl h
  unfold fMo_run_90 at h
  refine lv_istore (lv' := [(7, .int s0), (0, .ref (A 0)), (1, .int x1), (2, .int x2), (3, .int x3), (4, .int x4), (5, .int x5), (6, .int x6)]) hx hb dMo_run_90 hl (by decide) rfl (fun ls hl => ?_)
  refine lv_aload_n hx hb dMo_run_92 rfl (lv_at hl 1 rfl) ?_
  refine mget_2 hx hb hj hown hJ (hj _ jw_601) dMo_run_93 ?_
  refine lv_aload_n hx hb dMo_run_96 rfl (lv_at hl 1 rfl) ?_
  refine mget_5 hx hb hj hown hJ (hj _ jw_604) dMo_run_97 ?_
  refine lv_iload hx hb dMo_run_100 (lv_at hl 5 rfl) ?_
  obtain ⟨hi14, h⟩ := jib_h h
  refine mald_4 hx hb hJ hi14 dMo_run_102 ?_
  obtain ⟨hi15, h⟩ := jib_h h
  refine mald_2 hx hb hJ hi15 dMo_run_103 ?_
  refine lv_istore (lv' := [(8, .int (M 2 (M 4 x4.toNatClampNeg).toNatClampNeg)), (7, .int s0), (0, .ref (A 0)), (1, .int x1), (2, .int x2), (3, .int x3), (4, .int x4), (5, .int x5), (6, .int x6)]) hx hb dMo_run_104 hl (by decide) rfl (fun ls hl => ?_)
  refine lv_iload_n hx hb dMo_run_106 rfl (lv_at hl 4 rfl) ?_
  refine lv_iload hx hb dMo_run_107 (lv_at hl 8 rfl) ?_
  refine lv_iconst (v := 2) hx hb dMo_run_109 (by decide) ?_
  refine lv_icmp_ne (tgt := 118) hx hb dMo_run_110 (by decide) (fun c16 => ?_) (fun c16 => ?_)
  · replace h := jif_f c16 h
    refine lv_iconst (v := 0) hx hb dMo_run_118 (by decide) ?_
    refine uMo_run_119 l dC dI cA cL A Ap hC hA _ ?_ _ _ _ _ _ _ _ _ _ _ _ B _ _ _ hJ (lv_sub hl [2, 3, 5, 6, 7, 1, 0] rfl) h
    · intro x1 x2 x3 M F L B H locs ls hJ hl h
      exact hk40 _ _ _ _ _ _ B _ _ _ hJ (lv_sub hl [0, 1, 2, 3] rfl) h
  · replace h := jif_t c16 h
    refine lv_iload hx hb dMo_run_113 (lv_at hl 0 rfl) ?_
    refine lv_goto (tgt := 119) hx hb dMo_run_115 (by decide) ?_
    refine uMo_run_119 l dC dI cA cL A Ap hC hA _ ?_ _ _ _ _ _ _ _ _ _ _ _ B _ _ _ hJ (lv_sub hl [2, 3, 5, 6, 7, 1, 0] rfl) h
    · intro x1 x2 x3 M F L B H locs ls hJ hl h
      exact hk40 _ _ _ _ _ _ B _ _ _ hJ (lv_sub hl [0, 1, 2, 3] rfl) h
set_option maxHeartbeats 4000000 in
set_option maxRecDepth 100000 in
theorem uMo_run_40 {p : Program} {e : Env} {s : State} {m : MethodId} {args : Array Value} {below : List Frame} {meth : Method} {c : Code} (l : Launch) (dC : Nat → ClassId) (dI : Nat → Nat → Nat) (cA cL : ClassId) (A : Nat → Nat) (Ap : Nat → Prop) (hC : jAt p s m args meth c bMo_run 13 (some .int) wMo_run RMo) (hA : ∀ q : Nat, s.heap.size ≤ q → Ap q) {r : Int32} {M' : jM} {F' : jF} {L' : jL} : ∀ (n : Nat) (x1 : Int32) (x2 : Int32) (x3 : Int32) (M : jM) (F : jF) (L : jL) (B : Nat → Nat) (H : Heap) (locs : List Loc) (ls : Array Slot), jH (dC, dI) jCl [(cA, .int), (cL, .long)] (mW cA cL A M F L) Ap s H locs → lv_has ls 13 [(0, .ref (A 0)), (1, .int x1), (2, .int x2), (3, .int x3)] → fMo_run_40 n x1 x2 x3 M F L = some (r, M', F', L') → W p l e (headSpec wMo_run rMo_run).room s m args below meth c H locs 0 0 (jQi below (dC, dI) jCl [(cA, .int), (cL, .long)] (fun _ : Nat → Nat => mW cA cL A (M') (F') (L')) Ap args s r) (F0 m 40 ls []) := by
  obtain ⟨hx, hb, hml, hr, hts, hown, hlocks, hN⟩ := id hC
  have hj : ∀ w ∈ jw, w.before args s = true := fun w h => hts w (List.mem_cons_of_mem _ h)
  intro n
  induction n with
  | zero =>
    intro x1 x2 x3 M F L B H locs ls hJ hl h
    rw [fMo_run_40] at h
    cases h
  | succ n ih =>
    intro x1 x2 x3 M F L B H locs ls hJ hl h
    rw [fMo_run_40] at h
    refine lv_iload_n hx hb dMo_run_40 rfl (lv_at hl 3 rfl) ?_
    refine lv_aload_n hx hb dMo_run_41 rfl (lv_at hl 0 rfl) ?_
    refine mget_4 hx hb hj hown hJ (hj _ jw_603) dMo_run_42 ?_
    refine lv_icmp_ge (tgt := 291) hx hb dMo_run_45 (by decide) (fun c4 => ?_) (fun c4 => ?_)
    · replace h := jif_t c4 h
      refine lv_aload_n hx hb dMo_run_291 rfl (lv_at hl 0 rfl) ?_
      refine lv_iload_n hx hb dMo_run_292 rfl (lv_at hl 1 rfl) ?_
      obtain ⟨q5, hq5, h⟩ := jbi_h h
      refine jcallv (w' := fun _ : Nat → Nat => mW cA cL A q5.2.1 q5.2.2.1 q5.2.2.2) (va_runV (As := [.int x1]) (rest := []) ⟨hx, hb, hml, hown, hts⟩ (cMo_sort l dC dI cA cL A x1 M F L B H.size hq5) (cwV 1 hts (jgoodV jw_802 jw_804 jws_37 jw_7 jw_805) rfl rfl rfl (by decide +kernel) ⟨Nat.le_of_ble_eq_true rfl, Nat.le_of_ble_eq_true rfl⟩) (jpreV hN hJ (ci := 6) (q0 := 0) rfl rfl) rfl rfl hl.1 rfl (lv_room (Nat.le_of_ble_eq_true rfl)) dMo_run_293 ⟨Nat.zero_le _, Nat.zero_le _⟩) hA hJ (fun B H locs hJ => ?_)
      refine lv_iconst (v := 0) hx hb dMo_run_296 (by decide) ?_
      refine lv_istore_n (lv' := [(3, .int 0), (0, .ref (A 0)), (1, .int x1), (2, .int x2)]) hx hb dMo_run_297 rfl hl (by decide) rfl (fun ls hl => ?_)
      exact uMo_run_298 l dC dI cA cL A Ap hC hA jfuel _ _ _ _ _ _ B _ _ _ hJ (lv_sub hl [1, 2, 3, 0] rfl) h
    · replace h := jif_f c4 h
      refine lv_aload_n hx hb dMo_run_48 rfl (lv_at hl 0 rfl) ?_
      refine mget_14 hx hb hj hown hJ (hj _ jw_613) dMo_run_49 ?_
      refine lv_iload_n hx hb dMo_run_52 rfl (lv_at hl 3 rfl) ?_
      obtain ⟨hi9, h⟩ := jib_h h
      refine mald_12 hx hb hJ hi9 dMo_run_53 ?_
      refine lv_istore (lv' := [(4, .int (M 12 x3.toNatClampNeg)), (0, .ref (A 0)), (1, .int x1), (2, .int x2), (3, .int x3)]) hx hb dMo_run_54 hl (by decide) rfl (fun ls hl => ?_)
      refine lv_aload_n hx hb dMo_run_56 rfl (lv_at hl 1 rfl) ?_
      refine lv_iload_n hx hb dMo_run_57 rfl (lv_at hl 4 rfl) ?_
      obtain ⟨q10, hq10, h⟩ := jbi_h h
      refine jcalli (w' := fun _ : Nat → Nat => mW cA cL A M F L) (va_runV (As := [.int x3]) (rest := []) ⟨hx, hb, hml, hown, hts⟩ (cMo_ahead l dC dI cA cL A x3 M F L B H.size hq10) (cwV 1 hts (jgoodV jw_760 jw_762 jws_30 jw_7 jw_763) rfl rfl rfl (by decide +kernel) ⟨Nat.le_of_ble_eq_true rfl, Nat.le_of_ble_eq_true rfl⟩) (jpreV hN hJ (ci := 6) (q0 := 0) rfl rfl) rfl rfl hl.1 rfl (lv_room (Nat.le_of_ble_eq_true rfl)) dMo_run_58 ⟨Nat.zero_le _, Nat.zero_le _⟩) hA hJ (fun B H locs hJ => ?_)
      refine lv_istore (lv' := [(5, .int q10), (4, .int (M 12 x3.toNatClampNeg)), (0, .ref (A 0)), (1, .int x1), (2, .int x2), (3, .int x3)]) hx hb dMo_run_61 hl (by decide) rfl (fun ls hl => ?_)
      refine lv_aload_n hx hb dMo_run_63 rfl (lv_at hl 2 rfl) ?_
      refine lv_iload_n hx hb dMo_run_64 rfl (lv_at hl 5 rfl) ?_
      obtain ⟨q11, hq11, h⟩ := jbi_h h
      refine jcalli (w' := fun _ : Nat → Nat => mW cA cL A M F L) (va_runV (As := [.int x3]) (rest := []) ⟨hx, hb, hml, hown, hts⟩ (cMo_methodAt l dC dI cA cL A x3 M F L B H.size hq11) (cwV 1 hts (jgoodV jw_756 jw_758 jws_29 jw_7 jw_759) rfl rfl rfl (by decide +kernel) ⟨Nat.le_of_ble_eq_true rfl, Nat.le_of_ble_eq_true rfl⟩) (jpreV hN hJ (ci := 6) (q0 := 0) rfl rfl) rfl rfl hl.1 rfl (lv_room (Nat.le_of_ble_eq_true rfl)) dMo_run_65 ⟨Nat.zero_le _, Nat.zero_le _⟩) hA hJ (fun B H locs hJ => ?_)
      refine lv_istore (lv' := [(6, .int q11), (5, .int q10), (4, .int (M 12 x3.toNatClampNeg)), (0, .ref (A 0)), (1, .int x1), (2, .int x2), (3, .int x3)]) hx hb dMo_run_68 hl (by decide) rfl (fun ls hl => ?_)
      refine lv_iload hx hb dMo_run_70 (lv_at hl 0 rfl) ?_
      refine lv_iconst (v := 3) hx hb dMo_run_72 (by decide) ?_
      refine lv_icmp_ne (tgt := 80) hx hb dMo_run_73 (by decide) (fun c12 => ?_) (fun c12 => ?_)
      · replace h := jif_f c12 h
        refine lv_aload_n hx hb dMo_run_80 rfl (lv_at hl 3 rfl) ?_
        refine lv_iload hx hb dMo_run_81 (lv_at hl 0 rfl) ?_
        refine lv_iload hx hb dMo_run_83 (lv_at hl 2 rfl) ?_
        refine lv_iload hx hb dMo_run_85 (lv_at hl 1 rfl) ?_
        obtain ⟨q13, hq13, h⟩ := jbi_h h
        refine jcalli (w' := fun _ : Nat → Nat => mW cA cL A M F L) (va_runV (As := [.int q11, .int (M 12 x3.toNatClampNeg), .int q10]) (rest := []) ⟨hx, hb, hml, hown, hts⟩ (cMo_conditionFor l dC dI cA cL A q11 (M 12 x3.toNatClampNeg) q10 M F L B H.size hq13) (cwV 3 hts (jgoodV jw_764 jw_766 jws_31 jw_7 jw_767) rfl rfl rfl (by decide +kernel) ⟨Nat.le_of_ble_eq_true rfl, Nat.le_of_ble_eq_true rfl⟩) (jpreV hN hJ (ci := 6) (q0 := 0) rfl rfl) rfl rfl hl.1 rfl (lv_room (Nat.le_of_ble_eq_true rfl)) dMo_run_87 ⟨Nat.zero_le _, Nat.zero_le _⟩) hA hJ (fun B H locs hJ => ?_)
        refine uMo_run_90 l dC dI cA cL A Ap hC hA _ ?_ _ _ _ _ _ _ _ _ _ _ B _ _ _ hJ (lv_sub hl [3, 4, 5, 6, 2, 1, 0] rfl) h
        · intro x1 x2 x3 M F L B H locs ls hJ hl h
          exact ih _ _ _ _ _ _ B _ _ _ hJ (lv_sub hl [0, 1, 2, 3] rfl) h
      · replace h := jif_t c12 h
        refine lv_iconst (v := (-1)) hx hb dMo_run_76 (by decide) ?_
        refine lv_goto (tgt := 90) hx hb dMo_run_77 (by decide) ?_
        refine uMo_run_90 l dC dI cA cL A Ap hC hA _ ?_ _ _ _ _ _ _ _ _ _ _ B _ _ _ hJ (lv_sub hl [3, 4, 5, 6, 2, 1, 0] rfl) h
        · intro x1 x2 x3 M F L B H locs ls hJ hl h
          exact ih _ _ _ _ _ _ B _ _ _ hJ (lv_sub hl [0, 1, 2, 3] rfl) h
set_option maxHeartbeats 4000000 in
set_option maxRecDepth 100000 in
theorem uMo_run_28 {p : Program} {e : Env} {s : State} {m : MethodId} {args : Array Value} {below : List Frame} {meth : Method} {c : Code} (l : Launch) (dC : Nat → ClassId) (dI : Nat → Nat → Nat) (cA cL : ClassId) (A : Nat → Nat) (Ap : Nat → Prop) (hC : jAt p s m args meth c bMo_run 13 (some .int) wMo_run RMo) (hA : ∀ q : Nat, s.heap.size ≤ q → Ap q) {r : Int32} {M' : jM} {F' : jF} {L' : jL} : ∀ (s0 : Int32) (M : jM) (F : jF) (L : jL) (B : Nat → Nat) (H : Heap) (locs : List Loc) (ls : Array Slot), jH (dC, dI) jCl [(cA, .int), (cL, .long)] (mW cA cL A M F L) Ap s H locs → lv_has ls 13 [(0, .ref (A 0))] → fMo_run_28 s0 M F L = some (r, M', F', L') → W p l e (headSpec wMo_run rMo_run).room s m args below meth c H locs 0 0 (jQi below (dC, dI) jCl [(cA, .int), (cL, .long)] (fun _ : Nat → Nat => mW cA cL A (M') (F') (L')) Ap args s r) (F0 m 28 ls [.int s0]) := by
  obtain ⟨hx, hb, hml, hr, hts, hown, hlocks, hN⟩ := id hC
  have hj : ∀ w ∈ jw, w.before args s = true := fun w h => hts w (List.mem_cons_of_mem _ h)
  intro s0 M F L B H locs ls hJ hl h
  unfold fMo_run_28 at h
  refine lv_istore_n (lv' := [(1, .int s0), (0, .ref (A 0))]) hx hb dMo_run_28 rfl hl (by decide) rfl (fun ls hl => ?_)
  refine lv_iconst (v := 0) hx hb dMo_run_29 (by decide) ?_
  refine lv_istore_n (lv' := [(2, .int 0), (1, .int s0), (0, .ref (A 0))]) hx hb dMo_run_30 rfl hl (by decide) rfl (fun ls hl => ?_)
  refine lv_aload_n hx hb dMo_run_31 rfl (lv_at hl 2 rfl) ?_
  refine mget_19 hx hb hj hown hJ (hj _ jw_618) dMo_run_32 ?_
  refine lv_iconst (v := 0) hx hb dMo_run_35 (by decide) ?_
  refine lv_iconst (v := 0) hx hb dMo_run_36 (by decide) ?_
  obtain ⟨hi3, h⟩ := jib_h h
  refine mast_14 hx hb hJ hi3 dMo_run_37 (fun H locs hJ => ?_)
  refine lv_iconst (v := 0) hx hb dMo_run_38 (by decide) ?_
  refine lv_istore_n (lv' := [(3, .int 0), (2, .int 0), (1, .int s0), (0, .ref (A 0))]) hx hb dMo_run_39 rfl hl (by decide) rfl (fun ls hl => ?_)
  exact uMo_run_40 l dC dI cA cL A Ap hC hA jfuel _ _ _ _ _ _ B _ _ _ hJ (lv_sub hl [3, 2, 1, 0] rfl) h
set_option maxHeartbeats 4000000 in
set_option maxRecDepth 100000 in
theorem uMo_run_16 {p : Program} {e : Env} {s : State} {m : MethodId} {args : Array Value} {below : List Frame} {meth : Method} {c : Code} (l : Launch) (dC : Nat → ClassId) (dI : Nat → Nat → Nat) (cA cL : ClassId) (A : Nat → Nat) (Ap : Nat → Prop) (hC : jAt p s m args meth c bMo_run 13 (some .int) wMo_run RMo) (hA : ∀ q : Nat, s.heap.size ≤ q → Ap q) {r : Int32} {M' : jM} {F' : jF} {L' : jL} : ∀ (M : jM) (F : jF) (L : jL) (B : Nat → Nat) (H : Heap) (locs : List Loc) (ls : Array Slot), jH (dC, dI) jCl [(cA, .int), (cL, .long)] (mW cA cL A M F L) Ap s H locs → lv_has ls 13 [(0, .ref (A 0))] → fMo_run_16 M F L = some (r, M', F', L') → W p l e (headSpec wMo_run rMo_run).room s m args below meth c H locs 0 0 (jQi below (dC, dI) jCl [(cA, .int), (cL, .long)] (fun _ : Nat → Nat => mW cA cL A (M') (F') (L')) Ap args s r) (F0 m 16 ls []) := by
  obtain ⟨hx, hb, hml, hr, hts, hown, hlocks, hN⟩ := id hC
  have hj : ∀ w ∈ jw, w.before args s = true := fun w h => hts w (List.mem_cons_of_mem _ h)
  intro  M F L B H locs ls hJ hl h
  unfold fMo_run_16 at h
  refine lv_aload_n hx hb dMo_run_16 rfl (lv_at hl 0 rfl) ?_
  refine mget_4 hx hb hj hown hJ (hj _ jw_603) dMo_run_17 ?_
  refine lv_if_le (tgt := 27) hx hb dMo_run_20 (by decide) (fun c2 => ?_) (fun c2 => ?_)
  · replace h := jif_t c2 h
    refine lv_iconst (v := 0) hx hb dMo_run_27 (by decide) ?_
    exact uMo_run_28 l dC dI cA cL A Ap hC hA _ _ _ _ B _ _ _ hJ (lv_sub hl [0] rfl) h
  · replace h := jif_f c2 h
    refine lv_iconst (v := 1) hx hb dMo_run_23 (by decide) ?_
    refine lv_goto (tgt := 28) hx hb dMo_run_24 (by decide) ?_
    exact uMo_run_28 l dC dI cA cL A Ap hC hA _ _ _ _ B _ _ _ hJ (lv_sub hl [0] rfl) h
set_option maxHeartbeats 4000000 in
set_option maxRecDepth 100000 in
theorem uMo_run_0 {p : Program} {e : Env} {s : State} {m : MethodId} {args : Array Value} {below : List Frame} {meth : Method} {c : Code} (l : Launch) (dC : Nat → ClassId) (dI : Nat → Nat → Nat) (cA cL : ClassId) (A : Nat → Nat) (Ap : Nat → Prop) (hC : jAt p s m args meth c bMo_run 13 (some .int) wMo_run RMo) (hA : ∀ q : Nat, s.heap.size ≤ q → Ap q) {r : Int32} {M' : jM} {F' : jF} {L' : jL} : ∀ (M : jM) (F : jF) (L : jL) (B : Nat → Nat) (H : Heap) (locs : List Loc) (ls : Array Slot), jH (dC, dI) jCl [(cA, .int), (cL, .long)] (mW cA cL A M F L) Ap s H locs → lv_has ls 13 [(0, .ref (A 0))] → fMo_run_0 M F L = some (r, M', F', L') → W p l e (headSpec wMo_run rMo_run).room s m args below meth c H locs 0 0 (jQi below (dC, dI) jCl [(cA, .int), (cL, .long)] (fun _ : Nat → Nat => mW cA cL A (M') (F') (L')) Ap args s r) (F0 m 0 ls []) := by
  obtain ⟨hx, hb, hml, hr, hts, hown, hlocks, hN⟩ := id hC
  have hj : ∀ w ∈ jw, w.before args s = true := fun w h => hts w (List.mem_cons_of_mem _ h)
  intro  M F L B H locs ls hJ hl h
  unfold fMo_run_0 at h
  refine lv_aload_n hx hb dMo_run_0 rfl (lv_at hl 0 rfl) ?_
  refine lv_iconst (v := 0) hx hb dMo_run_1 (by decide) ?_
  refine mput_0 hx hb hj hown hJ (hj _ jw_599) dMo_run_2 (fun H locs hJ => ?_)
  refine lv_aload_n hx hb dMo_run_5 rfl (lv_at hl 0 rfl) ?_
  refine mget_4 hx hb hj hown hJ (hj _ jw_603) dMo_run_6 ?_
  refine lv_if_le (tgt := 16) hx hb dMo_run_9 (by decide) (fun c1 => ?_) (fun c1 => ?_)
  · replace h := jif_t c1 h
    exact uMo_run_16 l dC dI cA cL A Ap hC hA _ _ _ B _ _ _ hJ (lv_sub hl [0] rfl) h
  · replace h := jif_f c1 h
    refine lv_aload_n hx hb dMo_run_12 rfl (lv_at hl 0 rfl) ?_
    obtain ⟨q32, hq32, h⟩ := jbi_h h
    refine jcallv (w' := fun _ : Nat → Nat => mW cA cL A q32.2.1 q32.2.2.1 q32.2.2.2) (va_runV (As := []) (rest := []) ⟨hx, hb, hml, hown, hts⟩ (cMo_makePlan l dC dI cA cL A M (jfu F 0 0) L B H.size hq32) (cwV 0 hts (jgoodV jw_715 jw_717 jws_20 jw_7 jw_718) rfl rfl rfl (by decide +kernel) ⟨Nat.le_of_ble_eq_true rfl, Nat.le_of_ble_eq_true rfl⟩) (jpreV hN hJ (ci := 6) (q0 := 0) rfl rfl) rfl rfl hl.1 rfl (lv_room (Nat.le_of_ble_eq_true rfl)) dMo_run_13 ⟨Nat.zero_le _, Nat.zero_le _⟩) hA hJ (fun B H locs hJ => ?_)
    exact uMo_run_16 l dC dI cA cL A Ap hC hA _ _ _ B _ _ _ hJ (lv_sub hl [0] rfl) h
set_option maxHeartbeats 4000000 in
set_option maxRecDepth 100000 in
theorem cMo_run (l : Launch) (dC : Nat → ClassId) (dI : Nat → Nat → Nat) (cA cL : ClassId) (A : Nat → Nat) (M : jM) (F : jF) (L : jL) (B : Nat → Nat) (sz : Nat) {r : Int32} {M' : jM} {F' : jF} {L' : jL} (h : fMo_run M F L = some (r, M', F', L')) : jCi l yMo_run wMo_run rMo_run (dC, dI) jCl [(cA, .int), (cL, .long)] [.ref (A 0)] (mW cA cL A M F L) sz r (fun _ : Nat → Nat => mW cA cL A (M') (F') (L')) :=
  jOf (Qc := fun Ap => va_Qi (fun q (_ : Nat → Nat) => q = r) (jPost (dC, dI) jCl [(cA, .int), (cL, .long)] (fun _ : Nat → Nat => mW cA cL A (M') (F') (L')) Ap) Ap) (by decide) rfl (Nat.le_of_ble_eq_true rfl) (fun p e s m below meth c Ap ls hC hA hJ hl => uMo_run_0 l dC dI cA cL A Ap hC hA _ _ _ B _ _ _ hJ (lv_sub hl [0] rfl) h)
