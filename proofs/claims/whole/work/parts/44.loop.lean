/-! a relation between class and reference that every call keeps -/
def jS0 (I : jM → jF → jM → jF → jL → Prop) : Prop := ∀ (M : jM) (F : jF) (M2 : jM) (F2 : jF) (L2 : jL), I M F M2 F2 L2 → ∀ (p1 p2 : Int32) (O : Nat → Int64), ∃ (k : Int32) (M' : jM) (F' : jF) (O' : Nat → Int64) (bv : Int32) (M2' : jM) (F2' : jF) (L2' : jL), hLa_table p1 p2 M F O = some (k, M', F', O') ∧ fMo_table p1 p2 M2 F2 L2 = some (bv, M2', F2', L2') ∧ F2' 0 = k ∧ I M' F' M2' F2' L2'
def jS1 (I : jM → jF → jM → jF → jL → Prop) : Prop := ∀ (M : jM) (F : jF) (M2 : jM) (F2 : jF) (L2 : jL), I M F M2 F2 L2 → ∀ (p1 p2 p3 p4 p5 : Int32) (O : Nat → Int64), ∃ (k : Int32) (M' : jM) (F' : jF) (O' : Nat → Int64) (bv : Int32) (M2' : jM) (F2' : jF) (L2' : jL), hLa_row p1 p2 p3 p4 p5 M F O = some (k, M', F', O') ∧ fMo_row p1 p2 p3 p4 p5 M2 F2 L2 = some (bv, M2', F2', L2') ∧ F2' 0 = k ∧ (k = 0 → O' (0 : Int32).toNatClampNeg = Int32.toInt64 bv) ∧ I M' F' M2' F2' L2'
def jS2 (I : jM → jF → jM → jF → jL → Prop) : Prop := ∀ (M : jM) (F : jF) (M2 : jM) (F2 : jF) (L2 : jL), I M F M2 F2 L2 → ∃ (k : Int32) (M' : jM) (F' : jF) (bv : Int32) (M2' : jM) (F2' : jF) (L2' : jL), fJh_clear M F = some (k, M', F') ∧ fMo_clear M2 F2 L2 = some (bv, M2', F2', L2') ∧ I M' F' M2' F2' L2'
def jS3 (I : jM → jF → jM → jF → jL → Prop) : Prop := ∀ (M : jM) (F : jF) (M2 : jM) (F2 : jF) (L2 : jL), I M F M2 F2 L2 → ∀ (p1 : Int32) (O : Nat → Int64), ∃ (k : Int32) (M' : jM) (F' : jF) (O' : Nat → Int64) (bv : Int32) (M2' : jM) (F2' : jF) (L2' : jL), hLa_generator p1 M F O = some (k, M', F', O') ∧ fMo_generator p1 M2 F2 L2 = some (bv, M2', F2', L2') ∧ F2' 0 = k ∧ (k = 0 → O' (0 : Int32).toNatClampNeg = Int32.toInt64 bv) ∧ I M' F' M2' F2' L2'
def jS4 (I : jM → jF → jM → jF → jL → Prop) : Prop := ∀ (M : jM) (F : jF) (M2 : jM) (F2 : jF) (L2 : jL), I M F M2 F2 L2 → ∀ (p1 p2 p3 p4 : Int32) (O : Nat → Int64), ∃ (k : Int32) (M' : jM) (F' : jF) (O' : Nat → Int64) (bv : Int32) (M2' : jM) (F2' : jF) (L2' : jL), hLa_equal p1 p2 p3 p4 M F O = some (k, M', F', O') ∧ fMo_equal p1 p2 p3 p4 M2 F2 L2 = some (bv, M2', F2', L2') ∧ F2' 0 = k ∧ (k = 0 → O' (0 : Int32).toNatClampNeg = Int32.toInt64 bv) ∧ I M' F' M2' F2' L2'
def jS5 (I : jM → jF → jM → jF → jL → Prop) : Prop := ∀ (M : jM) (F : jF) (M2 : jM) (F2 : jF) (L2 : jL), I M F M2 F2 L2 → ∀ (p1 p2 p3 : Int32) (O : Nat → Int64), ∃ (k : Int32) (M' : jM) (F' : jF) (O' : Nat → Int64) (bv : Int32) (M2' : jM) (F2' : jF) (L2' : jL), hLa_number p1 p2 p3 M F O = some (k, M', F', O') ∧ fMo_number p1 p2 p3 M2 F2 L2 = some (bv, M2', F2', L2') ∧ F2' 0 = k ∧ (k = 0 → O' (0 : Int32).toNatClampNeg = Int32.toInt64 bv) ∧ I M' F' M2' F2' L2'
def jS6 (I : jM → jF → jM → jF → jL → Prop) : Prop := ∀ (M : jM) (F : jF) (M2 : jM) (F2 : jF) (L2 : jL), I M F M2 F2 L2 → ∀ (p1 p2 p3 p4 : Int32) (O : Nat → Int64), ∃ (k : Int32) (M' : jM) (F' : jF) (O' : Nat → Int64) (bv : Int32) (M2' : jM) (F2' : jF) (L2' : jL), hLa_less p1 p2 p3 p4 M F O = some (k, M', F', O') ∧ fMo_less p1 p2 p3 p4 M2 F2 L2 = some (bv, M2', F2', L2') ∧ F2' 0 = k ∧ (k = 0 → O' (0 : Int32).toNatClampNeg = Int32.toInt64 bv) ∧ I M' F' M2' F2' L2'
def jS7 (I : jM → jF → jM → jF → jL → Prop) : Prop := ∀ (M : jM) (F : jF) (M2 : jM) (F2 : jF) (L2 : jL), I M F M2 F2 L2 → ∀ (p1 : Int32) (O : Nat → Int64), ∃ (k : Int32) (M' : jM) (F' : jF) (O' : Nat → Int64) (bv : Int32) (M2' : jM) (F2' : jF) (L2' : jL), hLa_plan p1 M F O = some (k, M', F', O') ∧ fMo_plan p1 M2 F2 L2 = some (bv, M2', F2', L2') ∧ F2' 0 = k ∧ (k = 0 → O' (0 : Int32).toNatClampNeg = Int32.toInt64 bv) ∧ I M' F' M2' F2' L2'
def jS8 (I : jM → jF → jM → jF → jL → Prop) : Prop := ∀ (M : jM) (F : jF) (M2 : jM) (F2 : jF) (L2 : jL), I M F M2 F2 L2 → ∀ (p1 : Int32) (O : Nat → Int64), ∃ (k : Int32) (M' : jM) (F' : jF) (O' : Nat → Int64) (bv : Int32) (M2' : jM) (F2' : jF) (L2' : jL), hLa_method p1 M F O = some (k, M', F', O') ∧ fMo_method p1 M2 F2 L2 = some (bv, M2', F2', L2') ∧ F2' 0 = k ∧ (k = 0 → O' (0 : Int32).toNatClampNeg = Int32.toInt64 bv) ∧ I M' F' M2' F2' L2'
def jS9 (I : jM → jF → jM → jF → jL → Prop) : Prop := ∀ (M : jM) (F : jF) (M2 : jM) (F2 : jF) (L2 : jL), I M F M2 F2 L2 → ∀ (p1 : Int32) (O : Nat → Int64), ∃ (k : Int32) (M' : jM) (F' : jF) (O' : Nat → Int64) (bv : Int32) (M2' : jM) (F2' : jF) (L2' : jL), hLa_size p1 M F O = some (k, M', F', O') ∧ fMo_size p1 M2 F2 L2 = some (bv, M2', F2', L2') ∧ F2' 0 = k ∧ (k = 0 → O' (0 : Int32).toNatClampNeg = Int32.toInt64 bv) ∧ I M' F' M2' F2' L2'
def jS10 (I : jM → jF → jM → jF → jL → Prop) : Prop := ∀ (M : jM) (F : jF) (M2 : jM) (F2 : jF) (L2 : jL), I M F M2 F2 L2 → ∀ (O : Nat → Int64), ∃ (k : Int32) (M' : jM) (F' : jF) (O' : Nat → Int64) (bv : Int32) (M2' : jM) (F2' : jF) (L2' : jL), hLa_run  M F O = some (k, M', F', O') ∧ fMo_run  M2 F2 L2 = some (bv, M2', F2', L2') ∧ F2' 0 = k ∧ (k = 0 → O' (0 : Int32).toNatClampNeg = Int32.toInt64 bv) ∧ I M' F' M2' F2' L2'
def jS11 (I : jM → jF → jM → jF → jL → Prop) : Prop := ∀ (M : jM) (F : jF) (M2 : jM) (F2 : jF) (L2 : jL), I M F M2 F2 L2 → ∃ (k bv : Int32) (M2' : jM) (F2' : jF) (L2' : jL), fJh_looks M F = some k ∧ fMo_looks M2 F2 L2 = some (bv, M2', F2', L2') ∧ k = bv ∧ I M F M2' F2' L2'
def jS12 (I : jM → jF → jM → jF → jL → Prop) : Prop := ∀ (M : jM) (F : jF) (M2 : jM) (F2 : jF) (L2 : jL), I M F M2 F2 L2 → ∀ (p1 p2 : Int32) (O : Nat → Int64), ∃ (k : Int32) (M' : jM) (F' : jF) (O' : Nat → Int64) (bv : Int32) (M2' : jM) (F2' : jF) (L2' : jL), hLa_way p1 p2 M F O = some (k, M', F', O') ∧ fMo_way p1 p2 M2 F2 L2 = some (bv, M2', F2', L2') ∧ F2' 0 = k ∧ (k = 0 → O' (0 : Int32).toNatClampNeg = Int32.toInt64 bv) ∧ I M' F' M2' F2' L2'
def jSim (I : jM → jF → jM → jF → jL → Prop) : Prop := jS0 I ∧ jS1 I ∧ jS2 I ∧ jS3 I ∧ jS4 I ∧ jS5 I ∧ jS6 I ∧ jS7 I ∧ jS8 I ∧ jS9 I ∧ jS10 I ∧ jS11 I ∧ jS12 I
theorem law_in {L i j : Nat} {x : Int32} (hx : x = nI i) (hj : i + j < L) (hL : L ≤ 3072) : vp_in (x + nI j) L := by
  rw [hx, nI_add]
  exact vp_in_nI hj (by omega)
theorem law_gt {L i : Nat} {x : Int32} (hx : x = nI i) (hL : L ≤ 3072) (hi : i ≤ L) (h : ¬ nI L - 6 < x) : i + 6 ≤ L := by
  have h1 : (nI L - nI 6).toInt = (L : Int) - (6 : Nat) := pk_sub_toInt (by omega) (by decide)
  rw [show (6 : Int32) = nI 6 from rfl, Int32.lt_iff_toInt_lt, h1, hx, nI_toInt (by omega)] at h
  omega
set_option maxHeartbeats 4000000 in
set_option maxRecDepth 100000 in
theorem law_loop {p : Program} {l : Launch} {e : Env} {s : State} {m : MethodId} {below : List Frame} {meth : Method} {c : Code} {b L : Nat} {xs : Nat → Int32} (C0 : lAt p l s m meth c b L xs) (hL : L ≤ 3072) (dC : Nat → ClassId) (dI : Nat → Nat → Nat) (cA cL : ClassId) (A A2 : Nat → Nat) (ao : Nat) (I : jM → jF → jM → jF → jL → Prop) (hs : jSim I) :
    ∀ (n t : Nat) (x4 : Int32), 6 * t ≤ L → L - 6 * t < n → x4 = nI (6 * t) → ∀ (M : jM) (F : jF) (M2 : jM) (F2 : jF) (L2 : jL) (O : Nat → Int64), I M F M2 F2 L2 → ∀ (B : Nat → Nat) (H : Heap) (locs : List Loc) (ls : Array Slot), jH (dC, dI) jCl [(cA, .int), (cL, .long)] (wL cA cL A B A2 ao M F M2 F2 L2 O) (lAp s) s H locs → lv_has ls 7 [(0, .ref b), (1, .ref (A 0)), (2, .ref (A2 0)), (3, .ref ao), (4, .int x4)] → W p l e room_1 s m #[Value.ref b] below meth c H locs (44 + t) (20343 + 6 * t) (lw_Z below #[Value.ref b] s) (F0 m 23 ls []) := by
  obtain ⟨hx, hb, hr, hml, hown, hts, hXs, hbl, hlocks, hl0, hN, hX, hnc⟩ := id C0
  have hbA : ¬ lAp s b := Nat.not_le.mpr hbl
  obtain ⟨hs0, hs1, hs2, hs3, hs4, hs5, hs6, hs7, hs8, hs9, hs10, hs11, hs12⟩ := id hs
  intro n
  induction n with
  | zero => intro t x4 _ h; omega
  | succ n ih =>
    intro t x4 ht hn ex4 M F M2 F2 L2 O hI B H locs ls hJ hl
    have hk : ∀ (M : jM) (F : jF) (M2 : jM) (F2 : jF) (L2 : jL) (O : Nat → Int64), 6 * t + 6 ≤ L → I M F M2 F2 L2 → ∀ (B : Nat → Nat) (H : Heap) (locs : List Loc) (ls : Array Slot), jH (dC, dI) jCl [(cA, .int), (cL, .long)] (wL cA cL A B A2 ao M F M2 F2 L2 O) (lAp s) s H locs → lv_has ls 7 [(0, .ref b), (1, .ref (A 0)), (2, .ref (A2 0)), (3, .ref ao), (4, .int x4)] → W p l e room_1 s m #[Value.ref b] below meth c H locs (44 + t + 1) (20343 + 6 * t + 6) (lw_Z below #[Value.ref b] s) (F0 m 884 ls []) := by
      intro M F M2 F2 L2 O h6 hI B H locs ls hJ hl
      refine lv_iinc (v := x4 + 6) (lv' := [(4, .int (x4 + 6)), (0, .ref b), (1, .ref (A 0)), (2, .ref (A2 0)), (3, .ref ao)]) hx hb dLa_law_884 hl (k := 4) rfl rfl (by decide) rfl (fun ls hl => ?_)
      refine lv_goto (tgt := 23) hx hb dLa_law_887 (by decide) ?_
      refine W.cs (cells' := 44 + (t + 1)) (slots' := 20343 + 6 * (t + 1)) (by omega) (by omega) ?_
      exact ih (t + 1) (x4 + 6) (by omega) (by omega) (by rw [ex4, show (6 : Int32) = nI 6 from rfl, nI_add]; rfl) M F M2 F2 L2 O hI B H locs ls hJ (lv_sub hl [1, 2, 3, 4, 0] rfl)
    refine lv_iload hx hb dLa_law_23 (lv_at hl 4 rfl) ?_
    refine lv_aload_n hx hb dLa_law_25 rfl (lv_at hl 0 rfl) ?_
    refine va_slen hx hb hXs hbl hbA hJ.2.2.2 dLa_law_26 ?_
    refine lv_bipush (v := 6) hx hb dLa_law_27 (by decide) ?_
    refine lv_isub hx hb dLa_law_29 ?_
    refine lv_icmp_gt (tgt := 890) hx hb dLa_law_30 (by decide) (fun c1 => ?_) (fun c1 => ?_)
    · refine lv_iconst (v := 1) hx hb dLa_law_890 (by decide) ?_
      refine va_forget (fun q hq => hJ.2.2.2.2.2 q hq) ?_
      refine W.widen (k := 1081) (n := 28613) (by omega) (by omega) ?_
      exact lw_ret hx hb hr hlocks dLa_law_891
    · have h6 : 6 * t + 6 ≤ L := law_gt ex4 hL ht c1
      have hn9 : 44 + t + 1 ≤ room_1.cells := by show 44 + t + 1 ≤ 1081; omega
      have hm9 : 20343 + 6 * t + 6 ≤ room_1.slots := by show 20343 + 6 * t + 6 ≤ 28613; omega
      have hi0 : vp_in x4 L := by rw [ex4]; exact vp_in_nI (by omega) (by omega)
      have hi1 : vp_in (x4 + 1) L := law_in (j := 1) ex4 (by omega) hL
      have hi2 : vp_in (x4 + 2) L := law_in (j := 2) ex4 (by omega) hL
      have hi3 : vp_in (x4 + 3) L := law_in (j := 3) ex4 (by omega) hL
      have hi4 : vp_in (x4 + 4) L := law_in (j := 4) ex4 (by omega) hL
      have hi5 : vp_in (x4 + 5) L := law_in (j := 5) ex4 (by omega) hL
      refine lv_aload_n hx hb dLa_law_33 rfl (lv_at hl 0 rfl) ?_
      refine lv_iload hx hb dLa_law_34 (lv_at hl 4 rfl) ?_
      refine va_sld hx hb hXs hbl hbA hJ.2.2.2 hi0 dLa_law_36 ?_
      refine lv_bipush (v := 15) hx hb dLa_law_37 (by decide) ?_
      refine lv_iand hx hb dLa_law_39 ?_
      obtain ⟨j, hj, ej⟩ := pk_andE (xs x4.toNatClampNeg) (m := 15) 4 (by decide)
      rw [ej]
      rcases (show j = 0 ∨ j = 1 ∨ j = 2 ∨ j = 3 ∨ j = 4 ∨ j = 5 ∨ j = 6 ∨ j = 7 ∨ j = 8 ∨ j = 9 ∨ j = 10 ∨ j = 11 ∨ j = 12 ∨ 13 ≤ j by omega) with rfl | rfl | rfl | rfl | rfl | rfl | rfl | rfl | rfl | rfl | rfl | rfl | rfl | hj13
      · refine lv_tableIn (off := 68) (tgt := 108) hx hb dLa_law_40 (by decide) (by decide) (by decide) (by decide) ?_
        obtain ⟨k, M', F', O', bv, M2', F2', L2', g1, g2, g3, g4⟩ := hs0 M F M2 F2 L2 hI (xs (x4 + 1).toNatClampNeg) (xs (x4 + 2).toNatClampNeg) O
        exact law_c0 C0 dC dI cA cL A A2 ao hi1 hi2 hn9 hm9 g1 g2 g3 (hk M' F' M2' F2' L2' O' h6 g4) B H locs ls hJ hl
      · refine lv_tableIn (off := 116) (tgt := 156) hx hb dLa_law_40 (by decide) (by decide) (by decide) (by decide) ?_
        obtain ⟨k, M', F', O', bv, M2', F2', L2', g1, g2, g3, g5, g4⟩ := hs1 M F M2 F2 L2 hI (xs (x4 + 1).toNatClampNeg) (xs (x4 + 2).toNatClampNeg) (xs (x4 + 3).toNatClampNeg) (xs (x4 + 4).toNatClampNeg) (xs (x4 + 5).toNatClampNeg) O
        exact law_c1 C0 dC dI cA cL A A2 ao hi1 hi2 hi3 hi4 hi5 hn9 hm9 g1 g2 g3 g5 (hk M' F' M2' F2' L2' O' h6 g4) B H locs ls hJ hl
      · refine lv_tableIn (off := 220) (tgt := 260) hx hb dLa_law_40 (by decide) (by decide) (by decide) (by decide) ?_
        obtain ⟨k, M', F', bv, M2', F2', L2', g1, g2, g4⟩ := hs2 M F M2 F2 L2 hI
        exact law_c2 (O' := O) C0 dC dI cA cL A A2 ao hn9 hm9 g1 g2 (fun B H locs ls hJ hl => W.widen (by omega) (by omega) (hk M' F' M2' F2' L2' O h6 g4 B H locs ls hJ hl)) B H locs ls hJ hl
      · refine lv_tableIn (off := 231) (tgt := 271) hx hb dLa_law_40 (by decide) (by decide) (by decide) (by decide) ?_
        obtain ⟨k, M', F', O', bv, M2', F2', L2', g1, g2, g3, g5, g4⟩ := hs3 M F M2 F2 L2 hI (xs (x4 + 1).toNatClampNeg) O
        exact law_c3 C0 dC dI cA cL A A2 ao hi1 hn9 hm9 g1 g2 g3 g5 (hk M' F' M2' F2' L2' O' h6 g4) B H locs ls hJ hl
      · refine lv_tableIn (off := 287) (tgt := 327) hx hb dLa_law_40 (by decide) (by decide) (by decide) (by decide) ?_
        obtain ⟨k, M', F', O', bv, M2', F2', L2', g1, g2, g3, g5, g4⟩ := hs4 M F M2 F2 L2 hI (xs (x4 + 1).toNatClampNeg) (xs (x4 + 2).toNatClampNeg) (xs (x4 + 3).toNatClampNeg) (xs (x4 + 4).toNatClampNeg) O
        exact law_c4 C0 dC dI cA cL A A2 ao hi1 hi2 hi3 hi4 hn9 hm9 g1 g2 g3 g5 (hk M' F' M2' F2' L2' O' h6 g4) B H locs ls hJ hl
      · refine lv_tableIn (off := 379) (tgt := 419) hx hb dLa_law_40 (by decide) (by decide) (by decide) (by decide) ?_
        obtain ⟨k, M', F', O', bv, M2', F2', L2', g1, g2, g3, g5, g4⟩ := hs5 M F M2 F2 L2 hI (xs (x4 + 1).toNatClampNeg) (xs (x4 + 2).toNatClampNeg) (xs (x4 + 3).toNatClampNeg) O
        exact law_c5 C0 dC dI cA cL A A2 ao hi1 hi2 hi3 hn9 hm9 g1 g2 g3 g5 (hk M' F' M2' F2' L2' O' h6 g4) B H locs ls hJ hl
      · refine lv_tableIn (off := 459) (tgt := 499) hx hb dLa_law_40 (by decide) (by decide) (by decide) (by decide) ?_
        obtain ⟨k, M', F', O', bv, M2', F2', L2', g1, g2, g3, g5, g4⟩ := hs6 M F M2 F2 L2 hI (xs (x4 + 1).toNatClampNeg) (xs (x4 + 2).toNatClampNeg) (xs (x4 + 3).toNatClampNeg) (xs (x4 + 4).toNatClampNeg) O
        exact law_c6 C0 dC dI cA cL A A2 ao hi1 hi2 hi3 hi4 hn9 hm9 g1 g2 g3 g5 (hk M' F' M2' F2' L2' O' h6 g4) B H locs ls hJ hl
      · refine lv_tableIn (off := 551) (tgt := 591) hx hb dLa_law_40 (by decide) (by decide) (by decide) (by decide) ?_
        obtain ⟨k, M', F', O', bv, M2', F2', L2', g1, g2, g3, g5, g4⟩ := hs7 M F M2 F2 L2 hI (xs (x4 + 1).toNatClampNeg) O
        exact law_c7 C0 dC dI cA cL A A2 ao hi1 hn9 hm9 g1 g2 g3 g5 (hk M' F' M2' F2' L2' O' h6 g4) B H locs ls hJ hl
      · refine lv_tableIn (off := 607) (tgt := 647) hx hb dLa_law_40 (by decide) (by decide) (by decide) (by decide) ?_
        obtain ⟨k, M', F', O', bv, M2', F2', L2', g1, g2, g3, g5, g4⟩ := hs8 M F M2 F2 L2 hI (xs (x4 + 1).toNatClampNeg) O
        exact law_c8 C0 dC dI cA cL A A2 ao hi1 hn9 hm9 g1 g2 g3 g5 (hk M' F' M2' F2' L2' O' h6 g4) B H locs ls hJ hl
      · refine lv_tableIn (off := 663) (tgt := 703) hx hb dLa_law_40 (by decide) (by decide) (by decide) (by decide) ?_
        obtain ⟨k, M', F', O', bv, M2', F2', L2', g1, g2, g3, g5, g4⟩ := hs9 M F M2 F2 L2 hI (xs (x4 + 1).toNatClampNeg) O
        exact law_c9 C0 dC dI cA cL A A2 ao hi1 hn9 hm9 g1 g2 g3 g5 (hk M' F' M2' F2' L2' O' h6 g4) B H locs ls hJ hl
      · refine lv_tableIn (off := 719) (tgt := 759) hx hb dLa_law_40 (by decide) (by decide) (by decide) (by decide) ?_
        obtain ⟨k, M', F', O', bv, M2', F2', L2', g1, g2, g3, g5, g4⟩ := hs10 M F M2 F2 L2 hI  O
        exact law_c10 C0 dC dI cA cL A A2 ao  hn9 hm9 g1 g2 g3 g5 (hk M' F' M2' F2' L2' O' h6 g4) B H locs ls hJ hl
      · refine lv_tableIn (off := 763) (tgt := 803) hx hb dLa_law_40 (by decide) (by decide) (by decide) (by decide) ?_
        obtain ⟨k, bv, M2', F2', L2', g1, g2, g3, g4⟩ := hs11 M F M2 F2 L2 hI
        exact law_c11 (M' := M) (F' := F) (O' := O) C0 dC dI cA cL A A2 ao hn9 hm9 g1 g2 g3 (fun B H locs ls hJ hl => W.widen (by omega) (by omega) (hk M F M2' F2' L2' O h6 g4 B H locs ls hJ hl)) B H locs ls hJ hl
      · refine lv_tableIn (off := 776) (tgt := 816) hx hb dLa_law_40 (by decide) (by decide) (by decide) (by decide) ?_
        obtain ⟨k, M', F', O', bv, M2', F2', L2', g1, g2, g3, g5, g4⟩ := hs12 M F M2 F2 L2 hI (xs (x4 + 1).toNatClampNeg) (xs (x4 + 2).toNatClampNeg) O
        exact law_c12 C0 dC dI cA cL A A2 ao hi1 hi2 hn9 hm9 g1 g2 g3 g5 (hk M' F' M2' F2' L2' O' h6 g4) B H locs ls hJ hl
      · refine lv_tableOut (tgt := 884) hx hb dLa_law_40 (Or.inr (by rw [nI_toInt (by omega)]; omega)) (by decide) ?_
        exact W.widen (by omega) (by omega) (hk M F M2 F2 L2 O h6 hI B H locs ls hJ hl)
