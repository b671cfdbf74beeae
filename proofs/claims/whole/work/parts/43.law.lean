/-! the law -/
theorem jgL {b : List Cond} (h : ∀ w ∈ b, w ∈ jw) : GoodIn lw_tbl b := fun w hw => ⟨jw_in (h w hw), jw_ok (h w hw)⟩
theorem jgLS {c2 : Cond} {own : String} {i : Nat} {y : MethodName} (h1 : Cond.methodLink own i y ∈ jw) (h2 : Cond.static y ∈ jw) (h4 : Cond.initialized y.cls ∈ jw) (hc : c2 ∈ jw) : GoodIn lw_tbl (va_wsS own i y (c2 :: jw)) := jgL (by
  intro w h
  simp only [va_wsS, List.cons_append, List.nil_append, List.mem_cons] at h
  rcases h with rfl | rfl | rfl | rfl | h
  · exact h1
  · exact h2
  · exact h4
  · exact hc
  · exact h)
theorem jgLV {c2 : Cond} {own C : String} {i : Nat} {y : MethodName} (h1 : Cond.methodLink own i y ∈ jw) (h2 : Cond.instanceMethod y ∈ jw) (h3 : Cond.selects C y y ∈ jw) (h4 : Cond.initialized C ∈ jw) (hc : c2 ∈ jw) : GoodIn lw_tbl (wsV own i C y (c2 :: jw)) := jgL (by
  intro w h
  simp only [wsV, List.cons_append, List.nil_append, List.mem_cons] at h
  rcases h with rfl | rfl | rfl | rfl | rfl | h
  · exact h1
  · exact h2
  · exact h3
  · exact h4
  · exact hc
  · exact h)
theorem jgLI {c2 : Cond} (hc : c2 ∈ jw) : GoodIn lw_tbl (c2 :: jw) := jgL (by
  intro w h
  rcases List.mem_cons.mp h with rfl | h
  · exact hc
  · exact h)
theorem jfpreS {s : State} {H : Heap} {D : va_G} {cl : List vw_C} {tys tys1 : List (ClassId × FieldType)} {w wc : va_W} {Ap : Nat → Prop} {locs : List Loc} {as : List Value} (hX : jX Ap s s.heap) (hnc : va_Nc "java/lang/UnsupportedOperationException" "java/lang/IllegalArgumentException" s) (hA : ∀ q : Nat, s.heap.size ≤ q → Ap q) (hN : jN s) (hJ : jH D cl tys w Ap s H locs) (is : List Nat) (hi : is.filterMap (fun i => w[i]?) = wc) (hn : va_nd is = true) (hm : is.map (fun i => w[i]?) = wc.map some) (it : List Nat) (ht : it.filterMap (fun i => tys[i]?) = tys1) : PreS s H (va_Pc as (jPreH D cl tys1 wc H.size)) as :=
  ⟨fun a U g mk q => by
    obtain ⟨q0, ⟨⟨q1, qP, qK, qD, qN⟩, qX⟩, qn⟩ := q
    exact ⟨q0, ⟨⟨q1, qP, va_K.moved (u := U) (U := U.calling g mk a) (Vm.Alike.refl U.vm) qK, qD, jN_same (u := U) (U := U.calling g mk a) rfl qN⟩, jX_same (u := U) (U := U.calling g mk a) rfl qX⟩, va_Nc.moved (u := U) (U := U.calling g mk a) (Vm.Alike.refl U.vm) qn⟩,
  fun U hU hW => ⟨rfl, ⟨jfpre hN hJ is hi hn hm it ht hU hW, by
    have h1 := jX_kept (B := va_A wc H.size) hX hJ.2.2.2.2.1 (va_free (wc := wc) hJ.2.2.1 hJ.2.2.2 hA is hm)
    rw [hU]
    exact jX_warm hW h1⟩, va_Nc.moved hW.alike hnc⟩⟩
theorem jHswap {D : va_G} {cl : List vw_C} {tys : List (ClassId × FieldType)} {a b : va_W} {Ap : Nat → Prop} {s : State} {H : Heap} {locs : List Loc} (h : jH D cl tys (a ++ b) Ap s H locs) : jH D cl tys (b ++ a) Ap s H locs := ⟨h.1, va_P.swap (a := []) h.2.1, va_D.swap (a := []) h.2.2.1, h.2.2.2⟩
abbrev wL (cA cL : ClassId) (A B A2 : Nat → Nat) (ao : Nat) (M : jM) (F : jF) (M2 : jM) (F2 : jF) (L2 : jL) (O : Nat → Int64) : va_W := mW cA cL A2 M2 F2 L2 ++ hW cA cL A B ao M F O
abbrev lAp (s : State) : Nat → Prop := fun q => s.heap.size ≤ q
/-- where the law stands -/
abbrev lAt (p : Program) (l : Launch) (s : State) (m : MethodId) (meth : Method) (c : Code) (b L : Nat) (xs : Nat → Int32) : Prop :=
  p.tables.exec = Jvm.exec ∧ c.code = code ∧ meth.sig.returnType = ret ∧ c.maxLocals = 7 ∧ s.vm.findClass RLa = some m.cls ∧ (∀ w ∈ lw_tbl, w.before #[Value.ref b] s = true) ∧ va_X b L xs s s.heap ∧ b < s.heap.size ∧ meth.locks = false ∧ l.stackTraces = false ∧ jN s ∧ jX (lAp s) s s.heap ∧ va_Nc "java/lang/UnsupportedOperationException" "java/lang/IllegalArgumentException" s

set_option maxHeartbeats 4000000 in
set_option maxRecDepth 100000 in
theorem law_c0 {p : Program} {l : Launch} {e : Env} {s : State} {m : MethodId} {below : List Frame} {meth : Method} {c : Code} {b L : Nat} {xs : Nat → Int32} (C0 : lAt p l s m meth c b L xs) (dC : Nat → ClassId) (dI : Nat → Nat → Nat) (cA cL : ClassId) (A A2 : Nat → Nat) (ao : Nat) {x4 : Int32} (hi1 : vp_in (x4 + 1) L) (hi2 : vp_in (x4 + 2) L) {n9 m9 : Nat} (hn9 : n9 + 1 ≤ room_1.cells) (hm9 : m9 + 6 ≤ room_1.slots) {M : jM} {F : jF} {M2 : jM} {F2 : jF} {L2 : jL} {O : Nat → Int64} {k bv : Int32} {M' : jM} {F' : jF} {M2' : jM} {F2' : jF} {L2' : jL} {O' : Nat → Int64} (hk : hLa_table (xs (x4 + 1).toNatClampNeg) (xs (x4 + 2).toNatClampNeg) M F O = some (k, M', F', O')) (hm : fMo_table (xs (x4 + 1).toNatClampNeg) (xs (x4 + 2).toNatClampNeg) M2 F2 L2 = some (bv, M2', F2', L2')) (ht : F2' 0 = k) (kk : ∀ (B : Nat → Nat) (H : Heap) (locs : List Loc) (ls : Array Slot), jH (dC, dI) jCl [(cA, .int), (cL, .long)] (wL cA cL A B A2 ao M' F' M2' F2' L2' O') (lAp s) s H locs → lv_has ls 7 [(0, .ref b), (1, .ref (A 0)), (2, .ref (A2 0)), (3, .ref ao), (4, .int x4)] → W p l e room_1 s m #[Value.ref b] below meth c H locs (n9 + 1) (m9 + 6) (lw_Z below #[Value.ref b] s) (F0 m 884 ls [])) (B : Nat → Nat) (H : Heap) (locs : List Loc) (ls : Array Slot) (hJ : jH (dC, dI) jCl [(cA, .int), (cL, .long)] (wL cA cL A B A2 ao M F M2 F2 L2 O) (lAp s) s H locs) (hl : lv_has ls 7 [(0, .ref b), (1, .ref (A 0)), (2, .ref (A2 0)), (3, .ref ao), (4, .int x4)]) : W p l e room_1 s m #[Value.ref b] below meth c H locs n9 m9 (lw_Z below #[Value.ref b] s) (F0 m 108 ls []) := by
  obtain ⟨hx, hb, -, hml, hown, hts, hXs, hbl, hlocks, hl0, hN, hX, hnc⟩ := id C0
  have hA : ∀ q : Nat, s.heap.size ≤ q → lAp s q := fun _ h => h
  have hbA : ¬ lAp s b := Nat.not_le.mpr hbl
  have hn0 : n9 + 0 ≤ room_1.cells := by omega
  have hm0 : m9 + 0 ≤ room_1.slots := by omega
  have hn9 : n9 + 1 + 0 ≤ room_1.cells := hn9
  have hm9 : m9 + 6 + 0 ≤ room_1.slots := hm9
  refine lv_aload_n hx hb dLa_law_108 rfl (lv_at hl 1 rfl) ?_
  refine lv_aload_n hx hb dLa_law_109 rfl (lv_at hl 0 rfl) ?_
  refine lv_iload hx hb dLa_law_110 (lv_at hl 4 rfl) ?_
  refine lv_iconst (v := 1) hx hb dLa_law_112 (by decide) ?_
  refine lv_iadd hx hb dLa_law_113 ?_
  refine va_sld hx hb hXs hbl hbA hJ.2.2.2 hi1 dLa_law_114 ?_
  refine lv_aload_n hx hb dLa_law_115 rfl (lv_at hl 0 rfl) ?_
  refine lv_iload hx hb dLa_law_116 (lv_at hl 4 rfl) ?_
  refine lv_iconst (v := 2) hx hb dLa_law_118 (by decide) ?_
  refine lv_iadd hx hb dLa_law_119 ?_
  refine va_sld hx hb hXs hbl hbA hJ.2.2.2 hi2 dLa_law_120 ?_
  refine jfcalli (wr := mW cA cL A2 M2 F2 L2) (w1 := fun B => hW cA cL A B ao M' F' O') (vx_runSW (As := [.ref (A 0), .int (xs (x4 + 1).toNatClampNeg), .int (xs (x4 + 2).toNatClampNeg)]) (rest := []) ⟨hx, hb, hml, hown, hts⟩ (cLa_table l dC dI cA cL A B ao hl0 (xs (x4 + 1).toNatClampNeg) (xs (x4 + 2).toNatClampNeg) M F O H.size hk) (vx_cwSW 3 hts (jgLS jw_205 jw_206 jw_0 jw_207) rfl rfl rfl (by decide +kernel) ⟨Nat.le_of_ble_eq_true rfl, Nat.le_of_ble_eq_true rfl⟩) (jfpreS hX hnc hA hN hJ [16, 17, 18, 19, 20, 21, 22, 23, 24, 25, 26, 27, 28, 29, 30, 31, 32, 33, 34, 35, 36, 37, 38, 39, 40, 41, 42, 43] rfl (by decide) rfl [0, 1] rfl) rfl rfl hl.1 rfl (lv_room (Nat.le_of_ble_eq_true rfl)) dLa_law_121 ⟨hn9, hm9⟩) hA hJ [16, 17, 18, 19, 20, 21, 22, 23, 24, 25, 26, 27, 28, 29, 30, 31, 32, 33, 34, 35, 36, 37, 38, 39, 40, 41, 42, 43] [0, 1, 2, 3, 4, 5, 6, 7, 8, 9, 10, 11, 12, 13, 14, 15] rfl rfl (by decide) (by decide) (fun B H locs hJ => ?_)
  replace hJ : jH (dC, dI) jCl [(cA, .int), (cL, .long)] (wL cA cL A B A2 ao M' F' M2 F2 L2 O') (lAp s) s H locs := hJ
  refine lv_istore (lv' := [(5, .int k), (0, .ref b), (1, .ref (A 0)), (2, .ref (A2 0)), (3, .ref ao), (4, .int x4)]) hx hb dLa_law_124 hl (by decide) rfl (fun ls hl => ?_)
  refine lv_aload_n hx hb dLa_law_126 rfl (lv_at hl 3 rfl) ?_
  refine lv_aload_n hx hb dLa_law_127 rfl (lv_at hl 1 rfl) ?_
  refine lv_iload hx hb dLa_law_128 (lv_at hl 5 rfl) ?_
  refine lv_iconst (v := 1) hx hb dLa_law_130 (by decide) ?_
  refine lv_iadd hx hb dLa_law_131 ?_
  refine va_sld hx hb hXs hbl hbA hJ.2.2.2 hi1 dLa_law_132 ?_
  refine lv_aload_n hx hb dLa_law_133 rfl (lv_at hl 1 rfl) ?_
  refine lv_iload hx hb dLa_law_134 (lv_at hl 5 rfl) ?_
  refine lv_iconst (v := 2) hx hb dLa_law_136 (by decide) ?_
  refine lv_iadd hx hb dLa_law_137 ?_
  refine va_sld hx hb hXs hbl hbA hJ.2.2.2 hi2 dLa_law_138 ?_
  refine jfcallv (wr := hW cA cL A B ao M' F' O') (w1 := fun _ : Nat → Nat => mW cA cL A2 M2' F2' L2') (va_runV (As := [.int (xs (x4 + 1).toNatClampNeg), .int (xs (x4 + 2).toNatClampNeg)]) (rest := []) ⟨hx, hb, hml, hown, hts⟩ (cMo_table l dC dI cA cL A2 (xs (x4 + 1).toNatClampNeg) (xs (x4 + 2).toNatClampNeg) M2 F2 L2 (fun _ => 0) H.size hm) (cwV 2 hts (jgLV jw_668 jw_669 jw_670 jw_7 jw_671) rfl rfl rfl (by decide +kernel) ⟨Nat.le_of_ble_eq_true rfl, Nat.le_of_ble_eq_true rfl⟩) (jfpreV hN hJ (ci := 6) (q0 := 0) rfl rfl [0, 1, 2, 3, 4, 5, 6, 7, 8, 9, 10, 11, 12, 13, 14, 15] rfl (by decide) rfl [0, 1] rfl) rfl rfl hl.1 rfl (lv_room (Nat.le_of_ble_eq_true rfl)) dLa_law_139 ⟨hn9, hm9⟩) hA hJ [0, 1, 2, 3, 4, 5, 6, 7, 8, 9, 10, 11, 12, 13, 14, 15] [16, 17, 18, 19, 20, 21, 22, 23, 24, 25, 26, 27, 28, 29, 30, 31, 32, 33, 34, 35, 36, 37, 38, 39, 40, 41, 42, 43] rfl rfl (by decide) (by decide) (fun _ H locs hJ => ?_)
  replace hJ : jH (dC, dI) jCl [(cA, .int), (cL, .long)] (wL cA cL A B A2 ao M' F' M2' F2' L2' O') (lAp s) s H locs := jHswap hJ
  refine lv_aload_n hx hb dLa_law_142 rfl (lv_at hl 3 rfl) ?_
  refine jfcalli (wr := hW cA cL A B ao M' F' O') (w1 := fun _ : Nat → Nat => mW cA cL A2 M2' F2' L2') (va_runV (As := []) (rest := []) ⟨hx, hb, hml, hown, hts⟩ (cMo_thrown l dC dI cA cL A2 M2' F2' L2' (fun _ => 0) H.size (show fMo_thrown M2' F2' L2' = some (F2' 0) from rfl)) (cwV 0 hts (jgLV jw_664 jw_665 jw_666 jw_7 jw_667) rfl rfl rfl (by decide +kernel) ⟨Nat.le_of_ble_eq_true rfl, Nat.le_of_ble_eq_true rfl⟩) (jfpreV hN hJ (ci := 6) (q0 := 0) rfl rfl [0, 1, 2, 3, 4, 5, 6, 7, 8, 9, 10, 11, 12, 13, 14, 15] rfl (by decide) rfl [0, 1] rfl) rfl rfl hl.1 rfl (lv_room (Nat.le_of_ble_eq_true rfl)) dLa_law_143 ⟨hn9, hm9⟩) hA hJ [0, 1, 2, 3, 4, 5, 6, 7, 8, 9, 10, 11, 12, 13, 14, 15] [16, 17, 18, 19, 20, 21, 22, 23, 24, 25, 26, 27, 28, 29, 30, 31, 32, 33, 34, 35, 36, 37, 38, 39, 40, 41, 42, 43] rfl rfl (by decide) (by decide) (fun _ H locs hJ => ?_)
  replace hJ : jH (dC, dI) jCl [(cA, .int), (cL, .long)] (wL cA cL A B A2 ao M' F' M2' F2' L2' O') (lAp s) s H locs := jHswap hJ
  refine lv_iload hx hb dLa_law_146 (lv_at hl 0 rfl) ?_
  refine lv_icmp_eq (tgt := 153) hx hb dLa_law_148 (by decide) (fun c1 => ?_) (fun c1 => absurd ht c1)
  refine lv_goto (tgt := 884) hx hb dLa_law_153 (by decide) ?_
  exact kk B H locs ls hJ (lv_sub hl [1, 2, 3, 4, 5] rfl)
set_option maxHeartbeats 4000000 in
set_option maxRecDepth 100000 in
theorem law_c1 {p : Program} {l : Launch} {e : Env} {s : State} {m : MethodId} {below : List Frame} {meth : Method} {c : Code} {b L : Nat} {xs : Nat → Int32} (C0 : lAt p l s m meth c b L xs) (dC : Nat → ClassId) (dI : Nat → Nat → Nat) (cA cL : ClassId) (A A2 : Nat → Nat) (ao : Nat) {x4 : Int32} (hi1 : vp_in (x4 + 1) L) (hi2 : vp_in (x4 + 2) L) (hi3 : vp_in (x4 + 3) L) (hi4 : vp_in (x4 + 4) L) (hi5 : vp_in (x4 + 5) L) {n9 m9 : Nat} (hn9 : n9 + 1 ≤ room_1.cells) (hm9 : m9 + 6 ≤ room_1.slots) {M : jM} {F : jF} {M2 : jM} {F2 : jF} {L2 : jL} {O : Nat → Int64} {k bv : Int32} {M' : jM} {F' : jF} {M2' : jM} {F2' : jF} {L2' : jL} {O' : Nat → Int64} (hk : hLa_row (xs (x4 + 1).toNatClampNeg) (xs (x4 + 2).toNatClampNeg) (xs (x4 + 3).toNatClampNeg) (xs (x4 + 4).toNatClampNeg) (xs (x4 + 5).toNatClampNeg) M F O = some (k, M', F', O')) (hm : fMo_row (xs (x4 + 1).toNatClampNeg) (xs (x4 + 2).toNatClampNeg) (xs (x4 + 3).toNatClampNeg) (xs (x4 + 4).toNatClampNeg) (xs (x4 + 5).toNatClampNeg) M2 F2 L2 = some (bv, M2', F2', L2')) (ht : F2' 0 = k) (ho : k = 0 → O' (0 : Int32).toNatClampNeg = Int32.toInt64 bv) (kk : ∀ (B : Nat → Nat) (H : Heap) (locs : List Loc) (ls : Array Slot), jH (dC, dI) jCl [(cA, .int), (cL, .long)] (wL cA cL A B A2 ao M' F' M2' F2' L2' O') (lAp s) s H locs → lv_has ls 7 [(0, .ref b), (1, .ref (A 0)), (2, .ref (A2 0)), (3, .ref ao), (4, .int x4)] → W p l e room_1 s m #[Value.ref b] below meth c H locs (n9 + 1) (m9 + 6) (lw_Z below #[Value.ref b] s) (F0 m 884 ls [])) (B : Nat → Nat) (H : Heap) (locs : List Loc) (ls : Array Slot) (hJ : jH (dC, dI) jCl [(cA, .int), (cL, .long)] (wL cA cL A B A2 ao M F M2 F2 L2 O) (lAp s) s H locs) (hl : lv_has ls 7 [(0, .ref b), (1, .ref (A 0)), (2, .ref (A2 0)), (3, .ref ao), (4, .int x4)]) : W p l e room_1 s m #[Value.ref b] below meth c H locs n9 m9 (lw_Z below #[Value.ref b] s) (F0 m 156 ls []) := by
  obtain ⟨hx, hb, -, hml, hown, hts, hXs, hbl, hlocks, hl0, hN, hX, hnc⟩ := id C0
  have hA : ∀ q : Nat, s.heap.size ≤ q → lAp s q := fun _ h => h
  have hbA : ¬ lAp s b := Nat.not_le.mpr hbl
  have hn0 : n9 + 0 ≤ room_1.cells := by omega
  have hm0 : m9 + 0 ≤ room_1.slots := by omega
  have hn9 : n9 + 1 + 0 ≤ room_1.cells := hn9
  have hm9 : m9 + 6 + 0 ≤ room_1.slots := hm9
  refine lv_aload_n hx hb dLa_law_156 rfl (lv_at hl 1 rfl) ?_
  refine lv_aload_n hx hb dLa_law_157 rfl (lv_at hl 0 rfl) ?_
  refine lv_iload hx hb dLa_law_158 (lv_at hl 4 rfl) ?_
  refine lv_iconst (v := 1) hx hb dLa_law_160 (by decide) ?_
  refine lv_iadd hx hb dLa_law_161 ?_
  refine va_sld hx hb hXs hbl hbA hJ.2.2.2 hi1 dLa_law_162 ?_
  refine lv_aload_n hx hb dLa_law_163 rfl (lv_at hl 0 rfl) ?_
  refine lv_iload hx hb dLa_law_164 (lv_at hl 4 rfl) ?_
  refine lv_iconst (v := 2) hx hb dLa_law_166 (by decide) ?_
  refine lv_iadd hx hb dLa_law_167 ?_
  refine va_sld hx hb hXs hbl hbA hJ.2.2.2 hi2 dLa_law_168 ?_
  refine lv_aload_n hx hb dLa_law_169 rfl (lv_at hl 0 rfl) ?_
  refine lv_iload hx hb dLa_law_170 (lv_at hl 4 rfl) ?_
  refine lv_iconst (v := 3) hx hb dLa_law_172 (by decide) ?_
  refine lv_iadd hx hb dLa_law_173 ?_
  refine va_sld hx hb hXs hbl hbA hJ.2.2.2 hi3 dLa_law_174 ?_
  refine lv_aload_n hx hb dLa_law_175 rfl (lv_at hl 0 rfl) ?_
  refine lv_iload hx hb dLa_law_176 (lv_at hl 4 rfl) ?_
  refine lv_iconst (v := 4) hx hb dLa_law_178 (by decide) ?_
  refine lv_iadd hx hb dLa_law_179 ?_
  refine va_sld hx hb hXs hbl hbA hJ.2.2.2 hi4 dLa_law_180 ?_
  refine lv_aload_n hx hb dLa_law_181 rfl (lv_at hl 0 rfl) ?_
  refine lv_iload hx hb dLa_law_182 (lv_at hl 4 rfl) ?_
  refine lv_iconst (v := 5) hx hb dLa_law_184 (by decide) ?_
  refine lv_iadd hx hb dLa_law_185 ?_
  refine va_sld hx hb hXs hbl hbA hJ.2.2.2 hi5 dLa_law_186 ?_
  refine lv_aload_n hx hb dLa_law_187 rfl (lv_at hl 3 rfl) ?_
  refine jfcalli (wr := mW cA cL A2 M2 F2 L2) (w1 := fun B => hW cA cL A B ao M' F' O') (vx_runSW (As := [.ref (A 0), .int (xs (x4 + 1).toNatClampNeg), .int (xs (x4 + 2).toNatClampNeg), .int (xs (x4 + 3).toNatClampNeg), .int (xs (x4 + 4).toNatClampNeg), .int (xs (x4 + 5).toNatClampNeg), .ref ao]) (rest := []) ⟨hx, hb, hml, hown, hts⟩ (cLa_row l dC dI cA cL A B ao hl0 (xs (x4 + 1).toNatClampNeg) (xs (x4 + 2).toNatClampNeg) (xs (x4 + 3).toNatClampNeg) (xs (x4 + 4).toNatClampNeg) (xs (x4 + 5).toNatClampNeg) M F O H.size hk) (vx_cwSW 7 hts (jgLS jw_289 jw_290 jw_0 jw_291) rfl rfl rfl (by decide +kernel) ⟨Nat.le_of_ble_eq_true rfl, Nat.le_of_ble_eq_true rfl⟩) (jfpreS hX hnc hA hN hJ [16, 17, 18, 19, 20, 21, 22, 23, 24, 25, 26, 27, 28, 29, 30, 31, 32, 33, 34, 35, 36, 37, 38, 39, 40, 41, 42, 43] rfl (by decide) rfl [0, 1] rfl) rfl rfl hl.1 rfl (lv_room (Nat.le_of_ble_eq_true rfl)) dLa_law_188 ⟨hn9, hm9⟩) hA hJ [16, 17, 18, 19, 20, 21, 22, 23, 24, 25, 26, 27, 28, 29, 30, 31, 32, 33, 34, 35, 36, 37, 38, 39, 40, 41, 42, 43] [0, 1, 2, 3, 4, 5, 6, 7, 8, 9, 10, 11, 12, 13, 14, 15] rfl rfl (by decide) (by decide) (fun B H locs hJ => ?_)
  replace hJ : jH (dC, dI) jCl [(cA, .int), (cL, .long)] (wL cA cL A B A2 ao M' F' M2 F2 L2 O') (lAp s) s H locs := hJ
  refine lv_istore (lv' := [(5, .int k), (0, .ref b), (1, .ref (A 0)), (2, .ref (A2 0)), (3, .ref ao), (4, .int x4)]) hx hb dLa_law_191 hl (by decide) rfl (fun ls hl => ?_)
  refine lv_aload_n hx hb dLa_law_193 rfl (lv_at hl 3 rfl) ?_
  refine lv_aload_n hx hb dLa_law_194 rfl (lv_at hl 1 rfl) ?_
  refine lv_iload hx hb dLa_law_195 (lv_at hl 5 rfl) ?_
  refine lv_iconst (v := 1) hx hb dLa_law_197 (by decide) ?_
  refine lv_iadd hx hb dLa_law_198 ?_
  refine va_sld hx hb hXs hbl hbA hJ.2.2.2 hi1 dLa_law_199 ?_
  refine lv_aload_n hx hb dLa_law_200 rfl (lv_at hl 1 rfl) ?_
  refine lv_iload hx hb dLa_law_201 (lv_at hl 5 rfl) ?_
  refine lv_iconst (v := 2) hx hb dLa_law_203 (by decide) ?_
  refine lv_iadd hx hb dLa_law_204 ?_
  refine va_sld hx hb hXs hbl hbA hJ.2.2.2 hi2 dLa_law_205 ?_
  refine lv_aload_n hx hb dLa_law_206 rfl (lv_at hl 1 rfl) ?_
  refine lv_iload hx hb dLa_law_207 (lv_at hl 5 rfl) ?_
  refine lv_iconst (v := 3) hx hb dLa_law_209 (by decide) ?_
  refine lv_iadd hx hb dLa_law_210 ?_
  refine va_sld hx hb hXs hbl hbA hJ.2.2.2 hi3 dLa_law_211 ?_
  refine lv_aload_n hx hb dLa_law_212 rfl (lv_at hl 1 rfl) ?_
  refine lv_iload hx hb dLa_law_213 (lv_at hl 5 rfl) ?_
  refine lv_iconst (v := 4) hx hb dLa_law_215 (by decide) ?_
  refine lv_iadd hx hb dLa_law_216 ?_
  refine va_sld hx hb hXs hbl hbA hJ.2.2.2 hi4 dLa_law_217 ?_
  refine lv_aload_n hx hb dLa_law_218 rfl (lv_at hl 1 rfl) ?_
  refine lv_iload hx hb dLa_law_219 (lv_at hl 5 rfl) ?_
  refine lv_iconst (v := 5) hx hb dLa_law_221 (by decide) ?_
  refine lv_iadd hx hb dLa_law_222 ?_
  refine va_sld hx hb hXs hbl hbA hJ.2.2.2 hi5 dLa_law_223 ?_
  refine jfcalli (wr := hW cA cL A B ao M' F' O') (w1 := fun _ : Nat → Nat => mW cA cL A2 M2' F2' L2') (va_runV (As := [.int (xs (x4 + 1).toNatClampNeg), .int (xs (x4 + 2).toNatClampNeg), .int (xs (x4 + 3).toNatClampNeg), .int (xs (x4 + 4).toNatClampNeg), .int (xs (x4 + 5).toNatClampNeg)]) (rest := []) ⟨hx, hb, hml, hown, hts⟩ (cMo_row l dC dI cA cL A2 (xs (x4 + 1).toNatClampNeg) (xs (x4 + 2).toNatClampNeg) (xs (x4 + 3).toNatClampNeg) (xs (x4 + 4).toNatClampNeg) (xs (x4 + 5).toNatClampNeg) M2 F2 L2 (fun _ => 0) H.size hm) (cwV 5 hts (jgLV jw_675 jw_676 jw_677 jw_7 jw_678) rfl rfl rfl (by decide +kernel) ⟨Nat.le_of_ble_eq_true rfl, Nat.le_of_ble_eq_true rfl⟩) (jfpreV hN hJ (ci := 6) (q0 := 0) rfl rfl [0, 1, 2, 3, 4, 5, 6, 7, 8, 9, 10, 11, 12, 13, 14, 15] rfl (by decide) rfl [0, 1] rfl) rfl rfl hl.1 rfl (lv_room (Nat.le_of_ble_eq_true rfl)) dLa_law_224 ⟨hn9, hm9⟩) hA hJ [0, 1, 2, 3, 4, 5, 6, 7, 8, 9, 10, 11, 12, 13, 14, 15] [16, 17, 18, 19, 20, 21, 22, 23, 24, 25, 26, 27, 28, 29, 30, 31, 32, 33, 34, 35, 36, 37, 38, 39, 40, 41, 42, 43] rfl rfl (by decide) (by decide) (fun _ H locs hJ => ?_)
  replace hJ : jH (dC, dI) jCl [(cA, .int), (cL, .long)] (wL cA cL A B A2 ao M' F' M2' F2' L2' O') (lAp s) s H locs := jHswap hJ
  refine lv_istore (lv' := [(6, .int bv), (5, .int k), (0, .ref b), (1, .ref (A 0)), (2, .ref (A2 0)), (3, .ref ao), (4, .int x4)]) hx hb dLa_law_227 hl (by decide) rfl (fun ls hl => ?_)
  refine lv_aload_n hx hb dLa_law_229 rfl (lv_at hl 4 rfl) ?_
  refine jfcalli (wr := hW cA cL A B ao M' F' O') (w1 := fun _ : Nat → Nat => mW cA cL A2 M2' F2' L2') (va_runV (As := []) (rest := []) ⟨hx, hb, hml, hown, hts⟩ (cMo_thrown l dC dI cA cL A2 M2' F2' L2' (fun _ => 0) H.size (show fMo_thrown M2' F2' L2' = some (F2' 0) from rfl)) (cwV 0 hts (jgLV jw_664 jw_665 jw_666 jw_7 jw_667) rfl rfl rfl (by decide +kernel) ⟨Nat.le_of_ble_eq_true rfl, Nat.le_of_ble_eq_true rfl⟩) (jfpreV hN hJ (ci := 6) (q0 := 0) rfl rfl [0, 1, 2, 3, 4, 5, 6, 7, 8, 9, 10, 11, 12, 13, 14, 15] rfl (by decide) rfl [0, 1] rfl) rfl rfl hl.1 rfl (lv_room (Nat.le_of_ble_eq_true rfl)) dLa_law_230 ⟨hn9, hm9⟩) hA hJ [0, 1, 2, 3, 4, 5, 6, 7, 8, 9, 10, 11, 12, 13, 14, 15] [16, 17, 18, 19, 20, 21, 22, 23, 24, 25, 26, 27, 28, 29, 30, 31, 32, 33, 34, 35, 36, 37, 38, 39, 40, 41, 42, 43] rfl rfl (by decide) (by decide) (fun _ H locs hJ => ?_)
  replace hJ : jH (dC, dI) jCl [(cA, .int), (cL, .long)] (wL cA cL A B A2 ao M' F' M2' F2' L2' O') (lAp s) s H locs := jHswap hJ
  refine lv_iload hx hb dLa_law_233 (lv_at hl 1 rfl) ?_
  refine lv_icmp_eq (tgt := 240) hx hb dLa_law_235 (by decide) (fun c1 => ?_) (fun c1 => absurd ht c1)
  refine lv_iload hx hb dLa_law_240 (lv_at hl 1 rfl) ?_
  refine lv_if_ne (tgt := 257) hx hb dLa_law_242 (by decide) (fun c2 => ?_) (fun c2 => ?_)
  · refine lv_goto (tgt := 884) hx hb dLa_law_257 (by decide) ?_
    exact kk B H locs ls hJ (lv_sub hl [2, 3, 4, 5, 6] rfl)
  · refine lv_aload_n hx hb dLa_law_245 rfl (lv_at hl 5 rfl) ?_
    refine lv_iconst (v := 0) hx hb dLa_law_246 (by decide) ?_
    refine va_lald hx hb hJ.1 hJ.2.1 16 1 (f := O') rfl rfl (vp_in_nI (n := 0) (N := 1) (by decide) (by decide)) dLa_law_247 ?_
    refine lv_iload hx hb dLa_law_248 (lv_at hl 0 rfl) ?_
    refine lv_i2l hx hb dLa_law_250 rfl ?_
    refine W.lcmp hx hb dLa_law_251 ?_
    refine lv_if_eq (tgt := 257) hx hb dLa_law_252 (by decide) (fun c3 => ?_) (fun c3 => absurd (by rw [ho c2]; exact (lg_cmp_eq _ _).mpr rfl) c3)
    refine lv_goto (tgt := 884) hx hb dLa_law_257 (by decide) ?_
    exact kk B H locs ls hJ (lv_sub hl [2, 3, 4, 5, 6] rfl)
set_option maxHeartbeats 4000000 in
set_option maxRecDepth 100000 in
theorem law_c2 {p : Program} {l : Launch} {e : Env} {s : State} {m : MethodId} {below : List Frame} {meth : Method} {c : Code} {b L : Nat} {xs : Nat → Int32} (C0 : lAt p l s m meth c b L xs) (dC : Nat → ClassId) (dI : Nat → Nat → Nat) (cA cL : ClassId) (A A2 : Nat → Nat) (ao : Nat) {x4 : Int32}  {n9 m9 : Nat} (hn9 : n9 + 1 ≤ room_1.cells) (hm9 : m9 + 6 ≤ room_1.slots) {M : jM} {F : jF} {M2 : jM} {F2 : jF} {L2 : jL} {O : Nat → Int64} {k bv : Int32} {M' : jM} {F' : jF} {M2' : jM} {F2' : jF} {L2' : jL} {O' : Nat → Int64} (hk : fJh_clear M F = some (k, M', F')) (hm : fMo_clear M2 F2 L2 = some (bv, M2', F2', L2')) (kk : ∀ (B : Nat → Nat) (H : Heap) (locs : List Loc) (ls : Array Slot), jH (dC, dI) jCl [(cA, .int), (cL, .long)] (wL cA cL A B A2 ao M' F' M2' F2' L2' O) (lAp s) s H locs → lv_has ls 7 [(0, .ref b), (1, .ref (A 0)), (2, .ref (A2 0)), (3, .ref ao), (4, .int x4)] → W p l e room_1 s m #[Value.ref b] below meth c H locs n9 m9 (lw_Z below #[Value.ref b] s) (F0 m 884 ls [])) (B : Nat → Nat) (H : Heap) (locs : List Loc) (ls : Array Slot) (hJ : jH (dC, dI) jCl [(cA, .int), (cL, .long)] (wL cA cL A B A2 ao M F M2 F2 L2 O) (lAp s) s H locs) (hl : lv_has ls 7 [(0, .ref b), (1, .ref (A 0)), (2, .ref (A2 0)), (3, .ref ao), (4, .int x4)]) : W p l e room_1 s m #[Value.ref b] below meth c H locs n9 m9 (lw_Z below #[Value.ref b] s) (F0 m 260 ls []) := by
  obtain ⟨hx, hb, -, hml, hown, hts, hXs, hbl, hlocks, hl0, hN, hX, hnc⟩ := id C0
  have hA : ∀ q : Nat, s.heap.size ≤ q → lAp s q := fun _ h => h
  have hbA : ¬ lAp s b := Nat.not_le.mpr hbl
  have hn0 : n9 + 0 ≤ room_1.cells := by omega
  have hm0 : m9 + 0 ≤ room_1.slots := by omega
  have hn9 : n9 + 1 + 0 ≤ room_1.cells := hn9
  have hm9 : m9 + 6 + 0 ≤ room_1.slots := hm9
  refine lv_aload_n hx hb dLa_law_260 rfl (lv_at hl 1 rfl) ?_
  refine jfcallv (wr := mW cA cL A2 M2 F2 L2 ++ [(ao, .inl (cL, 1, .inr (.inl O)))]) (w1 := fun B => jW cA A B M' F') (va_runV (As := []) (rest := []) ⟨hx, hb, hml, hown, hts⟩ (cJh_clear l dC dI cA A M F B H.size hk) (cwV 0 hts (jgLV jw_193 jw_194 jw_195 jw_1 jw_196) rfl rfl rfl (by decide +kernel) ⟨Nat.le_of_ble_eq_true rfl, Nat.le_of_ble_eq_true rfl⟩) (jfpreV hN hJ (ci := 0) (q0 := 17) rfl rfl [17, 18, 19, 20, 21, 22, 23, 24, 25, 26, 27, 28, 29, 30, 31, 32, 33, 34, 35, 36, 37, 38, 39, 40, 41, 42, 43] rfl (by decide) rfl [0] rfl) rfl rfl hl.1 rfl (lv_room (Nat.le_of_ble_eq_true rfl)) dLa_law_261 ⟨hn0, hm0⟩) hA hJ [17, 18, 19, 20, 21, 22, 23, 24, 25, 26, 27, 28, 29, 30, 31, 32, 33, 34, 35, 36, 37, 38, 39, 40, 41, 42, 43] [0, 1, 2, 3, 4, 5, 6, 7, 8, 9, 10, 11, 12, 13, 14, 15, 16] rfl rfl (by decide) (by decide) (fun B H locs hJ => ?_)
  replace hJ : jH (dC, dI) jCl [(cA, .int), (cL, .long)] (wL cA cL A B A2 ao M' F' M2 F2 L2 O) (lAp s) s H locs := hJ
  refine lv_aload_n hx hb dLa_law_264 rfl (lv_at hl 2 rfl) ?_
  refine jfcallv (wr := hW cA cL A B ao M' F' O) (w1 := fun _ : Nat → Nat => mW cA cL A2 M2' F2' L2') (va_runV (As := []) (rest := []) ⟨hx, hb, hml, hown, hts⟩ (cMo_clear l dC dI cA cL A2 M2 F2 L2 (fun _ => 0) H.size hm) (cwV 0 hts (jgLV jw_679 jw_680 jw_681 jw_7 jw_682) rfl rfl rfl (by decide +kernel) ⟨Nat.le_of_ble_eq_true rfl, Nat.le_of_ble_eq_true rfl⟩) (jfpreV hN hJ (ci := 6) (q0 := 0) rfl rfl [0, 1, 2, 3, 4, 5, 6, 7, 8, 9, 10, 11, 12, 13, 14, 15] rfl (by decide) rfl [0, 1] rfl) rfl rfl hl.1 rfl (lv_room (Nat.le_of_ble_eq_true rfl)) dLa_law_265 ⟨hn0, hm0⟩) hA hJ [0, 1, 2, 3, 4, 5, 6, 7, 8, 9, 10, 11, 12, 13, 14, 15] [16, 17, 18, 19, 20, 21, 22, 23, 24, 25, 26, 27, 28, 29, 30, 31, 32, 33, 34, 35, 36, 37, 38, 39, 40, 41, 42, 43] rfl rfl (by decide) (by decide) (fun _ H locs hJ => ?_)
  replace hJ : jH (dC, dI) jCl [(cA, .int), (cL, .long)] (wL cA cL A B A2 ao M' F' M2' F2' L2' O) (lAp s) s H locs := jHswap hJ
  refine lv_goto (tgt := 884) hx hb dLa_law_268 (by decide) ?_
  exact kk B H locs ls hJ (lv_sub hl [0, 1, 2, 3, 4] rfl)
set_option maxHeartbeats 4000000 in
set_option maxRecDepth 100000 in
theorem law_c3 {p : Program} {l : Launch} {e : Env} {s : State} {m : MethodId} {below : List Frame} {meth : Method} {c : Code} {b L : Nat} {xs : Nat → Int32} (C0 : lAt p l s m meth c b L xs) (dC : Nat → ClassId) (dI : Nat → Nat → Nat) (cA cL : ClassId) (A A2 : Nat → Nat) (ao : Nat) {x4 : Int32} (hi1 : vp_in (x4 + 1) L) {n9 m9 : Nat} (hn9 : n9 + 1 ≤ room_1.cells) (hm9 : m9 + 6 ≤ room_1.slots) {M : jM} {F : jF} {M2 : jM} {F2 : jF} {L2 : jL} {O : Nat → Int64} {k bv : Int32} {M' : jM} {F' : jF} {M2' : jM} {F2' : jF} {L2' : jL} {O' : Nat → Int64} (hk : hLa_generator (xs (x4 + 1).toNatClampNeg) M F O = some (k, M', F', O')) (hm : fMo_generator (xs (x4 + 1).toNatClampNeg) M2 F2 L2 = some (bv, M2', F2', L2')) (ht : F2' 0 = k) (ho : k = 0 → O' (0 : Int32).toNatClampNeg = Int32.toInt64 bv) (kk : ∀ (B : Nat → Nat) (H : Heap) (locs : List Loc) (ls : Array Slot), jH (dC, dI) jCl [(cA, .int), (cL, .long)] (wL cA cL A B A2 ao M' F' M2' F2' L2' O') (lAp s) s H locs → lv_has ls 7 [(0, .ref b), (1, .ref (A 0)), (2, .ref (A2 0)), (3, .ref ao), (4, .int x4)] → W p l e room_1 s m #[Value.ref b] below meth c H locs (n9 + 1) (m9 + 6) (lw_Z below #[Value.ref b] s) (F0 m 884 ls [])) (B : Nat → Nat) (H : Heap) (locs : List Loc) (ls : Array Slot) (hJ : jH (dC, dI) jCl [(cA, .int), (cL, .long)] (wL cA cL A B A2 ao M F M2 F2 L2 O) (lAp s) s H locs) (hl : lv_has ls 7 [(0, .ref b), (1, .ref (A 0)), (2, .ref (A2 0)), (3, .ref ao), (4, .int x4)]) : W p l e room_1 s m #[Value.ref b] below meth c H locs n9 m9 (lw_Z below #[Value.ref b] s) (F0 m 271 ls []) := by
  obtain ⟨hx, hb, -, hml, hown, hts, hXs, hbl, hlocks, hl0, hN, hX, hnc⟩ := id C0
  have hA : ∀ q : Nat, s.heap.size ≤ q → lAp s q := fun _ h => h
  have hbA : ¬ lAp s b := Nat.not_le.mpr hbl
  have hn0 : n9 + 0 ≤ room_1.cells := by omega
  have hm0 : m9 + 0 ≤ room_1.slots := by omega
  have hn9 : n9 + 1 + 0 ≤ room_1.cells := hn9
  have hm9 : m9 + 6 + 0 ≤ room_1.slots := hm9
  refine lv_aload_n hx hb dLa_law_271 rfl (lv_at hl 1 rfl) ?_
  refine lv_aload_n hx hb dLa_law_272 rfl (lv_at hl 0 rfl) ?_
  refine lv_iload hx hb dLa_law_273 (lv_at hl 4 rfl) ?_
  refine lv_iconst (v := 1) hx hb dLa_law_275 (by decide) ?_
  refine lv_iadd hx hb dLa_law_276 ?_
  refine va_sld hx hb hXs hbl hbA hJ.2.2.2 hi1 dLa_law_277 ?_
  refine lv_aload_n hx hb dLa_law_278 rfl (lv_at hl 3 rfl) ?_
  refine jfcalli (wr := mW cA cL A2 M2 F2 L2) (w1 := fun B => hW cA cL A B ao M' F' O') (vx_runSW (As := [.ref (A 0), .int (xs (x4 + 1).toNatClampNeg), .ref ao]) (rest := []) ⟨hx, hb, hml, hown, hts⟩ (cLa_generator l dC dI cA cL A B ao hl0 (xs (x4 + 1).toNatClampNeg) M F O H.size hk) (vx_cwSW 3 hts (jgLS jw_333 jw_334 jw_0 jw_335) rfl rfl rfl (by decide +kernel) ⟨Nat.le_of_ble_eq_true rfl, Nat.le_of_ble_eq_true rfl⟩) (jfpreS hX hnc hA hN hJ [16, 17, 18, 19, 20, 21, 22, 23, 24, 25, 26, 27, 28, 29, 30, 31, 32, 33, 34, 35, 36, 37, 38, 39, 40, 41, 42, 43] rfl (by decide) rfl [0, 1] rfl) rfl rfl hl.1 rfl (lv_room (Nat.le_of_ble_eq_true rfl)) dLa_law_279 ⟨hn9, hm9⟩) hA hJ [16, 17, 18, 19, 20, 21, 22, 23, 24, 25, 26, 27, 28, 29, 30, 31, 32, 33, 34, 35, 36, 37, 38, 39, 40, 41, 42, 43] [0, 1, 2, 3, 4, 5, 6, 7, 8, 9, 10, 11, 12, 13, 14, 15] rfl rfl (by decide) (by decide) (fun B H locs hJ => ?_)
  replace hJ : jH (dC, dI) jCl [(cA, .int), (cL, .long)] (wL cA cL A B A2 ao M' F' M2 F2 L2 O') (lAp s) s H locs := hJ
  refine lv_istore (lv' := [(5, .int k), (0, .ref b), (1, .ref (A 0)), (2, .ref (A2 0)), (3, .ref ao), (4, .int x4)]) hx hb dLa_law_282 hl (by decide) rfl (fun ls hl => ?_)
  refine lv_aload_n hx hb dLa_law_284 rfl (lv_at hl 3 rfl) ?_
  refine lv_aload_n hx hb dLa_law_285 rfl (lv_at hl 1 rfl) ?_
  refine lv_iload hx hb dLa_law_286 (lv_at hl 5 rfl) ?_
  refine lv_iconst (v := 1) hx hb dLa_law_288 (by decide) ?_
  refine lv_iadd hx hb dLa_law_289 ?_
  refine va_sld hx hb hXs hbl hbA hJ.2.2.2 hi1 dLa_law_290 ?_
  refine jfcalli (wr := hW cA cL A B ao M' F' O') (w1 := fun _ : Nat → Nat => mW cA cL A2 M2' F2' L2') (va_runV (As := [.int (xs (x4 + 1).toNatClampNeg)]) (rest := []) ⟨hx, hb, hml, hown, hts⟩ (cMo_generator l dC dI cA cL A2 (xs (x4 + 1).toNatClampNeg) M2 F2 L2 (fun _ => 0) H.size hm) (cwV 1 hts (jgLV jw_683 jw_684 jw_685 jw_7 jw_686) rfl rfl rfl (by decide +kernel) ⟨Nat.le_of_ble_eq_true rfl, Nat.le_of_ble_eq_true rfl⟩) (jfpreV hN hJ (ci := 6) (q0 := 0) rfl rfl [0, 1, 2, 3, 4, 5, 6, 7, 8, 9, 10, 11, 12, 13, 14, 15] rfl (by decide) rfl [0, 1] rfl) rfl rfl hl.1 rfl (lv_room (Nat.le_of_ble_eq_true rfl)) dLa_law_291 ⟨hn9, hm9⟩) hA hJ [0, 1, 2, 3, 4, 5, 6, 7, 8, 9, 10, 11, 12, 13, 14, 15] [16, 17, 18, 19, 20, 21, 22, 23, 24, 25, 26, 27, 28, 29, 30, 31, 32, 33, 34, 35, 36, 37, 38, 39, 40, 41, 42, 43] rfl rfl (by decide) (by decide) (fun _ H locs hJ => ?_)
  replace hJ : jH (dC, dI) jCl [(cA, .int), (cL, .long)] (wL cA cL A B A2 ao M' F' M2' F2' L2' O') (lAp s) s H locs := jHswap hJ
  refine lv_istore (lv' := [(6, .int bv), (5, .int k), (0, .ref b), (1, .ref (A 0)), (2, .ref (A2 0)), (3, .ref ao), (4, .int x4)]) hx hb dLa_law_294 hl (by decide) rfl (fun ls hl => ?_)
  refine lv_aload_n hx hb dLa_law_296 rfl (lv_at hl 4 rfl) ?_
  refine jfcalli (wr := hW cA cL A B ao M' F' O') (w1 := fun _ : Nat → Nat => mW cA cL A2 M2' F2' L2') (va_runV (As := []) (rest := []) ⟨hx, hb, hml, hown, hts⟩ (cMo_thrown l dC dI cA cL A2 M2' F2' L2' (fun _ => 0) H.size (show fMo_thrown M2' F2' L2' = some (F2' 0) from rfl)) (cwV 0 hts (jgLV jw_664 jw_665 jw_666 jw_7 jw_667) rfl rfl rfl (by decide +kernel) ⟨Nat.le_of_ble_eq_true rfl, Nat.le_of_ble_eq_true rfl⟩) (jfpreV hN hJ (ci := 6) (q0 := 0) rfl rfl [0, 1, 2, 3, 4, 5, 6, 7, 8, 9, 10, 11, 12, 13, 14, 15] rfl (by decide) rfl [0, 1] rfl) rfl rfl hl.1 rfl (lv_room (Nat.le_of_ble_eq_true rfl)) dLa_law_297 ⟨hn9, hm9⟩) hA hJ [0, 1, 2, 3, 4, 5, 6, 7, 8, 9, 10, 11, 12, 13, 14, 15] [16, 17, 18, 19, 20, 21, 22, 23, 24, 25, 26, 27, 28, 29, 30, 31, 32, 33, 34, 35, 36, 37, 38, 39, 40, 41, 42, 43] rfl rfl (by decide) (by decide) (fun _ H locs hJ => ?_)
  replace hJ : jH (dC, dI) jCl [(cA, .int), (cL, .long)] (wL cA cL A B A2 ao M' F' M2' F2' L2' O') (lAp s) s H locs := jHswap hJ
  refine lv_iload hx hb dLa_law_300 (lv_at hl 1 rfl) ?_
  refine lv_icmp_eq (tgt := 307) hx hb dLa_law_302 (by decide) (fun c1 => ?_) (fun c1 => absurd ht c1)
  refine lv_iload hx hb dLa_law_307 (lv_at hl 1 rfl) ?_
  refine lv_if_ne (tgt := 324) hx hb dLa_law_309 (by decide) (fun c2 => ?_) (fun c2 => ?_)
  · refine lv_goto (tgt := 884) hx hb dLa_law_324 (by decide) ?_
    exact kk B H locs ls hJ (lv_sub hl [2, 3, 4, 5, 6] rfl)
  · refine lv_aload_n hx hb dLa_law_312 rfl (lv_at hl 5 rfl) ?_
    refine lv_iconst (v := 0) hx hb dLa_law_313 (by decide) ?_
    refine va_lald hx hb hJ.1 hJ.2.1 16 1 (f := O') rfl rfl (vp_in_nI (n := 0) (N := 1) (by decide) (by decide)) dLa_law_314 ?_
    refine lv_iload hx hb dLa_law_315 (lv_at hl 0 rfl) ?_
    refine lv_i2l hx hb dLa_law_317 rfl ?_
    refine W.lcmp hx hb dLa_law_318 ?_
    refine lv_if_eq (tgt := 324) hx hb dLa_law_319 (by decide) (fun c3 => ?_) (fun c3 => absurd (by rw [ho c2]; exact (lg_cmp_eq _ _).mpr rfl) c3)
    refine lv_goto (tgt := 884) hx hb dLa_law_324 (by decide) ?_
    exact kk B H locs ls hJ (lv_sub hl [2, 3, 4, 5, 6] rfl)
set_option maxHeartbeats 4000000 in
set_option maxRecDepth 100000 in
theorem law_c4 {p : Program} {l : Launch} {e : Env} {s : State} {m : MethodId} {below : List Frame} {meth : Method} {c : Code} {b L : Nat} {xs : Nat → Int32} (C0 : lAt p l s m meth c b L xs) (dC : Nat → ClassId) (dI : Nat → Nat → Nat) (cA cL : ClassId) (A A2 : Nat → Nat) (ao : Nat) {x4 : Int32} (hi1 : vp_in (x4 + 1) L) (hi2 : vp_in (x4 + 2) L) (hi3 : vp_in (x4 + 3) L) (hi4 : vp_in (x4 + 4) L) {n9 m9 : Nat} (hn9 : n9 + 1 ≤ room_1.cells) (hm9 : m9 + 6 ≤ room_1.slots) {M : jM} {F : jF} {M2 : jM} {F2 : jF} {L2 : jL} {O : Nat → Int64} {k bv : Int32} {M' : jM} {F' : jF} {M2' : jM} {F2' : jF} {L2' : jL} {O' : Nat → Int64} (hk : hLa_equal (xs (x4 + 1).toNatClampNeg) (xs (x4 + 2).toNatClampNeg) (xs (x4 + 3).toNatClampNeg) (xs (x4 + 4).toNatClampNeg) M F O = some (k, M', F', O')) (hm : fMo_equal (xs (x4 + 1).toNatClampNeg) (xs (x4 + 2).toNatClampNeg) (xs (x4 + 3).toNatClampNeg) (xs (x4 + 4).toNatClampNeg) M2 F2 L2 = some (bv, M2', F2', L2')) (ht : F2' 0 = k) (ho : k = 0 → O' (0 : Int32).toNatClampNeg = Int32.toInt64 bv) (kk : ∀ (B : Nat → Nat) (H : Heap) (locs : List Loc) (ls : Array Slot), jH (dC, dI) jCl [(cA, .int), (cL, .long)] (wL cA cL A B A2 ao M' F' M2' F2' L2' O') (lAp s) s H locs → lv_has ls 7 [(0, .ref b), (1, .ref (A 0)), (2, .ref (A2 0)), (3, .ref ao), (4, .int x4)] → W p l e room_1 s m #[Value.ref b] below meth c H locs (n9 + 1) (m9 + 6) (lw_Z below #[Value.ref b] s) (F0 m 884 ls [])) (B : Nat → Nat) (H : Heap) (locs : List Loc) (ls : Array Slot) (hJ : jH (dC, dI) jCl [(cA, .int), (cL, .long)] (wL cA cL A B A2 ao M F M2 F2 L2 O) (lAp s) s H locs) (hl : lv_has ls 7 [(0, .ref b), (1, .ref (A 0)), (2, .ref (A2 0)), (3, .ref ao), (4, .int x4)]) : W p l e room_1 s m #[Value.ref b] below meth c H locs n9 m9 (lw_Z below #[Value.ref b] s) (F0 m 327 ls []) := by
  obtain ⟨hx, hb, -, hml, hown, hts, hXs, hbl, hlocks, hl0, hN, hX, hnc⟩ := id C0
  have hA : ∀ q : Nat, s.heap.size ≤ q → lAp s q := fun _ h => h
  have hbA : ¬ lAp s b := Nat.not_le.mpr hbl
  have hn0 : n9 + 0 ≤ room_1.cells := by omega
  have hm0 : m9 + 0 ≤ room_1.slots := by omega
  have hn9 : n9 + 1 + 0 ≤ room_1.cells := hn9
  have hm9 : m9 + 6 + 0 ≤ room_1.slots := hm9
  refine lv_aload_n hx hb dLa_law_327 rfl (lv_at hl 1 rfl) ?_
  refine lv_aload_n hx hb dLa_law_328 rfl (lv_at hl 0 rfl) ?_
  refine lv_iload hx hb dLa_law_329 (lv_at hl 4 rfl) ?_
  refine lv_iconst (v := 1) hx hb dLa_law_331 (by decide) ?_
  refine lv_iadd hx hb dLa_law_332 ?_
  refine va_sld hx hb hXs hbl hbA hJ.2.2.2 hi1 dLa_law_333 ?_
  refine lv_aload_n hx hb dLa_law_334 rfl (lv_at hl 0 rfl) ?_
  refine lv_iload hx hb dLa_law_335 (lv_at hl 4 rfl) ?_
  refine lv_iconst (v := 2) hx hb dLa_law_337 (by decide) ?_
  refine lv_iadd hx hb dLa_law_338 ?_
  refine va_sld hx hb hXs hbl hbA hJ.2.2.2 hi2 dLa_law_339 ?_
  refine lv_aload_n hx hb dLa_law_340 rfl (lv_at hl 0 rfl) ?_
  refine lv_iload hx hb dLa_law_341 (lv_at hl 4 rfl) ?_
  refine lv_iconst (v := 3) hx hb dLa_law_343 (by decide) ?_
  refine lv_iadd hx hb dLa_law_344 ?_
  refine va_sld hx hb hXs hbl hbA hJ.2.2.2 hi3 dLa_law_345 ?_
  refine lv_aload_n hx hb dLa_law_346 rfl (lv_at hl 0 rfl) ?_
  refine lv_iload hx hb dLa_law_347 (lv_at hl 4 rfl) ?_
  refine lv_iconst (v := 4) hx hb dLa_law_349 (by decide) ?_
  refine lv_iadd hx hb dLa_law_350 ?_
  refine va_sld hx hb hXs hbl hbA hJ.2.2.2 hi4 dLa_law_351 ?_
  refine lv_aload_n hx hb dLa_law_352 rfl (lv_at hl 3 rfl) ?_
  refine jfcalli (wr := mW cA cL A2 M2 F2 L2) (w1 := fun B => hW cA cL A B ao M' F' O') (vx_runSW (As := [.ref (A 0), .int (xs (x4 + 1).toNatClampNeg), .int (xs (x4 + 2).toNatClampNeg), .int (xs (x4 + 3).toNatClampNeg), .int (xs (x4 + 4).toNatClampNeg), .ref ao]) (rest := []) ⟨hx, hb, hml, hown, hts⟩ (cLa_equal l dC dI cA cL A B ao hl0 (xs (x4 + 1).toNatClampNeg) (xs (x4 + 2).toNatClampNeg) (xs (x4 + 3).toNatClampNeg) (xs (x4 + 4).toNatClampNeg) M F O H.size hk) (vx_cwSW 6 hts (jgLS jw_345 jw_346 jw_0 jw_347) rfl rfl rfl (by decide +kernel) ⟨Nat.le_of_ble_eq_true rfl, Nat.le_of_ble_eq_true rfl⟩) (jfpreS hX hnc hA hN hJ [16, 17, 18, 19, 20, 21, 22, 23, 24, 25, 26, 27, 28, 29, 30, 31, 32, 33, 34, 35, 36, 37, 38, 39, 40, 41, 42, 43] rfl (by decide) rfl [0, 1] rfl) rfl rfl hl.1 rfl (lv_room (Nat.le_of_ble_eq_true rfl)) dLa_law_353 ⟨hn9, hm9⟩) hA hJ [16, 17, 18, 19, 20, 21, 22, 23, 24, 25, 26, 27, 28, 29, 30, 31, 32, 33, 34, 35, 36, 37, 38, 39, 40, 41, 42, 43] [0, 1, 2, 3, 4, 5, 6, 7, 8, 9, 10, 11, 12, 13, 14, 15] rfl rfl (by decide) (by decide) (fun B H locs hJ => ?_)
  replace hJ : jH (dC, dI) jCl [(cA, .int), (cL, .long)] (wL cA cL A B A2 ao M' F' M2 F2 L2 O') (lAp s) s H locs := hJ
  refine lv_istore (lv' := [(5, .int k), (0, .ref b), (1, .ref (A 0)), (2, .ref (A2 0)), (3, .ref ao), (4, .int x4)]) hx hb dLa_law_356 hl (by decide) rfl (fun ls hl => ?_)
  refine lv_aload_n hx hb dLa_law_358 rfl (lv_at hl 3 rfl) ?_
  refine lv_aload_n hx hb dLa_law_359 rfl (lv_at hl 1 rfl) ?_
  refine lv_iload hx hb dLa_law_360 (lv_at hl 5 rfl) ?_
  refine lv_iconst (v := 1) hx hb dLa_law_362 (by decide) ?_
  refine lv_iadd hx hb dLa_law_363 ?_
  refine va_sld hx hb hXs hbl hbA hJ.2.2.2 hi1 dLa_law_364 ?_
  refine lv_aload_n hx hb dLa_law_365 rfl (lv_at hl 1 rfl) ?_
  refine lv_iload hx hb dLa_law_366 (lv_at hl 5 rfl) ?_
  refine lv_iconst (v := 2) hx hb dLa_law_368 (by decide) ?_
  refine lv_iadd hx hb dLa_law_369 ?_
  refine va_sld hx hb hXs hbl hbA hJ.2.2.2 hi2 dLa_law_370 ?_
  refine lv_aload_n hx hb dLa_law_371 rfl (lv_at hl 1 rfl) ?_
  refine lv_iload hx hb dLa_law_372 (lv_at hl 5 rfl) ?_
  refine lv_iconst (v := 3) hx hb dLa_law_374 (by decide) ?_
  refine lv_iadd hx hb dLa_law_375 ?_
  refine va_sld hx hb hXs hbl hbA hJ.2.2.2 hi3 dLa_law_376 ?_
  refine lv_aload_n hx hb dLa_law_377 rfl (lv_at hl 1 rfl) ?_
  refine lv_iload hx hb dLa_law_378 (lv_at hl 5 rfl) ?_
  refine lv_iconst (v := 4) hx hb dLa_law_380 (by decide) ?_
  refine lv_iadd hx hb dLa_law_381 ?_
  refine va_sld hx hb hXs hbl hbA hJ.2.2.2 hi4 dLa_law_382 ?_
  refine jfcalli (wr := hW cA cL A B ao M' F' O') (w1 := fun _ : Nat → Nat => mW cA cL A2 M2' F2' L2') (va_runV (As := [.int (xs (x4 + 1).toNatClampNeg), .int (xs (x4 + 2).toNatClampNeg), .int (xs (x4 + 3).toNatClampNeg), .int (xs (x4 + 4).toNatClampNeg)]) (rest := []) ⟨hx, hb, hml, hown, hts⟩ (cMo_equal l dC dI cA cL A2 (xs (x4 + 1).toNatClampNeg) (xs (x4 + 2).toNatClampNeg) (xs (x4 + 3).toNatClampNeg) (xs (x4 + 4).toNatClampNeg) M2 F2 L2 (fun _ => 0) H.size hm) (cwV 4 hts (jgLV jw_687 jw_688 jw_689 jw_7 jw_690) rfl rfl rfl (by decide +kernel) ⟨Nat.le_of_ble_eq_true rfl, Nat.le_of_ble_eq_true rfl⟩) (jfpreV hN hJ (ci := 6) (q0 := 0) rfl rfl [0, 1, 2, 3, 4, 5, 6, 7, 8, 9, 10, 11, 12, 13, 14, 15] rfl (by decide) rfl [0, 1] rfl) rfl rfl hl.1 rfl (lv_room (Nat.le_of_ble_eq_true rfl)) dLa_law_383 ⟨hn9, hm9⟩) hA hJ [0, 1, 2, 3, 4, 5, 6, 7, 8, 9, 10, 11, 12, 13, 14, 15] [16, 17, 18, 19, 20, 21, 22, 23, 24, 25, 26, 27, 28, 29, 30, 31, 32, 33, 34, 35, 36, 37, 38, 39, 40, 41, 42, 43] rfl rfl (by decide) (by decide) (fun _ H locs hJ => ?_)
  replace hJ : jH (dC, dI) jCl [(cA, .int), (cL, .long)] (wL cA cL A B A2 ao M' F' M2' F2' L2' O') (lAp s) s H locs := jHswap hJ
  refine lv_istore (lv' := [(6, .int bv), (5, .int k), (0, .ref b), (1, .ref (A 0)), (2, .ref (A2 0)), (3, .ref ao), (4, .int x4)]) hx hb dLa_law_386 hl (by decide) rfl (fun ls hl => ?_)
  refine lv_aload_n hx hb dLa_law_388 rfl (lv_at hl 4 rfl) ?_
  refine jfcalli (wr := hW cA cL A B ao M' F' O') (w1 := fun _ : Nat → Nat => mW cA cL A2 M2' F2' L2') (va_runV (As := []) (rest := []) ⟨hx, hb, hml, hown, hts⟩ (cMo_thrown l dC dI cA cL A2 M2' F2' L2' (fun _ => 0) H.size (show fMo_thrown M2' F2' L2' = some (F2' 0) from rfl)) (cwV 0 hts (jgLV jw_664 jw_665 jw_666 jw_7 jw_667) rfl rfl rfl (by decide +kernel) ⟨Nat.le_of_ble_eq_true rfl, Nat.le_of_ble_eq_true rfl⟩) (jfpreV hN hJ (ci := 6) (q0 := 0) rfl rfl [0, 1, 2, 3, 4, 5, 6, 7, 8, 9, 10, 11, 12, 13, 14, 15] rfl (by decide) rfl [0, 1] rfl) rfl rfl hl.1 rfl (lv_room (Nat.le_of_ble_eq_true rfl)) dLa_law_389 ⟨hn9, hm9⟩) hA hJ [0, 1, 2, 3, 4, 5, 6, 7, 8, 9, 10, 11, 12, 13, 14, 15] [16, 17, 18, 19, 20, 21, 22, 23, 24, 25, 26, 27, 28, 29, 30, 31, 32, 33, 34, 35, 36, 37, 38, 39, 40, 41, 42, 43] rfl rfl (by decide) (by decide) (fun _ H locs hJ => ?_)
  replace hJ : jH (dC, dI) jCl [(cA, .int), (cL, .long)] (wL cA cL A B A2 ao M' F' M2' F2' L2' O') (lAp s) s H locs := jHswap hJ
  refine lv_iload hx hb dLa_law_392 (lv_at hl 1 rfl) ?_
  refine lv_icmp_eq (tgt := 399) hx hb dLa_law_394 (by decide) (fun c1 => ?_) (fun c1 => absurd ht c1)
  refine lv_iload hx hb dLa_law_399 (lv_at hl 1 rfl) ?_
  refine lv_if_ne (tgt := 416) hx hb dLa_law_401 (by decide) (fun c2 => ?_) (fun c2 => ?_)
  · refine lv_goto (tgt := 884) hx hb dLa_law_416 (by decide) ?_
    exact kk B H locs ls hJ (lv_sub hl [2, 3, 4, 5, 6] rfl)
  · refine lv_aload_n hx hb dLa_law_404 rfl (lv_at hl 5 rfl) ?_
    refine lv_iconst (v := 0) hx hb dLa_law_405 (by decide) ?_
    refine va_lald hx hb hJ.1 hJ.2.1 16 1 (f := O') rfl rfl (vp_in_nI (n := 0) (N := 1) (by decide) (by decide)) dLa_law_406 ?_
    refine lv_iload hx hb dLa_law_407 (lv_at hl 0 rfl) ?_
    refine lv_i2l hx hb dLa_law_409 rfl ?_
    refine W.lcmp hx hb dLa_law_410 ?_
    refine lv_if_eq (tgt := 416) hx hb dLa_law_411 (by decide) (fun c3 => ?_) (fun c3 => absurd (by rw [ho c2]; exact (lg_cmp_eq _ _).mpr rfl) c3)
    refine lv_goto (tgt := 884) hx hb dLa_law_416 (by decide) ?_
    exact kk B H locs ls hJ (lv_sub hl [2, 3, 4, 5, 6] rfl)
set_option maxHeartbeats 4000000 in
set_option maxRecDepth 100000 in
theorem law_c5 {p : Program} {l : Launch} {e : Env} {s : State} {m : MethodId} {below : List Frame} {meth : Method} {c : Code} {b L : Nat} {xs : Nat → Int32} (C0 : lAt p l s m meth c b L xs) (dC : Nat → ClassId) (dI : Nat → Nat → Nat) (cA cL : ClassId) (A A2 : Nat → Nat) (ao : Nat) {x4 : Int32} (hi1 : vp_in (x4 + 1) L) (hi2 : vp_in (x4 + 2) L) (hi3 : vp_in (x4 + 3) L) {n9 m9 : Nat} (hn9 : n9 + 1 ≤ room_1.cells) (hm9 : m9 + 6 ≤ room_1.slots) {M : jM} {F : jF} {M2 : jM} {F2 : jF} {L2 : jL} {O : Nat → Int64} {k bv : Int32} {M' : jM} {F' : jF} {M2' : jM} {F2' : jF} {L2' : jL} {O' : Nat → Int64} (hk : hLa_number (xs (x4 + 1).toNatClampNeg) (xs (x4 + 2).toNatClampNeg) (xs (x4 + 3).toNatClampNeg) M F O = some (k, M', F', O')) (hm : fMo_number (xs (x4 + 1).toNatClampNeg) (xs (x4 + 2).toNatClampNeg) (xs (x4 + 3).toNatClampNeg) M2 F2 L2 = some (bv, M2', F2', L2')) (ht : F2' 0 = k) (ho : k = 0 → O' (0 : Int32).toNatClampNeg = Int32.toInt64 bv) (kk : ∀ (B : Nat → Nat) (H : Heap) (locs : List Loc) (ls : Array Slot), jH (dC, dI) jCl [(cA, .int), (cL, .long)] (wL cA cL A B A2 ao M' F' M2' F2' L2' O') (lAp s) s H locs → lv_has ls 7 [(0, .ref b), (1, .ref (A 0)), (2, .ref (A2 0)), (3, .ref ao), (4, .int x4)] → W p l e room_1 s m #[Value.ref b] below meth c H locs (n9 + 1) (m9 + 6) (lw_Z below #[Value.ref b] s) (F0 m 884 ls [])) (B : Nat → Nat) (H : Heap) (locs : List Loc) (ls : Array Slot) (hJ : jH (dC, dI) jCl [(cA, .int), (cL, .long)] (wL cA cL A B A2 ao M F M2 F2 L2 O) (lAp s) s H locs) (hl : lv_has ls 7 [(0, .ref b), (1, .ref (A 0)), (2, .ref (A2 0)), (3, .ref ao), (4, .int x4)]) : W p l e room_1 s m #[Value.ref b] below meth c H locs n9 m9 (lw_Z below #[Value.ref b] s) (F0 m 419 ls []) := by
  obtain ⟨hx, hb, -, hml, hown, hts, hXs, hbl, hlocks, hl0, hN, hX, hnc⟩ := id C0
  have hA : ∀ q : Nat, s.heap.size ≤ q → lAp s q := fun _ h => h
  have hbA : ¬ lAp s b := Nat.not_le.mpr hbl
  have hn0 : n9 + 0 ≤ room_1.cells := by omega
  have hm0 : m9 + 0 ≤ room_1.slots := by omega
  have hn9 : n9 + 1 + 0 ≤ room_1.cells := hn9
  have hm9 : m9 + 6 + 0 ≤ room_1.slots := hm9
  refine lv_aload_n hx hb dLa_law_419 rfl (lv_at hl 1 rfl) ?_
  refine lv_aload_n hx hb dLa_law_420 rfl (lv_at hl 0 rfl) ?_
  refine lv_iload hx hb dLa_law_421 (lv_at hl 4 rfl) ?_
  refine lv_iconst (v := 1) hx hb dLa_law_423 (by decide) ?_
  refine lv_iadd hx hb dLa_law_424 ?_
  refine va_sld hx hb hXs hbl hbA hJ.2.2.2 hi1 dLa_law_425 ?_
  refine lv_aload_n hx hb dLa_law_426 rfl (lv_at hl 0 rfl) ?_
  refine lv_iload hx hb dLa_law_427 (lv_at hl 4 rfl) ?_
  refine lv_iconst (v := 2) hx hb dLa_law_429 (by decide) ?_
  refine lv_iadd hx hb dLa_law_430 ?_
  refine va_sld hx hb hXs hbl hbA hJ.2.2.2 hi2 dLa_law_431 ?_
  refine lv_aload_n hx hb dLa_law_432 rfl (lv_at hl 0 rfl) ?_
  refine lv_iload hx hb dLa_law_433 (lv_at hl 4 rfl) ?_
  refine lv_iconst (v := 3) hx hb dLa_law_435 (by decide) ?_
  refine lv_iadd hx hb dLa_law_436 ?_
  refine va_sld hx hb hXs hbl hbA hJ.2.2.2 hi3 dLa_law_437 ?_
  refine lv_aload_n hx hb dLa_law_438 rfl (lv_at hl 3 rfl) ?_
  refine jfcalli (wr := mW cA cL A2 M2 F2 L2) (w1 := fun B => hW cA cL A B ao M' F' O') (vx_runSW (As := [.ref (A 0), .int (xs (x4 + 1).toNatClampNeg), .int (xs (x4 + 2).toNatClampNeg), .int (xs (x4 + 3).toNatClampNeg), .ref ao]) (rest := []) ⟨hx, hb, hml, hown, hts⟩ (cLa_number l dC dI cA cL A B ao hl0 (xs (x4 + 1).toNatClampNeg) (xs (x4 + 2).toNatClampNeg) (xs (x4 + 3).toNatClampNeg) M F O H.size hk) (vx_cwSW 5 hts (jgLS jw_366 jw_367 jw_0 jw_368) rfl rfl rfl (by decide +kernel) ⟨Nat.le_of_ble_eq_true rfl, Nat.le_of_ble_eq_true rfl⟩) (jfpreS hX hnc hA hN hJ [16, 17, 18, 19, 20, 21, 22, 23, 24, 25, 26, 27, 28, 29, 30, 31, 32, 33, 34, 35, 36, 37, 38, 39, 40, 41, 42, 43] rfl (by decide) rfl [0, 1] rfl) rfl rfl hl.1 rfl (lv_room (Nat.le_of_ble_eq_true rfl)) dLa_law_439 ⟨hn9, hm9⟩) hA hJ [16, 17, 18, 19, 20, 21, 22, 23, 24, 25, 26, 27, 28, 29, 30, 31, 32, 33, 34, 35, 36, 37, 38, 39, 40, 41, 42, 43] [0, 1, 2, 3, 4, 5, 6, 7, 8, 9, 10, 11, 12, 13, 14, 15] rfl rfl (by decide) (by decide) (fun B H locs hJ => ?_)
  replace hJ : jH (dC, dI) jCl [(cA, .int), (cL, .long)] (wL cA cL A B A2 ao M' F' M2 F2 L2 O') (lAp s) s H locs := hJ
  refine lv_istore (lv' := [(5, .int k), (0, .ref b), (1, .ref (A 0)), (2, .ref (A2 0)), (3, .ref ao), (4, .int x4)]) hx hb dLa_law_442 hl (by decide) rfl (fun ls hl => ?_)
  refine lv_aload_n hx hb dLa_law_444 rfl (lv_at hl 3 rfl) ?_
  refine lv_aload_n hx hb dLa_law_445 rfl (lv_at hl 1 rfl) ?_
  refine lv_iload hx hb dLa_law_446 (lv_at hl 5 rfl) ?_
  refine lv_iconst (v := 1) hx hb dLa_law_448 (by decide) ?_
  refine lv_iadd hx hb dLa_law_449 ?_
  refine va_sld hx hb hXs hbl hbA hJ.2.2.2 hi1 dLa_law_450 ?_
  refine lv_aload_n hx hb dLa_law_451 rfl (lv_at hl 1 rfl) ?_
  refine lv_iload hx hb dLa_law_452 (lv_at hl 5 rfl) ?_
  refine lv_iconst (v := 2) hx hb dLa_law_454 (by decide) ?_
  refine lv_iadd hx hb dLa_law_455 ?_
  refine va_sld hx hb hXs hbl hbA hJ.2.2.2 hi2 dLa_law_456 ?_
  refine lv_aload_n hx hb dLa_law_457 rfl (lv_at hl 1 rfl) ?_
  refine lv_iload hx hb dLa_law_458 (lv_at hl 5 rfl) ?_
  refine lv_iconst (v := 3) hx hb dLa_law_460 (by decide) ?_
  refine lv_iadd hx hb dLa_law_461 ?_
  refine va_sld hx hb hXs hbl hbA hJ.2.2.2 hi3 dLa_law_462 ?_
  refine jfcalli (wr := hW cA cL A B ao M' F' O') (w1 := fun _ : Nat → Nat => mW cA cL A2 M2' F2' L2') (va_runV (As := [.int (xs (x4 + 1).toNatClampNeg), .int (xs (x4 + 2).toNatClampNeg), .int (xs (x4 + 3).toNatClampNeg)]) (rest := []) ⟨hx, hb, hml, hown, hts⟩ (cMo_number l dC dI cA cL A2 (xs (x4 + 1).toNatClampNeg) (xs (x4 + 2).toNatClampNeg) (xs (x4 + 3).toNatClampNeg) M2 F2 L2 (fun _ => 0) H.size hm) (cwV 3 hts (jgLV jw_699 jw_700 jw_701 jw_7 jw_702) rfl rfl rfl (by decide +kernel) ⟨Nat.le_of_ble_eq_true rfl, Nat.le_of_ble_eq_true rfl⟩) (jfpreV hN hJ (ci := 6) (q0 := 0) rfl rfl [0, 1, 2, 3, 4, 5, 6, 7, 8, 9, 10, 11, 12, 13, 14, 15] rfl (by decide) rfl [0, 1] rfl) rfl rfl hl.1 rfl (lv_room (Nat.le_of_ble_eq_true rfl)) dLa_law_463 ⟨hn9, hm9⟩) hA hJ [0, 1, 2, 3, 4, 5, 6, 7, 8, 9, 10, 11, 12, 13, 14, 15] [16, 17, 18, 19, 20, 21, 22, 23, 24, 25, 26, 27, 28, 29, 30, 31, 32, 33, 34, 35, 36, 37, 38, 39, 40, 41, 42, 43] rfl rfl (by decide) (by decide) (fun _ H locs hJ => ?_)
  replace hJ : jH (dC, dI) jCl [(cA, .int), (cL, .long)] (wL cA cL A B A2 ao M' F' M2' F2' L2' O') (lAp s) s H locs := jHswap hJ
  refine lv_istore (lv' := [(6, .int bv), (5, .int k), (0, .ref b), (1, .ref (A 0)), (2, .ref (A2 0)), (3, .ref ao), (4, .int x4)]) hx hb dLa_law_466 hl (by decide) rfl (fun ls hl => ?_)
  refine lv_aload_n hx hb dLa_law_468 rfl (lv_at hl 4 rfl) ?_
  refine jfcalli (wr := hW cA cL A B ao M' F' O') (w1 := fun _ : Nat → Nat => mW cA cL A2 M2' F2' L2') (va_runV (As := []) (rest := []) ⟨hx, hb, hml, hown, hts⟩ (cMo_thrown l dC dI cA cL A2 M2' F2' L2' (fun _ => 0) H.size (show fMo_thrown M2' F2' L2' = some (F2' 0) from rfl)) (cwV 0 hts (jgLV jw_664 jw_665 jw_666 jw_7 jw_667) rfl rfl rfl (by decide +kernel) ⟨Nat.le_of_ble_eq_true rfl, Nat.le_of_ble_eq_true rfl⟩) (jfpreV hN hJ (ci := 6) (q0 := 0) rfl rfl [0, 1, 2, 3, 4, 5, 6, 7, 8, 9, 10, 11, 12, 13, 14, 15] rfl (by decide) rfl [0, 1] rfl) rfl rfl hl.1 rfl (lv_room (Nat.le_of_ble_eq_true rfl)) dLa_law_469 ⟨hn9, hm9⟩) hA hJ [0, 1, 2, 3, 4, 5, 6, 7, 8, 9, 10, 11, 12, 13, 14, 15] [16, 17, 18, 19, 20, 21, 22, 23, 24, 25, 26, 27, 28, 29, 30, 31, 32, 33, 34, 35, 36, 37, 38, 39, 40, 41, 42, 43] rfl rfl (by decide) (by decide) (fun _ H locs hJ => ?_)
  replace hJ : jH (dC, dI) jCl [(cA, .int), (cL, .long)] (wL cA cL A B A2 ao M' F' M2' F2' L2' O') (lAp s) s H locs := jHswap hJ
  refine lv_iload hx hb dLa_law_472 (lv_at hl 1 rfl) ?_
  refine lv_icmp_eq (tgt := 479) hx hb dLa_law_474 (by decide) (fun c1 => ?_) (fun c1 => absurd ht c1)
  refine lv_iload hx hb dLa_law_479 (lv_at hl 1 rfl) ?_
  refine lv_if_ne (tgt := 496) hx hb dLa_law_481 (by decide) (fun c2 => ?_) (fun c2 => ?_)
  · refine lv_goto (tgt := 884) hx hb dLa_law_496 (by decide) ?_
    exact kk B H locs ls hJ (lv_sub hl [2, 3, 4, 5, 6] rfl)
  · refine lv_aload_n hx hb dLa_law_484 rfl (lv_at hl 5 rfl) ?_
    refine lv_iconst (v := 0) hx hb dLa_law_485 (by decide) ?_
    refine va_lald hx hb hJ.1 hJ.2.1 16 1 (f := O') rfl rfl (vp_in_nI (n := 0) (N := 1) (by decide) (by decide)) dLa_law_486 ?_
    refine lv_iload hx hb dLa_law_487 (lv_at hl 0 rfl) ?_
    refine lv_i2l hx hb dLa_law_489 rfl ?_
    refine W.lcmp hx hb dLa_law_490 ?_
    refine lv_if_eq (tgt := 496) hx hb dLa_law_491 (by decide) (fun c3 => ?_) (fun c3 => absurd (by rw [ho c2]; exact (lg_cmp_eq _ _).mpr rfl) c3)
    refine lv_goto (tgt := 884) hx hb dLa_law_496 (by decide) ?_
    exact kk B H locs ls hJ (lv_sub hl [2, 3, 4, 5, 6] rfl)
set_option maxHeartbeats 4000000 in
set_option maxRecDepth 100000 in
theorem law_c6 {p : Program} {l : Launch} {e : Env} {s : State} {m : MethodId} {below : List Frame} {meth : Method} {c : Code} {b L : Nat} {xs : Nat → Int32} (C0 : lAt p l s m meth c b L xs) (dC : Nat → ClassId) (dI : Nat → Nat → Nat) (cA cL : ClassId) (A A2 : Nat → Nat) (ao : Nat) {x4 : Int32} (hi1 : vp_in (x4 + 1) L) (hi2 : vp_in (x4 + 2) L) (hi3 : vp_in (x4 + 3) L) (hi4 : vp_in (x4 + 4) L) {n9 m9 : Nat} (hn9 : n9 + 1 ≤ room_1.cells) (hm9 : m9 + 6 ≤ room_1.slots) {M : jM} {F : jF} {M2 : jM} {F2 : jF} {L2 : jL} {O : Nat → Int64} {k bv : Int32} {M' : jM} {F' : jF} {M2' : jM} {F2' : jF} {L2' : jL} {O' : Nat → Int64} (hk : hLa_less (xs (x4 + 1).toNatClampNeg) (xs (x4 + 2).toNatClampNeg) (xs (x4 + 3).toNatClampNeg) (xs (x4 + 4).toNatClampNeg) M F O = some (k, M', F', O')) (hm : fMo_less (xs (x4 + 1).toNatClampNeg) (xs (x4 + 2).toNatClampNeg) (xs (x4 + 3).toNatClampNeg) (xs (x4 + 4).toNatClampNeg) M2 F2 L2 = some (bv, M2', F2', L2')) (ht : F2' 0 = k) (ho : k = 0 → O' (0 : Int32).toNatClampNeg = Int32.toInt64 bv) (kk : ∀ (B : Nat → Nat) (H : Heap) (locs : List Loc) (ls : Array Slot), jH (dC, dI) jCl [(cA, .int), (cL, .long)] (wL cA cL A B A2 ao M' F' M2' F2' L2' O') (lAp s) s H locs → lv_has ls 7 [(0, .ref b), (1, .ref (A 0)), (2, .ref (A2 0)), (3, .ref ao), (4, .int x4)] → W p l e room_1 s m #[Value.ref b] below meth c H locs (n9 + 1) (m9 + 6) (lw_Z below #[Value.ref b] s) (F0 m 884 ls [])) (B : Nat → Nat) (H : Heap) (locs : List Loc) (ls : Array Slot) (hJ : jH (dC, dI) jCl [(cA, .int), (cL, .long)] (wL cA cL A B A2 ao M F M2 F2 L2 O) (lAp s) s H locs) (hl : lv_has ls 7 [(0, .ref b), (1, .ref (A 0)), (2, .ref (A2 0)), (3, .ref ao), (4, .int x4)]) : W p l e room_1 s m #[Value.ref b] below meth c H locs n9 m9 (lw_Z below #[Value.ref b] s) (F0 m 499 ls []) := by
  obtain ⟨hx, hb, -, hml, hown, hts, hXs, hbl, hlocks, hl0, hN, hX, hnc⟩ := id C0
  have hA : ∀ q : Nat, s.heap.size ≤ q → lAp s q := fun _ h => h
  have hbA : ¬ lAp s b := Nat.not_le.mpr hbl
  have hn0 : n9 + 0 ≤ room_1.cells := by omega
  have hm0 : m9 + 0 ≤ room_1.slots := by omega
  have hn9 : n9 + 1 + 0 ≤ room_1.cells := hn9
  have hm9 : m9 + 6 + 0 ≤ room_1.slots := hm9
  refine lv_aload_n hx hb dLa_law_499 rfl (lv_at hl 1 rfl) ?_
  refine lv_aload_n hx hb dLa_law_500 rfl (lv_at hl 0 rfl) ?_
  refine lv_iload hx hb dLa_law_501 (lv_at hl 4 rfl) ?_
  refine lv_iconst (v := 1) hx hb dLa_law_503 (by decide) ?_
  refine lv_iadd hx hb dLa_law_504 ?_
  refine va_sld hx hb hXs hbl hbA hJ.2.2.2 hi1 dLa_law_505 ?_
  refine lv_aload_n hx hb dLa_law_506 rfl (lv_at hl 0 rfl) ?_
  refine lv_iload hx hb dLa_law_507 (lv_at hl 4 rfl) ?_
  refine lv_iconst (v := 2) hx hb dLa_law_509 (by decide) ?_
  refine lv_iadd hx hb dLa_law_510 ?_
  refine va_sld hx hb hXs hbl hbA hJ.2.2.2 hi2 dLa_law_511 ?_
  refine lv_aload_n hx hb dLa_law_512 rfl (lv_at hl 0 rfl) ?_
  refine lv_iload hx hb dLa_law_513 (lv_at hl 4 rfl) ?_
  refine lv_iconst (v := 3) hx hb dLa_law_515 (by decide) ?_
  refine lv_iadd hx hb dLa_law_516 ?_
  refine va_sld hx hb hXs hbl hbA hJ.2.2.2 hi3 dLa_law_517 ?_
  refine lv_aload_n hx hb dLa_law_518 rfl (lv_at hl 0 rfl) ?_
  refine lv_iload hx hb dLa_law_519 (lv_at hl 4 rfl) ?_
  refine lv_iconst (v := 4) hx hb dLa_law_521 (by decide) ?_
  refine lv_iadd hx hb dLa_law_522 ?_
  refine va_sld hx hb hXs hbl hbA hJ.2.2.2 hi4 dLa_law_523 ?_
  refine lv_aload_n hx hb dLa_law_524 rfl (lv_at hl 3 rfl) ?_
  refine jfcalli (wr := mW cA cL A2 M2 F2 L2) (w1 := fun B => hW cA cL A B ao M' F' O') (vx_runSW (As := [.ref (A 0), .int (xs (x4 + 1).toNatClampNeg), .int (xs (x4 + 2).toNatClampNeg), .int (xs (x4 + 3).toNatClampNeg), .int (xs (x4 + 4).toNatClampNeg), .ref ao]) (rest := []) ⟨hx, hb, hml, hown, hts⟩ (cLa_less l dC dI cA cL A B ao hl0 (xs (x4 + 1).toNatClampNeg) (xs (x4 + 2).toNatClampNeg) (xs (x4 + 3).toNatClampNeg) (xs (x4 + 4).toNatClampNeg) M F O H.size hk) (vx_cwSW 6 hts (jgLS jw_373 jw_374 jw_0 jw_375) rfl rfl rfl (by decide +kernel) ⟨Nat.le_of_ble_eq_true rfl, Nat.le_of_ble_eq_true rfl⟩) (jfpreS hX hnc hA hN hJ [16, 17, 18, 19, 20, 21, 22, 23, 24, 25, 26, 27, 28, 29, 30, 31, 32, 33, 34, 35, 36, 37, 38, 39, 40, 41, 42, 43] rfl (by decide) rfl [0, 1] rfl) rfl rfl hl.1 rfl (lv_room (Nat.le_of_ble_eq_true rfl)) dLa_law_525 ⟨hn9, hm9⟩) hA hJ [16, 17, 18, 19, 20, 21, 22, 23, 24, 25, 26, 27, 28, 29, 30, 31, 32, 33, 34, 35, 36, 37, 38, 39, 40, 41, 42, 43] [0, 1, 2, 3, 4, 5, 6, 7, 8, 9, 10, 11, 12, 13, 14, 15] rfl rfl (by decide) (by decide) (fun B H locs hJ => ?_)
  replace hJ : jH (dC, dI) jCl [(cA, .int), (cL, .long)] (wL cA cL A B A2 ao M' F' M2 F2 L2 O') (lAp s) s H locs := hJ
  refine lv_istore (lv' := [(5, .int k), (0, .ref b), (1, .ref (A 0)), (2, .ref (A2 0)), (3, .ref ao), (4, .int x4)]) hx hb dLa_law_528 hl (by decide) rfl (fun ls hl => ?_)
  refine lv_aload_n hx hb dLa_law_530 rfl (lv_at hl 3 rfl) ?_
  refine lv_aload_n hx hb dLa_law_531 rfl (lv_at hl 1 rfl) ?_
  refine lv_iload hx hb dLa_law_532 (lv_at hl 5 rfl) ?_
  refine lv_iconst (v := 1) hx hb dLa_law_534 (by decide) ?_
  refine lv_iadd hx hb dLa_law_535 ?_
  refine va_sld hx hb hXs hbl hbA hJ.2.2.2 hi1 dLa_law_536 ?_
  refine lv_aload_n hx hb dLa_law_537 rfl (lv_at hl 1 rfl) ?_
  refine lv_iload hx hb dLa_law_538 (lv_at hl 5 rfl) ?_
  refine lv_iconst (v := 2) hx hb dLa_law_540 (by decide) ?_
  refine lv_iadd hx hb dLa_law_541 ?_
  refine va_sld hx hb hXs hbl hbA hJ.2.2.2 hi2 dLa_law_542 ?_
  refine lv_aload_n hx hb dLa_law_543 rfl (lv_at hl 1 rfl) ?_
  refine lv_iload hx hb dLa_law_544 (lv_at hl 5 rfl) ?_
  refine lv_iconst (v := 3) hx hb dLa_law_546 (by decide) ?_
  refine lv_iadd hx hb dLa_law_547 ?_
  refine va_sld hx hb hXs hbl hbA hJ.2.2.2 hi3 dLa_law_548 ?_
  refine lv_aload_n hx hb dLa_law_549 rfl (lv_at hl 1 rfl) ?_
  refine lv_iload hx hb dLa_law_550 (lv_at hl 5 rfl) ?_
  refine lv_iconst (v := 4) hx hb dLa_law_552 (by decide) ?_
  refine lv_iadd hx hb dLa_law_553 ?_
  refine va_sld hx hb hXs hbl hbA hJ.2.2.2 hi4 dLa_law_554 ?_
  refine jfcalli (wr := hW cA cL A B ao M' F' O') (w1 := fun _ : Nat → Nat => mW cA cL A2 M2' F2' L2') (va_runV (As := [.int (xs (x4 + 1).toNatClampNeg), .int (xs (x4 + 2).toNatClampNeg), .int (xs (x4 + 3).toNatClampNeg), .int (xs (x4 + 4).toNatClampNeg)]) (rest := []) ⟨hx, hb, hml, hown, hts⟩ (cMo_less l dC dI cA cL A2 (xs (x4 + 1).toNatClampNeg) (xs (x4 + 2).toNatClampNeg) (xs (x4 + 3).toNatClampNeg) (xs (x4 + 4).toNatClampNeg) M2 F2 L2 (fun _ => 0) H.size hm) (cwV 4 hts (jgLV jw_703 jw_704 jw_705 jw_7 jw_706) rfl rfl rfl (by decide +kernel) ⟨Nat.le_of_ble_eq_true rfl, Nat.le_of_ble_eq_true rfl⟩) (jfpreV hN hJ (ci := 6) (q0 := 0) rfl rfl [0, 1, 2, 3, 4, 5, 6, 7, 8, 9, 10, 11, 12, 13, 14, 15] rfl (by decide) rfl [0, 1] rfl) rfl rfl hl.1 rfl (lv_room (Nat.le_of_ble_eq_true rfl)) dLa_law_555 ⟨hn9, hm9⟩) hA hJ [0, 1, 2, 3, 4, 5, 6, 7, 8, 9, 10, 11, 12, 13, 14, 15] [16, 17, 18, 19, 20, 21, 22, 23, 24, 25, 26, 27, 28, 29, 30, 31, 32, 33, 34, 35, 36, 37, 38, 39, 40, 41, 42, 43] rfl rfl (by decide) (by decide) (fun _ H locs hJ => ?_)
  replace hJ : jH (dC, dI) jCl [(cA, .int), (cL, .long)] (wL cA cL A B A2 ao M' F' M2' F2' L2' O') (lAp s) s H locs := jHswap hJ
  refine lv_istore (lv' := [(6, .int bv), (5, .int k), (0, .ref b), (1, .ref (A 0)), (2, .ref (A2 0)), (3, .ref ao), (4, .int x4)]) hx hb dLa_law_558 hl (by decide) rfl (fun ls hl => ?_)
  refine lv_aload_n hx hb dLa_law_560 rfl (lv_at hl 4 rfl) ?_
  refine jfcalli (wr := hW cA cL A B ao M' F' O') (w1 := fun _ : Nat → Nat => mW cA cL A2 M2' F2' L2') (va_runV (As := []) (rest := []) ⟨hx, hb, hml, hown, hts⟩ (cMo_thrown l dC dI cA cL A2 M2' F2' L2' (fun _ => 0) H.size (show fMo_thrown M2' F2' L2' = some (F2' 0) from rfl)) (cwV 0 hts (jgLV jw_664 jw_665 jw_666 jw_7 jw_667) rfl rfl rfl (by decide +kernel) ⟨Nat.le_of_ble_eq_true rfl, Nat.le_of_ble_eq_true rfl⟩) (jfpreV hN hJ (ci := 6) (q0 := 0) rfl rfl [0, 1, 2, 3, 4, 5, 6, 7, 8, 9, 10, 11, 12, 13, 14, 15] rfl (by decide) rfl [0, 1] rfl) rfl rfl hl.1 rfl (lv_room (Nat.le_of_ble_eq_true rfl)) dLa_law_561 ⟨hn9, hm9⟩) hA hJ [0, 1, 2, 3, 4, 5, 6, 7, 8, 9, 10, 11, 12, 13, 14, 15] [16, 17, 18, 19, 20, 21, 22, 23, 24, 25, 26, 27, 28, 29, 30, 31, 32, 33, 34, 35, 36, 37, 38, 39, 40, 41, 42, 43] rfl rfl (by decide) (by decide) (fun _ H locs hJ => ?_)
  replace hJ : jH (dC, dI) jCl [(cA, .int), (cL, .long)] (wL cA cL A B A2 ao M' F' M2' F2' L2' O') (lAp s) s H locs := jHswap hJ
  refine lv_iload hx hb dLa_law_564 (lv_at hl 1 rfl) ?_
  refine lv_icmp_eq (tgt := 571) hx hb dLa_law_566 (by decide) (fun c1 => ?_) (fun c1 => absurd ht c1)
  refine lv_iload hx hb dLa_law_571 (lv_at hl 1 rfl) ?_
  refine lv_if_ne (tgt := 588) hx hb dLa_law_573 (by decide) (fun c2 => ?_) (fun c2 => ?_)
  · refine lv_goto (tgt := 884) hx hb dLa_law_588 (by decide) ?_
    exact kk B H locs ls hJ (lv_sub hl [2, 3, 4, 5, 6] rfl)
  · refine lv_aload_n hx hb dLa_law_576 rfl (lv_at hl 5 rfl) ?_
    refine lv_iconst (v := 0) hx hb dLa_law_577 (by decide) ?_
    refine va_lald hx hb hJ.1 hJ.2.1 16 1 (f := O') rfl rfl (vp_in_nI (n := 0) (N := 1) (by decide) (by decide)) dLa_law_578 ?_
    refine lv_iload hx hb dLa_law_579 (lv_at hl 0 rfl) ?_
    refine lv_i2l hx hb dLa_law_581 rfl ?_
    refine W.lcmp hx hb dLa_law_582 ?_
    refine lv_if_eq (tgt := 588) hx hb dLa_law_583 (by decide) (fun c3 => ?_) (fun c3 => absurd (by rw [ho c2]; exact (lg_cmp_eq _ _).mpr rfl) c3)
    refine lv_goto (tgt := 884) hx hb dLa_law_588 (by decide) ?_
    exact kk B H locs ls hJ (lv_sub hl [2, 3, 4, 5, 6] rfl)
set_option maxHeartbeats 4000000 in
set_option maxRecDepth 100000 in
theorem law_c7 {p : Program} {l : Launch} {e : Env} {s : State} {m : MethodId} {below : List Frame} {meth : Method} {c : Code} {b L : Nat} {xs : Nat → Int32} (C0 : lAt p l s m meth c b L xs) (dC : Nat → ClassId) (dI : Nat → Nat → Nat) (cA cL : ClassId) (A A2 : Nat → Nat) (ao : Nat) {x4 : Int32} (hi1 : vp_in (x4 + 1) L) {n9 m9 : Nat} (hn9 : n9 + 1 ≤ room_1.cells) (hm9 : m9 + 6 ≤ room_1.slots) {M : jM} {F : jF} {M2 : jM} {F2 : jF} {L2 : jL} {O : Nat → Int64} {k bv : Int32} {M' : jM} {F' : jF} {M2' : jM} {F2' : jF} {L2' : jL} {O' : Nat → Int64} (hk : hLa_plan (xs (x4 + 1).toNatClampNeg) M F O = some (k, M', F', O')) (hm : fMo_plan (xs (x4 + 1).toNatClampNeg) M2 F2 L2 = some (bv, M2', F2', L2')) (ht : F2' 0 = k) (ho : k = 0 → O' (0 : Int32).toNatClampNeg = Int32.toInt64 bv) (kk : ∀ (B : Nat → Nat) (H : Heap) (locs : List Loc) (ls : Array Slot), jH (dC, dI) jCl [(cA, .int), (cL, .long)] (wL cA cL A B A2 ao M' F' M2' F2' L2' O') (lAp s) s H locs → lv_has ls 7 [(0, .ref b), (1, .ref (A 0)), (2, .ref (A2 0)), (3, .ref ao), (4, .int x4)] → W p l e room_1 s m #[Value.ref b] below meth c H locs (n9 + 1) (m9 + 6) (lw_Z below #[Value.ref b] s) (F0 m 884 ls [])) (B : Nat → Nat) (H : Heap) (locs : List Loc) (ls : Array Slot) (hJ : jH (dC, dI) jCl [(cA, .int), (cL, .long)] (wL cA cL A B A2 ao M F M2 F2 L2 O) (lAp s) s H locs) (hl : lv_has ls 7 [(0, .ref b), (1, .ref (A 0)), (2, .ref (A2 0)), (3, .ref ao), (4, .int x4)]) : W p l e room_1 s m #[Value.ref b] below meth c H locs n9 m9 (lw_Z below #[Value.ref b] s) (F0 m 591 ls []) := by
  obtain ⟨hx, hb, -, hml, hown, hts, hXs, hbl, hlocks, hl0, hN, hX, hnc⟩ := id C0
  have hA : ∀ q : Nat, s.heap.size ≤ q → lAp s q := fun _ h => h
  have hbA : ¬ lAp s b := Nat.not_le.mpr hbl
  have hn0 : n9 + 0 ≤ room_1.cells := by omega
  have hm0 : m9 + 0 ≤ room_1.slots := by omega
  have hn9 : n9 + 1 + 0 ≤ room_1.cells := hn9
  have hm9 : m9 + 6 + 0 ≤ room_1.slots := hm9
  refine lv_aload_n hx hb dLa_law_591 rfl (lv_at hl 1 rfl) ?_
  refine lv_aload_n hx hb dLa_law_592 rfl (lv_at hl 0 rfl) ?_
  refine lv_iload hx hb dLa_law_593 (lv_at hl 4 rfl) ?_
  refine lv_iconst (v := 1) hx hb dLa_law_595 (by decide) ?_
  refine lv_iadd hx hb dLa_law_596 ?_
  refine va_sld hx hb hXs hbl hbA hJ.2.2.2 hi1 dLa_law_597 ?_
  refine lv_aload_n hx hb dLa_law_598 rfl (lv_at hl 3 rfl) ?_
  refine jfcalli (wr := mW cA cL A2 M2 F2 L2) (w1 := fun B => hW cA cL A B ao M' F' O') (vx_runSW (As := [.ref (A 0), .int (xs (x4 + 1).toNatClampNeg), .ref ao]) (rest := []) ⟨hx, hb, hml, hown, hts⟩ (cLa_plan l dC dI cA cL A B ao hl0 (xs (x4 + 1).toNatClampNeg) M F O H.size hk) (vx_cwSW 3 hts (jgLS jw_380 jw_381 jw_0 jw_382) rfl rfl rfl (by decide +kernel) ⟨Nat.le_of_ble_eq_true rfl, Nat.le_of_ble_eq_true rfl⟩) (jfpreS hX hnc hA hN hJ [16, 17, 18, 19, 20, 21, 22, 23, 24, 25, 26, 27, 28, 29, 30, 31, 32, 33, 34, 35, 36, 37, 38, 39, 40, 41, 42, 43] rfl (by decide) rfl [0, 1] rfl) rfl rfl hl.1 rfl (lv_room (Nat.le_of_ble_eq_true rfl)) dLa_law_599 ⟨hn9, hm9⟩) hA hJ [16, 17, 18, 19, 20, 21, 22, 23, 24, 25, 26, 27, 28, 29, 30, 31, 32, 33, 34, 35, 36, 37, 38, 39, 40, 41, 42, 43] [0, 1, 2, 3, 4, 5, 6, 7, 8, 9, 10, 11, 12, 13, 14, 15] rfl rfl (by decide) (by decide) (fun B H locs hJ => ?_)
  replace hJ : jH (dC, dI) jCl [(cA, .int), (cL, .long)] (wL cA cL A B A2 ao M' F' M2 F2 L2 O') (lAp s) s H locs := hJ
  refine lv_istore (lv' := [(5, .int k), (0, .ref b), (1, .ref (A 0)), (2, .ref (A2 0)), (3, .ref ao), (4, .int x4)]) hx hb dLa_law_602 hl (by decide) rfl (fun ls hl => ?_)
  refine lv_aload_n hx hb dLa_law_604 rfl (lv_at hl 3 rfl) ?_
  refine lv_aload_n hx hb dLa_law_605 rfl (lv_at hl 1 rfl) ?_
  refine lv_iload hx hb dLa_law_606 (lv_at hl 5 rfl) ?_
  refine lv_iconst (v := 1) hx hb dLa_law_608 (by decide) ?_
  refine lv_iadd hx hb dLa_law_609 ?_
  refine va_sld hx hb hXs hbl hbA hJ.2.2.2 hi1 dLa_law_610 ?_
  refine jfcalli (wr := hW cA cL A B ao M' F' O') (w1 := fun _ : Nat → Nat => mW cA cL A2 M2' F2' L2') (va_runV (As := [.int (xs (x4 + 1).toNatClampNeg)]) (rest := []) ⟨hx, hb, hml, hown, hts⟩ (cMo_plan l dC dI cA cL A2 (xs (x4 + 1).toNatClampNeg) M2 F2 L2 (fun _ => 0) H.size hm) (cwV 1 hts (jgLV jw_707 jw_708 jw_709 jw_7 jw_710) rfl rfl rfl (by decide +kernel) ⟨Nat.le_of_ble_eq_true rfl, Nat.le_of_ble_eq_true rfl⟩) (jfpreV hN hJ (ci := 6) (q0 := 0) rfl rfl [0, 1, 2, 3, 4, 5, 6, 7, 8, 9, 10, 11, 12, 13, 14, 15] rfl (by decide) rfl [0, 1] rfl) rfl rfl hl.1 rfl (lv_room (Nat.le_of_ble_eq_true rfl)) dLa_law_611 ⟨hn9, hm9⟩) hA hJ [0, 1, 2, 3, 4, 5, 6, 7, 8, 9, 10, 11, 12, 13, 14, 15] [16, 17, 18, 19, 20, 21, 22, 23, 24, 25, 26, 27, 28, 29, 30, 31, 32, 33, 34, 35, 36, 37, 38, 39, 40, 41, 42, 43] rfl rfl (by decide) (by decide) (fun _ H locs hJ => ?_)
  replace hJ : jH (dC, dI) jCl [(cA, .int), (cL, .long)] (wL cA cL A B A2 ao M' F' M2' F2' L2' O') (lAp s) s H locs := jHswap hJ
  refine lv_istore (lv' := [(6, .int bv), (5, .int k), (0, .ref b), (1, .ref (A 0)), (2, .ref (A2 0)), (3, .ref ao), (4, .int x4)]) hx hb dLa_law_614 hl (by decide) rfl (fun ls hl => ?_)
  refine lv_aload_n hx hb dLa_law_616 rfl (lv_at hl 4 rfl) ?_
  refine jfcalli (wr := hW cA cL A B ao M' F' O') (w1 := fun _ : Nat → Nat => mW cA cL A2 M2' F2' L2') (va_runV (As := []) (rest := []) ⟨hx, hb, hml, hown, hts⟩ (cMo_thrown l dC dI cA cL A2 M2' F2' L2' (fun _ => 0) H.size (show fMo_thrown M2' F2' L2' = some (F2' 0) from rfl)) (cwV 0 hts (jgLV jw_664 jw_665 jw_666 jw_7 jw_667) rfl rfl rfl (by decide +kernel) ⟨Nat.le_of_ble_eq_true rfl, Nat.le_of_ble_eq_true rfl⟩) (jfpreV hN hJ (ci := 6) (q0 := 0) rfl rfl [0, 1, 2, 3, 4, 5, 6, 7, 8, 9, 10, 11, 12, 13, 14, 15] rfl (by decide) rfl [0, 1] rfl) rfl rfl hl.1 rfl (lv_room (Nat.le_of_ble_eq_true rfl)) dLa_law_617 ⟨hn9, hm9⟩) hA hJ [0, 1, 2, 3, 4, 5, 6, 7, 8, 9, 10, 11, 12, 13, 14, 15] [16, 17, 18, 19, 20, 21, 22, 23, 24, 25, 26, 27, 28, 29, 30, 31, 32, 33, 34, 35, 36, 37, 38, 39, 40, 41, 42, 43] rfl rfl (by decide) (by decide) (fun _ H locs hJ => ?_)
  replace hJ : jH (dC, dI) jCl [(cA, .int), (cL, .long)] (wL cA cL A B A2 ao M' F' M2' F2' L2' O') (lAp s) s H locs := jHswap hJ
  refine lv_iload hx hb dLa_law_620 (lv_at hl 1 rfl) ?_
  refine lv_icmp_eq (tgt := 627) hx hb dLa_law_622 (by decide) (fun c1 => ?_) (fun c1 => absurd ht c1)
  refine lv_iload hx hb dLa_law_627 (lv_at hl 1 rfl) ?_
  refine lv_if_ne (tgt := 644) hx hb dLa_law_629 (by decide) (fun c2 => ?_) (fun c2 => ?_)
  · refine lv_goto (tgt := 884) hx hb dLa_law_644 (by decide) ?_
    exact kk B H locs ls hJ (lv_sub hl [2, 3, 4, 5, 6] rfl)
  · refine lv_aload_n hx hb dLa_law_632 rfl (lv_at hl 5 rfl) ?_
    refine lv_iconst (v := 0) hx hb dLa_law_633 (by decide) ?_
    refine va_lald hx hb hJ.1 hJ.2.1 16 1 (f := O') rfl rfl (vp_in_nI (n := 0) (N := 1) (by decide) (by decide)) dLa_law_634 ?_
    refine lv_iload hx hb dLa_law_635 (lv_at hl 0 rfl) ?_
    refine lv_i2l hx hb dLa_law_637 rfl ?_
    refine W.lcmp hx hb dLa_law_638 ?_
    refine lv_if_eq (tgt := 644) hx hb dLa_law_639 (by decide) (fun c3 => ?_) (fun c3 => absurd (by rw [ho c2]; exact (lg_cmp_eq _ _).mpr rfl) c3)
    refine lv_goto (tgt := 884) hx hb dLa_law_644 (by decide) ?_
    exact kk B H locs ls hJ (lv_sub hl [2, 3, 4, 5, 6] rfl)
set_option maxHeartbeats 4000000 in
set_option maxRecDepth 100000 in
theorem law_c8 {p : Program} {l : Launch} {e : Env} {s : State} {m : MethodId} {below : List Frame} {meth : Method} {c : Code} {b L : Nat} {xs : Nat → Int32} (C0 : lAt p l s m meth c b L xs) (dC : Nat → ClassId) (dI : Nat → Nat → Nat) (cA cL : ClassId) (A A2 : Nat → Nat) (ao : Nat) {x4 : Int32} (hi1 : vp_in (x4 + 1) L) {n9 m9 : Nat} (hn9 : n9 + 1 ≤ room_1.cells) (hm9 : m9 + 6 ≤ room_1.slots) {M : jM} {F : jF} {M2 : jM} {F2 : jF} {L2 : jL} {O : Nat → Int64} {k bv : Int32} {M' : jM} {F' : jF} {M2' : jM} {F2' : jF} {L2' : jL} {O' : Nat → Int64} (hk : hLa_method (xs (x4 + 1).toNatClampNeg) M F O = some (k, M', F', O')) (hm : fMo_method (xs (x4 + 1).toNatClampNeg) M2 F2 L2 = some (bv, M2', F2', L2')) (ht : F2' 0 = k) (ho : k = 0 → O' (0 : Int32).toNatClampNeg = Int32.toInt64 bv) (kk : ∀ (B : Nat → Nat) (H : Heap) (locs : List Loc) (ls : Array Slot), jH (dC, dI) jCl [(cA, .int), (cL, .long)] (wL cA cL A B A2 ao M' F' M2' F2' L2' O') (lAp s) s H locs → lv_has ls 7 [(0, .ref b), (1, .ref (A 0)), (2, .ref (A2 0)), (3, .ref ao), (4, .int x4)] → W p l e room_1 s m #[Value.ref b] below meth c H locs (n9 + 1) (m9 + 6) (lw_Z below #[Value.ref b] s) (F0 m 884 ls [])) (B : Nat → Nat) (H : Heap) (locs : List Loc) (ls : Array Slot) (hJ : jH (dC, dI) jCl [(cA, .int), (cL, .long)] (wL cA cL A B A2 ao M F M2 F2 L2 O) (lAp s) s H locs) (hl : lv_has ls 7 [(0, .ref b), (1, .ref (A 0)), (2, .ref (A2 0)), (3, .ref ao), (4, .int x4)]) : W p l e room_1 s m #[Value.ref b] below meth c H locs n9 m9 (lw_Z below #[Value.ref b] s) (F0 m 647 ls []) := by
  obtain ⟨hx, hb, -, hml, hown, hts, hXs, hbl, hlocks, hl0, hN, hX, hnc⟩ := id C0
  have hA : ∀ q : Nat, s.heap.size ≤ q → lAp s q := fun _ h => h
  have hbA : ¬ lAp s b := Nat.not_le.mpr hbl
  have hn0 : n9 + 0 ≤ room_1.cells := by omega
  have hm0 : m9 + 0 ≤ room_1.slots := by omega
  have hn9 : n9 + 1 + 0 ≤ room_1.cells := hn9
  have hm9 : m9 + 6 + 0 ≤ room_1.slots := hm9
  refine lv_aload_n hx hb dLa_law_647 rfl (lv_at hl 1 rfl) ?_
  refine lv_aload_n hx hb dLa_law_648 rfl (lv_at hl 0 rfl) ?_
  refine lv_iload hx hb dLa_law_649 (lv_at hl 4 rfl) ?_
  refine lv_iconst (v := 1) hx hb dLa_law_651 (by decide) ?_
  refine lv_iadd hx hb dLa_law_652 ?_
  refine va_sld hx hb hXs hbl hbA hJ.2.2.2 hi1 dLa_law_653 ?_
  refine lv_aload_n hx hb dLa_law_654 rfl (lv_at hl 3 rfl) ?_
  refine jfcalli (wr := mW cA cL A2 M2 F2 L2) (w1 := fun B => hW cA cL A B ao M' F' O') (vx_runSW (As := [.ref (A 0), .int (xs (x4 + 1).toNatClampNeg), .ref ao]) (rest := []) ⟨hx, hb, hml, hown, hts⟩ (cLa_method l dC dI cA cL A B ao hl0 (xs (x4 + 1).toNatClampNeg) M F O H.size hk) (vx_cwSW 3 hts (jgLS jw_451 jw_452 jw_0 jw_453) rfl rfl rfl (by decide +kernel) ⟨Nat.le_of_ble_eq_true rfl, Nat.le_of_ble_eq_true rfl⟩) (jfpreS hX hnc hA hN hJ [16, 17, 18, 19, 20, 21, 22, 23, 24, 25, 26, 27, 28, 29, 30, 31, 32, 33, 34, 35, 36, 37, 38, 39, 40, 41, 42, 43] rfl (by decide) rfl [0, 1] rfl) rfl rfl hl.1 rfl (lv_room (Nat.le_of_ble_eq_true rfl)) dLa_law_655 ⟨hn9, hm9⟩) hA hJ [16, 17, 18, 19, 20, 21, 22, 23, 24, 25, 26, 27, 28, 29, 30, 31, 32, 33, 34, 35, 36, 37, 38, 39, 40, 41, 42, 43] [0, 1, 2, 3, 4, 5, 6, 7, 8, 9, 10, 11, 12, 13, 14, 15] rfl rfl (by decide) (by decide) (fun B H locs hJ => ?_)
  replace hJ : jH (dC, dI) jCl [(cA, .int), (cL, .long)] (wL cA cL A B A2 ao M' F' M2 F2 L2 O') (lAp s) s H locs := hJ
  refine lv_istore (lv' := [(5, .int k), (0, .ref b), (1, .ref (A 0)), (2, .ref (A2 0)), (3, .ref ao), (4, .int x4)]) hx hb dLa_law_658 hl (by decide) rfl (fun ls hl => ?_)
  refine lv_aload_n hx hb dLa_law_660 rfl (lv_at hl 3 rfl) ?_
  refine lv_aload_n hx hb dLa_law_661 rfl (lv_at hl 1 rfl) ?_
  refine lv_iload hx hb dLa_law_662 (lv_at hl 5 rfl) ?_
  refine lv_iconst (v := 1) hx hb dLa_law_664 (by decide) ?_
  refine lv_iadd hx hb dLa_law_665 ?_
  refine va_sld hx hb hXs hbl hbA hJ.2.2.2 hi1 dLa_law_666 ?_
  refine jfcalli (wr := hW cA cL A B ao M' F' O') (w1 := fun _ : Nat → Nat => mW cA cL A2 M2' F2' L2') (va_runV (As := [.int (xs (x4 + 1).toNatClampNeg)]) (rest := []) ⟨hx, hb, hml, hown, hts⟩ (cMo_method l dC dI cA cL A2 (xs (x4 + 1).toNatClampNeg) M2 F2 L2 (fun _ => 0) H.size hm) (cwV 1 hts (jgLV jw_752 jw_753 jw_754 jw_7 jw_755) rfl rfl rfl (by decide +kernel) ⟨Nat.le_of_ble_eq_true rfl, Nat.le_of_ble_eq_true rfl⟩) (jfpreV hN hJ (ci := 6) (q0 := 0) rfl rfl [0, 1, 2, 3, 4, 5, 6, 7, 8, 9, 10, 11, 12, 13, 14, 15] rfl (by decide) rfl [0, 1] rfl) rfl rfl hl.1 rfl (lv_room (Nat.le_of_ble_eq_true rfl)) dLa_law_667 ⟨hn9, hm9⟩) hA hJ [0, 1, 2, 3, 4, 5, 6, 7, 8, 9, 10, 11, 12, 13, 14, 15] [16, 17, 18, 19, 20, 21, 22, 23, 24, 25, 26, 27, 28, 29, 30, 31, 32, 33, 34, 35, 36, 37, 38, 39, 40, 41, 42, 43] rfl rfl (by decide) (by decide) (fun _ H locs hJ => ?_)
  replace hJ : jH (dC, dI) jCl [(cA, .int), (cL, .long)] (wL cA cL A B A2 ao M' F' M2' F2' L2' O') (lAp s) s H locs := jHswap hJ
  refine lv_istore (lv' := [(6, .int bv), (5, .int k), (0, .ref b), (1, .ref (A 0)), (2, .ref (A2 0)), (3, .ref ao), (4, .int x4)]) hx hb dLa_law_670 hl (by decide) rfl (fun ls hl => ?_)
  refine lv_aload_n hx hb dLa_law_672 rfl (lv_at hl 4 rfl) ?_
  refine jfcalli (wr := hW cA cL A B ao M' F' O') (w1 := fun _ : Nat → Nat => mW cA cL A2 M2' F2' L2') (va_runV (As := []) (rest := []) ⟨hx, hb, hml, hown, hts⟩ (cMo_thrown l dC dI cA cL A2 M2' F2' L2' (fun _ => 0) H.size (show fMo_thrown M2' F2' L2' = some (F2' 0) from rfl)) (cwV 0 hts (jgLV jw_664 jw_665 jw_666 jw_7 jw_667) rfl rfl rfl (by decide +kernel) ⟨Nat.le_of_ble_eq_true rfl, Nat.le_of_ble_eq_true rfl⟩) (jfpreV hN hJ (ci := 6) (q0 := 0) rfl rfl [0, 1, 2, 3, 4, 5, 6, 7, 8, 9, 10, 11, 12, 13, 14, 15] rfl (by decide) rfl [0, 1] rfl) rfl rfl hl.1 rfl (lv_room (Nat.le_of_ble_eq_true rfl)) dLa_law_673 ⟨hn9, hm9⟩) hA hJ [0, 1, 2, 3, 4, 5, 6, 7, 8, 9, 10, 11, 12, 13, 14, 15] [16, 17, 18, 19, 20, 21, 22, 23, 24, 25, 26, 27, 28, 29, 30, 31, 32, 33, 34, 35, 36, 37, 38, 39, 40, 41, 42, 43] rfl rfl (by decide) (by decide) (fun _ H locs hJ => ?_)
  replace hJ : jH (dC, dI) jCl [(cA, .int), (cL, .long)] (wL cA cL A B A2 ao M' F' M2' F2' L2' O') (lAp s) s H locs := jHswap hJ
  refine lv_iload hx hb dLa_law_676 (lv_at hl 1 rfl) ?_
  refine lv_icmp_eq (tgt := 683) hx hb dLa_law_678 (by decide) (fun c1 => ?_) (fun c1 => absurd ht c1)
  refine lv_iload hx hb dLa_law_683 (lv_at hl 1 rfl) ?_
  refine lv_if_ne (tgt := 700) hx hb dLa_law_685 (by decide) (fun c2 => ?_) (fun c2 => ?_)
  · refine lv_goto (tgt := 884) hx hb dLa_law_700 (by decide) ?_
    exact kk B H locs ls hJ (lv_sub hl [2, 3, 4, 5, 6] rfl)
  · refine lv_aload_n hx hb dLa_law_688 rfl (lv_at hl 5 rfl) ?_
    refine lv_iconst (v := 0) hx hb dLa_law_689 (by decide) ?_
    refine va_lald hx hb hJ.1 hJ.2.1 16 1 (f := O') rfl rfl (vp_in_nI (n := 0) (N := 1) (by decide) (by decide)) dLa_law_690 ?_
    refine lv_iload hx hb dLa_law_691 (lv_at hl 0 rfl) ?_
    refine lv_i2l hx hb dLa_law_693 rfl ?_
    refine W.lcmp hx hb dLa_law_694 ?_
    refine lv_if_eq (tgt := 700) hx hb dLa_law_695 (by decide) (fun c3 => ?_) (fun c3 => absurd (by rw [ho c2]; exact (lg_cmp_eq _ _).mpr rfl) c3)
    refine lv_goto (tgt := 884) hx hb dLa_law_700 (by decide) ?_
    exact kk B H locs ls hJ (lv_sub hl [2, 3, 4, 5, 6] rfl)
set_option maxHeartbeats 4000000 in
set_option maxRecDepth 100000 in
theorem law_c9 {p : Program} {l : Launch} {e : Env} {s : State} {m : MethodId} {below : List Frame} {meth : Method} {c : Code} {b L : Nat} {xs : Nat → Int32} (C0 : lAt p l s m meth c b L xs) (dC : Nat → ClassId) (dI : Nat → Nat → Nat) (cA cL : ClassId) (A A2 : Nat → Nat) (ao : Nat) {x4 : Int32} (hi1 : vp_in (x4 + 1) L) {n9 m9 : Nat} (hn9 : n9 + 1 ≤ room_1.cells) (hm9 : m9 + 6 ≤ room_1.slots) {M : jM} {F : jF} {M2 : jM} {F2 : jF} {L2 : jL} {O : Nat → Int64} {k bv : Int32} {M' : jM} {F' : jF} {M2' : jM} {F2' : jF} {L2' : jL} {O' : Nat → Int64} (hk : hLa_size (xs (x4 + 1).toNatClampNeg) M F O = some (k, M', F', O')) (hm : fMo_size (xs (x4 + 1).toNatClampNeg) M2 F2 L2 = some (bv, M2', F2', L2')) (ht : F2' 0 = k) (ho : k = 0 → O' (0 : Int32).toNatClampNeg = Int32.toInt64 bv) (kk : ∀ (B : Nat → Nat) (H : Heap) (locs : List Loc) (ls : Array Slot), jH (dC, dI) jCl [(cA, .int), (cL, .long)] (wL cA cL A B A2 ao M' F' M2' F2' L2' O') (lAp s) s H locs → lv_has ls 7 [(0, .ref b), (1, .ref (A 0)), (2, .ref (A2 0)), (3, .ref ao), (4, .int x4)] → W p l e room_1 s m #[Value.ref b] below meth c H locs (n9 + 1) (m9 + 6) (lw_Z below #[Value.ref b] s) (F0 m 884 ls [])) (B : Nat → Nat) (H : Heap) (locs : List Loc) (ls : Array Slot) (hJ : jH (dC, dI) jCl [(cA, .int), (cL, .long)] (wL cA cL A B A2 ao M F M2 F2 L2 O) (lAp s) s H locs) (hl : lv_has ls 7 [(0, .ref b), (1, .ref (A 0)), (2, .ref (A2 0)), (3, .ref ao), (4, .int x4)]) : W p l e room_1 s m #[Value.ref b] below meth c H locs n9 m9 (lw_Z below #[Value.ref b] s) (F0 m 703 ls []) := by
  obtain ⟨hx, hb, -, hml, hown, hts, hXs, hbl, hlocks, hl0, hN, hX, hnc⟩ := id C0
  have hA : ∀ q : Nat, s.heap.size ≤ q → lAp s q := fun _ h => h
  have hbA : ¬ lAp s b := Nat.not_le.mpr hbl
  have hn0 : n9 + 0 ≤ room_1.cells := by omega
  have hm0 : m9 + 0 ≤ room_1.slots := by omega
  have hn9 : n9 + 1 + 0 ≤ room_1.cells := hn9
  have hm9 : m9 + 6 + 0 ≤ room_1.slots := hm9
  refine lv_aload_n hx hb dLa_law_703 rfl (lv_at hl 1 rfl) ?_
  refine lv_aload_n hx hb dLa_law_704 rfl (lv_at hl 0 rfl) ?_
  refine lv_iload hx hb dLa_law_705 (lv_at hl 4 rfl) ?_
  refine lv_iconst (v := 1) hx hb dLa_law_707 (by decide) ?_
  refine lv_iadd hx hb dLa_law_708 ?_
  refine va_sld hx hb hXs hbl hbA hJ.2.2.2 hi1 dLa_law_709 ?_
  refine lv_aload_n hx hb dLa_law_710 rfl (lv_at hl 3 rfl) ?_
  refine jfcalli (wr := mW cA cL A2 M2 F2 L2) (w1 := fun B => hW cA cL A B ao M' F' O') (vx_runSW (As := [.ref (A 0), .int (xs (x4 + 1).toNatClampNeg), .ref ao]) (rest := []) ⟨hx, hb, hml, hown, hts⟩ (cLa_size l dC dI cA cL A B ao hl0 (xs (x4 + 1).toNatClampNeg) M F O H.size hk) (vx_cwSW 3 hts (jgLS jw_491 jw_492 jw_0 jw_493) rfl rfl rfl (by decide +kernel) ⟨Nat.le_of_ble_eq_true rfl, Nat.le_of_ble_eq_true rfl⟩) (jfpreS hX hnc hA hN hJ [16, 17, 18, 19, 20, 21, 22, 23, 24, 25, 26, 27, 28, 29, 30, 31, 32, 33, 34, 35, 36, 37, 38, 39, 40, 41, 42, 43] rfl (by decide) rfl [0, 1] rfl) rfl rfl hl.1 rfl (lv_room (Nat.le_of_ble_eq_true rfl)) dLa_law_711 ⟨hn9, hm9⟩) hA hJ [16, 17, 18, 19, 20, 21, 22, 23, 24, 25, 26, 27, 28, 29, 30, 31, 32, 33, 34, 35, 36, 37, 38, 39, 40, 41, 42, 43] [0, 1, 2, 3, 4, 5, 6, 7, 8, 9, 10, 11, 12, 13, 14, 15] rfl rfl (by decide) (by decide) (fun B H locs hJ => ?_)
  replace hJ : jH (dC, dI) jCl [(cA, .int), (cL, .long)] (wL cA cL A B A2 ao M' F' M2 F2 L2 O') (lAp s) s H locs := hJ
  refine lv_istore (lv' := [(5, .int k), (0, .ref b), (1, .ref (A 0)), (2, .ref (A2 0)), (3, .ref ao), (4, .int x4)]) hx hb dLa_law_714 hl (by decide) rfl (fun ls hl => ?_)
  refine lv_aload_n hx hb dLa_law_716 rfl (lv_at hl 3 rfl) ?_
  refine lv_aload_n hx hb dLa_law_717 rfl (lv_at hl 1 rfl) ?_
  refine lv_iload hx hb dLa_law_718 (lv_at hl 5 rfl) ?_
  refine lv_iconst (v := 1) hx hb dLa_law_720 (by decide) ?_
  refine lv_iadd hx hb dLa_law_721 ?_
  refine va_sld hx hb hXs hbl hbA hJ.2.2.2 hi1 dLa_law_722 ?_
  refine jfcalli (wr := hW cA cL A B ao M' F' O') (w1 := fun _ : Nat → Nat => mW cA cL A2 M2' F2' L2') (va_runV (As := [.int (xs (x4 + 1).toNatClampNeg)]) (rest := []) ⟨hx, hb, hml, hown, hts⟩ (cMo_size l dC dI cA cL A2 (xs (x4 + 1).toNatClampNeg) M2 F2 L2 (fun _ => 0) H.size hm) (cwV 1 hts (jgLV jw_772 jw_773 jw_774 jw_7 jw_775) rfl rfl rfl (by decide +kernel) ⟨Nat.le_of_ble_eq_true rfl, Nat.le_of_ble_eq_true rfl⟩) (jfpreV hN hJ (ci := 6) (q0 := 0) rfl rfl [0, 1, 2, 3, 4, 5, 6, 7, 8, 9, 10, 11, 12, 13, 14, 15] rfl (by decide) rfl [0, 1] rfl) rfl rfl hl.1 rfl (lv_room (Nat.le_of_ble_eq_true rfl)) dLa_law_723 ⟨hn9, hm9⟩) hA hJ [0, 1, 2, 3, 4, 5, 6, 7, 8, 9, 10, 11, 12, 13, 14, 15] [16, 17, 18, 19, 20, 21, 22, 23, 24, 25, 26, 27, 28, 29, 30, 31, 32, 33, 34, 35, 36, 37, 38, 39, 40, 41, 42, 43] rfl rfl (by decide) (by decide) (fun _ H locs hJ => ?_)
  replace hJ : jH (dC, dI) jCl [(cA, .int), (cL, .long)] (wL cA cL A B A2 ao M' F' M2' F2' L2' O') (lAp s) s H locs := jHswap hJ
  refine lv_istore (lv' := [(6, .int bv), (5, .int k), (0, .ref b), (1, .ref (A 0)), (2, .ref (A2 0)), (3, .ref ao), (4, .int x4)]) hx hb dLa_law_726 hl (by decide) rfl (fun ls hl => ?_)
  refine lv_aload_n hx hb dLa_law_728 rfl (lv_at hl 4 rfl) ?_
  refine jfcalli (wr := hW cA cL A B ao M' F' O') (w1 := fun _ : Nat → Nat => mW cA cL A2 M2' F2' L2') (va_runV (As := []) (rest := []) ⟨hx, hb, hml, hown, hts⟩ (cMo_thrown l dC dI cA cL A2 M2' F2' L2' (fun _ => 0) H.size (show fMo_thrown M2' F2' L2' = some (F2' 0) from rfl)) (cwV 0 hts (jgLV jw_664 jw_665 jw_666 jw_7 jw_667) rfl rfl rfl (by decide +kernel) ⟨Nat.le_of_ble_eq_true rfl, Nat.le_of_ble_eq_true rfl⟩) (jfpreV hN hJ (ci := 6) (q0 := 0) rfl rfl [0, 1, 2, 3, 4, 5, 6, 7, 8, 9, 10, 11, 12, 13, 14, 15] rfl (by decide) rfl [0, 1] rfl) rfl rfl hl.1 rfl (lv_room (Nat.le_of_ble_eq_true rfl)) dLa_law_729 ⟨hn9, hm9⟩) hA hJ [0, 1, 2, 3, 4, 5, 6, 7, 8, 9, 10, 11, 12, 13, 14, 15] [16, 17, 18, 19, 20, 21, 22, 23, 24, 25, 26, 27, 28, 29, 30, 31, 32, 33, 34, 35, 36, 37, 38, 39, 40, 41, 42, 43] rfl rfl (by decide) (by decide) (fun _ H locs hJ => ?_)
  replace hJ : jH (dC, dI) jCl [(cA, .int), (cL, .long)] (wL cA cL A B A2 ao M' F' M2' F2' L2' O') (lAp s) s H locs := jHswap hJ
  refine lv_iload hx hb dLa_law_732 (lv_at hl 1 rfl) ?_
  refine lv_icmp_eq (tgt := 739) hx hb dLa_law_734 (by decide) (fun c1 => ?_) (fun c1 => absurd ht c1)
  refine lv_iload hx hb dLa_law_739 (lv_at hl 1 rfl) ?_
  refine lv_if_ne (tgt := 756) hx hb dLa_law_741 (by decide) (fun c2 => ?_) (fun c2 => ?_)
  · refine lv_goto (tgt := 884) hx hb dLa_law_756 (by decide) ?_
    exact kk B H locs ls hJ (lv_sub hl [2, 3, 4, 5, 6] rfl)
  · refine lv_aload_n hx hb dLa_law_744 rfl (lv_at hl 5 rfl) ?_
    refine lv_iconst (v := 0) hx hb dLa_law_745 (by decide) ?_
    refine va_lald hx hb hJ.1 hJ.2.1 16 1 (f := O') rfl rfl (vp_in_nI (n := 0) (N := 1) (by decide) (by decide)) dLa_law_746 ?_
    refine lv_iload hx hb dLa_law_747 (lv_at hl 0 rfl) ?_
    refine lv_i2l hx hb dLa_law_749 rfl ?_
    refine W.lcmp hx hb dLa_law_750 ?_
    refine lv_if_eq (tgt := 756) hx hb dLa_law_751 (by decide) (fun c3 => ?_) (fun c3 => absurd (by rw [ho c2]; exact (lg_cmp_eq _ _).mpr rfl) c3)
    refine lv_goto (tgt := 884) hx hb dLa_law_756 (by decide) ?_
    exact kk B H locs ls hJ (lv_sub hl [2, 3, 4, 5, 6] rfl)
set_option maxHeartbeats 4000000 in
set_option maxRecDepth 100000 in
theorem law_c10 {p : Program} {l : Launch} {e : Env} {s : State} {m : MethodId} {below : List Frame} {meth : Method} {c : Code} {b L : Nat} {xs : Nat → Int32} (C0 : lAt p l s m meth c b L xs) (dC : Nat → ClassId) (dI : Nat → Nat → Nat) (cA cL : ClassId) (A A2 : Nat → Nat) (ao : Nat) {x4 : Int32}  {n9 m9 : Nat} (hn9 : n9 + 1 ≤ room_1.cells) (hm9 : m9 + 6 ≤ room_1.slots) {M : jM} {F : jF} {M2 : jM} {F2 : jF} {L2 : jL} {O : Nat → Int64} {k bv : Int32} {M' : jM} {F' : jF} {M2' : jM} {F2' : jF} {L2' : jL} {O' : Nat → Int64} (hk : hLa_run  M F O = some (k, M', F', O')) (hm : fMo_run M2 F2 L2 = some (bv, M2', F2', L2')) (ht : F2' 0 = k) (ho : k = 0 → O' (0 : Int32).toNatClampNeg = Int32.toInt64 bv) (kk : ∀ (B : Nat → Nat) (H : Heap) (locs : List Loc) (ls : Array Slot), jH (dC, dI) jCl [(cA, .int), (cL, .long)] (wL cA cL A B A2 ao M' F' M2' F2' L2' O') (lAp s) s H locs → lv_has ls 7 [(0, .ref b), (1, .ref (A 0)), (2, .ref (A2 0)), (3, .ref ao), (4, .int x4)] → W p l e room_1 s m #[Value.ref b] below meth c H locs (n9 + 1) (m9 + 6) (lw_Z below #[Value.ref b] s) (F0 m 884 ls [])) (B : Nat → Nat) (H : Heap) (locs : List Loc) (ls : Array Slot) (hJ : jH (dC, dI) jCl [(cA, .int), (cL, .long)] (wL cA cL A B A2 ao M F M2 F2 L2 O) (lAp s) s H locs) (hl : lv_has ls 7 [(0, .ref b), (1, .ref (A 0)), (2, .ref (A2 0)), (3, .ref ao), (4, .int x4)]) : W p l e room_1 s m #[Value.ref b] below meth c H locs n9 m9 (lw_Z below #[Value.ref b] s) (F0 m 759 ls []) := by
  obtain ⟨hx, hb, -, hml, hown, hts, hXs, hbl, hlocks, hl0, hN, hX, hnc⟩ := id C0
  have hA : ∀ q : Nat, s.heap.size ≤ q → lAp s q := fun _ h => h
  have hbA : ¬ lAp s b := Nat.not_le.mpr hbl
  have hn0 : n9 + 0 ≤ room_1.cells := by omega
  have hm0 : m9 + 0 ≤ room_1.slots := by omega
  have hn9 : n9 + 1 + 0 ≤ room_1.cells := hn9
  have hm9 : m9 + 6 + 0 ≤ room_1.slots := hm9
  refine lv_aload_n hx hb dLa_law_759 rfl (lv_at hl 1 rfl) ?_
  refine lv_aload_n hx hb dLa_law_760 rfl (lv_at hl 3 rfl) ?_
  refine jfcalli (wr := mW cA cL A2 M2 F2 L2) (w1 := fun B => hW cA cL A B ao M' F' O') (vx_runSW (As := [.ref (A 0), .ref ao]) (rest := []) ⟨hx, hb, hml, hown, hts⟩ (cLa_run l dC dI cA cL A B ao hl0 M F O H.size hk) (vx_cwSW 2 hts (jgLS jw_502 jw_503 jw_0 jw_504) rfl rfl rfl (by decide +kernel) ⟨Nat.le_of_ble_eq_true rfl, Nat.le_of_ble_eq_true rfl⟩) (jfpreS hX hnc hA hN hJ [16, 17, 18, 19, 20, 21, 22, 23, 24, 25, 26, 27, 28, 29, 30, 31, 32, 33, 34, 35, 36, 37, 38, 39, 40, 41, 42, 43] rfl (by decide) rfl [0, 1] rfl) rfl rfl hl.1 rfl (lv_room (Nat.le_of_ble_eq_true rfl)) dLa_law_761 ⟨hn9, hm9⟩) hA hJ [16, 17, 18, 19, 20, 21, 22, 23, 24, 25, 26, 27, 28, 29, 30, 31, 32, 33, 34, 35, 36, 37, 38, 39, 40, 41, 42, 43] [0, 1, 2, 3, 4, 5, 6, 7, 8, 9, 10, 11, 12, 13, 14, 15] rfl rfl (by decide) (by decide) (fun B H locs hJ => ?_)
  replace hJ : jH (dC, dI) jCl [(cA, .int), (cL, .long)] (wL cA cL A B A2 ao M' F' M2 F2 L2 O') (lAp s) s H locs := hJ
  refine lv_istore (lv' := [(5, .int k), (0, .ref b), (1, .ref (A 0)), (2, .ref (A2 0)), (3, .ref ao), (4, .int x4)]) hx hb dLa_law_764 hl (by decide) rfl (fun ls hl => ?_)
  refine lv_aload_n hx hb dLa_law_766 rfl (lv_at hl 3 rfl) ?_
  refine jfcalli (wr := hW cA cL A B ao M' F' O') (w1 := fun _ : Nat → Nat => mW cA cL A2 M2' F2' L2') (va_runV (As := []) (rest := []) ⟨hx, hb, hml, hown, hts⟩ (cMo_run l dC dI cA cL A2 M2 F2 L2 (fun _ => 0) H.size hm) (cwV 0 hts (jgLV jw_776 jw_777 jw_778 jw_7 jw_779) rfl rfl rfl (by decide +kernel) ⟨Nat.le_of_ble_eq_true rfl, Nat.le_of_ble_eq_true rfl⟩) (jfpreV hN hJ (ci := 6) (q0 := 0) rfl rfl [0, 1, 2, 3, 4, 5, 6, 7, 8, 9, 10, 11, 12, 13, 14, 15] rfl (by decide) rfl [0, 1] rfl) rfl rfl hl.1 rfl (lv_room (Nat.le_of_ble_eq_true rfl)) dLa_law_767 ⟨hn9, hm9⟩) hA hJ [0, 1, 2, 3, 4, 5, 6, 7, 8, 9, 10, 11, 12, 13, 14, 15] [16, 17, 18, 19, 20, 21, 22, 23, 24, 25, 26, 27, 28, 29, 30, 31, 32, 33, 34, 35, 36, 37, 38, 39, 40, 41, 42, 43] rfl rfl (by decide) (by decide) (fun _ H locs hJ => ?_)
  replace hJ : jH (dC, dI) jCl [(cA, .int), (cL, .long)] (wL cA cL A B A2 ao M' F' M2' F2' L2' O') (lAp s) s H locs := jHswap hJ
  refine lv_istore (lv' := [(6, .int bv), (5, .int k), (0, .ref b), (1, .ref (A 0)), (2, .ref (A2 0)), (3, .ref ao), (4, .int x4)]) hx hb dLa_law_770 hl (by decide) rfl (fun ls hl => ?_)
  refine lv_aload_n hx hb dLa_law_772 rfl (lv_at hl 4 rfl) ?_
  refine jfcalli (wr := hW cA cL A B ao M' F' O') (w1 := fun _ : Nat → Nat => mW cA cL A2 M2' F2' L2') (va_runV (As := []) (rest := []) ⟨hx, hb, hml, hown, hts⟩ (cMo_thrown l dC dI cA cL A2 M2' F2' L2' (fun _ => 0) H.size (show fMo_thrown M2' F2' L2' = some (F2' 0) from rfl)) (cwV 0 hts (jgLV jw_664 jw_665 jw_666 jw_7 jw_667) rfl rfl rfl (by decide +kernel) ⟨Nat.le_of_ble_eq_true rfl, Nat.le_of_ble_eq_true rfl⟩) (jfpreV hN hJ (ci := 6) (q0 := 0) rfl rfl [0, 1, 2, 3, 4, 5, 6, 7, 8, 9, 10, 11, 12, 13, 14, 15] rfl (by decide) rfl [0, 1] rfl) rfl rfl hl.1 rfl (lv_room (Nat.le_of_ble_eq_true rfl)) dLa_law_773 ⟨hn9, hm9⟩) hA hJ [0, 1, 2, 3, 4, 5, 6, 7, 8, 9, 10, 11, 12, 13, 14, 15] [16, 17, 18, 19, 20, 21, 22, 23, 24, 25, 26, 27, 28, 29, 30, 31, 32, 33, 34, 35, 36, 37, 38, 39, 40, 41, 42, 43] rfl rfl (by decide) (by decide) (fun _ H locs hJ => ?_)
  replace hJ : jH (dC, dI) jCl [(cA, .int), (cL, .long)] (wL cA cL A B A2 ao M' F' M2' F2' L2' O') (lAp s) s H locs := jHswap hJ
  refine lv_iload hx hb dLa_law_776 (lv_at hl 1 rfl) ?_
  refine lv_icmp_eq (tgt := 783) hx hb dLa_law_778 (by decide) (fun c1 => ?_) (fun c1 => absurd ht c1)
  refine lv_iload hx hb dLa_law_783 (lv_at hl 1 rfl) ?_
  refine lv_if_ne (tgt := 800) hx hb dLa_law_785 (by decide) (fun c2 => ?_) (fun c2 => ?_)
  · refine lv_goto (tgt := 884) hx hb dLa_law_800 (by decide) ?_
    exact kk B H locs ls hJ (lv_sub hl [2, 3, 4, 5, 6] rfl)
  · refine lv_aload_n hx hb dLa_law_788 rfl (lv_at hl 5 rfl) ?_
    refine lv_iconst (v := 0) hx hb dLa_law_789 (by decide) ?_
    refine va_lald hx hb hJ.1 hJ.2.1 16 1 (f := O') rfl rfl (vp_in_nI (n := 0) (N := 1) (by decide) (by decide)) dLa_law_790 ?_
    refine lv_iload hx hb dLa_law_791 (lv_at hl 0 rfl) ?_
    refine lv_i2l hx hb dLa_law_793 rfl ?_
    refine W.lcmp hx hb dLa_law_794 ?_
    refine lv_if_eq (tgt := 800) hx hb dLa_law_795 (by decide) (fun c3 => ?_) (fun c3 => absurd (by rw [ho c2]; exact (lg_cmp_eq _ _).mpr rfl) c3)
    refine lv_goto (tgt := 884) hx hb dLa_law_800 (by decide) ?_
    exact kk B H locs ls hJ (lv_sub hl [2, 3, 4, 5, 6] rfl)
set_option maxHeartbeats 4000000 in
set_option maxRecDepth 100000 in
theorem law_c11 {p : Program} {l : Launch} {e : Env} {s : State} {m : MethodId} {below : List Frame} {meth : Method} {c : Code} {b L : Nat} {xs : Nat → Int32} (C0 : lAt p l s m meth c b L xs) (dC : Nat → ClassId) (dI : Nat → Nat → Nat) (cA cL : ClassId) (A A2 : Nat → Nat) (ao : Nat) {x4 : Int32}  {n9 m9 : Nat} (hn9 : n9 + 1 ≤ room_1.cells) (hm9 : m9 + 6 ≤ room_1.slots) {M : jM} {F : jF} {M2 : jM} {F2 : jF} {L2 : jL} {O : Nat → Int64} {k bv : Int32} {M' : jM} {F' : jF} {M2' : jM} {F2' : jF} {L2' : jL} {O' : Nat → Int64} (hk : fJh_looks M F = some k) (hm : fMo_looks M2 F2 L2 = some (bv, M2', F2', L2')) (ht : k = bv) (kk : ∀ (B : Nat → Nat) (H : Heap) (locs : List Loc) (ls : Array Slot), jH (dC, dI) jCl [(cA, .int), (cL, .long)] (wL cA cL A B A2 ao M F M2' F2' L2' O) (lAp s) s H locs → lv_has ls 7 [(0, .ref b), (1, .ref (A 0)), (2, .ref (A2 0)), (3, .ref ao), (4, .int x4)] → W p l e room_1 s m #[Value.ref b] below meth c H locs n9 m9 (lw_Z below #[Value.ref b] s) (F0 m 884 ls [])) (B : Nat → Nat) (H : Heap) (locs : List Loc) (ls : Array Slot) (hJ : jH (dC, dI) jCl [(cA, .int), (cL, .long)] (wL cA cL A B A2 ao M F M2 F2 L2 O) (lAp s) s H locs) (hl : lv_has ls 7 [(0, .ref b), (1, .ref (A 0)), (2, .ref (A2 0)), (3, .ref ao), (4, .int x4)]) : W p l e room_1 s m #[Value.ref b] below meth c H locs n9 m9 (lw_Z below #[Value.ref b] s) (F0 m 803 ls []) := by
  obtain ⟨hx, hb, -, hml, hown, hts, hXs, hbl, hlocks, hl0, hN, hX, hnc⟩ := id C0
  have hA : ∀ q : Nat, s.heap.size ≤ q → lAp s q := fun _ h => h
  have hbA : ¬ lAp s b := Nat.not_le.mpr hbl
  have hn0 : n9 + 0 ≤ room_1.cells := by omega
  have hm0 : m9 + 0 ≤ room_1.slots := by omega
  have hn9 : n9 + 1 + 0 ≤ room_1.cells := hn9
  have hm9 : m9 + 6 + 0 ≤ room_1.slots := hm9
  refine lv_aload_n hx hb dLa_law_803 rfl (lv_at hl 1 rfl) ?_
  refine jfcalli (wr := mW cA cL A2 M2 F2 L2 ++ [(ao, .inl (cL, 1, .inr (.inl O)))]) (w1 := fun B => jW cA A B M F) (va_runV (As := []) (rest := []) ⟨hx, hb, hml, hown, hts⟩ (cJh_looks l dC dI cA A M F B H.size hk) (cwV 0 hts (jgLV jw_201 jw_202 jw_203 jw_1 jw_204) rfl rfl rfl (by decide +kernel) ⟨Nat.le_of_ble_eq_true rfl, Nat.le_of_ble_eq_true rfl⟩) (jfpreV hN hJ (ci := 0) (q0 := 17) rfl rfl [17, 18, 19, 20, 21, 22, 23, 24, 25, 26, 27, 28, 29, 30, 31, 32, 33, 34, 35, 36, 37, 38, 39, 40, 41, 42, 43] rfl (by decide) rfl [0] rfl) rfl rfl hl.1 rfl (lv_room (Nat.le_of_ble_eq_true rfl)) dLa_law_804 ⟨hn0, hm0⟩) hA hJ [17, 18, 19, 20, 21, 22, 23, 24, 25, 26, 27, 28, 29, 30, 31, 32, 33, 34, 35, 36, 37, 38, 39, 40, 41, 42, 43] [0, 1, 2, 3, 4, 5, 6, 7, 8, 9, 10, 11, 12, 13, 14, 15, 16] rfl rfl (by decide) (by decide) (fun B H locs hJ => ?_)
  replace hJ : jH (dC, dI) jCl [(cA, .int), (cL, .long)] (wL cA cL A B A2 ao M F M2 F2 L2 O) (lAp s) s H locs := hJ
  refine lv_aload_n hx hb dLa_law_807 rfl (lv_at hl 2 rfl) ?_
  refine jfcalli (wr := hW cA cL A B ao M F O) (w1 := fun _ : Nat → Nat => mW cA cL A2 M2' F2' L2') (va_runV (As := []) (rest := [.int k]) ⟨hx, hb, hml, hown, hts⟩ (cMo_looks l dC dI cA cL A2 M2 F2 L2 (fun _ => 0) H.size hm) (cwV 0 hts (jgLV jw_806 jw_807 jw_808 jw_7 jw_809) rfl rfl rfl (by decide +kernel) ⟨Nat.le_of_ble_eq_true rfl, Nat.le_of_ble_eq_true rfl⟩) (jfpreV hN hJ (ci := 6) (q0 := 0) rfl rfl [0, 1, 2, 3, 4, 5, 6, 7, 8, 9, 10, 11, 12, 13, 14, 15] rfl (by decide) rfl [0, 1] rfl) rfl rfl hl.1 rfl (lv_room (Nat.le_of_ble_eq_true rfl)) dLa_law_808 ⟨hn0, hm0⟩) hA hJ [0, 1, 2, 3, 4, 5, 6, 7, 8, 9, 10, 11, 12, 13, 14, 15] [16, 17, 18, 19, 20, 21, 22, 23, 24, 25, 26, 27, 28, 29, 30, 31, 32, 33, 34, 35, 36, 37, 38, 39, 40, 41, 42, 43] rfl rfl (by decide) (by decide) (fun _ H locs hJ => ?_)
  replace hJ : jH (dC, dI) jCl [(cA, .int), (cL, .long)] (wL cA cL A B A2 ao M F M2' F2' L2' O) (lAp s) s H locs := jHswap hJ
  refine lv_icmp_eq (tgt := 884) hx hb dLa_law_811 (by decide) (fun c1 => ?_) (fun c1 => absurd ht c1)
  exact kk B H locs ls hJ (lv_sub hl [0, 1, 2, 3, 4] rfl)
set_option maxHeartbeats 4000000 in
set_option maxRecDepth 100000 in
theorem law_c12 {p : Program} {l : Launch} {e : Env} {s : State} {m : MethodId} {below : List Frame} {meth : Method} {c : Code} {b L : Nat} {xs : Nat → Int32} (C0 : lAt p l s m meth c b L xs) (dC : Nat → ClassId) (dI : Nat → Nat → Nat) (cA cL : ClassId) (A A2 : Nat → Nat) (ao : Nat) {x4 : Int32} (hi1 : vp_in (x4 + 1) L) (hi2 : vp_in (x4 + 2) L) {n9 m9 : Nat} (hn9 : n9 + 1 ≤ room_1.cells) (hm9 : m9 + 6 ≤ room_1.slots) {M : jM} {F : jF} {M2 : jM} {F2 : jF} {L2 : jL} {O : Nat → Int64} {k bv : Int32} {M' : jM} {F' : jF} {M2' : jM} {F2' : jF} {L2' : jL} {O' : Nat → Int64} (hk : hLa_way (xs (x4 + 1).toNatClampNeg) (xs (x4 + 2).toNatClampNeg) M F O = some (k, M', F', O')) (hm : fMo_way (xs (x4 + 1).toNatClampNeg) (xs (x4 + 2).toNatClampNeg) M2 F2 L2 = some (bv, M2', F2', L2')) (ht : F2' 0 = k) (ho : k = 0 → O' (0 : Int32).toNatClampNeg = Int32.toInt64 bv) (kk : ∀ (B : Nat → Nat) (H : Heap) (locs : List Loc) (ls : Array Slot), jH (dC, dI) jCl [(cA, .int), (cL, .long)] (wL cA cL A B A2 ao M' F' M2' F2' L2' O') (lAp s) s H locs → lv_has ls 7 [(0, .ref b), (1, .ref (A 0)), (2, .ref (A2 0)), (3, .ref ao), (4, .int x4)] → W p l e room_1 s m #[Value.ref b] below meth c H locs (n9 + 1) (m9 + 6) (lw_Z below #[Value.ref b] s) (F0 m 884 ls [])) (B : Nat → Nat) (H : Heap) (locs : List Loc) (ls : Array Slot) (hJ : jH (dC, dI) jCl [(cA, .int), (cL, .long)] (wL cA cL A B A2 ao M F M2 F2 L2 O) (lAp s) s H locs) (hl : lv_has ls 7 [(0, .ref b), (1, .ref (A 0)), (2, .ref (A2 0)), (3, .ref ao), (4, .int x4)]) : W p l e room_1 s m #[Value.ref b] below meth c H locs n9 m9 (lw_Z below #[Value.ref b] s) (F0 m 816 ls []) := by
  obtain ⟨hx, hb, -, hml, hown, hts, hXs, hbl, hlocks, hl0, hN, hX, hnc⟩ := id C0
  have hA : ∀ q : Nat, s.heap.size ≤ q → lAp s q := fun _ h => h
  have hbA : ¬ lAp s b := Nat.not_le.mpr hbl
  have hn0 : n9 + 0 ≤ room_1.cells := by omega
  have hm0 : m9 + 0 ≤ room_1.slots := by omega
  have hn9 : n9 + 1 + 0 ≤ room_1.cells := hn9
  have hm9 : m9 + 6 + 0 ≤ room_1.slots := hm9
  refine lv_aload_n hx hb dLa_law_816 rfl (lv_at hl 1 rfl) ?_
  refine lv_aload_n hx hb dLa_law_817 rfl (lv_at hl 0 rfl) ?_
  refine lv_iload hx hb dLa_law_818 (lv_at hl 4 rfl) ?_
  refine lv_iconst (v := 1) hx hb dLa_law_820 (by decide) ?_
  refine lv_iadd hx hb dLa_law_821 ?_
  refine va_sld hx hb hXs hbl hbA hJ.2.2.2 hi1 dLa_law_822 ?_
  refine lv_aload_n hx hb dLa_law_823 rfl (lv_at hl 0 rfl) ?_
  refine lv_iload hx hb dLa_law_824 (lv_at hl 4 rfl) ?_
  refine lv_iconst (v := 2) hx hb dLa_law_826 (by decide) ?_
  refine lv_iadd hx hb dLa_law_827 ?_
  refine va_sld hx hb hXs hbl hbA hJ.2.2.2 hi2 dLa_law_828 ?_
  refine lv_aload_n hx hb dLa_law_829 rfl (lv_at hl 3 rfl) ?_
  refine jfcalli (wr := mW cA cL A2 M2 F2 L2) (w1 := fun B => hW cA cL A B ao M' F' O') (vx_runSW (As := [.ref (A 0), .int (xs (x4 + 1).toNatClampNeg), .int (xs (x4 + 2).toNatClampNeg), .ref ao]) (rest := []) ⟨hx, hb, hml, hown, hts⟩ (cLa_way l dC dI cA cL A B ao hl0 (xs (x4 + 1).toNatClampNeg) (xs (x4 + 2).toNatClampNeg) M F O H.size hk) (vx_cwSW 4 hts (jgLS jw_583 jw_584 jw_0 jw_585) rfl rfl rfl (by decide +kernel) ⟨Nat.le_of_ble_eq_true rfl, Nat.le_of_ble_eq_true rfl⟩) (jfpreS hX hnc hA hN hJ [16, 17, 18, 19, 20, 21, 22, 23, 24, 25, 26, 27, 28, 29, 30, 31, 32, 33, 34, 35, 36, 37, 38, 39, 40, 41, 42, 43] rfl (by decide) rfl [0, 1] rfl) rfl rfl hl.1 rfl (lv_room (Nat.le_of_ble_eq_true rfl)) dLa_law_830 ⟨hn9, hm9⟩) hA hJ [16, 17, 18, 19, 20, 21, 22, 23, 24, 25, 26, 27, 28, 29, 30, 31, 32, 33, 34, 35, 36, 37, 38, 39, 40, 41, 42, 43] [0, 1, 2, 3, 4, 5, 6, 7, 8, 9, 10, 11, 12, 13, 14, 15] rfl rfl (by decide) (by decide) (fun B H locs hJ => ?_)
  replace hJ : jH (dC, dI) jCl [(cA, .int), (cL, .long)] (wL cA cL A B A2 ao M' F' M2 F2 L2 O') (lAp s) s H locs := hJ
  refine lv_istore (lv' := [(5, .int k), (0, .ref b), (1, .ref (A 0)), (2, .ref (A2 0)), (3, .ref ao), (4, .int x4)]) hx hb dLa_law_833 hl (by decide) rfl (fun ls hl => ?_)
  refine lv_aload_n hx hb dLa_law_835 rfl (lv_at hl 3 rfl) ?_
  refine lv_aload_n hx hb dLa_law_836 rfl (lv_at hl 1 rfl) ?_
  refine lv_iload hx hb dLa_law_837 (lv_at hl 5 rfl) ?_
  refine lv_iconst (v := 1) hx hb dLa_law_839 (by decide) ?_
  refine lv_iadd hx hb dLa_law_840 ?_
  refine va_sld hx hb hXs hbl hbA hJ.2.2.2 hi1 dLa_law_841 ?_
  refine lv_aload_n hx hb dLa_law_842 rfl (lv_at hl 1 rfl) ?_
  refine lv_iload hx hb dLa_law_843 (lv_at hl 5 rfl) ?_
  refine lv_iconst (v := 2) hx hb dLa_law_845 (by decide) ?_
  refine lv_iadd hx hb dLa_law_846 ?_
  refine va_sld hx hb hXs hbl hbA hJ.2.2.2 hi2 dLa_law_847 ?_
  refine jfcalli (wr := hW cA cL A B ao M' F' O') (w1 := fun _ : Nat → Nat => mW cA cL A2 M2' F2' L2') (va_runV (As := [.int (xs (x4 + 1).toNatClampNeg), .int (xs (x4 + 2).toNatClampNeg)]) (rest := []) ⟨hx, hb, hml, hown, hts⟩ (cMo_way l dC dI cA cL A2 (xs (x4 + 1).toNatClampNeg) (xs (x4 + 2).toNatClampNeg) M2 F2 L2 (fun _ => 0) H.size hm) (cwV 2 hts (jgLV jw_810 jw_811 jw_812 jw_7 jw_813) rfl rfl rfl (by decide +kernel) ⟨Nat.le_of_ble_eq_true rfl, Nat.le_of_ble_eq_true rfl⟩) (jfpreV hN hJ (ci := 6) (q0 := 0) rfl rfl [0, 1, 2, 3, 4, 5, 6, 7, 8, 9, 10, 11, 12, 13, 14, 15] rfl (by decide) rfl [0, 1] rfl) rfl rfl hl.1 rfl (lv_room (Nat.le_of_ble_eq_true rfl)) dLa_law_848 ⟨hn9, hm9⟩) hA hJ [0, 1, 2, 3, 4, 5, 6, 7, 8, 9, 10, 11, 12, 13, 14, 15] [16, 17, 18, 19, 20, 21, 22, 23, 24, 25, 26, 27, 28, 29, 30, 31, 32, 33, 34, 35, 36, 37, 38, 39, 40, 41, 42, 43] rfl rfl (by decide) (by decide) (fun _ H locs hJ => ?_)
  replace hJ : jH (dC, dI) jCl [(cA, .int), (cL, .long)] (wL cA cL A B A2 ao M' F' M2' F2' L2' O') (lAp s) s H locs := jHswap hJ
  refine lv_istore (lv' := [(6, .int bv), (5, .int k), (0, .ref b), (1, .ref (A 0)), (2, .ref (A2 0)), (3, .ref ao), (4, .int x4)]) hx hb dLa_law_851 hl (by decide) rfl (fun ls hl => ?_)
  refine lv_aload_n hx hb dLa_law_853 rfl (lv_at hl 4 rfl) ?_
  refine jfcalli (wr := hW cA cL A B ao M' F' O') (w1 := fun _ : Nat → Nat => mW cA cL A2 M2' F2' L2') (va_runV (As := []) (rest := []) ⟨hx, hb, hml, hown, hts⟩ (cMo_thrown l dC dI cA cL A2 M2' F2' L2' (fun _ => 0) H.size (show fMo_thrown M2' F2' L2' = some (F2' 0) from rfl)) (cwV 0 hts (jgLV jw_664 jw_665 jw_666 jw_7 jw_667) rfl rfl rfl (by decide +kernel) ⟨Nat.le_of_ble_eq_true rfl, Nat.le_of_ble_eq_true rfl⟩) (jfpreV hN hJ (ci := 6) (q0 := 0) rfl rfl [0, 1, 2, 3, 4, 5, 6, 7, 8, 9, 10, 11, 12, 13, 14, 15] rfl (by decide) rfl [0, 1] rfl) rfl rfl hl.1 rfl (lv_room (Nat.le_of_ble_eq_true rfl)) dLa_law_854 ⟨hn9, hm9⟩) hA hJ [0, 1, 2, 3, 4, 5, 6, 7, 8, 9, 10, 11, 12, 13, 14, 15] [16, 17, 18, 19, 20, 21, 22, 23, 24, 25, 26, 27, 28, 29, 30, 31, 32, 33, 34, 35, 36, 37, 38, 39, 40, 41, 42, 43] rfl rfl (by decide) (by decide) (fun _ H locs hJ => ?_)
  replace hJ : jH (dC, dI) jCl [(cA, .int), (cL, .long)] (wL cA cL A B A2 ao M' F' M2' F2' L2' O') (lAp s) s H locs := jHswap hJ
  refine lv_iload hx hb dLa_law_857 (lv_at hl 1 rfl) ?_
  refine lv_icmp_eq (tgt := 864) hx hb dLa_law_859 (by decide) (fun c1 => ?_) (fun c1 => absurd ht c1)
  refine lv_iload hx hb dLa_law_864 (lv_at hl 1 rfl) ?_
  refine lv_if_ne (tgt := 881) hx hb dLa_law_866 (by decide) (fun c2 => ?_) (fun c2 => ?_)
  · refine lv_goto (tgt := 884) hx hb dLa_law_881 (by decide) ?_
    exact kk B H locs ls hJ (lv_sub hl [2, 3, 4, 5, 6] rfl)
  · refine lv_aload_n hx hb dLa_law_869 rfl (lv_at hl 5 rfl) ?_
    refine lv_iconst (v := 0) hx hb dLa_law_870 (by decide) ?_
    refine va_lald hx hb hJ.1 hJ.2.1 16 1 (f := O') rfl rfl (vp_in_nI (n := 0) (N := 1) (by decide) (by decide)) dLa_law_871 ?_
    refine lv_iload hx hb dLa_law_872 (lv_at hl 0 rfl) ?_
    refine lv_i2l hx hb dLa_law_874 rfl ?_
    refine W.lcmp hx hb dLa_law_875 ?_
    refine lv_if_eq (tgt := 881) hx hb dLa_law_876 (by decide) (fun c3 => ?_) (fun c3 => absurd (by rw [ho c2]; exact (lg_cmp_eq _ _).mpr rfl) c3)
    refine lv_goto (tgt := 884) hx hb dLa_law_881 (by decide) ?_
    exact kk B H locs ls hJ (lv_sub hl [2, 3, 4, 5, 6] rfl)
