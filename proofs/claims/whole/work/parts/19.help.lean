/-! calls in a larger world: the rest stands ahead -/
section JFr
variable {p : Program} {l : Launch} {e : Env} {R : Room} {s : State} {m : MethodId} {args : Array Value} {below : List Frame} {meth : Method} {c : Code} {H : Heap} {locs : List Loc} {cells slots : Nat} {Q : State → Prop}
variable {β : Type} {D : va_G} {cl : List vw_C} {tys tys1 : List (ClassId × FieldType)} {w wc wr : va_W} {w1 : β → va_W} {Ap : Nat → Prop} {pc : Nat} {ls : Array Slot} {st0 rest : List Value} {a : Array Value} {r : Int32} {k mc ms : Nat}
theorem jfpre (hN : jN s) (hJ : jH D cl tys w Ap s H locs) (is : List Nat) (hi : is.filterMap (fun i => w[i]?) = wc) (hn : va_nd is = true) (hm : is.map (fun i => w[i]?) = wc.map some) (it : List Nat) (ht : it.filterMap (fun i => tys[i]?) = tys1) {U : State} (hU : U.heap = H) (hW : s.WarmedH U.vm) : jPre D cl tys1 wc H.size U :=
  ⟨by rw [hU], by rw [hU]; exact hJ.2.1.sub is hi, va_K.moved hW.alike (hJ.1.sub it ht), (hJ.2.2.1.sub is hn hm).weaken (fun _ _ _ _ => trivial), jN_warm hW hN⟩
theorem jfpreV {as : List Value} {b q0 ci : Nat} {q : vw_C} {fs : List Value} (hN : jN s) (hJ : jH D cl tys w Ap s H locs) (hc : cl[ci]? = some q) (he : w[q0]? = some (b, .inr (ci, fs))) (is : List Nat) (hi : is.filterMap (fun i => w[i]?) = wc) (hn : va_nd is = true) (hm : is.map (fun i => w[i]?) = wc.map some) (it : List Nat) (ht : it.filterMap (fun i => tys[i]?) = tys1) : PreV s H q.1 b (va_Pc (.ref b :: as) (jPre D cl tys1 wc H.size)) as :=
  ⟨jblind, va_recv hJ.1 hJ.2.1 hc he, fun U hU hW => ⟨rfl, jfpre hN hJ is hi hn hm it ht hU hW⟩⟩
theorem jfpreVX {as : List Value} {b q0 ci : Nat} {q : vw_C} {fs : List Value} (hX : jX Ap s s.heap) (hA : ∀ q : Nat, s.heap.size ≤ q → Ap q) (hN : jN s) (hJ : jH D cl tys w Ap s H locs) (hc : cl[ci]? = some q) (he : w[q0]? = some (b, .inr (ci, fs))) (is : List Nat) (hi : is.filterMap (fun i => w[i]?) = wc) (hn : va_nd is = true) (hm : is.map (fun i => w[i]?) = wc.map some) (it : List Nat) (ht : it.filterMap (fun i => tys[i]?) = tys1) : PreV s H q.1 b (va_Pc (.ref b :: as) (jPreX D cl tys1 wc H.size)) as :=
  ⟨jblindX, va_recv hJ.1 hJ.2.1 hc he, fun U hU hW => ⟨rfl, jfpre hN hJ is hi hn hm it ht hU hW, by
    have h1 := jX_kept (B := va_A wc H.size) hX hJ.2.2.2.2.1 (va_free (wc := wc) hJ.2.2.1 hJ.2.2.2 hA is hm)
    rw [hU]
    exact jX_warm hW h1⟩⟩
theorem jfcalli (hr : va_Run p l e R s m args below meth c H locs cells slots mc ms (F0 m pc ls st0) rest (va_Qi (fun q (_ : β) => q = r) (jPost D cl tys1 w1 (va_A wc H.size)) (va_A wc H.size) a) (va_A wc H.size)) (hA : ∀ q : Nat, s.heap.size ≤ q → Ap q) (hJ : jH D cl tys w Ap s H locs) (isC isR : List Nat) (hC : isC.map (fun i => w[i]?) = wc.map some) (hR : isR.map (fun i => w[i]?) = wr.map some) (hn : va_nd isR = true) (hdis : ∀ i ∈ isR, i ∉ isC)
    (kk : ∀ (u : β) (H1 : Heap) (locs1 : List Loc), jH D cl tys (wr ++ w1 u) Ap s H1 locs1 → W p l e R s m args below meth c H1 locs1 (cells + mc) (slots + ms) Q (F0 m (pc + 3) ls (.int r :: rest))) : W p l e R s m args below meth c H locs cells slots Q (F0 m pc ls st0) := by
  have hFc := va_free (wc := wc) hJ.2.2.1 hJ.2.2.2 hA isC hC
  refine va_calli hr hJ.2.2.2 (fun q _ h => hFc q h) hFc (fun r1 u t H1 locs1 ht hvm hw hB hz1 hk1 hS => ?_)
  subst hw
  obtain ⟨hP1, hK1, hD1⟩ := hB
  rw [ht] at hP1
  obtain ⟨hP, hD⟩ := va_join (wr := wr) (w1 := w1 u) hJ.2.1 hJ.2.2.1 isC isR hC hR hn hdis hk1 hFc hP1 hD1
  exact kk u H1 locs1 ⟨hJ.1, hP, hD, hS⟩
theorem jfcallv (hr : va_Run p l e R s m args below meth c H locs cells slots mc ms (F0 m pc ls st0) rest (va_Qv (fun (_ : β) => True) (jPost D cl tys1 w1 (va_A wc H.size)) (va_A wc H.size) a) (va_A wc H.size)) (hA : ∀ q : Nat, s.heap.size ≤ q → Ap q) (hJ : jH D cl tys w Ap s H locs) (isC isR : List Nat) (hC : isC.map (fun i => w[i]?) = wc.map some) (hR : isR.map (fun i => w[i]?) = wr.map some) (hn : va_nd isR = true) (hdis : ∀ i ∈ isR, i ∉ isC)
    (kk : ∀ (u : β) (H1 : Heap) (locs1 : List Loc), jH D cl tys (wr ++ w1 u) Ap s H1 locs1 → W p l e R s m args below meth c H1 locs1 (cells + mc) (slots + ms) Q (F0 m (pc + 3) ls rest)) : W p l e R s m args below meth c H locs cells slots Q (F0 m pc ls st0) := by
  have hFc := va_free (wc := wc) hJ.2.2.1 hJ.2.2.2 hA isC hC
  refine va_callv hr hJ.2.2.2 (fun q _ h => hFc q h) hFc (fun u t H1 locs1 ht hvm hw hB hz1 hk1 hS => ?_)
  obtain ⟨hP1, hK1, hD1⟩ := hB
  rw [ht] at hP1
  obtain ⟨hP, hD⟩ := va_join (wr := wr) (w1 := w1 u) hJ.2.1 hJ.2.2.1 isC isR hC hR hn hdis hk1 hFc hP1 hD1
  exact kk u H1 locs1 ⟨hJ.1, hP, hD, hS⟩
theorem jfcallx (hr : vx_Run p l e R s m args below meth c H locs cells slots 1 6 (F0 m pc ls st0) rest (fun _ _ _ => False) (jXC D cl tys1 w1 (va_A wc H.size) k) (va_A wc H.size)) (hA : ∀ q : Nat, s.heap.size ≤ q → Ap q) (hJ : jH D cl tys w Ap s H locs) (isC isR : List Nat) (hC : isC.map (fun i => w[i]?) = wc.map some) (hR : isR.map (fun i => w[i]?) = wr.map some) (hn : va_nd isR = true) (hdis : ∀ i ∈ isR, i ∉ isC)
    (kk : ∀ (u : β) (H1 : Heap) (locs1 : List Loc) (q9 : Addr) (ce : Cell), jH D cl tys (wr ++ w1 u) Ap s H1 locs1 → H1[q9]? = some ce → ce.vm = .none → s.vm.findClass (jxn k) = some ce.cls → vx_W p l e R s m args below meth c H1 locs1 (cells + 1) (slots + 6) Q (F0 m pc ls rest) q9) : W p l e R s m args below meth c H locs cells slots Q (F0 m pc ls st0) := by
  have hFc := va_free (wc := wc) hJ.2.2.1 hJ.2.2.2 hA isC hC
  intro T hT X
  rcases hr T hT X with ⟨v, st₀, t, T', L, h0, X', hL, e1, e2, hq, st⟩ | ⟨q, st₀, t, T', L, E, ce, h0, X', hL, e1, e2, ⟨u, -, ⟨hE, hP1, hK1, hD1⟩, hF⟩, hce, hcv, hcl, st⟩
  · exact hq.elim
  · obtain ⟨k1, k2, k3⟩ := vx_keep h0 e1 hJ.2.2.2 (fun q _ h => hFc q h) hFc hL hF
    rw [← e1] at hP1 hce
    obtain ⟨hP, hD⟩ := va_join (wr := wr) (w1 := w1 u) hJ.2.1 hJ.2.2.1 isC isR hC hR hn hdis k2 hFc hP1 hD1
    obtain ⟨t2, a1, b1⟩ := kk u T'.heap (locs ++ L) q ce ⟨hJ.1, hP, hD, k3⟩ hce hcv (by rw [← hE]; exact hcl) T' rfl X'
    exact ⟨t2, st.trans a1, b1⟩
end JFr
/-! the law's helpers -/
abbrev jPreH (D : va_G) (cl : List vw_C) (tys : List (ClassId × FieldType)) (w : va_W) (sz : Nat) : State → Prop := fun U => jPreX D cl tys w sz U ∧ va_Nc "java/lang/UnsupportedOperationException" "java/lang/IllegalArgumentException" U
abbrev jCh {β : Type} (l : Launch) (y : MethodName) (ws : List Cond) (rm : Room) (D : va_G) (cl : List vw_C) (tys : List (ClassId × FieldType)) (as : List Value) (w : va_W) (sz : Nat) (r : Int32) (w' : β → va_W) : Prop :=
  Met l y ws rm (va_Pc as (jPreH D cl tys w sz)) (va_Qi (fun q (_ : β) => q = r) (jPost D cl tys w' (va_A w sz)) (va_A w sz)) 1 6 (va_A w sz)
theorem jOfH {β : Type} {l : Launch} {y : MethodName} {ws ws' : List Cond} {rm : Room} {D : va_G} {cl : List vw_C} {tys : List (ClassId × FieldType)} {as : List Value} {w : va_W} {sz : Nat} {r : Int32} {w' : β → va_W} {cc : ByteArray} {nL : Nat} {ret : Option FieldType} {hh : List (Nat × Nat × Nat × Nat)} (hy : plainName y.cls = true) (hw : ws = Cond.codeWith y cc nL ret hh :: ws') (hsl : (lg_sl as).length ≤ nL)
    (body : ∀ (p : Program) (e : Env) (s : State) (m : MethodId) (below : List Frame) (meth : Method) (c : Code) (Ap : Nat → Prop) (ls : Array Slot), jAt p s m as.toArray meth c cc nL ret ws y.cls → c.exceptionTable.toList = tableOf hh → jX Ap s s.heap → va_Nc "java/lang/UnsupportedOperationException" "java/lang/IllegalArgumentException" s → (∀ q : Nat, s.heap.size ≤ q → Ap q) → jH D cl tys w Ap s s.heap [] → lv_has ls nL (lv_args 0 as) →
      W p l e (headSpec ws rm).room s m as.toArray below meth c s.heap [] 0 0 (MQ below (va_Qi (fun q (_ : β) => q = r) (jPost D cl tys w' Ap) Ap) as.toArray s 1 6 Ap) (F0 m 0 ls [])) :
    jCh l y ws rm D cl tys as w sz r w' := by
  refine va_MetW (cc := cc) (maxL := nL) (ret := ret) (hh := hh) hy hw ?_
  intro p e s m args below meth c s₁ B hml hv
  obtain ⟨rfl, ⟨⟨hsz, hP, hK, hD0, hN⟩, hX⟩, hnc⟩ := hv
  have hown : s.vm.findClass y.cls = some m.cls := findClass_of_methodNamed B.named
  have hts := atoms_spec (ws := ws) B.pre
  have htb : c.exceptionTable.toList = tableOf hh := vx_table (x := y) (bytes := cc) (maxL' := nL) (ret' := ret) B (hts _ (by rw [hw]; exact List.mem_cons_self))
  subst hsz
  have hl := lv_entry as (n := nL) hsl
  rw [lg_entry_eq]
  exact body p e s m below meth c (va_A w s.heap.size) _ ⟨B.exec, B.bytes, hml, B.returns, hts, hown, B.notSynchronized, hN⟩ htb hX hnc (fun q h => Or.inr h) ⟨hK, hP, hD0.self, va_S.rf⟩ hl
theorem jretH {p : Program} {l : Launch} {e : Env} {R : Room} {s : State} {m : MethodId} {args : Array Value} {below : List Frame} {meth : Method} {c : Code} {H : Heap} {locs : List Loc} {cells slots : Nat} {β : Type} {D : va_G} {cl : List vw_C} {tys : List (ClassId × FieldType)} {w' : β → va_W} {Ap : Nat → Prop} {pc : Nat} {ls : Array Slot} {r v : Int32} {cc : ByteArray} {u : β} (hexec : p.tables.exec = Jvm.exec) (hb : c.code = cc) (hr : meth.sig.returnType = some .int) (hlocks : meth.locks = false) (hJ : jH D cl tys (w' u) Ap s H locs) (hc : cells ≤ 1) (hs : slots ≤ 6) (hdg : decode cc pc = .ok (.ireturn, 1)) (he : v = r) :
    W p l e R s m args below meth c H locs cells slots (MQ below (va_Qi (fun q (_ : β) => q = r) (jPost D cl tys w' Ap) Ap) args s 1 6 Ap) (F0 m pc ls [.int v]) := by
  refine W.widen hc hs ?_
  exact W.iret hexec hb hr (fun t ht hW => ⟨⟨v, u, rfl, he, by rw [ht]; exact hJ.2.1, va_K.moved hW.alike hJ.1, hJ.2.2.1⟩, hJ.2.2.2.F ht⟩) hJ.2.2.2.2.2 hdg
abbrev hW (cA cL : ClassId) (A B : Nat → Nat) (ao : Nat) (M : jM) (F : jF) (O : Nat → Int64) : va_W := (ao, .inl (cL, 1, .inr (.inl O))) :: jW cA A B M F

abbrev bLa_table : ByteArray := method_3_code
abbrev yLa_table : MethodName := ⟨RLa, "table", "(LJoinHouse;II)I"⟩
abbrev wLa_table : List Cond := .codeWith yLa_table bLa_table 4 (some .int) [(0, 6, 9, 13)] :: jw
theorem dLa_table_0 : decode bLa_table 0 = .ok (.aload_n 0, 1) := by decide +kernel
theorem dLa_table_1 : decode bLa_table 1 = .ok (.iload_n 1, 1) := by decide +kernel
theorem dLa_table_2 : decode bLa_table 2 = .ok (.iload_n 2, 1) := by decide +kernel
theorem dLa_table_3 : decode bLa_table 3 = .ok (.invokevirtual 7, 3) := by decide +kernel
theorem dLa_table_6 : decode bLa_table 6 = .ok (.goto 6, 3) := by decide +kernel
theorem dLa_table_9 : decode bLa_table 9 = .ok (.astore_n 3, 1) := by decide +kernel
theorem dLa_table_10 : decode bLa_table 10 = .ok (.iconst 1, 1) := by decide +kernel
theorem dLa_table_11 : decode bLa_table 11 = .ok (.ireturn, 1) := by decide +kernel
theorem dLa_table_12 : decode bLa_table 12 = .ok (.iconst 0, 1) := by decide +kernel
theorem dLa_table_13 : decode bLa_table 13 = .ok (.ireturn, 1) := by decide +kernel
def hLa_table (x1 : Int32) (x2 : Int32)  (M : jM) (F : jF) (O : Nat → Int64) : Option (Int32 × jM × jF × (Nat → Int64)) := (fJh_table x1 x2 M F).bind fun q => if q.1 = 0 then some (0, q.2.2.1, q.2.2.2, O) else if q.1 = 1 then some (1, q.2.2.1, q.2.2.2, O) else none
abbrev rLa_table : Room := { frames := 7, cells := 1, slots := 6, locals := 112 }
set_option maxHeartbeats 4000000 in
set_option maxRecDepth 100000 in
theorem cLa_table (l : Launch) (dC : Nat → ClassId) (dI : Nat → Nat → Nat) (cA cL : ClassId) (A B : Nat → Nat) (ao : Nat) (hl0 : l.stackTraces = false) (x1 : Int32) (x2 : Int32) (M : jM) (F : jF) (O : Nat → Int64) (sz : Nat) {r : Int32} {M' : jM} {F' : jF} {O' : Nat → Int64} (h : hLa_table x1 x2 M F O = some (r, M', F', O')) : jCh l yLa_table wLa_table rLa_table (dC, dI) jCl [(cA, .int), (cL, .long)] [.ref (A 0), .int x1, .int x2] (hW cA cL A B ao M F O) sz r (fun B => hW cA cL A B ao M' F' O') := by
  refine jOfH (by decide) rfl (Nat.le_of_ble_eq_true rfl) (fun p e s m below meth c Ap ls hC htb hX hnc hA hJ hl => ?_)
  obtain ⟨hx, hb, hml, hr, hts, hown, hlocks, hN⟩ := id hC
  have hj : ∀ w ∈ jw, w.before _ s = true := fun w h => hts w (List.mem_cons_of_mem _ h)
  replace hl : lv_has ls 4 [(0, .ref (A 0)), (1, .int x1), (2, .int x2)] := hl
  unfold hLa_table at h
  obtain ⟨q, hq, h⟩ := jbi_h h
  refine lv_aload_n hx hb dLa_table_0 rfl (lv_at hl 0 rfl) ?_
  refine lv_iload_n hx hb dLa_table_1 rfl (lv_at hl 1 rfl) ?_
  refine lv_iload_n hx hb dLa_table_2 rfl (lv_at hl 2 rfl) ?_
  by_cases c0 : q.1 = 0
  · replace h := jif_t c0 h
    refine jfcallv (wr := [(ao, .inl (cL, 1, .inr (.inl O)))]) (w1 := fun B => jW cA A B q.2.2.1 q.2.2.2) (va_runV (As := [.int x1, .int x2]) (rest := []) ⟨hx, hb, hml, hown, hts⟩ (cJh_table l dC dI cA A x1 x2 M F B _ (hq.trans (congrArg some (Prod.ext c0 rfl)))) (cwV 2 hts (jgoodV jw_209 jw_210 jw_211 jw_1 jw_212) rfl rfl rfl (by decide +kernel) ⟨Nat.le_of_ble_eq_true rfl, Nat.le_of_ble_eq_true rfl⟩) (jfpreV hN hJ (ci := 0) (q0 := 1) rfl rfl [1, 2, 3, 4, 5, 6, 7, 8, 9, 10, 11, 12, 13, 14, 15, 16, 17, 18, 19, 20, 21, 22, 23, 24, 25, 26, 27] rfl (by decide) rfl [0] rfl) rfl rfl hl.1 rfl (lv_room (Nat.le_of_ble_eq_true rfl)) dLa_table_3 ⟨Nat.le_of_ble_eq_true rfl, Nat.le_of_ble_eq_true rfl⟩) hA hJ [1, 2, 3, 4, 5, 6, 7, 8, 9, 10, 11, 12, 13, 14, 15, 16, 17, 18, 19, 20, 21, 22, 23, 24, 25, 26, 27] [0] rfl rfl (by decide) (by decide) (fun B H locs hJ => ?_)
    refine lv_goto (tgt := 12) hx hb dLa_table_6 (by decide) ?_
    refine lv_iconst (v := 0) hx hb dLa_table_12 (by decide) ?_
    cases h
    exact jretH (u := B) hx hb hr hlocks hJ (Nat.le_of_ble_eq_true rfl) (Nat.le_of_ble_eq_true rfl) dLa_table_13 rfl
  · replace h := jif_f c0 h
    by_cases c1 : q.1 = 1
    · replace h := jif_t c1 h
      cases h
      refine jfcallx (k := q.1) (wr := [(ao, .inl (cL, 1, .inr (.inl O)))]) (w1 := fun B => jW cA A B q.2.2.1 q.2.2.2) (vx_runV (As := [.int x1, .int x2]) (rest := []) ⟨hx, hb, hml, hown, hts⟩ (cxJh_table l dC dI cA A hl0 x1 x2 M F B _ c0 hq) (cwV 2 hts (jgoodV jw_209 jw_210 jw_211 jw_1 jw_212) rfl rfl rfl (by decide +kernel) ⟨Nat.le_of_ble_eq_true rfl, Nat.le_of_ble_eq_true rfl⟩) (jfpreVX hX hA hN hJ (ci := 0) (q0 := 1) rfl rfl [1, 2, 3, 4, 5, 6, 7, 8, 9, 10, 11, 12, 13, 14, 15, 16, 17, 18, 19, 20, 21, 22, 23, 24, 25, 26, 27] rfl (by decide) rfl [0] rfl) rfl rfl hl.1 rfl (lv_room (Nat.le_of_ble_eq_true rfl)) dLa_table_3 ⟨Nat.le_of_ble_eq_true rfl, Nat.le_of_ble_eq_true rfl⟩) hA hJ [1, 2, 3, 4, 5, 6, 7, 8, 9, 10, 11, 12, 13, 14, 15, 16, 17, 18, 19, 20, 21, 22, 23, 24, 25, 26, 27] [0] rfl rfl (by decide) (by decide) (fun B H locs q9 ce hJ hce hcv hcl => ?_)
      rw [c1] at hcl
      refine vx_catch (own := RLa) (name := "java/lang/IllegalArgumentException") (E := jxn 1) hown [] ⟨0, 6, 9, 13⟩ [] (htb.trans rfl) (fun z hz => by cases hz) (by decide) (by decide) (hj _ jw_208) (jdw_use (w := .castable "java/lang/IllegalArgumentException" "java/lang/IllegalArgumentException") (by decide +kernel) (hX.1 _ (by decide +kernel))) hce hcv hcl ?_
      refine lv_astore_n (lv' := [(3, .ref q9), (0, .ref (A 0)), (1, .int x1), (2, .int x2)]) hx hb dLa_table_9 rfl hl (by decide) rfl (fun ls hl => ?_)
      refine lv_iconst (v := 1) hx hb dLa_table_10 (by decide) ?_
      exact jretH (u := B) hx hb hr hlocks hJ (Nat.le_of_ble_eq_true rfl) (Nat.le_of_ble_eq_true rfl) dLa_table_11 rfl
    replace h := jif_f c1 h
    cases h
abbrev bLa_row : ByteArray := method_4_code
abbrev yLa_row : MethodName := ⟨RLa, "row", "(LJoinHouse;IIIII[J)I"⟩
abbrev wLa_row : List Cond := .codeWith yLa_row bLa_row 8 (some .int) [(0, 16, 19, 13), (0, 16, 23, 19)] :: jw
theorem dLa_row_0 : decode bLa_row 0 = .ok (.aload 6, 2) := by decide +kernel
theorem dLa_row_2 : decode bLa_row 2 = .ok (.iconst 0, 1) := by decide +kernel
theorem dLa_row_3 : decode bLa_row 3 = .ok (.aload_n 0, 1) := by decide +kernel
theorem dLa_row_4 : decode bLa_row 4 = .ok (.iload_n 1, 1) := by decide +kernel
theorem dLa_row_5 : decode bLa_row 5 = .ok (.iload_n 2, 1) := by decide +kernel
theorem dLa_row_6 : decode bLa_row 6 = .ok (.iload_n 3, 1) := by decide +kernel
theorem dLa_row_7 : decode bLa_row 7 = .ok (.iload 4, 2) := by decide +kernel
theorem dLa_row_9 : decode bLa_row 9 = .ok (.iload 5, 2) := by decide +kernel
theorem dLa_row_11 : decode bLa_row 11 = .ok (.invokevirtual 15, 3) := by decide +kernel
theorem dLa_row_14 : decode bLa_row 14 = .ok (.i2l, 1) := by decide +kernel
theorem dLa_row_15 : decode bLa_row 15 = .ok (.lastore, 1) := by decide +kernel
theorem dLa_row_16 : decode bLa_row 16 = .ok (.goto 11, 3) := by decide +kernel
theorem dLa_row_19 : decode bLa_row 19 = .ok (.astore 7, 2) := by decide +kernel
theorem dLa_row_21 : decode bLa_row 21 = .ok (.iconst 1, 1) := by decide +kernel
theorem dLa_row_22 : decode bLa_row 22 = .ok (.ireturn, 1) := by decide +kernel
theorem dLa_row_23 : decode bLa_row 23 = .ok (.astore 7, 2) := by decide +kernel
theorem dLa_row_25 : decode bLa_row 25 = .ok (.iconst 2, 1) := by decide +kernel
theorem dLa_row_26 : decode bLa_row 26 = .ok (.ireturn, 1) := by decide +kernel
theorem dLa_row_27 : decode bLa_row 27 = .ok (.iconst 0, 1) := by decide +kernel
theorem dLa_row_28 : decode bLa_row 28 = .ok (.ireturn, 1) := by decide +kernel
def hLa_row (x1 : Int32) (x2 : Int32) (x3 : Int32) (x4 : Int32) (x5 : Int32)  (M : jM) (F : jF) (O : Nat → Int64) : Option (Int32 × jM × jF × (Nat → Int64)) := (fJh_row x1 x2 x3 x4 x5 M F).bind fun q => if q.1 = 0 then some (0, q.2.2.1, q.2.2.2, vp_updL O (0 : Int32).toNatClampNeg (Int32.toInt64 q.2.1)) else if q.1 = 1 then some (1, q.2.2.1, q.2.2.2, O) else if q.1 = 2 then some (2, q.2.2.1, q.2.2.2, O) else none
abbrev rLa_row : Room := { frames := 7, cells := 1, slots := 6, locals := 121 }
set_option maxHeartbeats 4000000 in
set_option maxRecDepth 100000 in
theorem cLa_row (l : Launch) (dC : Nat → ClassId) (dI : Nat → Nat → Nat) (cA cL : ClassId) (A B : Nat → Nat) (ao : Nat) (hl0 : l.stackTraces = false) (x1 : Int32) (x2 : Int32) (x3 : Int32) (x4 : Int32) (x5 : Int32) (M : jM) (F : jF) (O : Nat → Int64) (sz : Nat) {r : Int32} {M' : jM} {F' : jF} {O' : Nat → Int64} (h : hLa_row x1 x2 x3 x4 x5 M F O = some (r, M', F', O')) : jCh l yLa_row wLa_row rLa_row (dC, dI) jCl [(cA, .int), (cL, .long)] [.ref (A 0), .int x1, .int x2, .int x3, .int x4, .int x5, .ref ao] (hW cA cL A B ao M F O) sz r (fun B => hW cA cL A B ao M' F' O') := by
  refine jOfH (by decide) rfl (Nat.le_of_ble_eq_true rfl) (fun p e s m below meth c Ap ls hC htb hX hnc hA hJ hl => ?_)
  obtain ⟨hx, hb, hml, hr, hts, hown, hlocks, hN⟩ := id hC
  have hj : ∀ w ∈ jw, w.before _ s = true := fun w h => hts w (List.mem_cons_of_mem _ h)
  replace hl : lv_has ls 8 [(0, .ref (A 0)), (1, .int x1), (2, .int x2), (3, .int x3), (4, .int x4), (5, .int x5), (6, .ref ao)] := hl
  unfold hLa_row at h
  obtain ⟨q, hq, h⟩ := jbi_h h
  refine lv_aload hx hb dLa_row_0 (lv_at hl 6 rfl) ?_
  refine lv_iconst (v := 0) hx hb dLa_row_2 (by decide) ?_
  refine lv_aload_n hx hb dLa_row_3 rfl (lv_at hl 0 rfl) ?_
  refine lv_iload_n hx hb dLa_row_4 rfl (lv_at hl 1 rfl) ?_
  refine lv_iload_n hx hb dLa_row_5 rfl (lv_at hl 2 rfl) ?_
  refine lv_iload_n hx hb dLa_row_6 rfl (lv_at hl 3 rfl) ?_
  refine lv_iload hx hb dLa_row_7 (lv_at hl 4 rfl) ?_
  refine lv_iload hx hb dLa_row_9 (lv_at hl 5 rfl) ?_
  by_cases c0 : q.1 = 0
  · replace h := jif_t c0 h
    refine jfcalli (wr := [(ao, .inl (cL, 1, .inr (.inl O)))]) (w1 := fun B => jW cA A B q.2.2.1 q.2.2.2) (va_runV (As := [.int x1, .int x2, .int x3, .int x4, .int x5]) (rest := [.int 0, .ref ao]) ⟨hx, hb, hml, hown, hts⟩ (cJh_row l dC dI cA A x1 x2 x3 x4 x5 M F B _ (hq.trans (congrArg some (Prod.ext c0 rfl)))) (cwV 5 hts (jgoodV jw_293 jw_294 jw_295 jw_1 jw_296) rfl rfl rfl (by decide +kernel) ⟨Nat.le_of_ble_eq_true rfl, Nat.le_of_ble_eq_true rfl⟩) (jfpreV hN hJ (ci := 0) (q0 := 1) rfl rfl [1, 2, 3, 4, 5, 6, 7, 8, 9, 10, 11, 12, 13, 14, 15, 16, 17, 18, 19, 20, 21, 22, 23, 24, 25, 26, 27] rfl (by decide) rfl [0] rfl) rfl rfl hl.1 rfl (lv_room (Nat.le_of_ble_eq_true rfl)) dLa_row_11 ⟨Nat.le_of_ble_eq_true rfl, Nat.le_of_ble_eq_true rfl⟩) hA hJ [1, 2, 3, 4, 5, 6, 7, 8, 9, 10, 11, 12, 13, 14, 15, 16, 17, 18, 19, 20, 21, 22, 23, 24, 25, 26, 27] [0] rfl rfl (by decide) (by decide) (fun B H locs hJ => ?_)
    refine lv_i2l hx hb dLa_row_14 rfl ?_
    refine va_last hx hb hJ.1 hJ.2.1 hJ.2.2.1 hJ.2.2.2 0 1 (f := O) rfl rfl (vp_in_nI (n := 0) (N := 1) (by decide) (by decide)) dLa_row_15 (fun H locs hP hD hS => ?_)
    replace hJ : jH (dC, dI) jCl [(cA, .int), (cL, .long)] (hW cA cL A B ao q.2.2.1 q.2.2.2 (vp_updL O (0 : Int32).toNatClampNeg (Int32.toInt64 q.2.1))) Ap s H _ := ⟨hJ.1, hP, hD, hS⟩
    refine lv_goto (tgt := 27) hx hb dLa_row_16 (by decide) ?_
    refine lv_iconst (v := 0) hx hb dLa_row_27 (by decide) ?_
    cases h
    exact jretH (u := B) hx hb hr hlocks hJ (Nat.le_of_ble_eq_true rfl) (Nat.le_of_ble_eq_true rfl) dLa_row_28 rfl
  · replace h := jif_f c0 h
    by_cases c1 : q.1 = 1
    · replace h := jif_t c1 h
      cases h
      refine jfcallx (k := q.1) (wr := [(ao, .inl (cL, 1, .inr (.inl O)))]) (w1 := fun B => jW cA A B q.2.2.1 q.2.2.2) (vx_runV (As := [.int x1, .int x2, .int x3, .int x4, .int x5]) (rest := [.int 0, .ref ao]) ⟨hx, hb, hml, hown, hts⟩ (cxJh_row l dC dI cA A hl0 x1 x2 x3 x4 x5 M F B _ c0 hq) (cwV 5 hts (jgoodV jw_293 jw_294 jw_295 jw_1 jw_296) rfl rfl rfl (by decide +kernel) ⟨Nat.le_of_ble_eq_true rfl, Nat.le_of_ble_eq_true rfl⟩) (jfpreVX hX hA hN hJ (ci := 0) (q0 := 1) rfl rfl [1, 2, 3, 4, 5, 6, 7, 8, 9, 10, 11, 12, 13, 14, 15, 16, 17, 18, 19, 20, 21, 22, 23, 24, 25, 26, 27] rfl (by decide) rfl [0] rfl) rfl rfl hl.1 rfl (lv_room (Nat.le_of_ble_eq_true rfl)) dLa_row_11 ⟨Nat.le_of_ble_eq_true rfl, Nat.le_of_ble_eq_true rfl⟩) hA hJ [1, 2, 3, 4, 5, 6, 7, 8, 9, 10, 11, 12, 13, 14, 15, 16, 17, 18, 19, 20, 21, 22, 23, 24, 25, 26, 27] [0] rfl rfl (by decide) (by decide) (fun B H locs q9 ce hJ hce hcv hcl => ?_)
      rw [c1] at hcl
      refine vx_catch (own := RLa) (name := "java/lang/IllegalArgumentException") (E := jxn 1) hown [] ⟨0, 16, 19, 13⟩ [⟨0, 16, 23, 19⟩] (htb.trans rfl) (fun z hz => by cases hz) (by decide) (by decide) (hj _ jw_208) (jdw_use (w := .castable "java/lang/IllegalArgumentException" "java/lang/IllegalArgumentException") (by decide +kernel) (hX.1 _ (by decide +kernel))) hce hcv hcl ?_
      refine lv_astore (lv' := [(7, .ref q9), (0, .ref (A 0)), (1, .int x1), (2, .int x2), (3, .int x3), (4, .int x4), (5, .int x5), (6, .ref ao)]) hx hb dLa_row_19 hl (by decide) rfl (fun ls hl => ?_)
      refine lv_iconst (v := 1) hx hb dLa_row_21 (by decide) ?_
      exact jretH (u := B) hx hb hr hlocks hJ (Nat.le_of_ble_eq_true rfl) (Nat.le_of_ble_eq_true rfl) dLa_row_22 rfl
    replace h := jif_f c1 h
    by_cases c2 : q.1 = 2
    · replace h := jif_t c2 h
      cases h
      refine jfcallx (k := q.1) (wr := [(ao, .inl (cL, 1, .inr (.inl O)))]) (w1 := fun B => jW cA A B q.2.2.1 q.2.2.2) (vx_runV (As := [.int x1, .int x2, .int x3, .int x4, .int x5]) (rest := [.int 0, .ref ao]) ⟨hx, hb, hml, hown, hts⟩ (cxJh_row l dC dI cA A hl0 x1 x2 x3 x4 x5 M F B _ c0 hq) (cwV 5 hts (jgoodV jw_293 jw_294 jw_295 jw_1 jw_296) rfl rfl rfl (by decide +kernel) ⟨Nat.le_of_ble_eq_true rfl, Nat.le_of_ble_eq_true rfl⟩) (jfpreVX hX hA hN hJ (ci := 0) (q0 := 1) rfl rfl [1, 2, 3, 4, 5, 6, 7, 8, 9, 10, 11, 12, 13, 14, 15, 16, 17, 18, 19, 20, 21, 22, 23, 24, 25, 26, 27] rfl (by decide) rfl [0] rfl) rfl rfl hl.1 rfl (lv_room (Nat.le_of_ble_eq_true rfl)) dLa_row_11 ⟨Nat.le_of_ble_eq_true rfl, Nat.le_of_ble_eq_true rfl⟩) hA hJ [1, 2, 3, 4, 5, 6, 7, 8, 9, 10, 11, 12, 13, 14, 15, 16, 17, 18, 19, 20, 21, 22, 23, 24, 25, 26, 27] [0] rfl rfl (by decide) (by decide) (fun B H locs q9 ce hJ hce hcv hcl => ?_)
      rw [c2] at hcl
      refine vx_catch (own := RLa) (name := "java/lang/UnsupportedOperationException") (E := jxn 2) hown [⟨0, 16, 19, 13⟩] ⟨0, 16, 23, 19⟩ [] (htb.trans rfl) (fun z hz => by rw [List.mem_singleton] at hz; subst hz; exact Or.inr ⟨by decide, "java/lang/IllegalArgumentException", hj _ jw_208, hnc⟩) (by decide) (by decide) (hj _ jw_292) (jdw_use (w := .castable "java/lang/UnsupportedOperationException" "java/lang/UnsupportedOperationException") (by decide +kernel) (hX.1 _ (by decide +kernel))) hce hcv hcl ?_
      refine lv_astore (lv' := [(7, .ref q9), (0, .ref (A 0)), (1, .int x1), (2, .int x2), (3, .int x3), (4, .int x4), (5, .int x5), (6, .ref ao)]) hx hb dLa_row_23 hl (by decide) rfl (fun ls hl => ?_)
      refine lv_iconst (v := 2) hx hb dLa_row_25 (by decide) ?_
      exact jretH (u := B) hx hb hr hlocks hJ (Nat.le_of_ble_eq_true rfl) (Nat.le_of_ble_eq_true rfl) dLa_row_26 rfl
    replace h := jif_f c2 h
    cases h
abbrev bLa_generator : ByteArray := method_5_code
abbrev yLa_generator : MethodName := ⟨RLa, "generator", "(LJoinHouse;I[J)I"⟩
abbrev wLa_generator : List Cond := .codeWith yLa_generator bLa_generator 4 (some .int) [(0, 9, 12, 13), (0, 9, 15, 19)] :: jw
theorem dLa_generator_0 : decode bLa_generator 0 = .ok (.aload_n 2, 1) := by decide +kernel
theorem dLa_generator_1 : decode bLa_generator 1 = .ok (.iconst 0, 1) := by decide +kernel
theorem dLa_generator_2 : decode bLa_generator 2 = .ok (.aload_n 0, 1) := by decide +kernel
theorem dLa_generator_3 : decode bLa_generator 3 = .ok (.iload_n 1, 1) := by decide +kernel
theorem dLa_generator_4 : decode bLa_generator 4 = .ok (.invokevirtual 21, 3) := by decide +kernel
theorem dLa_generator_7 : decode bLa_generator 7 = .ok (.i2l, 1) := by decide +kernel
theorem dLa_generator_8 : decode bLa_generator 8 = .ok (.lastore, 1) := by decide +kernel
theorem dLa_generator_9 : decode bLa_generator 9 = .ok (.goto 9, 3) := by decide +kernel
theorem dLa_generator_12 : decode bLa_generator 12 = .ok (.astore_n 3, 1) := by decide +kernel
theorem dLa_generator_13 : decode bLa_generator 13 = .ok (.iconst 1, 1) := by decide +kernel
theorem dLa_generator_14 : decode bLa_generator 14 = .ok (.ireturn, 1) := by decide +kernel
theorem dLa_generator_15 : decode bLa_generator 15 = .ok (.astore_n 3, 1) := by decide +kernel
theorem dLa_generator_16 : decode bLa_generator 16 = .ok (.iconst 2, 1) := by decide +kernel
theorem dLa_generator_17 : decode bLa_generator 17 = .ok (.ireturn, 1) := by decide +kernel
theorem dLa_generator_18 : decode bLa_generator 18 = .ok (.iconst 0, 1) := by decide +kernel
theorem dLa_generator_19 : decode bLa_generator 19 = .ok (.ireturn, 1) := by decide +kernel
def hLa_generator (x1 : Int32)  (M : jM) (F : jF) (O : Nat → Int64) : Option (Int32 × jM × jF × (Nat → Int64)) := (fJh_generator x1 M F).bind fun q => if q.1 = 0 then some (0, q.2.2.1, q.2.2.2, vp_updL O (0 : Int32).toNatClampNeg (Int32.toInt64 q.2.1)) else if q.1 = 1 then some (1, q.2.2.1, q.2.2.2, O) else if q.1 = 2 then some (2, q.2.2.1, q.2.2.2, O) else none
abbrev rLa_generator : Room := { frames := 7, cells := 1, slots := 6, locals := 111 }
set_option maxHeartbeats 4000000 in
set_option maxRecDepth 100000 in
theorem cLa_generator (l : Launch) (dC : Nat → ClassId) (dI : Nat → Nat → Nat) (cA cL : ClassId) (A B : Nat → Nat) (ao : Nat) (hl0 : l.stackTraces = false) (x1 : Int32) (M : jM) (F : jF) (O : Nat → Int64) (sz : Nat) {r : Int32} {M' : jM} {F' : jF} {O' : Nat → Int64} (h : hLa_generator x1 M F O = some (r, M', F', O')) : jCh l yLa_generator wLa_generator rLa_generator (dC, dI) jCl [(cA, .int), (cL, .long)] [.ref (A 0), .int x1, .ref ao] (hW cA cL A B ao M F O) sz r (fun B => hW cA cL A B ao M' F' O') := by
  refine jOfH (by decide) rfl (Nat.le_of_ble_eq_true rfl) (fun p e s m below meth c Ap ls hC htb hX hnc hA hJ hl => ?_)
  obtain ⟨hx, hb, hml, hr, hts, hown, hlocks, hN⟩ := id hC
  have hj : ∀ w ∈ jw, w.before _ s = true := fun w h => hts w (List.mem_cons_of_mem _ h)
  replace hl : lv_has ls 4 [(0, .ref (A 0)), (1, .int x1), (2, .ref ao)] := hl
  unfold hLa_generator at h
  obtain ⟨q, hq, h⟩ := jbi_h h
  refine lv_aload_n hx hb dLa_generator_0 rfl (lv_at hl 2 rfl) ?_
  refine lv_iconst (v := 0) hx hb dLa_generator_1 (by decide) ?_
  refine lv_aload_n hx hb dLa_generator_2 rfl (lv_at hl 0 rfl) ?_
  refine lv_iload_n hx hb dLa_generator_3 rfl (lv_at hl 1 rfl) ?_
  by_cases c0 : q.1 = 0
  · replace h := jif_t c0 h
    refine jfcalli (wr := [(ao, .inl (cL, 1, .inr (.inl O)))]) (w1 := fun B => jW cA A B q.2.2.1 q.2.2.2) (va_runV (As := [.int x1]) (rest := [.int 0, .ref ao]) ⟨hx, hb, hml, hown, hts⟩ (cJh_generator l dC dI cA A x1 M F B _ (hq.trans (congrArg some (Prod.ext c0 rfl)))) (cwV 1 hts (jgoodV jw_336 jw_337 jw_338 jw_1 jw_339) rfl rfl rfl (by decide +kernel) ⟨Nat.le_of_ble_eq_true rfl, Nat.le_of_ble_eq_true rfl⟩) (jfpreV hN hJ (ci := 0) (q0 := 1) rfl rfl [1, 2, 3, 4, 5, 6, 7, 8, 9, 10, 11, 12, 13, 14, 15, 16, 17, 18, 19, 20, 21, 22, 23, 24, 25, 26, 27] rfl (by decide) rfl [0] rfl) rfl rfl hl.1 rfl (lv_room (Nat.le_of_ble_eq_true rfl)) dLa_generator_4 ⟨Nat.le_of_ble_eq_true rfl, Nat.le_of_ble_eq_true rfl⟩) hA hJ [1, 2, 3, 4, 5, 6, 7, 8, 9, 10, 11, 12, 13, 14, 15, 16, 17, 18, 19, 20, 21, 22, 23, 24, 25, 26, 27] [0] rfl rfl (by decide) (by decide) (fun B H locs hJ => ?_)
    refine lv_i2l hx hb dLa_generator_7 rfl ?_
    refine va_last hx hb hJ.1 hJ.2.1 hJ.2.2.1 hJ.2.2.2 0 1 (f := O) rfl rfl (vp_in_nI (n := 0) (N := 1) (by decide) (by decide)) dLa_generator_8 (fun H locs hP hD hS => ?_)
    replace hJ : jH (dC, dI) jCl [(cA, .int), (cL, .long)] (hW cA cL A B ao q.2.2.1 q.2.2.2 (vp_updL O (0 : Int32).toNatClampNeg (Int32.toInt64 q.2.1))) Ap s H _ := ⟨hJ.1, hP, hD, hS⟩
    refine lv_goto (tgt := 18) hx hb dLa_generator_9 (by decide) ?_
    refine lv_iconst (v := 0) hx hb dLa_generator_18 (by decide) ?_
    cases h
    exact jretH (u := B) hx hb hr hlocks hJ (Nat.le_of_ble_eq_true rfl) (Nat.le_of_ble_eq_true rfl) dLa_generator_19 rfl
  · replace h := jif_f c0 h
    by_cases c1 : q.1 = 1
    · replace h := jif_t c1 h
      cases h
      refine jfcallx (k := q.1) (wr := [(ao, .inl (cL, 1, .inr (.inl O)))]) (w1 := fun B => jW cA A B q.2.2.1 q.2.2.2) (vx_runV (As := [.int x1]) (rest := [.int 0, .ref ao]) ⟨hx, hb, hml, hown, hts⟩ (cxJh_generator l dC dI cA A hl0 x1 M F B _ c0 hq) (cwV 1 hts (jgoodV jw_336 jw_337 jw_338 jw_1 jw_339) rfl rfl rfl (by decide +kernel) ⟨Nat.le_of_ble_eq_true rfl, Nat.le_of_ble_eq_true rfl⟩) (jfpreVX hX hA hN hJ (ci := 0) (q0 := 1) rfl rfl [1, 2, 3, 4, 5, 6, 7, 8, 9, 10, 11, 12, 13, 14, 15, 16, 17, 18, 19, 20, 21, 22, 23, 24, 25, 26, 27] rfl (by decide) rfl [0] rfl) rfl rfl hl.1 rfl (lv_room (Nat.le_of_ble_eq_true rfl)) dLa_generator_4 ⟨Nat.le_of_ble_eq_true rfl, Nat.le_of_ble_eq_true rfl⟩) hA hJ [1, 2, 3, 4, 5, 6, 7, 8, 9, 10, 11, 12, 13, 14, 15, 16, 17, 18, 19, 20, 21, 22, 23, 24, 25, 26, 27] [0] rfl rfl (by decide) (by decide) (fun B H locs q9 ce hJ hce hcv hcl => ?_)
      rw [c1] at hcl
      refine vx_catch (own := RLa) (name := "java/lang/IllegalArgumentException") (E := jxn 1) hown [] ⟨0, 9, 12, 13⟩ [⟨0, 9, 15, 19⟩] (htb.trans rfl) (fun z hz => by cases hz) (by decide) (by decide) (hj _ jw_208) (jdw_use (w := .castable "java/lang/IllegalArgumentException" "java/lang/IllegalArgumentException") (by decide +kernel) (hX.1 _ (by decide +kernel))) hce hcv hcl ?_
      refine lv_astore_n (lv' := [(3, .ref q9), (0, .ref (A 0)), (1, .int x1), (2, .ref ao)]) hx hb dLa_generator_12 rfl hl (by decide) rfl (fun ls hl => ?_)
      refine lv_iconst (v := 1) hx hb dLa_generator_13 (by decide) ?_
      exact jretH (u := B) hx hb hr hlocks hJ (Nat.le_of_ble_eq_true rfl) (Nat.le_of_ble_eq_true rfl) dLa_generator_14 rfl
    replace h := jif_f c1 h
    by_cases c2 : q.1 = 2
    · replace h := jif_t c2 h
      cases h
      refine jfcallx (k := q.1) (wr := [(ao, .inl (cL, 1, .inr (.inl O)))]) (w1 := fun B => jW cA A B q.2.2.1 q.2.2.2) (vx_runV (As := [.int x1]) (rest := [.int 0, .ref ao]) ⟨hx, hb, hml, hown, hts⟩ (cxJh_generator l dC dI cA A hl0 x1 M F B _ c0 hq) (cwV 1 hts (jgoodV jw_336 jw_337 jw_338 jw_1 jw_339) rfl rfl rfl (by decide +kernel) ⟨Nat.le_of_ble_eq_true rfl, Nat.le_of_ble_eq_true rfl⟩) (jfpreVX hX hA hN hJ (ci := 0) (q0 := 1) rfl rfl [1, 2, 3, 4, 5, 6, 7, 8, 9, 10, 11, 12, 13, 14, 15, 16, 17, 18, 19, 20, 21, 22, 23, 24, 25, 26, 27] rfl (by decide) rfl [0] rfl) rfl rfl hl.1 rfl (lv_room (Nat.le_of_ble_eq_true rfl)) dLa_generator_4 ⟨Nat.le_of_ble_eq_true rfl, Nat.le_of_ble_eq_true rfl⟩) hA hJ [1, 2, 3, 4, 5, 6, 7, 8, 9, 10, 11, 12, 13, 14, 15, 16, 17, 18, 19, 20, 21, 22, 23, 24, 25, 26, 27] [0] rfl rfl (by decide) (by decide) (fun B H locs q9 ce hJ hce hcv hcl => ?_)
      rw [c2] at hcl
      refine vx_catch (own := RLa) (name := "java/lang/UnsupportedOperationException") (E := jxn 2) hown [⟨0, 9, 12, 13⟩] ⟨0, 9, 15, 19⟩ [] (htb.trans rfl) (fun z hz => by rw [List.mem_singleton] at hz; subst hz; exact Or.inr ⟨by decide, "java/lang/IllegalArgumentException", hj _ jw_208, hnc⟩) (by decide) (by decide) (hj _ jw_292) (jdw_use (w := .castable "java/lang/UnsupportedOperationException" "java/lang/UnsupportedOperationException") (by decide +kernel) (hX.1 _ (by decide +kernel))) hce hcv hcl ?_
      refine lv_astore_n (lv' := [(3, .ref q9), (0, .ref (A 0)), (1, .int x1), (2, .ref ao)]) hx hb dLa_generator_15 rfl hl (by decide) rfl (fun ls hl => ?_)
      refine lv_iconst (v := 2) hx hb dLa_generator_16 (by decide) ?_
      exact jretH (u := B) hx hb hr hlocks hJ (Nat.le_of_ble_eq_true rfl) (Nat.le_of_ble_eq_true rfl) dLa_generator_17 rfl
    replace h := jif_f c2 h
    cases h
abbrev bLa_equal : ByteArray := method_6_code
abbrev yLa_equal : MethodName := ⟨RLa, "equal", "(LJoinHouse;IIII[J)I"⟩
abbrev wLa_equal : List Cond := .codeWith yLa_equal bLa_equal 7 (some .int) [(0, 14, 17, 13), (0, 14, 21, 19)] :: jw
theorem dLa_equal_0 : decode bLa_equal 0 = .ok (.aload 5, 2) := by decide +kernel
theorem dLa_equal_2 : decode bLa_equal 2 = .ok (.iconst 0, 1) := by decide +kernel
theorem dLa_equal_3 : decode bLa_equal 3 = .ok (.aload_n 0, 1) := by decide +kernel
theorem dLa_equal_4 : decode bLa_equal 4 = .ok (.iload_n 1, 1) := by decide +kernel
theorem dLa_equal_5 : decode bLa_equal 5 = .ok (.iload_n 2, 1) := by decide +kernel
theorem dLa_equal_6 : decode bLa_equal 6 = .ok (.iload_n 3, 1) := by decide +kernel
theorem dLa_equal_7 : decode bLa_equal 7 = .ok (.iload 4, 2) := by decide +kernel
theorem dLa_equal_9 : decode bLa_equal 9 = .ok (.invokevirtual 25, 3) := by decide +kernel
theorem dLa_equal_12 : decode bLa_equal 12 = .ok (.i2l, 1) := by decide +kernel
theorem dLa_equal_13 : decode bLa_equal 13 = .ok (.lastore, 1) := by decide +kernel
theorem dLa_equal_14 : decode bLa_equal 14 = .ok (.goto 11, 3) := by decide +kernel
theorem dLa_equal_17 : decode bLa_equal 17 = .ok (.astore 6, 2) := by decide +kernel
theorem dLa_equal_19 : decode bLa_equal 19 = .ok (.iconst 1, 1) := by decide +kernel
theorem dLa_equal_20 : decode bLa_equal 20 = .ok (.ireturn, 1) := by decide +kernel
theorem dLa_equal_21 : decode bLa_equal 21 = .ok (.astore 6, 2) := by decide +kernel
theorem dLa_equal_23 : decode bLa_equal 23 = .ok (.iconst 2, 1) := by decide +kernel
theorem dLa_equal_24 : decode bLa_equal 24 = .ok (.ireturn, 1) := by decide +kernel
theorem dLa_equal_25 : decode bLa_equal 25 = .ok (.iconst 0, 1) := by decide +kernel
theorem dLa_equal_26 : decode bLa_equal 26 = .ok (.ireturn, 1) := by decide +kernel
def hLa_equal (x1 : Int32) (x2 : Int32) (x3 : Int32) (x4 : Int32)  (M : jM) (F : jF) (O : Nat → Int64) : Option (Int32 × jM × jF × (Nat → Int64)) := (fJh_equal x1 x2 x3 x4 M F).bind fun q => if q.1 = 0 then some (0, q.2.2.1, q.2.2.2, vp_updL O (0 : Int32).toNatClampNeg (Int32.toInt64 q.2.1)) else if q.1 = 1 then some (1, q.2.2.1, q.2.2.2, O) else if q.1 = 2 then some (2, q.2.2.1, q.2.2.2, O) else none
abbrev rLa_equal : Room := { frames := 8, cells := 1, slots := 6, locals := 136 }
set_option maxHeartbeats 4000000 in
set_option maxRecDepth 100000 in
theorem cLa_equal (l : Launch) (dC : Nat → ClassId) (dI : Nat → Nat → Nat) (cA cL : ClassId) (A B : Nat → Nat) (ao : Nat) (hl0 : l.stackTraces = false) (x1 : Int32) (x2 : Int32) (x3 : Int32) (x4 : Int32) (M : jM) (F : jF) (O : Nat → Int64) (sz : Nat) {r : Int32} {M' : jM} {F' : jF} {O' : Nat → Int64} (h : hLa_equal x1 x2 x3 x4 M F O = some (r, M', F', O')) : jCh l yLa_equal wLa_equal rLa_equal (dC, dI) jCl [(cA, .int), (cL, .long)] [.ref (A 0), .int x1, .int x2, .int x3, .int x4, .ref ao] (hW cA cL A B ao M F O) sz r (fun B => hW cA cL A B ao M' F' O') := by
  refine jOfH (by decide) rfl (Nat.le_of_ble_eq_true rfl) (fun p e s m below meth c Ap ls hC htb hX hnc hA hJ hl => ?_)
  obtain ⟨hx, hb, hml, hr, hts, hown, hlocks, hN⟩ := id hC
  have hj : ∀ w ∈ jw, w.before _ s = true := fun w h => hts w (List.mem_cons_of_mem _ h)
  replace hl : lv_has ls 7 [(0, .ref (A 0)), (1, .int x1), (2, .int x2), (3, .int x3), (4, .int x4), (5, .ref ao)] := hl
  unfold hLa_equal at h
  obtain ⟨q, hq, h⟩ := jbi_h h
  refine lv_aload hx hb dLa_equal_0 (lv_at hl 5 rfl) ?_
  refine lv_iconst (v := 0) hx hb dLa_equal_2 (by decide) ?_
  refine lv_aload_n hx hb dLa_equal_3 rfl (lv_at hl 0 rfl) ?_
  refine lv_iload_n hx hb dLa_equal_4 rfl (lv_at hl 1 rfl) ?_
  refine lv_iload_n hx hb dLa_equal_5 rfl (lv_at hl 2 rfl) ?_
  refine lv_iload_n hx hb dLa_equal_6 rfl (lv_at hl 3 rfl) ?_
  refine lv_iload hx hb dLa_equal_7 (lv_at hl 4 rfl) ?_
  by_cases c0 : q.1 = 0
  · replace h := jif_t c0 h
    refine jfcalli (wr := [(ao, .inl (cL, 1, .inr (.inl O)))]) (w1 := fun B => jW cA A B q.2.2.1 q.2.2.2) (va_runV (As := [.int x1, .int x2, .int x3, .int x4]) (rest := [.int 0, .ref ao]) ⟨hx, hb, hml, hown, hts⟩ (cJh_equal l dC dI cA A x1 x2 x3 x4 M F B _ (hq.trans (congrArg some (Prod.ext c0 rfl)))) (cwV 4 hts (jgoodV jw_348 jw_349 jw_350 jw_1 jw_351) rfl rfl rfl (by decide +kernel) ⟨Nat.le_of_ble_eq_true rfl, Nat.le_of_ble_eq_true rfl⟩) (jfpreV hN hJ (ci := 0) (q0 := 1) rfl rfl [1, 2, 3, 4, 5, 6, 7, 8, 9, 10, 11, 12, 13, 14, 15, 16, 17, 18, 19, 20, 21, 22, 23, 24, 25, 26, 27] rfl (by decide) rfl [0] rfl) rfl rfl hl.1 rfl (lv_room (Nat.le_of_ble_eq_true rfl)) dLa_equal_9 ⟨Nat.le_of_ble_eq_true rfl, Nat.le_of_ble_eq_true rfl⟩) hA hJ [1, 2, 3, 4, 5, 6, 7, 8, 9, 10, 11, 12, 13, 14, 15, 16, 17, 18, 19, 20, 21, 22, 23, 24, 25, 26, 27] [0] rfl rfl (by decide) (by decide) (fun B H locs hJ => ?_)
    refine lv_i2l hx hb dLa_equal_12 rfl ?_
    refine va_last hx hb hJ.1 hJ.2.1 hJ.2.2.1 hJ.2.2.2 0 1 (f := O) rfl rfl (vp_in_nI (n := 0) (N := 1) (by decide) (by decide)) dLa_equal_13 (fun H locs hP hD hS => ?_)
    replace hJ : jH (dC, dI) jCl [(cA, .int), (cL, .long)] (hW cA cL A B ao q.2.2.1 q.2.2.2 (vp_updL O (0 : Int32).toNatClampNeg (Int32.toInt64 q.2.1))) Ap s H _ := ⟨hJ.1, hP, hD, hS⟩
    refine lv_goto (tgt := 25) hx hb dLa_equal_14 (by decide) ?_
    refine lv_iconst (v := 0) hx hb dLa_equal_25 (by decide) ?_
    cases h
    exact jretH (u := B) hx hb hr hlocks hJ (Nat.le_of_ble_eq_true rfl) (Nat.le_of_ble_eq_true rfl) dLa_equal_26 rfl
  · replace h := jif_f c0 h
    by_cases c1 : q.1 = 1
    · replace h := jif_t c1 h
      cases h
      refine jfcallx (k := q.1) (wr := [(ao, .inl (cL, 1, .inr (.inl O)))]) (w1 := fun B => jW cA A B q.2.2.1 q.2.2.2) (vx_runV (As := [.int x1, .int x2, .int x3, .int x4]) (rest := [.int 0, .ref ao]) ⟨hx, hb, hml, hown, hts⟩ (cxJh_equal l dC dI cA A hl0 x1 x2 x3 x4 M F B _ c0 hq) (cwV 4 hts (jgoodV jw_348 jw_349 jw_350 jw_1 jw_351) rfl rfl rfl (by decide +kernel) ⟨Nat.le_of_ble_eq_true rfl, Nat.le_of_ble_eq_true rfl⟩) (jfpreVX hX hA hN hJ (ci := 0) (q0 := 1) rfl rfl [1, 2, 3, 4, 5, 6, 7, 8, 9, 10, 11, 12, 13, 14, 15, 16, 17, 18, 19, 20, 21, 22, 23, 24, 25, 26, 27] rfl (by decide) rfl [0] rfl) rfl rfl hl.1 rfl (lv_room (Nat.le_of_ble_eq_true rfl)) dLa_equal_9 ⟨Nat.le_of_ble_eq_true rfl, Nat.le_of_ble_eq_true rfl⟩) hA hJ [1, 2, 3, 4, 5, 6, 7, 8, 9, 10, 11, 12, 13, 14, 15, 16, 17, 18, 19, 20, 21, 22, 23, 24, 25, 26, 27] [0] rfl rfl (by decide) (by decide) (fun B H locs q9 ce hJ hce hcv hcl => ?_)
      rw [c1] at hcl
      refine vx_catch (own := RLa) (name := "java/lang/IllegalArgumentException") (E := jxn 1) hown [] ⟨0, 14, 17, 13⟩ [⟨0, 14, 21, 19⟩] (htb.trans rfl) (fun z hz => by cases hz) (by decide) (by decide) (hj _ jw_208) (jdw_use (w := .castable "java/lang/IllegalArgumentException" "java/lang/IllegalArgumentException") (by decide +kernel) (hX.1 _ (by decide +kernel))) hce hcv hcl ?_
      refine lv_astore (lv' := [(6, .ref q9), (0, .ref (A 0)), (1, .int x1), (2, .int x2), (3, .int x3), (4, .int x4), (5, .ref ao)]) hx hb dLa_equal_17 hl (by decide) rfl (fun ls hl => ?_)
      refine lv_iconst (v := 1) hx hb dLa_equal_19 (by decide) ?_
      exact jretH (u := B) hx hb hr hlocks hJ (Nat.le_of_ble_eq_true rfl) (Nat.le_of_ble_eq_true rfl) dLa_equal_20 rfl
    replace h := jif_f c1 h
    by_cases c2 : q.1 = 2
    · replace h := jif_t c2 h
      cases h
      refine jfcallx (k := q.1) (wr := [(ao, .inl (cL, 1, .inr (.inl O)))]) (w1 := fun B => jW cA A B q.2.2.1 q.2.2.2) (vx_runV (As := [.int x1, .int x2, .int x3, .int x4]) (rest := [.int 0, .ref ao]) ⟨hx, hb, hml, hown, hts⟩ (cxJh_equal l dC dI cA A hl0 x1 x2 x3 x4 M F B _ c0 hq) (cwV 4 hts (jgoodV jw_348 jw_349 jw_350 jw_1 jw_351) rfl rfl rfl (by decide +kernel) ⟨Nat.le_of_ble_eq_true rfl, Nat.le_of_ble_eq_true rfl⟩) (jfpreVX hX hA hN hJ (ci := 0) (q0 := 1) rfl rfl [1, 2, 3, 4, 5, 6, 7, 8, 9, 10, 11, 12, 13, 14, 15, 16, 17, 18, 19, 20, 21, 22, 23, 24, 25, 26, 27] rfl (by decide) rfl [0] rfl) rfl rfl hl.1 rfl (lv_room (Nat.le_of_ble_eq_true rfl)) dLa_equal_9 ⟨Nat.le_of_ble_eq_true rfl, Nat.le_of_ble_eq_true rfl⟩) hA hJ [1, 2, 3, 4, 5, 6, 7, 8, 9, 10, 11, 12, 13, 14, 15, 16, 17, 18, 19, 20, 21, 22, 23, 24, 25, 26, 27] [0] rfl rfl (by decide) (by decide) (fun B H locs q9 ce hJ hce hcv hcl => ?_)
      rw [c2] at hcl
      refine vx_catch (own := RLa) (name := "java/lang/UnsupportedOperationException") (E := jxn 2) hown [⟨0, 14, 17, 13⟩] ⟨0, 14, 21, 19⟩ [] (htb.trans rfl) (fun z hz => by rw [List.mem_singleton] at hz; subst hz; exact Or.inr ⟨by decide, "java/lang/IllegalArgumentException", hj _ jw_208, hnc⟩) (by decide) (by decide) (hj _ jw_292) (jdw_use (w := .castable "java/lang/UnsupportedOperationException" "java/lang/UnsupportedOperationException") (by decide +kernel) (hX.1 _ (by decide +kernel))) hce hcv hcl ?_
      refine lv_astore (lv' := [(6, .ref q9), (0, .ref (A 0)), (1, .int x1), (2, .int x2), (3, .int x3), (4, .int x4), (5, .ref ao)]) hx hb dLa_equal_21 hl (by decide) rfl (fun ls hl => ?_)
      refine lv_iconst (v := 2) hx hb dLa_equal_23 (by decide) ?_
      exact jretH (u := B) hx hb hr hlocks hJ (Nat.le_of_ble_eq_true rfl) (Nat.le_of_ble_eq_true rfl) dLa_equal_24 rfl
    replace h := jif_f c2 h
    cases h
abbrev bLa_number : ByteArray := method_7_code
abbrev yLa_number : MethodName := ⟨RLa, "number", "(LJoinHouse;III[J)I"⟩
abbrev wLa_number : List Cond := .codeWith yLa_number bLa_number 6 (some .int) [(0, 12, 15, 13), (0, 12, 19, 19)] :: jw
theorem dLa_number_0 : decode bLa_number 0 = .ok (.aload 4, 2) := by decide +kernel
theorem dLa_number_2 : decode bLa_number 2 = .ok (.iconst 0, 1) := by decide +kernel
theorem dLa_number_3 : decode bLa_number 3 = .ok (.aload_n 0, 1) := by decide +kernel
theorem dLa_number_4 : decode bLa_number 4 = .ok (.iload_n 1, 1) := by decide +kernel
theorem dLa_number_5 : decode bLa_number 5 = .ok (.iload_n 2, 1) := by decide +kernel
theorem dLa_number_6 : decode bLa_number 6 = .ok (.iload_n 3, 1) := by decide +kernel
theorem dLa_number_7 : decode bLa_number 7 = .ok (.invokevirtual 29, 3) := by decide +kernel
theorem dLa_number_10 : decode bLa_number 10 = .ok (.i2l, 1) := by decide +kernel
theorem dLa_number_11 : decode bLa_number 11 = .ok (.lastore, 1) := by decide +kernel
theorem dLa_number_12 : decode bLa_number 12 = .ok (.goto 11, 3) := by decide +kernel
theorem dLa_number_15 : decode bLa_number 15 = .ok (.astore 5, 2) := by decide +kernel
theorem dLa_number_17 : decode bLa_number 17 = .ok (.iconst 1, 1) := by decide +kernel
theorem dLa_number_18 : decode bLa_number 18 = .ok (.ireturn, 1) := by decide +kernel
theorem dLa_number_19 : decode bLa_number 19 = .ok (.astore 5, 2) := by decide +kernel
theorem dLa_number_21 : decode bLa_number 21 = .ok (.iconst 2, 1) := by decide +kernel
theorem dLa_number_22 : decode bLa_number 22 = .ok (.ireturn, 1) := by decide +kernel
theorem dLa_number_23 : decode bLa_number 23 = .ok (.iconst 0, 1) := by decide +kernel
theorem dLa_number_24 : decode bLa_number 24 = .ok (.ireturn, 1) := by decide +kernel
def hLa_number (x1 : Int32) (x2 : Int32) (x3 : Int32)  (M : jM) (F : jF) (O : Nat → Int64) : Option (Int32 × jM × jF × (Nat → Int64)) := (fJh_number x1 x2 x3 M F).bind fun q => if q.1 = 0 then some (0, q.2.2.1, q.2.2.2, vp_updL O (0 : Int32).toNatClampNeg (Int32.toInt64 q.2.1)) else if q.1 = 1 then some (1, q.2.2.1, q.2.2.2, O) else if q.1 = 2 then some (2, q.2.2.1, q.2.2.2, O) else none
abbrev rLa_number : Room := { frames := 8, cells := 1, slots := 6, locals := 135 }
set_option maxHeartbeats 4000000 in
set_option maxRecDepth 100000 in
theorem cLa_number (l : Launch) (dC : Nat → ClassId) (dI : Nat → Nat → Nat) (cA cL : ClassId) (A B : Nat → Nat) (ao : Nat) (hl0 : l.stackTraces = false) (x1 : Int32) (x2 : Int32) (x3 : Int32) (M : jM) (F : jF) (O : Nat → Int64) (sz : Nat) {r : Int32} {M' : jM} {F' : jF} {O' : Nat → Int64} (h : hLa_number x1 x2 x3 M F O = some (r, M', F', O')) : jCh l yLa_number wLa_number rLa_number (dC, dI) jCl [(cA, .int), (cL, .long)] [.ref (A 0), .int x1, .int x2, .int x3, .ref ao] (hW cA cL A B ao M F O) sz r (fun B => hW cA cL A B ao M' F' O') := by
  refine jOfH (by decide) rfl (Nat.le_of_ble_eq_true rfl) (fun p e s m below meth c Ap ls hC htb hX hnc hA hJ hl => ?_)
  obtain ⟨hx, hb, hml, hr, hts, hown, hlocks, hN⟩ := id hC
  have hj : ∀ w ∈ jw, w.before _ s = true := fun w h => hts w (List.mem_cons_of_mem _ h)
  replace hl : lv_has ls 6 [(0, .ref (A 0)), (1, .int x1), (2, .int x2), (3, .int x3), (4, .ref ao)] := hl
  unfold hLa_number at h
  obtain ⟨q, hq, h⟩ := jbi_h h
  refine lv_aload hx hb dLa_number_0 (lv_at hl 4 rfl) ?_
  refine lv_iconst (v := 0) hx hb dLa_number_2 (by decide) ?_
  refine lv_aload_n hx hb dLa_number_3 rfl (lv_at hl 0 rfl) ?_
  refine lv_iload_n hx hb dLa_number_4 rfl (lv_at hl 1 rfl) ?_
  refine lv_iload_n hx hb dLa_number_5 rfl (lv_at hl 2 rfl) ?_
  refine lv_iload_n hx hb dLa_number_6 rfl (lv_at hl 3 rfl) ?_
  by_cases c0 : q.1 = 0
  · replace h := jif_t c0 h
    refine jfcalli (wr := [(ao, .inl (cL, 1, .inr (.inl O)))]) (w1 := fun B => jW cA A B q.2.2.1 q.2.2.2) (va_runV (As := [.int x1, .int x2, .int x3]) (rest := [.int 0, .ref ao]) ⟨hx, hb, hml, hown, hts⟩ (cJh_number l dC dI cA A x1 x2 x3 M F B _ (hq.trans (congrArg some (Prod.ext c0 rfl)))) (cwV 3 hts (jgoodV jw_369 jw_370 jw_371 jw_1 jw_372) rfl rfl rfl (by decide +kernel) ⟨Nat.le_of_ble_eq_true rfl, Nat.le_of_ble_eq_true rfl⟩) (jfpreV hN hJ (ci := 0) (q0 := 1) rfl rfl [1, 2, 3, 4, 5, 6, 7, 8, 9, 10, 11, 12, 13, 14, 15, 16, 17, 18, 19, 20, 21, 22, 23, 24, 25, 26, 27] rfl (by decide) rfl [0] rfl) rfl rfl hl.1 rfl (lv_room (Nat.le_of_ble_eq_true rfl)) dLa_number_7 ⟨Nat.le_of_ble_eq_true rfl, Nat.le_of_ble_eq_true rfl⟩) hA hJ [1, 2, 3, 4, 5, 6, 7, 8, 9, 10, 11, 12, 13, 14, 15, 16, 17, 18, 19, 20, 21, 22, 23, 24, 25, 26, 27] [0] rfl rfl (by decide) (by decide) (fun B H locs hJ => ?_)
    refine lv_i2l hx hb dLa_number_10 rfl ?_
    refine va_last hx hb hJ.1 hJ.2.1 hJ.2.2.1 hJ.2.2.2 0 1 (f := O) rfl rfl (vp_in_nI (n := 0) (N := 1) (by decide) (by decide)) dLa_number_11 (fun H locs hP hD hS => ?_)
    replace hJ : jH (dC, dI) jCl [(cA, .int), (cL, .long)] (hW cA cL A B ao q.2.2.1 q.2.2.2 (vp_updL O (0 : Int32).toNatClampNeg (Int32.toInt64 q.2.1))) Ap s H _ := ⟨hJ.1, hP, hD, hS⟩
    refine lv_goto (tgt := 23) hx hb dLa_number_12 (by decide) ?_
    refine lv_iconst (v := 0) hx hb dLa_number_23 (by decide) ?_
    cases h
    exact jretH (u := B) hx hb hr hlocks hJ (Nat.le_of_ble_eq_true rfl) (Nat.le_of_ble_eq_true rfl) dLa_number_24 rfl
  · replace h := jif_f c0 h
    by_cases c1 : q.1 = 1
    · replace h := jif_t c1 h
      cases h
      refine jfcallx (k := q.1) (wr := [(ao, .inl (cL, 1, .inr (.inl O)))]) (w1 := fun B => jW cA A B q.2.2.1 q.2.2.2) (vx_runV (As := [.int x1, .int x2, .int x3]) (rest := [.int 0, .ref ao]) ⟨hx, hb, hml, hown, hts⟩ (cxJh_number l dC dI cA A hl0 x1 x2 x3 M F B _ c0 hq) (cwV 3 hts (jgoodV jw_369 jw_370 jw_371 jw_1 jw_372) rfl rfl rfl (by decide +kernel) ⟨Nat.le_of_ble_eq_true rfl, Nat.le_of_ble_eq_true rfl⟩) (jfpreVX hX hA hN hJ (ci := 0) (q0 := 1) rfl rfl [1, 2, 3, 4, 5, 6, 7, 8, 9, 10, 11, 12, 13, 14, 15, 16, 17, 18, 19, 20, 21, 22, 23, 24, 25, 26, 27] rfl (by decide) rfl [0] rfl) rfl rfl hl.1 rfl (lv_room (Nat.le_of_ble_eq_true rfl)) dLa_number_7 ⟨Nat.le_of_ble_eq_true rfl, Nat.le_of_ble_eq_true rfl⟩) hA hJ [1, 2, 3, 4, 5, 6, 7, 8, 9, 10, 11, 12, 13, 14, 15, 16, 17, 18, 19, 20, 21, 22, 23, 24, 25, 26, 27] [0] rfl rfl (by decide) (by decide) (fun B H locs q9 ce hJ hce hcv hcl => ?_)
      rw [c1] at hcl
      refine vx_catch (own := RLa) (name := "java/lang/IllegalArgumentException") (E := jxn 1) hown [] ⟨0, 12, 15, 13⟩ [⟨0, 12, 19, 19⟩] (htb.trans rfl) (fun z hz => by cases hz) (by decide) (by decide) (hj _ jw_208) (jdw_use (w := .castable "java/lang/IllegalArgumentException" "java/lang/IllegalArgumentException") (by decide +kernel) (hX.1 _ (by decide +kernel))) hce hcv hcl ?_
      refine lv_astore (lv' := [(5, .ref q9), (0, .ref (A 0)), (1, .int x1), (2, .int x2), (3, .int x3), (4, .ref ao)]) hx hb dLa_number_15 hl (by decide) rfl (fun ls hl => ?_)
      refine lv_iconst (v := 1) hx hb dLa_number_17 (by decide) ?_
      exact jretH (u := B) hx hb hr hlocks hJ (Nat.le_of_ble_eq_true rfl) (Nat.le_of_ble_eq_true rfl) dLa_number_18 rfl
    replace h := jif_f c1 h
    by_cases c2 : q.1 = 2
    · replace h := jif_t c2 h
      cases h
      refine jfcallx (k := q.1) (wr := [(ao, .inl (cL, 1, .inr (.inl O)))]) (w1 := fun B => jW cA A B q.2.2.1 q.2.2.2) (vx_runV (As := [.int x1, .int x2, .int x3]) (rest := [.int 0, .ref ao]) ⟨hx, hb, hml, hown, hts⟩ (cxJh_number l dC dI cA A hl0 x1 x2 x3 M F B _ c0 hq) (cwV 3 hts (jgoodV jw_369 jw_370 jw_371 jw_1 jw_372) rfl rfl rfl (by decide +kernel) ⟨Nat.le_of_ble_eq_true rfl, Nat.le_of_ble_eq_true rfl⟩) (jfpreVX hX hA hN hJ (ci := 0) (q0 := 1) rfl rfl [1, 2, 3, 4, 5, 6, 7, 8, 9, 10, 11, 12, 13, 14, 15, 16, 17, 18, 19, 20, 21, 22, 23, 24, 25, 26, 27] rfl (by decide) rfl [0] rfl) rfl rfl hl.1 rfl (lv_room (Nat.le_of_ble_eq_true rfl)) dLa_number_7 ⟨Nat.le_of_ble_eq_true rfl, Nat.le_of_ble_eq_true rfl⟩) hA hJ [1, 2, 3, 4, 5, 6, 7, 8, 9, 10, 11, 12, 13, 14, 15, 16, 17, 18, 19, 20, 21, 22, 23, 24, 25, 26, 27] [0] rfl rfl (by decide) (by decide) (fun B H locs q9 ce hJ hce hcv hcl => ?_)
      rw [c2] at hcl
      refine vx_catch (own := RLa) (name := "java/lang/UnsupportedOperationException") (E := jxn 2) hown [⟨0, 12, 15, 13⟩] ⟨0, 12, 19, 19⟩ [] (htb.trans rfl) (fun z hz => by rw [List.mem_singleton] at hz; subst hz; exact Or.inr ⟨by decide, "java/lang/IllegalArgumentException", hj _ jw_208, hnc⟩) (by decide) (by decide) (hj _ jw_292) (jdw_use (w := .castable "java/lang/UnsupportedOperationException" "java/lang/UnsupportedOperationException") (by decide +kernel) (hX.1 _ (by decide +kernel))) hce hcv hcl ?_
      refine lv_astore (lv' := [(5, .ref q9), (0, .ref (A 0)), (1, .int x1), (2, .int x2), (3, .int x3), (4, .ref ao)]) hx hb dLa_number_19 hl (by decide) rfl (fun ls hl => ?_)
      refine lv_iconst (v := 2) hx hb dLa_number_21 (by decide) ?_
      exact jretH (u := B) hx hb hr hlocks hJ (Nat.le_of_ble_eq_true rfl) (Nat.le_of_ble_eq_true rfl) dLa_number_22 rfl
    replace h := jif_f c2 h
    cases h
abbrev bLa_less : ByteArray := method_8_code
abbrev yLa_less : MethodName := ⟨RLa, "less", "(LJoinHouse;IIII[J)I"⟩
abbrev wLa_less : List Cond := .codeWith yLa_less bLa_less 7 (some .int) [(0, 14, 17, 13), (0, 14, 21, 19)] :: jw
theorem dLa_less_0 : decode bLa_less 0 = .ok (.aload 5, 2) := by decide +kernel
theorem dLa_less_2 : decode bLa_less 2 = .ok (.iconst 0, 1) := by decide +kernel
theorem dLa_less_3 : decode bLa_less 3 = .ok (.aload_n 0, 1) := by decide +kernel
theorem dLa_less_4 : decode bLa_less 4 = .ok (.iload_n 1, 1) := by decide +kernel
theorem dLa_less_5 : decode bLa_less 5 = .ok (.iload_n 2, 1) := by decide +kernel
theorem dLa_less_6 : decode bLa_less 6 = .ok (.iload_n 3, 1) := by decide +kernel
theorem dLa_less_7 : decode bLa_less 7 = .ok (.iload 4, 2) := by decide +kernel
theorem dLa_less_9 : decode bLa_less 9 = .ok (.invokevirtual 33, 3) := by decide +kernel
theorem dLa_less_12 : decode bLa_less 12 = .ok (.i2l, 1) := by decide +kernel
theorem dLa_less_13 : decode bLa_less 13 = .ok (.lastore, 1) := by decide +kernel
theorem dLa_less_14 : decode bLa_less 14 = .ok (.goto 11, 3) := by decide +kernel
theorem dLa_less_17 : decode bLa_less 17 = .ok (.astore 6, 2) := by decide +kernel
theorem dLa_less_19 : decode bLa_less 19 = .ok (.iconst 1, 1) := by decide +kernel
theorem dLa_less_20 : decode bLa_less 20 = .ok (.ireturn, 1) := by decide +kernel
theorem dLa_less_21 : decode bLa_less 21 = .ok (.astore 6, 2) := by decide +kernel
theorem dLa_less_23 : decode bLa_less 23 = .ok (.iconst 2, 1) := by decide +kernel
theorem dLa_less_24 : decode bLa_less 24 = .ok (.ireturn, 1) := by decide +kernel
theorem dLa_less_25 : decode bLa_less 25 = .ok (.iconst 0, 1) := by decide +kernel
theorem dLa_less_26 : decode bLa_less 26 = .ok (.ireturn, 1) := by decide +kernel
def hLa_less (x1 : Int32) (x2 : Int32) (x3 : Int32) (x4 : Int32)  (M : jM) (F : jF) (O : Nat → Int64) : Option (Int32 × jM × jF × (Nat → Int64)) := (fJh_less x1 x2 x3 x4 M F).bind fun q => if q.1 = 0 then some (0, q.2.2.1, q.2.2.2, vp_updL O (0 : Int32).toNatClampNeg (Int32.toInt64 q.2.1)) else if q.1 = 1 then some (1, q.2.2.1, q.2.2.2, O) else if q.1 = 2 then some (2, q.2.2.1, q.2.2.2, O) else none
abbrev rLa_less : Room := { frames := 8, cells := 1, slots := 6, locals := 136 }
set_option maxHeartbeats 4000000 in
set_option maxRecDepth 100000 in
theorem cLa_less (l : Launch) (dC : Nat → ClassId) (dI : Nat → Nat → Nat) (cA cL : ClassId) (A B : Nat → Nat) (ao : Nat) (hl0 : l.stackTraces = false) (x1 : Int32) (x2 : Int32) (x3 : Int32) (x4 : Int32) (M : jM) (F : jF) (O : Nat → Int64) (sz : Nat) {r : Int32} {M' : jM} {F' : jF} {O' : Nat → Int64} (h : hLa_less x1 x2 x3 x4 M F O = some (r, M', F', O')) : jCh l yLa_less wLa_less rLa_less (dC, dI) jCl [(cA, .int), (cL, .long)] [.ref (A 0), .int x1, .int x2, .int x3, .int x4, .ref ao] (hW cA cL A B ao M F O) sz r (fun B => hW cA cL A B ao M' F' O') := by
  refine jOfH (by decide) rfl (Nat.le_of_ble_eq_true rfl) (fun p e s m below meth c Ap ls hC htb hX hnc hA hJ hl => ?_)
  obtain ⟨hx, hb, hml, hr, hts, hown, hlocks, hN⟩ := id hC
  have hj : ∀ w ∈ jw, w.before _ s = true := fun w h => hts w (List.mem_cons_of_mem _ h)
  replace hl : lv_has ls 7 [(0, .ref (A 0)), (1, .int x1), (2, .int x2), (3, .int x3), (4, .int x4), (5, .ref ao)] := hl
  unfold hLa_less at h
  obtain ⟨q, hq, h⟩ := jbi_h h
  refine lv_aload hx hb dLa_less_0 (lv_at hl 5 rfl) ?_
  refine lv_iconst (v := 0) hx hb dLa_less_2 (by decide) ?_
  refine lv_aload_n hx hb dLa_less_3 rfl (lv_at hl 0 rfl) ?_
  refine lv_iload_n hx hb dLa_less_4 rfl (lv_at hl 1 rfl) ?_
  refine lv_iload_n hx hb dLa_less_5 rfl (lv_at hl 2 rfl) ?_
  refine lv_iload_n hx hb dLa_less_6 rfl (lv_at hl 3 rfl) ?_
  refine lv_iload hx hb dLa_less_7 (lv_at hl 4 rfl) ?_
  by_cases c0 : q.1 = 0
  · replace h := jif_t c0 h
    refine jfcalli (wr := [(ao, .inl (cL, 1, .inr (.inl O)))]) (w1 := fun B => jW cA A B q.2.2.1 q.2.2.2) (va_runV (As := [.int x1, .int x2, .int x3, .int x4]) (rest := [.int 0, .ref ao]) ⟨hx, hb, hml, hown, hts⟩ (cJh_less l dC dI cA A x1 x2 x3 x4 M F B _ (hq.trans (congrArg some (Prod.ext c0 rfl)))) (cwV 4 hts (jgoodV jw_376 jw_377 jw_378 jw_1 jw_379) rfl rfl rfl (by decide +kernel) ⟨Nat.le_of_ble_eq_true rfl, Nat.le_of_ble_eq_true rfl⟩) (jfpreV hN hJ (ci := 0) (q0 := 1) rfl rfl [1, 2, 3, 4, 5, 6, 7, 8, 9, 10, 11, 12, 13, 14, 15, 16, 17, 18, 19, 20, 21, 22, 23, 24, 25, 26, 27] rfl (by decide) rfl [0] rfl) rfl rfl hl.1 rfl (lv_room (Nat.le_of_ble_eq_true rfl)) dLa_less_9 ⟨Nat.le_of_ble_eq_true rfl, Nat.le_of_ble_eq_true rfl⟩) hA hJ [1, 2, 3, 4, 5, 6, 7, 8, 9, 10, 11, 12, 13, 14, 15, 16, 17, 18, 19, 20, 21, 22, 23, 24, 25, 26, 27] [0] rfl rfl (by decide) (by decide) (fun B H locs hJ => ?_)
    refine lv_i2l hx hb dLa_less_12 rfl ?_
    refine va_last hx hb hJ.1 hJ.2.1 hJ.2.2.1 hJ.2.2.2 0 1 (f := O) rfl rfl (vp_in_nI (n := 0) (N := 1) (by decide) (by decide)) dLa_less_13 (fun H locs hP hD hS => ?_)
    replace hJ : jH (dC, dI) jCl [(cA, .int), (cL, .long)] (hW cA cL A B ao q.2.2.1 q.2.2.2 (vp_updL O (0 : Int32).toNatClampNeg (Int32.toInt64 q.2.1))) Ap s H _ := ⟨hJ.1, hP, hD, hS⟩
    refine lv_goto (tgt := 25) hx hb dLa_less_14 (by decide) ?_
    refine lv_iconst (v := 0) hx hb dLa_less_25 (by decide) ?_
    cases h
    exact jretH (u := B) hx hb hr hlocks hJ (Nat.le_of_ble_eq_true rfl) (Nat.le_of_ble_eq_true rfl) dLa_less_26 rfl
  · replace h := jif_f c0 h
    by_cases c1 : q.1 = 1
    · replace h := jif_t c1 h
      cases h
      refine jfcallx (k := q.1) (wr := [(ao, .inl (cL, 1, .inr (.inl O)))]) (w1 := fun B => jW cA A B q.2.2.1 q.2.2.2) (vx_runV (As := [.int x1, .int x2, .int x3, .int x4]) (rest := [.int 0, .ref ao]) ⟨hx, hb, hml, hown, hts⟩ (cxJh_less l dC dI cA A hl0 x1 x2 x3 x4 M F B _ c0 hq) (cwV 4 hts (jgoodV jw_376 jw_377 jw_378 jw_1 jw_379) rfl rfl rfl (by decide +kernel) ⟨Nat.le_of_ble_eq_true rfl, Nat.le_of_ble_eq_true rfl⟩) (jfpreVX hX hA hN hJ (ci := 0) (q0 := 1) rfl rfl [1, 2, 3, 4, 5, 6, 7, 8, 9, 10, 11, 12, 13, 14, 15, 16, 17, 18, 19, 20, 21, 22, 23, 24, 25, 26, 27] rfl (by decide) rfl [0] rfl) rfl rfl hl.1 rfl (lv_room (Nat.le_of_ble_eq_true rfl)) dLa_less_9 ⟨Nat.le_of_ble_eq_true rfl, Nat.le_of_ble_eq_true rfl⟩) hA hJ [1, 2, 3, 4, 5, 6, 7, 8, 9, 10, 11, 12, 13, 14, 15, 16, 17, 18, 19, 20, 21, 22, 23, 24, 25, 26, 27] [0] rfl rfl (by decide) (by decide) (fun B H locs q9 ce hJ hce hcv hcl => ?_)
      rw [c1] at hcl
      refine vx_catch (own := RLa) (name := "java/lang/IllegalArgumentException") (E := jxn 1) hown [] ⟨0, 14, 17, 13⟩ [⟨0, 14, 21, 19⟩] (htb.trans rfl) (fun z hz => by cases hz) (by decide) (by decide) (hj _ jw_208) (jdw_use (w := .castable "java/lang/IllegalArgumentException" "java/lang/IllegalArgumentException") (by decide +kernel) (hX.1 _ (by decide +kernel))) hce hcv hcl ?_
      refine lv_astore (lv' := [(6, .ref q9), (0, .ref (A 0)), (1, .int x1), (2, .int x2), (3, .int x3), (4, .int x4), (5, .ref ao)]) hx hb dLa_less_17 hl (by decide) rfl (fun ls hl => ?_)
      refine lv_iconst (v := 1) hx hb dLa_less_19 (by decide) ?_
      exact jretH (u := B) hx hb hr hlocks hJ (Nat.le_of_ble_eq_true rfl) (Nat.le_of_ble_eq_true rfl) dLa_less_20 rfl
    replace h := jif_f c1 h
    by_cases c2 : q.1 = 2
    · replace h := jif_t c2 h
      cases h
      refine jfcallx (k := q.1) (wr := [(ao, .inl (cL, 1, .inr (.inl O)))]) (w1 := fun B => jW cA A B q.2.2.1 q.2.2.2) (vx_runV (As := [.int x1, .int x2, .int x3, .int x4]) (rest := [.int 0, .ref ao]) ⟨hx, hb, hml, hown, hts⟩ (cxJh_less l dC dI cA A hl0 x1 x2 x3 x4 M F B _ c0 hq) (cwV 4 hts (jgoodV jw_376 jw_377 jw_378 jw_1 jw_379) rfl rfl rfl (by decide +kernel) ⟨Nat.le_of_ble_eq_true rfl, Nat.le_of_ble_eq_true rfl⟩) (jfpreVX hX hA hN hJ (ci := 0) (q0 := 1) rfl rfl [1, 2, 3, 4, 5, 6, 7, 8, 9, 10, 11, 12, 13, 14, 15, 16, 17, 18, 19, 20, 21, 22, 23, 24, 25, 26, 27] rfl (by decide) rfl [0] rfl) rfl rfl hl.1 rfl (lv_room (Nat.le_of_ble_eq_true rfl)) dLa_less_9 ⟨Nat.le_of_ble_eq_true rfl, Nat.le_of_ble_eq_true rfl⟩) hA hJ [1, 2, 3, 4, 5, 6, 7, 8, 9, 10, 11, 12, 13, 14, 15, 16, 17, 18, 19, 20, 21, 22, 23, 24, 25, 26, 27] [0] rfl rfl (by decide) (by decide) (fun B H locs q9 ce hJ hce hcv hcl => ?_)
      rw [c2] at hcl
      refine vx_catch (own := RLa) (name := "java/lang/UnsupportedOperationException") (E := jxn 2) hown [⟨0, 14, 17, 13⟩] ⟨0, 14, 21, 19⟩ [] (htb.trans rfl) (fun z hz => by rw [List.mem_singleton] at hz; subst hz; exact Or.inr ⟨by decide, "java/lang/IllegalArgumentException", hj _ jw_208, hnc⟩) (by decide) (by decide) (hj _ jw_292) (jdw_use (w := .castable "java/lang/UnsupportedOperationException" "java/lang/UnsupportedOperationException") (by decide +kernel) (hX.1 _ (by decide +kernel))) hce hcv hcl ?_
      refine lv_astore (lv' := [(6, .ref q9), (0, .ref (A 0)), (1, .int x1), (2, .int x2), (3, .int x3), (4, .int x4), (5, .ref ao)]) hx hb dLa_less_21 hl (by decide) rfl (fun ls hl => ?_)
      refine lv_iconst (v := 2) hx hb dLa_less_23 (by decide) ?_
      exact jretH (u := B) hx hb hr hlocks hJ (Nat.le_of_ble_eq_true rfl) (Nat.le_of_ble_eq_true rfl) dLa_less_24 rfl
    replace h := jif_f c2 h
    cases h
abbrev bLa_plan : ByteArray := method_9_code
abbrev yLa_plan : MethodName := ⟨RLa, "plan", "(LJoinHouse;I[J)I"⟩
abbrev wLa_plan : List Cond := .codeWith yLa_plan bLa_plan 4 (some .int) [(0, 9, 12, 39)] :: jw
theorem dLa_plan_0 : decode bLa_plan 0 = .ok (.aload_n 2, 1) := by decide +kernel
theorem dLa_plan_1 : decode bLa_plan 1 = .ok (.iconst 0, 1) := by decide +kernel
theorem dLa_plan_2 : decode bLa_plan 2 = .ok (.aload_n 0, 1) := by decide +kernel
theorem dLa_plan_3 : decode bLa_plan 3 = .ok (.iload_n 1, 1) := by decide +kernel
theorem dLa_plan_4 : decode bLa_plan 4 = .ok (.invokevirtual 36, 3) := by decide +kernel
theorem dLa_plan_7 : decode bLa_plan 7 = .ok (.i2l, 1) := by decide +kernel
theorem dLa_plan_8 : decode bLa_plan 8 = .ok (.lastore, 1) := by decide +kernel
theorem dLa_plan_9 : decode bLa_plan 9 = .ok (.goto 6, 3) := by decide +kernel
theorem dLa_plan_12 : decode bLa_plan 12 = .ok (.astore_n 3, 1) := by decide +kernel
theorem dLa_plan_13 : decode bLa_plan 13 = .ok (.iconst 1, 1) := by decide +kernel
theorem dLa_plan_14 : decode bLa_plan 14 = .ok (.ireturn, 1) := by decide +kernel
theorem dLa_plan_15 : decode bLa_plan 15 = .ok (.iconst 0, 1) := by decide +kernel
theorem dLa_plan_16 : decode bLa_plan 16 = .ok (.ireturn, 1) := by decide +kernel
def hLa_plan (x1 : Int32)  (M : jM) (F : jF) (O : Nat → Int64) : Option (Int32 × jM × jF × (Nat → Int64)) := (fJh_plan x1 M F).bind fun q => if q.1 = 0 then some (0, q.2.2.1, q.2.2.2, vp_updL O (0 : Int32).toNatClampNeg (Int32.toInt64 q.2.1)) else if q.1 = 3 then some (1, q.2.2.1, q.2.2.2, O) else none
abbrev rLa_plan : Room := { frames := 8, cells := 1, slots := 6, locals := 132 }
set_option maxHeartbeats 4000000 in
set_option maxRecDepth 100000 in
theorem cLa_plan (l : Launch) (dC : Nat → ClassId) (dI : Nat → Nat → Nat) (cA cL : ClassId) (A B : Nat → Nat) (ao : Nat) (hl0 : l.stackTraces = false) (x1 : Int32) (M : jM) (F : jF) (O : Nat → Int64) (sz : Nat) {r : Int32} {M' : jM} {F' : jF} {O' : Nat → Int64} (h : hLa_plan x1 M F O = some (r, M', F', O')) : jCh l yLa_plan wLa_plan rLa_plan (dC, dI) jCl [(cA, .int), (cL, .long)] [.ref (A 0), .int x1, .ref ao] (hW cA cL A B ao M F O) sz r (fun B => hW cA cL A B ao M' F' O') := by
  refine jOfH (by decide) rfl (Nat.le_of_ble_eq_true rfl) (fun p e s m below meth c Ap ls hC htb hX hnc hA hJ hl => ?_)
  obtain ⟨hx, hb, hml, hr, hts, hown, hlocks, hN⟩ := id hC
  have hj : ∀ w ∈ jw, w.before _ s = true := fun w h => hts w (List.mem_cons_of_mem _ h)
  replace hl : lv_has ls 4 [(0, .ref (A 0)), (1, .int x1), (2, .ref ao)] := hl
  unfold hLa_plan at h
  obtain ⟨q, hq, h⟩ := jbi_h h
  refine lv_aload_n hx hb dLa_plan_0 rfl (lv_at hl 2 rfl) ?_
  refine lv_iconst (v := 0) hx hb dLa_plan_1 (by decide) ?_
  refine lv_aload_n hx hb dLa_plan_2 rfl (lv_at hl 0 rfl) ?_
  refine lv_iload_n hx hb dLa_plan_3 rfl (lv_at hl 1 rfl) ?_
  by_cases c0 : q.1 = 0
  · replace h := jif_t c0 h
    refine jfcalli (wr := [(ao, .inl (cL, 1, .inr (.inl O)))]) (w1 := fun B => jW cA A B q.2.2.1 q.2.2.2) (va_runV (As := [.int x1]) (rest := [.int 0, .ref ao]) ⟨hx, hb, hml, hown, hts⟩ (cJh_plan l dC dI cA A x1 M F B _ (hq.trans (congrArg some (Prod.ext c0 rfl)))) (cwV 1 hts (jgoodV jw_384 jw_385 jw_386 jw_1 jw_387) rfl rfl rfl (by decide +kernel) ⟨Nat.le_of_ble_eq_true rfl, Nat.le_of_ble_eq_true rfl⟩) (jfpreV hN hJ (ci := 0) (q0 := 1) rfl rfl [1, 2, 3, 4, 5, 6, 7, 8, 9, 10, 11, 12, 13, 14, 15, 16, 17, 18, 19, 20, 21, 22, 23, 24, 25, 26, 27] rfl (by decide) rfl [0] rfl) rfl rfl hl.1 rfl (lv_room (Nat.le_of_ble_eq_true rfl)) dLa_plan_4 ⟨Nat.le_of_ble_eq_true rfl, Nat.le_of_ble_eq_true rfl⟩) hA hJ [1, 2, 3, 4, 5, 6, 7, 8, 9, 10, 11, 12, 13, 14, 15, 16, 17, 18, 19, 20, 21, 22, 23, 24, 25, 26, 27] [0] rfl rfl (by decide) (by decide) (fun B H locs hJ => ?_)
    refine lv_i2l hx hb dLa_plan_7 rfl ?_
    refine va_last hx hb hJ.1 hJ.2.1 hJ.2.2.1 hJ.2.2.2 0 1 (f := O) rfl rfl (vp_in_nI (n := 0) (N := 1) (by decide) (by decide)) dLa_plan_8 (fun H locs hP hD hS => ?_)
    replace hJ : jH (dC, dI) jCl [(cA, .int), (cL, .long)] (hW cA cL A B ao q.2.2.1 q.2.2.2 (vp_updL O (0 : Int32).toNatClampNeg (Int32.toInt64 q.2.1))) Ap s H _ := ⟨hJ.1, hP, hD, hS⟩
    refine lv_goto (tgt := 15) hx hb dLa_plan_9 (by decide) ?_
    refine lv_iconst (v := 0) hx hb dLa_plan_15 (by decide) ?_
    cases h
    exact jretH (u := B) hx hb hr hlocks hJ (Nat.le_of_ble_eq_true rfl) (Nat.le_of_ble_eq_true rfl) dLa_plan_16 rfl
  · replace h := jif_f c0 h
    by_cases c3 : q.1 = 3
    · replace h := jif_t c3 h
      cases h
      refine jfcallx (k := q.1) (wr := [(ao, .inl (cL, 1, .inr (.inl O)))]) (w1 := fun B => jW cA A B q.2.2.1 q.2.2.2) (vx_runV (As := [.int x1]) (rest := [.int 0, .ref ao]) ⟨hx, hb, hml, hown, hts⟩ (cxJh_plan l dC dI cA A hl0 x1 M F B _ c0 hq) (cwV 1 hts (jgoodV jw_384 jw_385 jw_386 jw_1 jw_387) rfl rfl rfl (by decide +kernel) ⟨Nat.le_of_ble_eq_true rfl, Nat.le_of_ble_eq_true rfl⟩) (jfpreVX hX hA hN hJ (ci := 0) (q0 := 1) rfl rfl [1, 2, 3, 4, 5, 6, 7, 8, 9, 10, 11, 12, 13, 14, 15, 16, 17, 18, 19, 20, 21, 22, 23, 24, 25, 26, 27] rfl (by decide) rfl [0] rfl) rfl rfl hl.1 rfl (lv_room (Nat.le_of_ble_eq_true rfl)) dLa_plan_4 ⟨Nat.le_of_ble_eq_true rfl, Nat.le_of_ble_eq_true rfl⟩) hA hJ [1, 2, 3, 4, 5, 6, 7, 8, 9, 10, 11, 12, 13, 14, 15, 16, 17, 18, 19, 20, 21, 22, 23, 24, 25, 26, 27] [0] rfl rfl (by decide) (by decide) (fun B H locs q9 ce hJ hce hcv hcl => ?_)
      rw [c3] at hcl
      refine vx_catch (own := RLa) (name := "java/util/NoSuchElementException") (E := jxn 3) hown [] ⟨0, 9, 12, 39⟩ [] (htb.trans rfl) (fun z hz => by cases hz) (by decide) (by decide) (hj _ jw_383) (jdw_use (w := .castable "java/util/NoSuchElementException" "java/util/NoSuchElementException") (by decide +kernel) (hX.1 _ (by decide +kernel))) hce hcv hcl ?_
      refine lv_astore_n (lv' := [(3, .ref q9), (0, .ref (A 0)), (1, .int x1), (2, .ref ao)]) hx hb dLa_plan_12 rfl hl (by decide) rfl (fun ls hl => ?_)
      refine lv_iconst (v := 1) hx hb dLa_plan_13 (by decide) ?_
      exact jretH (u := B) hx hb hr hlocks hJ (Nat.le_of_ble_eq_true rfl) (Nat.le_of_ble_eq_true rfl) dLa_plan_14 rfl
    replace h := jif_f c3 h
    cases h
abbrev bLa_method : ByteArray := method_10_code
abbrev yLa_method : MethodName := ⟨RLa, "method", "(LJoinHouse;I[J)I"⟩
abbrev wLa_method : List Cond := .codeWith yLa_method bLa_method 4 (some .int) [(0, 9, 12, 39)] :: jw
theorem dLa_method_0 : decode bLa_method 0 = .ok (.aload_n 2, 1) := by decide +kernel
theorem dLa_method_1 : decode bLa_method 1 = .ok (.iconst 0, 1) := by decide +kernel
theorem dLa_method_2 : decode bLa_method 2 = .ok (.aload_n 0, 1) := by decide +kernel
theorem dLa_method_3 : decode bLa_method 3 = .ok (.iload_n 1, 1) := by decide +kernel
theorem dLa_method_4 : decode bLa_method 4 = .ok (.invokevirtual 41, 3) := by decide +kernel
theorem dLa_method_7 : decode bLa_method 7 = .ok (.i2l, 1) := by decide +kernel
theorem dLa_method_8 : decode bLa_method 8 = .ok (.lastore, 1) := by decide +kernel
theorem dLa_method_9 : decode bLa_method 9 = .ok (.goto 6, 3) := by decide +kernel
theorem dLa_method_12 : decode bLa_method 12 = .ok (.astore_n 3, 1) := by decide +kernel
theorem dLa_method_13 : decode bLa_method 13 = .ok (.iconst 1, 1) := by decide +kernel
theorem dLa_method_14 : decode bLa_method 14 = .ok (.ireturn, 1) := by decide +kernel
theorem dLa_method_15 : decode bLa_method 15 = .ok (.iconst 0, 1) := by decide +kernel
theorem dLa_method_16 : decode bLa_method 16 = .ok (.ireturn, 1) := by decide +kernel
def hLa_method (x1 : Int32)  (M : jM) (F : jF) (O : Nat → Int64) : Option (Int32 × jM × jF × (Nat → Int64)) := (fJh_method x1 M F).bind fun q => if q.1 = 0 then some (0, q.2.2.1, q.2.2.2, vp_updL O (0 : Int32).toNatClampNeg (Int32.toInt64 q.2.1)) else if q.1 = 3 then some (1, q.2.2.1, q.2.2.2, O) else none
abbrev rLa_method : Room := { frames := 8, cells := 1, slots := 6, locals := 136 }
set_option maxHeartbeats 4000000 in
set_option maxRecDepth 100000 in
theorem cLa_method (l : Launch) (dC : Nat → ClassId) (dI : Nat → Nat → Nat) (cA cL : ClassId) (A B : Nat → Nat) (ao : Nat) (hl0 : l.stackTraces = false) (x1 : Int32) (M : jM) (F : jF) (O : Nat → Int64) (sz : Nat) {r : Int32} {M' : jM} {F' : jF} {O' : Nat → Int64} (h : hLa_method x1 M F O = some (r, M', F', O')) : jCh l yLa_method wLa_method rLa_method (dC, dI) jCl [(cA, .int), (cL, .long)] [.ref (A 0), .int x1, .ref ao] (hW cA cL A B ao M F O) sz r (fun B => hW cA cL A B ao M' F' O') := by
  refine jOfH (by decide) rfl (Nat.le_of_ble_eq_true rfl) (fun p e s m below meth c Ap ls hC htb hX hnc hA hJ hl => ?_)
  obtain ⟨hx, hb, hml, hr, hts, hown, hlocks, hN⟩ := id hC
  have hj : ∀ w ∈ jw, w.before _ s = true := fun w h => hts w (List.mem_cons_of_mem _ h)
  replace hl : lv_has ls 4 [(0, .ref (A 0)), (1, .int x1), (2, .ref ao)] := hl
  unfold hLa_method at h
  obtain ⟨q, hq, h⟩ := jbi_h h
  refine lv_aload_n hx hb dLa_method_0 rfl (lv_at hl 2 rfl) ?_
  refine lv_iconst (v := 0) hx hb dLa_method_1 (by decide) ?_
  refine lv_aload_n hx hb dLa_method_2 rfl (lv_at hl 0 rfl) ?_
  refine lv_iload_n hx hb dLa_method_3 rfl (lv_at hl 1 rfl) ?_
  by_cases c0 : q.1 = 0
  · replace h := jif_t c0 h
    refine jfcalli (wr := [(ao, .inl (cL, 1, .inr (.inl O)))]) (w1 := fun B => jW cA A B q.2.2.1 q.2.2.2) (va_runV (As := [.int x1]) (rest := [.int 0, .ref ao]) ⟨hx, hb, hml, hown, hts⟩ (cJh_method l dC dI cA A x1 M F B _ (hq.trans (congrArg some (Prod.ext c0 rfl)))) (cwV 1 hts (jgoodV jw_454 jw_455 jw_456 jw_1 jw_457) rfl rfl rfl (by decide +kernel) ⟨Nat.le_of_ble_eq_true rfl, Nat.le_of_ble_eq_true rfl⟩) (jfpreV hN hJ (ci := 0) (q0 := 1) rfl rfl [1, 2, 3, 4, 5, 6, 7, 8, 9, 10, 11, 12, 13, 14, 15, 16, 17, 18, 19, 20, 21, 22, 23, 24, 25, 26, 27] rfl (by decide) rfl [0] rfl) rfl rfl hl.1 rfl (lv_room (Nat.le_of_ble_eq_true rfl)) dLa_method_4 ⟨Nat.le_of_ble_eq_true rfl, Nat.le_of_ble_eq_true rfl⟩) hA hJ [1, 2, 3, 4, 5, 6, 7, 8, 9, 10, 11, 12, 13, 14, 15, 16, 17, 18, 19, 20, 21, 22, 23, 24, 25, 26, 27] [0] rfl rfl (by decide) (by decide) (fun B H locs hJ => ?_)
    refine lv_i2l hx hb dLa_method_7 rfl ?_
    refine va_last hx hb hJ.1 hJ.2.1 hJ.2.2.1 hJ.2.2.2 0 1 (f := O) rfl rfl (vp_in_nI (n := 0) (N := 1) (by decide) (by decide)) dLa_method_8 (fun H locs hP hD hS => ?_)
    replace hJ : jH (dC, dI) jCl [(cA, .int), (cL, .long)] (hW cA cL A B ao q.2.2.1 q.2.2.2 (vp_updL O (0 : Int32).toNatClampNeg (Int32.toInt64 q.2.1))) Ap s H _ := ⟨hJ.1, hP, hD, hS⟩
    refine lv_goto (tgt := 15) hx hb dLa_method_9 (by decide) ?_
    refine lv_iconst (v := 0) hx hb dLa_method_15 (by decide) ?_
    cases h
    exact jretH (u := B) hx hb hr hlocks hJ (Nat.le_of_ble_eq_true rfl) (Nat.le_of_ble_eq_true rfl) dLa_method_16 rfl
  · replace h := jif_f c0 h
    by_cases c3 : q.1 = 3
    · replace h := jif_t c3 h
      cases h
      refine jfcallx (k := q.1) (wr := [(ao, .inl (cL, 1, .inr (.inl O)))]) (w1 := fun B => jW cA A B q.2.2.1 q.2.2.2) (vx_runV (As := [.int x1]) (rest := [.int 0, .ref ao]) ⟨hx, hb, hml, hown, hts⟩ (cxJh_method l dC dI cA A hl0 x1 M F B _ c0 hq) (cwV 1 hts (jgoodV jw_454 jw_455 jw_456 jw_1 jw_457) rfl rfl rfl (by decide +kernel) ⟨Nat.le_of_ble_eq_true rfl, Nat.le_of_ble_eq_true rfl⟩) (jfpreVX hX hA hN hJ (ci := 0) (q0 := 1) rfl rfl [1, 2, 3, 4, 5, 6, 7, 8, 9, 10, 11, 12, 13, 14, 15, 16, 17, 18, 19, 20, 21, 22, 23, 24, 25, 26, 27] rfl (by decide) rfl [0] rfl) rfl rfl hl.1 rfl (lv_room (Nat.le_of_ble_eq_true rfl)) dLa_method_4 ⟨Nat.le_of_ble_eq_true rfl, Nat.le_of_ble_eq_true rfl⟩) hA hJ [1, 2, 3, 4, 5, 6, 7, 8, 9, 10, 11, 12, 13, 14, 15, 16, 17, 18, 19, 20, 21, 22, 23, 24, 25, 26, 27] [0] rfl rfl (by decide) (by decide) (fun B H locs q9 ce hJ hce hcv hcl => ?_)
      rw [c3] at hcl
      refine vx_catch (own := RLa) (name := "java/util/NoSuchElementException") (E := jxn 3) hown [] ⟨0, 9, 12, 39⟩ [] (htb.trans rfl) (fun z hz => by cases hz) (by decide) (by decide) (hj _ jw_383) (jdw_use (w := .castable "java/util/NoSuchElementException" "java/util/NoSuchElementException") (by decide +kernel) (hX.1 _ (by decide +kernel))) hce hcv hcl ?_
      refine lv_astore_n (lv' := [(3, .ref q9), (0, .ref (A 0)), (1, .int x1), (2, .ref ao)]) hx hb dLa_method_12 rfl hl (by decide) rfl (fun ls hl => ?_)
      refine lv_iconst (v := 1) hx hb dLa_method_13 (by decide) ?_
      exact jretH (u := B) hx hb hr hlocks hJ (Nat.le_of_ble_eq_true rfl) (Nat.le_of_ble_eq_true rfl) dLa_method_14 rfl
    replace h := jif_f c3 h
    cases h
abbrev bLa_size : ByteArray := method_11_code
abbrev yLa_size : MethodName := ⟨RLa, "size", "(LJoinHouse;I[J)I"⟩
abbrev wLa_size : List Cond := .codeWith yLa_size bLa_size 4 (some .int) [(0, 9, 12, 39)] :: jw
theorem dLa_size_0 : decode bLa_size 0 = .ok (.aload_n 2, 1) := by decide +kernel
theorem dLa_size_1 : decode bLa_size 1 = .ok (.iconst 0, 1) := by decide +kernel
theorem dLa_size_2 : decode bLa_size 2 = .ok (.aload_n 0, 1) := by decide +kernel
theorem dLa_size_3 : decode bLa_size 3 = .ok (.iload_n 1, 1) := by decide +kernel
theorem dLa_size_4 : decode bLa_size 4 = .ok (.invokevirtual 44, 3) := by decide +kernel
theorem dLa_size_7 : decode bLa_size 7 = .ok (.i2l, 1) := by decide +kernel
theorem dLa_size_8 : decode bLa_size 8 = .ok (.lastore, 1) := by decide +kernel
theorem dLa_size_9 : decode bLa_size 9 = .ok (.goto 6, 3) := by decide +kernel
theorem dLa_size_12 : decode bLa_size 12 = .ok (.astore_n 3, 1) := by decide +kernel
theorem dLa_size_13 : decode bLa_size 13 = .ok (.iconst 1, 1) := by decide +kernel
theorem dLa_size_14 : decode bLa_size 14 = .ok (.ireturn, 1) := by decide +kernel
theorem dLa_size_15 : decode bLa_size 15 = .ok (.iconst 0, 1) := by decide +kernel
theorem dLa_size_16 : decode bLa_size 16 = .ok (.ireturn, 1) := by decide +kernel
def hLa_size (x1 : Int32)  (M : jM) (F : jF) (O : Nat → Int64) : Option (Int32 × jM × jF × (Nat → Int64)) := (fJh_size x1 M F).bind fun q => if q.1 = 0 then some (0, q.2.2.1, q.2.2.2, vp_updL O (0 : Int32).toNatClampNeg (Int32.toInt64 q.2.1)) else if q.1 = 3 then some (1, q.2.2.1, q.2.2.2, O) else none
abbrev rLa_size : Room := { frames := 8, cells := 1, slots := 6, locals := 132 }
set_option maxHeartbeats 4000000 in
set_option maxRecDepth 100000 in
theorem cLa_size (l : Launch) (dC : Nat → ClassId) (dI : Nat → Nat → Nat) (cA cL : ClassId) (A B : Nat → Nat) (ao : Nat) (hl0 : l.stackTraces = false) (x1 : Int32) (M : jM) (F : jF) (O : Nat → Int64) (sz : Nat) {r : Int32} {M' : jM} {F' : jF} {O' : Nat → Int64} (h : hLa_size x1 M F O = some (r, M', F', O')) : jCh l yLa_size wLa_size rLa_size (dC, dI) jCl [(cA, .int), (cL, .long)] [.ref (A 0), .int x1, .ref ao] (hW cA cL A B ao M F O) sz r (fun B => hW cA cL A B ao M' F' O') := by
  refine jOfH (by decide) rfl (Nat.le_of_ble_eq_true rfl) (fun p e s m below meth c Ap ls hC htb hX hnc hA hJ hl => ?_)
  obtain ⟨hx, hb, hml, hr, hts, hown, hlocks, hN⟩ := id hC
  have hj : ∀ w ∈ jw, w.before _ s = true := fun w h => hts w (List.mem_cons_of_mem _ h)
  replace hl : lv_has ls 4 [(0, .ref (A 0)), (1, .int x1), (2, .ref ao)] := hl
  unfold hLa_size at h
  obtain ⟨q, hq, h⟩ := jbi_h h
  refine lv_aload_n hx hb dLa_size_0 rfl (lv_at hl 2 rfl) ?_
  refine lv_iconst (v := 0) hx hb dLa_size_1 (by decide) ?_
  refine lv_aload_n hx hb dLa_size_2 rfl (lv_at hl 0 rfl) ?_
  refine lv_iload_n hx hb dLa_size_3 rfl (lv_at hl 1 rfl) ?_
  by_cases c0 : q.1 = 0
  · replace h := jif_t c0 h
    refine jfcalli (wr := [(ao, .inl (cL, 1, .inr (.inl O)))]) (w1 := fun B => jW cA A B q.2.2.1 q.2.2.2) (va_runV (As := [.int x1]) (rest := [.int 0, .ref ao]) ⟨hx, hb, hml, hown, hts⟩ (cJh_size l dC dI cA A x1 M F B _ (hq.trans (congrArg some (Prod.ext c0 rfl)))) (cwV 1 hts (jgoodV jw_494 jw_495 jw_496 jw_1 jw_497) rfl rfl rfl (by decide +kernel) ⟨Nat.le_of_ble_eq_true rfl, Nat.le_of_ble_eq_true rfl⟩) (jfpreV hN hJ (ci := 0) (q0 := 1) rfl rfl [1, 2, 3, 4, 5, 6, 7, 8, 9, 10, 11, 12, 13, 14, 15, 16, 17, 18, 19, 20, 21, 22, 23, 24, 25, 26, 27] rfl (by decide) rfl [0] rfl) rfl rfl hl.1 rfl (lv_room (Nat.le_of_ble_eq_true rfl)) dLa_size_4 ⟨Nat.le_of_ble_eq_true rfl, Nat.le_of_ble_eq_true rfl⟩) hA hJ [1, 2, 3, 4, 5, 6, 7, 8, 9, 10, 11, 12, 13, 14, 15, 16, 17, 18, 19, 20, 21, 22, 23, 24, 25, 26, 27] [0] rfl rfl (by decide) (by decide) (fun B H locs hJ => ?_)
    refine lv_i2l hx hb dLa_size_7 rfl ?_
    refine va_last hx hb hJ.1 hJ.2.1 hJ.2.2.1 hJ.2.2.2 0 1 (f := O) rfl rfl (vp_in_nI (n := 0) (N := 1) (by decide) (by decide)) dLa_size_8 (fun H locs hP hD hS => ?_)
    replace hJ : jH (dC, dI) jCl [(cA, .int), (cL, .long)] (hW cA cL A B ao q.2.2.1 q.2.2.2 (vp_updL O (0 : Int32).toNatClampNeg (Int32.toInt64 q.2.1))) Ap s H _ := ⟨hJ.1, hP, hD, hS⟩
    refine lv_goto (tgt := 15) hx hb dLa_size_9 (by decide) ?_
    refine lv_iconst (v := 0) hx hb dLa_size_15 (by decide) ?_
    cases h
    exact jretH (u := B) hx hb hr hlocks hJ (Nat.le_of_ble_eq_true rfl) (Nat.le_of_ble_eq_true rfl) dLa_size_16 rfl
  · replace h := jif_f c0 h
    by_cases c3 : q.1 = 3
    · replace h := jif_t c3 h
      cases h
      refine jfcallx (k := q.1) (wr := [(ao, .inl (cL, 1, .inr (.inl O)))]) (w1 := fun B => jW cA A B q.2.2.1 q.2.2.2) (vx_runV (As := [.int x1]) (rest := [.int 0, .ref ao]) ⟨hx, hb, hml, hown, hts⟩ (cxJh_size l dC dI cA A hl0 x1 M F B _ c0 hq) (cwV 1 hts (jgoodV jw_494 jw_495 jw_496 jw_1 jw_497) rfl rfl rfl (by decide +kernel) ⟨Nat.le_of_ble_eq_true rfl, Nat.le_of_ble_eq_true rfl⟩) (jfpreVX hX hA hN hJ (ci := 0) (q0 := 1) rfl rfl [1, 2, 3, 4, 5, 6, 7, 8, 9, 10, 11, 12, 13, 14, 15, 16, 17, 18, 19, 20, 21, 22, 23, 24, 25, 26, 27] rfl (by decide) rfl [0] rfl) rfl rfl hl.1 rfl (lv_room (Nat.le_of_ble_eq_true rfl)) dLa_size_4 ⟨Nat.le_of_ble_eq_true rfl, Nat.le_of_ble_eq_true rfl⟩) hA hJ [1, 2, 3, 4, 5, 6, 7, 8, 9, 10, 11, 12, 13, 14, 15, 16, 17, 18, 19, 20, 21, 22, 23, 24, 25, 26, 27] [0] rfl rfl (by decide) (by decide) (fun B H locs q9 ce hJ hce hcv hcl => ?_)
      rw [c3] at hcl
      refine vx_catch (own := RLa) (name := "java/util/NoSuchElementException") (E := jxn 3) hown [] ⟨0, 9, 12, 39⟩ [] (htb.trans rfl) (fun z hz => by cases hz) (by decide) (by decide) (hj _ jw_383) (jdw_use (w := .castable "java/util/NoSuchElementException" "java/util/NoSuchElementException") (by decide +kernel) (hX.1 _ (by decide +kernel))) hce hcv hcl ?_
      refine lv_astore_n (lv' := [(3, .ref q9), (0, .ref (A 0)), (1, .int x1), (2, .ref ao)]) hx hb dLa_size_12 rfl hl (by decide) rfl (fun ls hl => ?_)
      refine lv_iconst (v := 1) hx hb dLa_size_13 (by decide) ?_
      exact jretH (u := B) hx hb hr hlocks hJ (Nat.le_of_ble_eq_true rfl) (Nat.le_of_ble_eq_true rfl) dLa_size_14 rfl
    replace h := jif_f c3 h
    cases h
abbrev bLa_run : ByteArray := method_12_code
abbrev yLa_run : MethodName := ⟨RLa, "run", "(LJoinHouse;[J)I"⟩
abbrev wLa_run : List Cond := .codeWith yLa_run bLa_run 3 (some .int) [(0, 8, 11, 19)] :: jw
theorem dLa_run_0 : decode bLa_run 0 = .ok (.aload_n 1, 1) := by decide +kernel
theorem dLa_run_1 : decode bLa_run 1 = .ok (.iconst 0, 1) := by decide +kernel
theorem dLa_run_2 : decode bLa_run 2 = .ok (.aload_n 0, 1) := by decide +kernel
theorem dLa_run_3 : decode bLa_run 3 = .ok (.invokevirtual 47, 3) := by decide +kernel
theorem dLa_run_6 : decode bLa_run 6 = .ok (.i2l, 1) := by decide +kernel
theorem dLa_run_7 : decode bLa_run 7 = .ok (.lastore, 1) := by decide +kernel
theorem dLa_run_8 : decode bLa_run 8 = .ok (.goto 6, 3) := by decide +kernel
theorem dLa_run_11 : decode bLa_run 11 = .ok (.astore_n 2, 1) := by decide +kernel
theorem dLa_run_12 : decode bLa_run 12 = .ok (.iconst 1, 1) := by decide +kernel
theorem dLa_run_13 : decode bLa_run 13 = .ok (.ireturn, 1) := by decide +kernel
theorem dLa_run_14 : decode bLa_run 14 = .ok (.iconst 0, 1) := by decide +kernel
theorem dLa_run_15 : decode bLa_run 15 = .ok (.ireturn, 1) := by decide +kernel
def hLa_run  (M : jM) (F : jF) (O : Nat → Int64) : Option (Int32 × jM × jF × (Nat → Int64)) := (fJh_run M F).bind fun q => if q.1 = 0 then some (0, q.2.2.1, q.2.2.2, vp_updL O (0 : Int32).toNatClampNeg (Int32.toInt64 q.2.1)) else if q.1 = 2 then some (1, q.2.2.1, q.2.2.2, O) else none
abbrev rLa_run : Room := { frames := 7, cells := 1, slots := 6, locals := 173 }
set_option maxHeartbeats 4000000 in
set_option maxRecDepth 100000 in
theorem cLa_run (l : Launch) (dC : Nat → ClassId) (dI : Nat → Nat → Nat) (cA cL : ClassId) (A B : Nat → Nat) (ao : Nat) (hl0 : l.stackTraces = false) (M : jM) (F : jF) (O : Nat → Int64) (sz : Nat) {r : Int32} {M' : jM} {F' : jF} {O' : Nat → Int64} (h : hLa_run M F O = some (r, M', F', O')) : jCh l yLa_run wLa_run rLa_run (dC, dI) jCl [(cA, .int), (cL, .long)] [.ref (A 0), .ref ao] (hW cA cL A B ao M F O) sz r (fun B => hW cA cL A B ao M' F' O') := by
  refine jOfH (by decide) rfl (Nat.le_of_ble_eq_true rfl) (fun p e s m below meth c Ap ls hC htb hX hnc hA hJ hl => ?_)
  obtain ⟨hx, hb, hml, hr, hts, hown, hlocks, hN⟩ := id hC
  have hj : ∀ w ∈ jw, w.before _ s = true := fun w h => hts w (List.mem_cons_of_mem _ h)
  replace hl : lv_has ls 3 [(0, .ref (A 0)), (1, .ref ao)] := hl
  unfold hLa_run at h
  obtain ⟨q, hq, h⟩ := jbi_h h
  refine lv_aload_n hx hb dLa_run_0 rfl (lv_at hl 1 rfl) ?_
  refine lv_iconst (v := 0) hx hb dLa_run_1 (by decide) ?_
  refine lv_aload_n hx hb dLa_run_2 rfl (lv_at hl 0 rfl) ?_
  by_cases c0 : q.1 = 0
  · replace h := jif_t c0 h
    refine jfcalli (wr := [(ao, .inl (cL, 1, .inr (.inl O)))]) (w1 := fun B => jW cA A B q.2.2.1 q.2.2.2) (va_runV (As := []) (rest := [.int 0, .ref ao]) ⟨hx, hb, hml, hown, hts⟩ (cJh_run l dC dI cA A M F B _ (hq.trans (congrArg some (Prod.ext c0 rfl)))) (cwV 0 hts (jgoodV jw_505 jw_506 jw_507 jw_1 jw_508) rfl rfl rfl (by decide +kernel) ⟨Nat.le_of_ble_eq_true rfl, Nat.le_of_ble_eq_true rfl⟩) (jfpreV hN hJ (ci := 0) (q0 := 1) rfl rfl [1, 2, 3, 4, 5, 6, 7, 8, 9, 10, 11, 12, 13, 14, 15, 16, 17, 18, 19, 20, 21, 22, 23, 24, 25, 26, 27] rfl (by decide) rfl [0] rfl) rfl rfl hl.1 rfl (lv_room (Nat.le_of_ble_eq_true rfl)) dLa_run_3 ⟨Nat.le_of_ble_eq_true rfl, Nat.le_of_ble_eq_true rfl⟩) hA hJ [1, 2, 3, 4, 5, 6, 7, 8, 9, 10, 11, 12, 13, 14, 15, 16, 17, 18, 19, 20, 21, 22, 23, 24, 25, 26, 27] [0] rfl rfl (by decide) (by decide) (fun B H locs hJ => ?_)
    refine lv_i2l hx hb dLa_run_6 rfl ?_
    refine va_last hx hb hJ.1 hJ.2.1 hJ.2.2.1 hJ.2.2.2 0 1 (f := O) rfl rfl (vp_in_nI (n := 0) (N := 1) (by decide) (by decide)) dLa_run_7 (fun H locs hP hD hS => ?_)
    replace hJ : jH (dC, dI) jCl [(cA, .int), (cL, .long)] (hW cA cL A B ao q.2.2.1 q.2.2.2 (vp_updL O (0 : Int32).toNatClampNeg (Int32.toInt64 q.2.1))) Ap s H _ := ⟨hJ.1, hP, hD, hS⟩
    refine lv_goto (tgt := 14) hx hb dLa_run_8 (by decide) ?_
    refine lv_iconst (v := 0) hx hb dLa_run_14 (by decide) ?_
    cases h
    exact jretH (u := B) hx hb hr hlocks hJ (Nat.le_of_ble_eq_true rfl) (Nat.le_of_ble_eq_true rfl) dLa_run_15 rfl
  · replace h := jif_f c0 h
    by_cases c2 : q.1 = 2
    · replace h := jif_t c2 h
      cases h
      refine jfcallx (k := q.1) (wr := [(ao, .inl (cL, 1, .inr (.inl O)))]) (w1 := fun B => jW cA A B q.2.2.1 q.2.2.2) (vx_runV (As := []) (rest := [.int 0, .ref ao]) ⟨hx, hb, hml, hown, hts⟩ (cxJh_run l dC dI cA A hl0 M F B _ c0 hq) (cwV 0 hts (jgoodV jw_505 jw_506 jw_507 jw_1 jw_508) rfl rfl rfl (by decide +kernel) ⟨Nat.le_of_ble_eq_true rfl, Nat.le_of_ble_eq_true rfl⟩) (jfpreVX hX hA hN hJ (ci := 0) (q0 := 1) rfl rfl [1, 2, 3, 4, 5, 6, 7, 8, 9, 10, 11, 12, 13, 14, 15, 16, 17, 18, 19, 20, 21, 22, 23, 24, 25, 26, 27] rfl (by decide) rfl [0] rfl) rfl rfl hl.1 rfl (lv_room (Nat.le_of_ble_eq_true rfl)) dLa_run_3 ⟨Nat.le_of_ble_eq_true rfl, Nat.le_of_ble_eq_true rfl⟩) hA hJ [1, 2, 3, 4, 5, 6, 7, 8, 9, 10, 11, 12, 13, 14, 15, 16, 17, 18, 19, 20, 21, 22, 23, 24, 25, 26, 27] [0] rfl rfl (by decide) (by decide) (fun B H locs q9 ce hJ hce hcv hcl => ?_)
      rw [c2] at hcl
      refine vx_catch (own := RLa) (name := "java/lang/UnsupportedOperationException") (E := jxn 2) hown [] ⟨0, 8, 11, 19⟩ [] (htb.trans rfl) (fun z hz => by cases hz) (by decide) (by decide) (hj _ jw_292) (jdw_use (w := .castable "java/lang/UnsupportedOperationException" "java/lang/UnsupportedOperationException") (by decide +kernel) (hX.1 _ (by decide +kernel))) hce hcv hcl ?_
      refine lv_astore_n (lv' := [(2, .ref q9), (0, .ref (A 0)), (1, .ref ao)]) hx hb dLa_run_11 rfl hl (by decide) rfl (fun ls hl => ?_)
      refine lv_iconst (v := 1) hx hb dLa_run_12 (by decide) ?_
      exact jretH (u := B) hx hb hr hlocks hJ (Nat.le_of_ble_eq_true rfl) (Nat.le_of_ble_eq_true rfl) dLa_run_13 rfl
    replace h := jif_f c2 h
    cases h
abbrev bLa_way : ByteArray := method_13_code
abbrev yLa_way : MethodName := ⟨RLa, "way", "(LJoinHouse;II[J)I"⟩
abbrev wLa_way : List Cond := .codeWith yLa_way bLa_way 5 (some .int) [(0, 10, 13, 39)] :: jw
theorem dLa_way_0 : decode bLa_way 0 = .ok (.aload_n 3, 1) := by decide +kernel
theorem dLa_way_1 : decode bLa_way 1 = .ok (.iconst 0, 1) := by decide +kernel
theorem dLa_way_2 : decode bLa_way 2 = .ok (.aload_n 0, 1) := by decide +kernel
theorem dLa_way_3 : decode bLa_way 3 = .ok (.iload_n 1, 1) := by decide +kernel
theorem dLa_way_4 : decode bLa_way 4 = .ok (.iload_n 2, 1) := by decide +kernel
theorem dLa_way_5 : decode bLa_way 5 = .ok (.invokevirtual 51, 3) := by decide +kernel
theorem dLa_way_8 : decode bLa_way 8 = .ok (.i2l, 1) := by decide +kernel
theorem dLa_way_9 : decode bLa_way 9 = .ok (.lastore, 1) := by decide +kernel
theorem dLa_way_10 : decode bLa_way 10 = .ok (.goto 7, 3) := by decide +kernel
theorem dLa_way_13 : decode bLa_way 13 = .ok (.astore 4, 2) := by decide +kernel
theorem dLa_way_15 : decode bLa_way 15 = .ok (.iconst 1, 1) := by decide +kernel
theorem dLa_way_16 : decode bLa_way 16 = .ok (.ireturn, 1) := by decide +kernel
theorem dLa_way_17 : decode bLa_way 17 = .ok (.iconst 0, 1) := by decide +kernel
theorem dLa_way_18 : decode bLa_way 18 = .ok (.ireturn, 1) := by decide +kernel
def hLa_way (x1 : Int32) (x2 : Int32)  (M : jM) (F : jF) (O : Nat → Int64) : Option (Int32 × jM × jF × (Nat → Int64)) := (fJh_way x1 x2 M F).bind fun q => if q.1 = 0 then some (0, q.2.2.1, q.2.2.2, vp_updL O (0 : Int32).toNatClampNeg (Int32.toInt64 q.2.1)) else if q.1 = 3 then some (1, q.2.2.1, q.2.2.2, O) else none
abbrev rLa_way : Room := { frames := 7, cells := 1, slots := 6, locals := 112 }
set_option maxHeartbeats 4000000 in
set_option maxRecDepth 100000 in
theorem cLa_way (l : Launch) (dC : Nat → ClassId) (dI : Nat → Nat → Nat) (cA cL : ClassId) (A B : Nat → Nat) (ao : Nat) (hl0 : l.stackTraces = false) (x1 : Int32) (x2 : Int32) (M : jM) (F : jF) (O : Nat → Int64) (sz : Nat) {r : Int32} {M' : jM} {F' : jF} {O' : Nat → Int64} (h : hLa_way x1 x2 M F O = some (r, M', F', O')) : jCh l yLa_way wLa_way rLa_way (dC, dI) jCl [(cA, .int), (cL, .long)] [.ref (A 0), .int x1, .int x2, .ref ao] (hW cA cL A B ao M F O) sz r (fun B => hW cA cL A B ao M' F' O') := by
  refine jOfH (by decide) rfl (Nat.le_of_ble_eq_true rfl) (fun p e s m below meth c Ap ls hC htb hX hnc hA hJ hl => ?_)
  obtain ⟨hx, hb, hml, hr, hts, hown, hlocks, hN⟩ := id hC
  have hj : ∀ w ∈ jw, w.before _ s = true := fun w h => hts w (List.mem_cons_of_mem _ h)
  replace hl : lv_has ls 5 [(0, .ref (A 0)), (1, .int x1), (2, .int x2), (3, .ref ao)] := hl
  unfold hLa_way at h
  obtain ⟨q, hq, h⟩ := jbi_h h
  refine lv_aload_n hx hb dLa_way_0 rfl (lv_at hl 3 rfl) ?_
  refine lv_iconst (v := 0) hx hb dLa_way_1 (by decide) ?_
  refine lv_aload_n hx hb dLa_way_2 rfl (lv_at hl 0 rfl) ?_
  refine lv_iload_n hx hb dLa_way_3 rfl (lv_at hl 1 rfl) ?_
  refine lv_iload_n hx hb dLa_way_4 rfl (lv_at hl 2 rfl) ?_
  by_cases c0 : q.1 = 0
  · replace h := jif_t c0 h
    refine jfcalli (wr := [(ao, .inl (cL, 1, .inr (.inl O)))]) (w1 := fun B => jW cA A B q.2.2.1 q.2.2.2) (va_runV (As := [.int x1, .int x2]) (rest := [.int 0, .ref ao]) ⟨hx, hb, hml, hown, hts⟩ (cJh_way l dC dI cA A x1 x2 M F B _ (hq.trans (congrArg some (Prod.ext c0 rfl)))) (cwV 2 hts (jgoodV jw_586 jw_587 jw_588 jw_1 jw_589) rfl rfl rfl (by decide +kernel) ⟨Nat.le_of_ble_eq_true rfl, Nat.le_of_ble_eq_true rfl⟩) (jfpreV hN hJ (ci := 0) (q0 := 1) rfl rfl [1, 2, 3, 4, 5, 6, 7, 8, 9, 10, 11, 12, 13, 14, 15, 16, 17, 18, 19, 20, 21, 22, 23, 24, 25, 26, 27] rfl (by decide) rfl [0] rfl) rfl rfl hl.1 rfl (lv_room (Nat.le_of_ble_eq_true rfl)) dLa_way_5 ⟨Nat.le_of_ble_eq_true rfl, Nat.le_of_ble_eq_true rfl⟩) hA hJ [1, 2, 3, 4, 5, 6, 7, 8, 9, 10, 11, 12, 13, 14, 15, 16, 17, 18, 19, 20, 21, 22, 23, 24, 25, 26, 27] [0] rfl rfl (by decide) (by decide) (fun B H locs hJ => ?_)
    refine lv_i2l hx hb dLa_way_8 rfl ?_
    refine va_last hx hb hJ.1 hJ.2.1 hJ.2.2.1 hJ.2.2.2 0 1 (f := O) rfl rfl (vp_in_nI (n := 0) (N := 1) (by decide) (by decide)) dLa_way_9 (fun H locs hP hD hS => ?_)
    replace hJ : jH (dC, dI) jCl [(cA, .int), (cL, .long)] (hW cA cL A B ao q.2.2.1 q.2.2.2 (vp_updL O (0 : Int32).toNatClampNeg (Int32.toInt64 q.2.1))) Ap s H _ := ⟨hJ.1, hP, hD, hS⟩
    refine lv_goto (tgt := 17) hx hb dLa_way_10 (by decide) ?_
    refine lv_iconst (v := 0) hx hb dLa_way_17 (by decide) ?_
    cases h
    exact jretH (u := B) hx hb hr hlocks hJ (Nat.le_of_ble_eq_true rfl) (Nat.le_of_ble_eq_true rfl) dLa_way_18 rfl
  · replace h := jif_f c0 h
    by_cases c3 : q.1 = 3
    · replace h := jif_t c3 h
      cases h
      refine jfcallx (k := q.1) (wr := [(ao, .inl (cL, 1, .inr (.inl O)))]) (w1 := fun B => jW cA A B q.2.2.1 q.2.2.2) (vx_runV (As := [.int x1, .int x2]) (rest := [.int 0, .ref ao]) ⟨hx, hb, hml, hown, hts⟩ (cxJh_way l dC dI cA A hl0 x1 x2 M F B _ c0 hq) (cwV 2 hts (jgoodV jw_586 jw_587 jw_588 jw_1 jw_589) rfl rfl rfl (by decide +kernel) ⟨Nat.le_of_ble_eq_true rfl, Nat.le_of_ble_eq_true rfl⟩) (jfpreVX hX hA hN hJ (ci := 0) (q0 := 1) rfl rfl [1, 2, 3, 4, 5, 6, 7, 8, 9, 10, 11, 12, 13, 14, 15, 16, 17, 18, 19, 20, 21, 22, 23, 24, 25, 26, 27] rfl (by decide) rfl [0] rfl) rfl rfl hl.1 rfl (lv_room (Nat.le_of_ble_eq_true rfl)) dLa_way_5 ⟨Nat.le_of_ble_eq_true rfl, Nat.le_of_ble_eq_true rfl⟩) hA hJ [1, 2, 3, 4, 5, 6, 7, 8, 9, 10, 11, 12, 13, 14, 15, 16, 17, 18, 19, 20, 21, 22, 23, 24, 25, 26, 27] [0] rfl rfl (by decide) (by decide) (fun B H locs q9 ce hJ hce hcv hcl => ?_)
      rw [c3] at hcl
      refine vx_catch (own := RLa) (name := "java/util/NoSuchElementException") (E := jxn 3) hown [] ⟨0, 10, 13, 39⟩ [] (htb.trans rfl) (fun z hz => by cases hz) (by decide) (by decide) (hj _ jw_383) (jdw_use (w := .castable "java/util/NoSuchElementException" "java/util/NoSuchElementException") (by decide +kernel) (hX.1 _ (by decide +kernel))) hce hcv hcl ?_
      refine lv_astore (lv' := [(4, .ref q9), (0, .ref (A 0)), (1, .int x1), (2, .int x2), (3, .ref ao)]) hx hb dLa_way_13 hl (by decide) rfl (fun ls hl => ?_)
      refine lv_iconst (v := 1) hx hb dLa_way_15 (by decide) ?_
      exact jretH (u := B) hx hb hr hlocks hJ (Nat.le_of_ble_eq_true rfl) (Nat.le_of_ble_eq_true rfl) dLa_way_16 rfl
    replace h := jif_f c3 h
    cases h
