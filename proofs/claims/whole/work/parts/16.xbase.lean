/-! what a throw needs of the state -/
def jdw : List Cond := [(Jvm.Cond.castable "java/lang/IllegalArgumentException" "java/lang/IllegalArgumentException"), (Jvm.Cond.castable "java/lang/UnsupportedOperationException" "java/lang/UnsupportedOperationException"), (Jvm.Cond.castable "java/util/NoSuchElementException" "java/util/NoSuchElementException"), (Jvm.Cond.declares ({ cls := "java/lang/RuntimeException", name := "<init>", desc := "(Ljava/lang/String;)V" } : Jvm.MethodName)), (Jvm.Cond.declares ({ cls := "java/lang/Exception", name := "<init>", desc := "(Ljava/lang/String;)V" } : Jvm.MethodName)), (Jvm.Cond.declares ({ cls := "java/lang/Throwable", name := "<init>", desc := "(Ljava/lang/String;)V" } : Jvm.MethodName))]
theorem jdw_moved {w : Cond} {u U : State} (hvm : u.vm.Alike U.vm) (hw : w ∈ jdw) (h : va_Nw w u) : va_Nw w U := by
  have tr : ∀ {c : Cond}, c.onTables = true → c.before #[] (u.setVm U.vm) = true → c.before #[] U = true := by
    intro c hc h
    have e := Cond.onTables_vm (A := #[]) (A' := #[]) (U := u) (U' := U) U.vm c hc
    have hU : U.setVm U.vm = U := rfl
    rw [hU] at e
    rw [← e]
    exact h
  simp only [jdw, List.mem_cons, List.not_mem_nil, or_false] at hw
  rcases hw with rfl | rfl | rfl | rfl | rfl | rfl
  · exact tr rfl (by rw [Cond.castable_setVm hvm]; exact h)
  · exact tr rfl (by rw [Cond.castable_setVm hvm]; exact h)
  · exact tr rfl (by rw [Cond.castable_setVm hvm]; exact h)
  · exact tr rfl (by rw [Cond.declares_setVm hvm]; exact h)
  · exact tr rfl (by rw [Cond.declares_setVm hvm]; exact h)
  · exact tr rfl (by rw [Cond.declares_setVm hvm]; exact h)
theorem jdw_use {w : Cond} {args : Array Value} {s : State} (hw : w ∈ jdw) (h : va_Nw w s) : w.before args s = true := by
  simp only [jdw, List.mem_cons, List.not_mem_nil, or_false] at hw
  rcases hw with rfl | rfl | rfl | rfl | rfl | rfl <;> exact va_Nw.use rfl h
def jstr : List (Nat × String) := [(41, "no such table"), (46, "no such column"), (60, "the table has 30 rows"), (73, "there are six generators"), (133, "no such generator"), (138, "there are twelve conditions"), (140, "no such place"), (108, "more than 3000 choices at a generator"), (118, "no such way"), (124, "the run had no such generator")]
def jX (A : Nat → Prop) (U : State) (H : Heap) : Prop := (∀ w ∈ jdw, va_Nw w U) ∧ (∀ q ∈ jstr, ∃ a : Nat, vk_R RJh q.1 q.2 a U) ∧ vx_Zq Bundle.tN "UNASSIGNED_STACK" Bundle.steD A U H ∧ vx_Zq Bundle.tN "SUPPRESSED_SENTINEL" Bundle.listD A U H
theorem jX_warm {A : Nat → Prop} {s U : State} {H : Heap} (hW : s.WarmedH U.vm) (h : jX A s H) : jX A U H :=
  ⟨fun w hw => jdw_moved hW.alike hw (h.1 w hw), fun q hq => by obtain ⟨a, ha⟩ := h.2.1 q hq; exact ⟨a, vk_R.warm hW ha⟩, h.2.2.1.moved hW.alike, h.2.2.2.moved hW.alike⟩
theorem jX_same {A : Nat → Prop} {u U : State} {H : Heap} (hv : U.vm = u.vm) (h : jX A u H) : jX A U H :=
  ⟨fun w hw => jdw_moved (by rw [hv]; exact Vm.Alike.refl u.vm) hw (h.1 w hw), fun q hq => by obtain ⟨a, ha⟩ := h.2.1 q hq; exact ⟨a, vk_R.same hv ha⟩, h.2.2.1.moved (by rw [hv]; exact Vm.Alike.refl u.vm), h.2.2.2.moved (by rw [hv]; exact Vm.Alike.refl u.vm)⟩
theorem jX_kept {A B : Nat → Prop} {U : State} {H H1 : Heap} (h : jX A U H) (hq : ∀ a : Nat, a < H.size → ¬ A a → H1[a]? = H[a]?) (hAB : ∀ q, B q → A q) : jX B U H1 :=
  ⟨h.1, h.2.1, (h.2.2.1.kept hq).narrow hAB, (h.2.2.2.kept hq).narrow hAB⟩
/-- the thrown classes by number -/
def jxn (k : Nat) : String := match k with
  | 1 => "java/lang/IllegalArgumentException"
  | 2 => "java/lang/UnsupportedOperationException"
  | _ => "java/util/NoSuchElementException"
theorem jk_no {k : Nat} {α : Type} {a b : α} (h : some (k + 1, a) = some (0, b)) : False := by
  have := congrArg (fun z => z.map Prod.fst) h
  simp at this
theorem jk_no2 {k : Nat} {α : Type} {a b : α} (h : some (0, a) = some (k + 1, b)) : False := jk_no h.symm
theorem jk_no3 {k : Nat} {α : Type} {a b : α} (hk : ¬ k = 0) (h : some (k, a) = some (0, b)) : False := by
  have := congrArg (fun z => z.map Prod.fst) h
  simp at this
  exact hk this
abbrev jPreX (D : va_G) (cl : List vw_C) (tys : List (ClassId × FieldType)) (w : va_W) (sz : Nat) : State → Prop := fun U => jPre D cl tys w sz U ∧ jX (va_A w sz) U U.heap
abbrev jXC {β : Type} (D : va_G) (cl : List vw_C) (tys : List (ClassId × FieldType)) (w' : β → va_W) (Ap : Nat → Prop) (k : Nat) : String → State → State → Prop := vx_X (fun _ : β => True) (fun E u t => E = jxn k ∧ jPost D cl tys w' Ap u t) Ap
abbrev jQx {β : Type} (below : List Frame) (D : va_G) (cl : List vw_C) (tys : List (ClassId × FieldType)) (w' : β → va_W) (Ap : Nat → Prop) (args : Array Value) (s : State) (k : Nat) : State → Prop := vx_MQ below (fun _ _ _ _ => False) (jXC D cl tys w' Ap k) args s 1 6 Ap
/-- a method that throws -/
abbrev jCx {β : Type} (l : Launch) (y : MethodName) (ws : List Cond) (rm : Room) (D : va_G) (cl : List vw_C) (tys : List (ClassId × FieldType)) (as : List Value) (w : va_W) (sz k : Nat) (w' : β → va_W) : Prop :=
  vx_Met l y ws rm (va_Pc as (jPreX D cl tys w sz)) (fun _ _ _ _ => False) (jXC D cl tys w' (va_A w sz) k) 1 6 (va_A w sz)
abbrev jAtX (l : Launch) (Ap : Nat → Prop) (s : State) (c : Code) : Prop := l.stackTraces = false ∧ jX Ap s s.heap ∧ ∀ x ∈ c.exceptionTable.toList, False
theorem jOfX {β : Type} {l : Launch} {y : MethodName} {ws ws' : List Cond} {rm : Room} {D : va_G} {cl : List vw_C} {tys : List (ClassId × FieldType)} {as : List Value} {w : va_W} {sz k : Nat} {w' : β → va_W} {cc : ByteArray} {nL : Nat} {ret : Option FieldType} (hl0 : l.stackTraces = false) (hy : plainName y.cls = true) (hw : ws = Cond.code y cc nL ret :: ws') (hsl : (lg_sl as).length ≤ nL)
    (body : ∀ (p : Program) (e : Env) (s : State) (m : MethodId) (below : List Frame) (meth : Method) (c : Code) (Ap : Nat → Prop) (ls : Array Slot), jAt p s m as.toArray meth c cc nL ret ws y.cls → jAtX l Ap s c → (∀ q : Nat, s.heap.size ≤ q → Ap q) → jH D cl tys w Ap s s.heap [] → lv_has ls nL (lv_args 0 as) →
      W p l e (headSpec ws rm).room s m as.toArray below meth c s.heap [] 0 0 (jQx below D cl tys w' Ap as.toArray s k) (F0 m 0 ls [])) :
    jCx l y ws rm D cl tys as w sz k w' := by
  refine vx_ofW (cc := cc) (maxL := nL) (ret := ret) hy hw ?_
  intro p e s m args below meth c s₁ B hml hnt hv
  obtain ⟨rfl, ⟨hsz, hP, hK, hD0, hN⟩, hX⟩ := hv
  have hown : s.vm.findClass y.cls = some m.cls := findClass_of_methodNamed B.named
  subst hsz
  have hl := lv_entry as (n := nL) hsl
  rw [lg_entry_eq]
  exact body p e s m below meth c (va_A w s.heap.size) _ ⟨B.exec, B.bytes, hml, B.returns, atoms_spec (ws := ws) B.pre, hown, B.notSynchronized, hN⟩ ⟨hl0, hX, hnt⟩ (fun q h => Or.inr h) ⟨hK, hP, hD0.self, va_S.rf⟩ hl
section JXCall
variable {p : Program} {l : Launch} {e : Env} {R : Room} {s : State} {m : MethodId} {args : Array Value} {below : List Frame} {meth : Method} {c : Code} {H : Heap} {locs : List Loc} {Q : State → Prop}
variable {β : Type} {D : va_G} {cl : List vw_C} {tys : List (ClassId × FieldType)} {w : va_W} {w' : β → va_W} {Ap : Nat → Prop} {pc : Nat} {ls : Array Slot} {st0 rest : List Value} {k : Nat}
theorem jXat (hX : jX Ap s s.heap) (hA : ∀ q : Nat, s.heap.size ≤ q → Ap q) (hJ : jH D cl tys w Ap s H locs) {U : State} (hU : U.heap = H) (hW : s.WarmedH U.vm) : jX (va_A w H.size) U U.heap := by
  have h1 := jX_kept (B := va_A w H.size) hX hJ.2.2.2.2.1 (jfree hA hJ)
  rw [hU]
  exact jX_warm hW h1
theorem jblindX {as : List Value} {sz : Nat} : FrameBlind (va_Pc as (jPreX D cl tys w sz)) := by
  intro a U g mk q
  obtain ⟨q0, ⟨q1, qP, qK, qD, qN⟩, qX⟩ := q
  exact ⟨q0, ⟨q1, qP, va_K.moved (u := U) (U := U.calling g mk a) (Vm.Alike.refl U.vm) qK, qD, jN_same (u := U) (U := U.calling g mk a) rfl qN⟩, jX_same (u := U) (U := U.calling g mk a) rfl qX⟩
theorem jpreVX {as : List Value} {b q0 ci : Nat} {q : vw_C} {fs : List Value} (hX : jX Ap s s.heap) (hA : ∀ q : Nat, s.heap.size ≤ q → Ap q) (hN : jN s) (hJ : jH D cl tys w Ap s H locs) (hc : cl[ci]? = some q) (he : w[q0]? = some (b, .inr (ci, fs))) : PreV s H q.1 b (va_Pc (.ref b :: as) (jPreX D cl tys w H.size)) as :=
  ⟨jblindX, va_recv hJ.1 hJ.2.1 hc he, fun U hU hW => ⟨rfl, ⟨by rw [hU], by rw [hU]; exact hJ.2.1, va_K.moved hW.alike hJ.1, hJ.2.2.1.weaken (fun _ _ _ _ => trivial), jN_warm hW hN⟩, jXat hX hA hJ hU hW⟩⟩
theorem jxcall (hr : vx_Run p l e R s m args below meth c H locs 0 0 1 6 (F0 m pc ls st0) rest (fun _ _ _ => False) (jXC D cl tys w' (va_A w H.size) k) (va_A w H.size)) (hA : ∀ q : Nat, s.heap.size ≤ q → Ap q) (hJ : jH D cl tys w Ap s H locs) (ht : ∀ x ∈ c.exceptionTable.toList, False) (hlocks : meth.locks = false) :
    W p l e R s m args below meth c H locs 0 0 (jQx below D cl tys w' Ap args s k) (F0 m pc ls st0) := by
  intro T hT X
  rcases hr T hT X with ⟨v, st₀, t, T', L, h0, X', hL, e1, e2, hq, st⟩ | ⟨q, st₀, t, T', L, E, ce, h0, X', hL, e1, e2, ⟨u, -, ⟨hE, hP1, hK1, hD1⟩, hF⟩, hce, hcv, hcl, st⟩
  · exact hq.elim
  · obtain ⟨k1, k2, k3⟩ := vx_keep h0 e1 hJ.2.2.2 (fun q _ h => jfree hA hJ q h) (jfree hA hJ) hL hF
    obtain ⟨t2, a1, b1⟩ := vx_out (pc := pc) (ls := ls) (rest := rest) (E := E) (ce := ce) (q := q) (mc := 1) (ms := 6) (Qc := fun _ _ _ _ => False) (XC := jXC D cl tys w' Ap k) (free := Ap) (H := T'.heap) (locs := locs ++ L) (cells := 0 + 1) (slots := 0 + 6) (p := p) (l := l) (e := e) (R := R) (s := s) (m := m) (args := args) (below := below) (meth := meth) (c := c)
      (fun x hx => (ht x hx).elim) hlocks (by rw [e1]; exact hce) hcv hcl (fun t2 ht2 hal => ⟨u, trivial, ⟨hE, by rw [ht2, e1]; exact hP1, va_K.moved hal hJ.1, hD1.weaken (fun _ _ _ h => jfree hA hJ _ h)⟩, k3.F ht2⟩) k3.2.2 (Nat.le_refl _) (Nat.le_refl _) T' rfl X'
    exact ⟨t2, st.trans a1, b1⟩
theorem jthrow {cc : ByteArray} {nL ik is ic : Nat} {cls text : String} {u : β} (hexec : p.tables.exec = Jvm.exec) (hb : c.code = cc) (hml : c.maxLocals = nL) (hown : s.vm.findClass RJh = some m.cls) (hj : ∀ w ∈ jw, w.before args s = true) (hX : jAtX l Ap s c) (hlocks : meth.locks = false) (hll : ls.size = nL) (hJ : jH D cl tys (w' u) Ap s H locs)
    (hkind : jxn k = cls) (hfit : Bundle.fit cls = true) (hk : Cond.classLink RJh ik cls ∈ jw) (hini : Cond.initialized cls ∈ jw) (hs : (is, text) ∈ jstr)
    (hg : ∀ w ∈ (vx_atS RJh ic cls ["java/lang/RuntimeException", "java/lang/Exception"]).filter goodWord, w ∈ jw) (hng : ∀ w ∈ (vx_atS RJh ic cls ["java/lang/RuntimeException", "java/lang/Exception"]).filter (fun w => !goodWord w), w ∈ jdw) (hgood : ∀ w ∈ Cond.classLink RJh ik cls :: Cond.initialized cls :: vx_atS RJh ic cls ["java/lang/RuntimeException", "java/lang/Exception"], vx_ot w = true)
    (d0 : decode cc pc = .ok (.new ik, 3)) (d3 : decode cc (pc + 3) = .ok (.dup, 1)) (d4 : decode cc (pc + 4) = .ok (.ldc is, 2)) (d6 : decode cc (pc + 6) = .ok (.invokespecial ic, 3)) (d9 : decode cc (pc + 9) = .ok (.athrow, 1))
    (hRf : 5 < R.frames) (hRl : (rest.map fun v => v.category).sum + 82 ≤ R.locals) (hRc : 1 ≤ R.cells) (hRs : 6 ≤ R.slots) :
    W p l e R s m args below meth c H locs 0 0 (jQx below D cl tys w' Ap args s k) (F0 m pc ls rest) := by
  obtain ⟨hl0, hX0, ht⟩ := hX
  obtain ⟨sa, hsa⟩ := hX0.2.1 _ hs
  refine vx_throwS (sa := sa) (text := text) (names := ["java/lang/RuntimeException", "java/lang/Exception"]) (A := Ap) hexec hb hl0 hown hfit (by decide +kernel) (hj _ hk) (hj _ hini) hsa (vx_hat (B := jdw) (fun w hw => hj w (hg w hw)) hng (fun w hw => jdw_use hw (hX0.1 w hw))) hgood hX0.2.2.1 hX0.2.2.2 hJ.2.2.2 (hll.trans hml.symm) d0 d3 d4 d6 d9 (fun x hx => (ht x hx).elim) hRf hRl (by simpa using hRc) (by simpa using hRs) hlocks ?_ hJ.2.2.2.2.2 (Nat.le_refl _) (Nat.le_refl _)
  intro t hal hsz hk2
  refine ⟨u, trivial, ⟨hkind.symm, hJ.2.1.kept (fun k q hk => hk2 q.1 (vx_lt hJ.2.1 hk)), va_K.moved hal hJ.1, hJ.2.2.1⟩, Nat.le_trans hJ.2.2.2.1 hsz, fun q h1 h2 => ?_⟩
  rw [hk2 q (Nat.lt_of_lt_of_le h1 hJ.2.2.2.1)]
  exact hJ.2.2.2.2.1 q h1 h2
end JXCall
theorem jtk_1 : Cond.classLink RJh 39 "java/lang/IllegalArgumentException" ∈ jw := by decide +kernel
theorem jti_1 : Cond.initialized "java/lang/IllegalArgumentException" ∈ jw := by decide +kernel
theorem jtg_1 : ∀ w ∈ (vx_atS RJh 43 "java/lang/IllegalArgumentException" ["java/lang/RuntimeException", "java/lang/Exception"]).filter goodWord, w ∈ jw := by decide +kernel
theorem jtn_1 : ∀ w ∈ (vx_atS RJh 43 "java/lang/IllegalArgumentException" ["java/lang/RuntimeException", "java/lang/Exception"]).filter (fun w => !goodWord w), w ∈ jdw := by decide +kernel
theorem jto_1 : ∀ w ∈ Cond.classLink RJh 39 "java/lang/IllegalArgumentException" :: Cond.initialized "java/lang/IllegalArgumentException" :: vx_atS RJh 43 "java/lang/IllegalArgumentException" ["java/lang/RuntimeException", "java/lang/Exception"], vx_ot w = true := by decide +kernel
theorem jthrow_1 {p : Program} {l : Launch} {e : Env} {R : Room} {s : State} {m : MethodId} {args : Array Value} {below : List Frame} {meth : Method} {c : Code} {H : Heap} {locs : List Loc} {β : Type} {D : va_G} {cl : List vw_C} {tys : List (ClassId × FieldType)} {w' : β → va_W} {Ap : Nat → Prop} {pc : Nat} {ls : Array Slot} {rest : List Value} {cc : ByteArray} {nL is : Nat} {text : String} {u : β} (hexec : p.tables.exec = Jvm.exec) (hb : c.code = cc) (hml : c.maxLocals = nL) (hown : s.vm.findClass RJh = some m.cls) (hj : ∀ w ∈ jw, w.before args s = true) (hX : jAtX l Ap s c) (hlocks : meth.locks = false) (hll : ls.size = nL) (hJ : jH D cl tys (w' u) Ap s H locs) (hs : (is, text) ∈ jstr)
    (d0 : decode cc pc = .ok (.new 39, 3)) (d3 : decode cc (pc + 3) = .ok (.dup, 1)) (d4 : decode cc (pc + 4) = .ok (.ldc is, 2)) (d6 : decode cc (pc + 6) = .ok (.invokespecial 43, 3)) (d9 : decode cc (pc + 9) = .ok (.athrow, 1))
    (hRf : 5 < R.frames) (hRl : (rest.map fun v => v.category).sum + 82 ≤ R.locals) (hRc : 1 ≤ R.cells) (hRs : 6 ≤ R.slots) :
    W p l e R s m args below meth c H locs 0 0 (jQx below D cl tys w' Ap args s 1) (F0 m pc ls rest) := 
  jthrow hexec hb hml hown hj hX hlocks hll hJ rfl (by decide +kernel) jtk_1 jti_1 hs jtg_1 jtn_1 jto_1 d0 d3 d4 d6 d9 hRf hRl hRc hRs
theorem jtk_2 : Cond.classLink RJh 58 "java/lang/UnsupportedOperationException" ∈ jw := by decide +kernel
theorem jti_2 : Cond.initialized "java/lang/UnsupportedOperationException" ∈ jw := by decide +kernel
theorem jtg_2 : ∀ w ∈ (vx_atS RJh 62 "java/lang/UnsupportedOperationException" ["java/lang/RuntimeException", "java/lang/Exception"]).filter goodWord, w ∈ jw := by decide +kernel
theorem jtn_2 : ∀ w ∈ (vx_atS RJh 62 "java/lang/UnsupportedOperationException" ["java/lang/RuntimeException", "java/lang/Exception"]).filter (fun w => !goodWord w), w ∈ jdw := by decide +kernel
theorem jto_2 : ∀ w ∈ Cond.classLink RJh 58 "java/lang/UnsupportedOperationException" :: Cond.initialized "java/lang/UnsupportedOperationException" :: vx_atS RJh 62 "java/lang/UnsupportedOperationException" ["java/lang/RuntimeException", "java/lang/Exception"], vx_ot w = true := by decide +kernel
theorem jthrow_2 {p : Program} {l : Launch} {e : Env} {R : Room} {s : State} {m : MethodId} {args : Array Value} {below : List Frame} {meth : Method} {c : Code} {H : Heap} {locs : List Loc} {β : Type} {D : va_G} {cl : List vw_C} {tys : List (ClassId × FieldType)} {w' : β → va_W} {Ap : Nat → Prop} {pc : Nat} {ls : Array Slot} {rest : List Value} {cc : ByteArray} {nL is : Nat} {text : String} {u : β} (hexec : p.tables.exec = Jvm.exec) (hb : c.code = cc) (hml : c.maxLocals = nL) (hown : s.vm.findClass RJh = some m.cls) (hj : ∀ w ∈ jw, w.before args s = true) (hX : jAtX l Ap s c) (hlocks : meth.locks = false) (hll : ls.size = nL) (hJ : jH D cl tys (w' u) Ap s H locs) (hs : (is, text) ∈ jstr)
    (d0 : decode cc pc = .ok (.new 58, 3)) (d3 : decode cc (pc + 3) = .ok (.dup, 1)) (d4 : decode cc (pc + 4) = .ok (.ldc is, 2)) (d6 : decode cc (pc + 6) = .ok (.invokespecial 62, 3)) (d9 : decode cc (pc + 9) = .ok (.athrow, 1))
    (hRf : 5 < R.frames) (hRl : (rest.map fun v => v.category).sum + 82 ≤ R.locals) (hRc : 1 ≤ R.cells) (hRs : 6 ≤ R.slots) :
    W p l e R s m args below meth c H locs 0 0 (jQx below D cl tys w' Ap args s 2) (F0 m pc ls rest) := 
  jthrow hexec hb hml hown hj hX hlocks hll hJ rfl (by decide +kernel) jtk_2 jti_2 hs jtg_2 jtn_2 jto_2 d0 d3 d4 d6 d9 hRf hRl hRc hRs
theorem jtk_3 : Cond.classLink RJh 116 "java/util/NoSuchElementException" ∈ jw := by decide +kernel
theorem jti_3 : Cond.initialized "java/util/NoSuchElementException" ∈ jw := by decide +kernel
