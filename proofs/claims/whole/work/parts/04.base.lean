/-! The pure side: arrays by place number, int fields by number; the functions that a program reads off the bytecode speak of these alone. -/
abbrev jM : Type := Nat → Nat → Int32
abbrev jF : Type := Nat → Int32
def jmu (M : jM) (k i : Nat) (x : Int32) : jM := fun j => if j = k then upd (M k) i x else M j
def jms (M : jM) (a b : Nat) : jM := fun j => if j = a then M b else if j = b then M a else M j
def jfu (F : jF) (k : Nat) (x : Int32) : jF := fun j => if j = k then x else F j
def jib (i : Int32) (n : Nat) : Bool := !(decide (i < 0) || decide (n ≤ i.toNatClampNeg))
def jus (x y : Int32) : Int32 := (x.toUInt32 >>> (y.toUInt32 &&& Int32.toUInt32 31)).toInt32
def jfuel : Nat := 4000
def jbo (x : Int32) : Bool := x == 0 || x == 1
def jbs (B : Nat → Nat) (i j : Nat) : Nat → Nat := fun k => if k = i then B j else if k = j then B i else B k
theorem jbo_h {x : Int32} {α : Type} {X : Option α} {r : α} (h : (if jbo x = true then X else none) = some r) : narrow .boolean (.int x) = .int x ∧ X = some r := by
  by_cases q : jbo x = true
  · rw [if_pos q] at h
    refine ⟨?_, h⟩
    unfold jbo at q
    simp only [Bool.or_eq_true, beq_iff_eq] at q
    rcases q with q | q <;> subst q <;> rfl
  · rw [if_neg q] at h; cases h
theorem jib_in {i : Int32} {n : Nat} (h : jib i n = true) : vp_in i n := by
  intro q
  unfold jib at h
  rcases q with q | q <;> simp [q] at h
theorem jib_h {i : Int32} {n : Nat} {α : Type} {X : Option α} {r : α} (h : (if jib i n = true then X else none) = some r) : vp_in i n ∧ X = some r := by
  by_cases q : jib i n = true
  · rw [if_pos q] at h; exact ⟨jib_in q, h⟩
  · rw [if_neg q] at h; cases h
theorem jbi_h {α β : Type} {x : Option α} {f : α → Option β} {r : β} (h : x.bind f = some r) : ∃ q, x = some q ∧ f q = some r := by
  cases x with
  | none => cases h
  | some a => exact ⟨a, rfl, h⟩
theorem jdz_h {y : Int32} {α : Type} {X : Option α} {r : α} (h : (if y = 0 then none else X) = some r) : ¬ y = 0 ∧ X = some r := by
  by_cases q : y = 0
  · rw [if_pos q] at h; cases h
  · rw [if_neg q] at h; exact ⟨q, h⟩
theorem jif_t {c : Prop} [Decidable c] {α : Type} {X Y : α} {r : α} (q : c) (h : (if c then X else Y) = r) : X = r := by rw [if_pos q] at h; exact h
theorem jif_f {c : Prop} [Decidable c] {α : Type} {X Y : α} {r : α} (q : ¬ c) (h : (if c then X else Y) = r) : Y = r := by rw [if_neg q] at h; exact h
/-! A method over a world of cells: what it starts from, what it leaves, where its walk stands. -/
abbrev jPre (D : va_G) (cl : List vw_C) (tys : List (ClassId × FieldType)) (w : va_W) (sz : Nat) : State → Prop := fun U => U.heap.size = sz ∧ va_P D cl w U.heap ∧ va_K D cl tys U ∧ va_D (fun _ => True) w ∧ jN U
abbrev jPost {β : Type} (D : va_G) (cl : List vw_C) (tys : List (ClassId × FieldType)) (w : β → va_W) (Ap : Nat → Prop) : β → State → Prop := fun u t => va_P D cl (w u) t.heap ∧ va_K D cl tys t ∧ va_D Ap (w u)
abbrev jH (D : va_G) (cl : List vw_C) (tys : List (ClassId × FieldType)) (w : va_W) (Ap : Nat → Prop) (s : State) (H : Heap) (locs : List Loc) : Prop := va_K D cl tys s ∧ va_P D cl w H ∧ va_D Ap w ∧ va_S Ap s.heap H locs
abbrev jAt (p : Program) (s : State) (m : MethodId) (args : Array Value) (meth : Method) (c : Code) (cc : ByteArray) (nL : Nat) (ret : Option FieldType) (ws : List Cond) (own : String) : Prop :=
  p.tables.exec = Jvm.exec ∧ c.code = cc ∧ c.maxLocals = nL ∧ meth.sig.returnType = ret ∧ (∀ w ∈ ws, w.before args s = true) ∧ s.vm.findClass own = some m.cls ∧ meth.locks = false ∧ jN s
abbrev jQi {β : Type} (below : List Frame) (D : va_G) (cl : List vw_C) (tys : List (ClassId × FieldType)) (w' : β → va_W) (Ap : Nat → Prop) (args : Array Value) (s : State) (r : Int32) : State → Prop := MQ below (va_Qi (fun q (_ : β) => q = r) (jPost D cl tys w' Ap) Ap) args s 0 0 Ap
abbrev jQv {β : Type} (below : List Frame) (D : va_G) (cl : List vw_C) (tys : List (ClassId × FieldType)) (w' : β → va_W) (Ap : Nat → Prop) (args : Array Value) (s : State) : State → Prop := MQ below (va_Qv (fun (_ : β) => True) (jPost D cl tys w' Ap) Ap) args s 0 0 Ap
/-- a method that answers an int (or a boolean) -/
abbrev jCi {β : Type} (l : Launch) (y : MethodName) (ws : List Cond) (rm : Room) (D : va_G) (cl : List vw_C) (tys : List (ClassId × FieldType)) (as : List Value) (w : va_W) (sz : Nat) (r : Int32) (w' : β → va_W) : Prop :=
  Met l y ws rm (va_Pc as (jPre D cl tys w sz)) (va_Qi (fun q (_ : β) => q = r) (jPost D cl tys w' (va_A w sz)) (va_A w sz)) 0 0 (va_A w sz)
/-- a method that answers nothing -/
abbrev jCv {β : Type} (l : Launch) (y : MethodName) (ws : List Cond) (rm : Room) (D : va_G) (cl : List vw_C) (tys : List (ClassId × FieldType)) (as : List Value) (w : va_W) (sz : Nat) (w' : β → va_W) : Prop :=
  Met l y ws rm (va_Pc as (jPre D cl tys w sz)) (va_Qv (fun (_ : β) => True) (jPost D cl tys w' (va_A w sz)) (va_A w sz)) 0 0 (va_A w sz)
section JOf
variable {β : Type} {l : Launch} {y : MethodName} {ws ws' : List Cond} {rm : Room} {D : va_G} {cl : List vw_C} {tys : List (ClassId × FieldType)} {as : List Value} {w : va_W} {sz : Nat} {r : Int32} {w' : β → va_W} {cc : ByteArray} {nL : Nat} {ret : Option FieldType}
theorem jOf {Qc : (Nat → Prop) → Array Value → State → Outcome → State → Prop} (hy : plainName y.cls = true) (hw : ws = Cond.code y cc nL ret :: ws') (hsl : (lg_sl as).length ≤ nL)
    (body : ∀ (p : Program) (e : Env) (s : State) (m : MethodId) (below : List Frame) (meth : Method) (c : Code) (Ap : Nat → Prop) (ls : Array Slot), jAt p s m as.toArray meth c cc nL ret ws y.cls → (∀ q : Nat, s.heap.size ≤ q → Ap q) → jH D cl tys w Ap s s.heap [] → lv_has ls nL (lv_args 0 as) →
      W p l e (headSpec ws rm).room s m as.toArray below meth c s.heap [] 0 0 (MQ below (Qc Ap) as.toArray s 0 0 Ap) (F0 m 0 ls [])) :
    Met l y ws rm (va_Pc as (jPre D cl tys w sz)) (Qc (va_A w sz)) 0 0 (va_A w sz) := by
  refine Met.ofW (cc := cc) (maxL := nL) (ret := ret) hy hw ?_
  intro p e s m args below meth c s₁ B hml hv
  obtain ⟨rfl, hsz, hP, hK, hD0, hN⟩ := hv
  have hown : s.vm.findClass y.cls = some m.cls := findClass_of_methodNamed B.named
  subst hsz
  have hl := lv_entry as (n := nL) hsl
  rw [lg_entry_eq]
  exact body p e s m below meth c (va_A w s.heap.size) _ ⟨B.exec, B.bytes, hml, B.returns, atoms_spec (ws := ws) B.pre, hown, B.notSynchronized, hN⟩ (fun q h => Or.inr h) ⟨hK, hP, hD0.self, va_S.rf⟩ hl
end JOf
section JCall
variable {p : Program} {l : Launch} {e : Env} {R : Room} {s : State} {m : MethodId} {args : Array Value} {below : List Frame} {meth : Method} {c : Code} {H : Heap} {locs : List Loc} {cells slots : Nat} {Q : State → Prop}
variable {β : Type} {D : va_G} {cl : List vw_C} {tys : List (ClassId × FieldType)} {w : va_W} {w' : β → va_W} {Ap : Nat → Prop} {pc : Nat} {ls : Array Slot} {st0 rest : List Value} {r : Int32} {a : Array Value}
theorem jfree (hA : ∀ q : Nat, s.heap.size ≤ q → Ap q) (hJ : jH D cl tys w Ap s H locs) : ∀ q : Nat, va_A w H.size q → Ap q := by
  intro q hq
  rcases hq with ⟨k, e, hk⟩ | hq
  · exact hJ.2.2.1.2 k _ hk
  · exact hA q (Nat.le_trans hJ.2.2.2.1 hq)
theorem jblind {as : List Value} {sz : Nat} : FrameBlind (va_Pc as (jPre D cl tys w sz)) := by
  intro a U g mk q
  obtain ⟨q0, q1, qP, qK, qD, qN⟩ := q
  exact ⟨q0, q1, qP, va_K.moved (u := U) (U := U.calling g mk a) (Vm.Alike.refl U.vm) qK, qD, jN_same (u := U) (U := U.calling g mk a) rfl qN⟩
theorem jpreS {as : List Value} (hN : jN s) (hJ : jH D cl tys w Ap s H locs) : PreS s H (va_Pc as (jPre D cl tys w H.size)) as :=
  ⟨jblind, fun U hU hW => ⟨rfl, by rw [hU], by rw [hU]; exact hJ.2.1, va_K.moved hW.alike hJ.1, hJ.2.2.1.weaken (fun _ _ _ _ => trivial), jN_warm hW hN⟩⟩
theorem jpreV {as : List Value} {b q0 ci : Nat} {q : vw_C} {fs : List Value} (hN : jN s) (hJ : jH D cl tys w Ap s H locs) (hc : cl[ci]? = some q) (he : w[q0]? = some (b, .inr (ci, fs))) : PreV s H q.1 b (va_Pc (.ref b :: as) (jPre D cl tys w H.size)) as :=
  ⟨jblind, va_recv hJ.1 hJ.2.1 hc he, fun U hU hW => ⟨rfl, by rw [hU], by rw [hU]; exact hJ.2.1, va_K.moved hW.alike hJ.1, hJ.2.2.1.weaken (fun _ _ _ _ => trivial), jN_warm hW hN⟩⟩
theorem jcalli (hr : va_Run p l e R s m args below meth c H locs cells slots 0 0 (F0 m pc ls st0) rest (va_Qi (fun q (_ : β) => q = r) (jPost D cl tys w' (va_A w H.size)) (va_A w H.size) a) (va_A w H.size)) (hA : ∀ q : Nat, s.heap.size ≤ q → Ap q) (hJ : jH D cl tys w Ap s H locs)
    (kk : ∀ (u : β) (H1 : Heap) (locs1 : List Loc), jH D cl tys (w' u) Ap s H1 locs1 → W p l e R s m args below meth c H1 locs1 cells slots Q (F0 m (pc + 3) ls (.int r :: rest))) : W p l e R s m args below meth c H locs cells slots Q (F0 m pc ls st0) := by
  refine va_calli hr hJ.2.2.2 (fun q _ h => jfree hA hJ q h) (jfree hA hJ) (fun r1 u t H1 locs1 ht hvm hw hB hz1 hk1 hS => ?_)
  subst hw
  obtain ⟨hP1, hK1, hD1⟩ := hB
  rw [ht] at hP1
  exact kk u H1 locs1 ⟨hJ.1, hP1, hD1.weaken (fun k q _ h => jfree hA hJ _ h), hS⟩
theorem jcallv (hr : va_Run p l e R s m args below meth c H locs cells slots 0 0 (F0 m pc ls st0) rest (va_Qv (fun (_ : β) => True) (jPost D cl tys w' (va_A w H.size)) (va_A w H.size) a) (va_A w H.size)) (hA : ∀ q : Nat, s.heap.size ≤ q → Ap q) (hJ : jH D cl tys w Ap s H locs)
    (kk : ∀ (u : β) (H1 : Heap) (locs1 : List Loc), jH D cl tys (w' u) Ap s H1 locs1 → W p l e R s m args below meth c H1 locs1 cells slots Q (F0 m (pc + 3) ls rest)) : W p l e R s m args below meth c H locs cells slots Q (F0 m pc ls st0) := by
  refine va_callv hr hJ.2.2.2 (fun q _ h => jfree hA hJ q h) (jfree hA hJ) (fun u t H1 locs1 ht hvm hw hB hz1 hk1 hS => ?_)
  obtain ⟨hP1, hK1, hD1⟩ := hB
  rw [ht] at hP1
  exact kk u H1 locs1 ⟨hJ.1, hP1, hD1.weaken (fun k q _ h => jfree hA hJ _ h), hS⟩
theorem jreti {cc : ByteArray} {ty : FieldType} {u : β} {v : Int32} (hexec : p.tables.exec = Jvm.exec) (hb : c.code = cc) (hr : meth.sig.returnType = some ty) (hn : narrow ty (.int v) = .int v) (hlocks : meth.locks = false) (hJ : jH D cl tys (w' u) Ap s H locs) (hdg : decode cc pc = .ok (.ireturn, 1)) (he : v = r) :
    W p l e R s m args below meth c H locs 0 0 (MQ below (va_Qi (fun q (_ : β) => q = r) (jPost D cl tys w' Ap) Ap) args s 0 0 Ap) (F0 m pc ls [.int v]) :=
  W.zret hexec hb hr hn (fun t ht hW => ⟨⟨v, u, rfl, he, by rw [ht]; exact hJ.2.1, va_K.moved hW.alike hJ.1, hJ.2.2.1⟩, hJ.2.2.2.F ht⟩) hJ.2.2.2.2.2 hdg
theorem jretv {cc : ByteArray} {u : β} (hexec : p.tables.exec = Jvm.exec) (hb : c.code = cc) (hr : meth.sig.returnType = none) (hlocks : meth.locks = false) (hJ : jH D cl tys (w' u) Ap s H locs) (hdg : decode cc pc = .ok (.return_, 1)) :
    W p l e R s m args below meth c H locs 0 0 (MQ below (va_Qv (fun (_ : β) => True) (jPost D cl tys w' Ap) Ap) args s 0 0 Ap) (F0 m pc ls []) :=
  W.vret hexec hb hr (fun t ht hW => ⟨⟨u, rfl, trivial, by rw [ht]; exact hJ.2.1, va_K.moved hW.alike hJ.1, hJ.2.2.1⟩, hJ.2.2.2.F ht⟩) hJ.2.2.2.2.2 hdg
end JCall
