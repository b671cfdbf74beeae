/-! a run of the house, to its choices -/
def lkx (D : qD) (s g : Nat) (l : List (Nat → Nat)) : Nat := (if dme D g s = 2 then dn D g else 0) + lks D s g l
theorem c_goTo {D : qD} {M : jM} {F : jF} (w : qW D) (h : qRC D M F) {s g : Nat} (hs : s < 64) (hg : g < dG D) (hn : s.testBit g = false) (hV : qSVn D s g (dC D) M F) {l : List (Nat → Nat)} (hin : ∀ d, d ∈ l → qin D d s) (h4 : F 4 = nI l.length) (hl : l.length ≤ 3000) (hR : hA (M 23) 0 l) :
    ∃ M' F', fRu_goTo (nI g) (o32 (dcf D g s)) M F = some (b01 (decide ((stp D s g l).length ≤ 3000)), M', F') ∧ (∀ l, l < 23 ∨ 24 < l → M' l = M l) ∧ (∀ l, l < 4 ∨ 5 < l → F' l = F l) ∧ ((stp D s g l).length ≤ 3000 → hA (M' 23) 0 (stp D s g l) ∧ F' 4 = nI (stp D s g l).length ∧ F' 5 = F 5 + nI (lkx D s g l)) := by
  have C12 := w.2.2.2.1
  have main : ∀ (F0 : jF) (x : Nat), (∀ l, l ≠ 5 → F0 l = F l) → F0 5 = F 5 + nI x → x = (if dme D g s = 2 then dn D g else 0) → ∃ M' F', fRu_goTo_42 (nI g) (o32 (dcf D g s)) (nI (dn D g)) M F0 = some (b01 (decide ((stp D s g l).length ≤ 3000)), M', F') ∧ (∀ l, l < 23 ∨ 24 < l → M' l = M l) ∧ (∀ l, l < 4 ∨ 5 < l → F' l = F l) ∧ ((stp D s g l).length ≤ 3000 → hA (M' 23) 0 (stp D s g l) ∧ F' 4 = nI (stp D s g l).length ∧ F' 5 = F 5 + nI (lkx D s g l)) := by
    intro F0 x h0 h5 hx
    obtain ⟨M', F', a1, a2, a3, a4⟩ := c_goTo48 w hs hg hn l.length hl l jfuel 0 [] M F0 (qSVn_fr hV rfl rfl rfl (h0 2 (by decide)) (h0 3 (by decide))) hin (by rw [h0 4 (by decide)]; exact h4) (by omega) hR (fun j d hj => by cases hj) (by simp) (by show _ < 4000; omega)
    rw [List.nil_append] at a1 a4
    refine ⟨M', F', a1, a2, fun l hl => by rw [a3 l hl, h0 l (by omega)], fun y => ?_⟩
    obtain ⟨b1, b2, b3⟩ := a4 y
    refine ⟨b1, b2, ?_⟩
    rw [b3, h5, Int32.add_assoc, nI_add, hx]; rfl
  show ∃ M' F', fRu_goTo_0 (nI g) (o32 (dcf D g s)) M F = _ ∧ _
  unfold fRu_goTo_0
  rw [c_rowsOf w h hg, Option.bind_some]
  cases z : dcf D g s with
  | none =>
    rw [if_pos (show o32 none = -1 from rfl)]
    have := main F 0 (fun _ _ => rfl) (by rw [nI_0, Int32.add_zero]) (by rw [dcf_none.mp z]; rfl)
    rw [z] at this
    exact this
  | some k =>
    obtain ⟨z1, z2⟩ := dcf_some z
    rw [if_neg (show ¬ o32 (some k) = -1 from q_m1 (by omega)), show o32 (some k) = nI k from rfl, c_tellsByIndex w h z1 hg (fun y => dti_1 w z1 z2 y), Option.bind_some, b01_i0, dcf_ix z]
    by_cases y : dme D g s = 1
    · rw [if_pos (decide_eq_true y)]
      have := main F 0 (fun _ _ => rfl) (by rw [nI_0, Int32.add_zero]) (by rw [y]; rfl)
      rw [z] at this
      exact this
    · rw [if_neg (by rw [decide_eq_false y]; simp)]
      have y2 : dme D g s = 2 := by
        have y3 : dme D g s ≠ 3 := fun q => by rw [dcf_none.mpr q] at z; cases z
        revert y y3
        unfold dme
        cases fd (fun k => dti D k g s && dix D k g) 0 (dC D) with
        | some j => intro q; exact absurd rfl q
        | none => cases fd (fun k => dti D k g s && decide (dkd D k = 0)) 0 (dC D) with
          | some j => intros; rfl
          | none => intro q q2; exact absurd rfl q2
      have := main (jfu F 5 (F 5 + nI (dn D g))) (dn D g) (fun l hl => q_fun hl) q_fus (by rw [y2, if_pos rfl])
      rw [z] at this
      exact this
def qok (D : qD) (s : Nat) (d : Nat → Nat) : Prop := qin D d s ∧ dal D d s = true
theorem qin_ud {D : qD} (w : qW D) {s g r : Nat} {d : Nat → Nat} (hd : qin D d s) (hg : g < dG D) (hr : r < dn D g) : qin D (ud d g r) (s ||| 2 ^ g) := by
  have gn := (qW_g w hg).2.2
  refine ⟨q30_ud hd.1 (by omega), fun h hh => ?_, fun h hh => ?_⟩
  · by_cases e : h = g
    · subst e; rw [ud_s]; exact hr
    · rw [ud_n e]
      rw [q_settb, decide_eq_false (fun z => e z.symm), Bool.or_false] at hh
      exact hd.2.1 h hh
  · rw [q_settb] at hh
    have e : h ≠ g := fun z => by rw [z] at hh; simp at hh
    rw [decide_eq_false (fun z => e z.symm), Bool.or_false] at hh
    rw [ud_n e]; exact hd.2.2 h hh
theorem dal_dok {D : qD} {s g r : Nat} {d : Nat → Nat} (hd : dal D d s = true) (hn : s.testBit g = false) : dal D (ud d g r) (s ||| 2 ^ g) = dok D s g d r := by
  unfold dal at hd ⊢
  unfold dok
  rw [al_iff] at hd
  rw [Bool.eq_iff_iff, al_iff, al_iff]
  have key : ∀ k, k < dC D → ((!dwi D k (s ||| 2 ^ g) || dho D k (ud d g r (dfi D k)) (ud d g r (dse D k))) = true ↔ (!dju D k g s || dhu D k g d r) = true) := by
    intro k hk
    have h1 := hd k (by omega) (by omega)
    unfold dju dhu
    cases e : dwi D k s with
    | false => simp
    | true =>
      have e' := e
      unfold dwi at e'
      rw [Bool.and_eq_true] at e'
      rw [e] at h1
      have n1 : dfi D k ≠ g := fun z => by rw [z, hn] at e'; simp at e'
      have n2 : dse D k ≠ g := fun z => by rw [z, hn] at e'; simp at e'
      rw [ud_n n1, ud_n n2]
      simp at h1
      simp [h1]
  constructor
  · intro h k _ hk; exact (key k (by omega)).mp (h k (by omega) hk)
  · intro h k _ hk; exact (key k (by omega)).mpr (h k (by omega) hk)
theorem stp_ok {D : qD} (w : qW D) {s g : Nat} (hg : g < dG D) (hn : s.testBit g = false) {l : List (Nat → Nat)} (h : ∀ d, d ∈ l → qok D s d) : ∀ d, d ∈ stp D s g l → qok D (s ||| 2 ^ g) d := by
  intro d' hd'
  unfold stp at hd'
  rw [List.mem_flatMap] at hd'
  obtain ⟨d, h1, h2⟩ := hd'
  unfold stp1 at h2
  rw [List.mem_map] at h2
  obtain ⟨r, h3, h4⟩ := h2
  obtain ⟨a, b, c⟩ := rl_mem h3
  subst h4
  have hd := h d h1
  exact ⟨qin_ud w hd.1 hg (by omega), by rw [dal_dok hd.2 hn]; exact c⟩
def rls (D : qD) : Nat → List (Nat → Nat)
  | 0 => if dG D = 0 then [] else [fun _ => 0]
  | i + 1 => stp D (dps D i) (dor D i) (rls D i)
def rlk (D : qD) : Nat → Nat
  | 0 => 0
  | i + 1 => rlk D i + lkx D (dps D i) (dor D i) (rls D i)
def rok (D : qD) (i : Nat) : Bool := decide ((rls D (i + 1)).length ≤ 3000)
theorem rls_ok {D : qD} (w : qW D) : ∀ i, i ≤ dG D → ∀ d, d ∈ rls D i → qok D (dps D i) d := by
  intro i
  induction i with
  | zero =>
    intro _ d hd
    rw [rls] at hd
    by_cases e : dG D = 0
    · rw [if_pos e] at hd; cases hd
    · rw [if_neg e] at hd
      have : d = fun _ => 0 := by simpa using hd
      subst this
      refine ⟨⟨fun h _ => (by show 0 < 30; omega), fun h hh => absurd (show (0 : Nat).testBit h = true from hh) (by rw [Nat.zero_testBit]; simp), fun _ _ => rfl⟩, ?_⟩
      unfold dal
      rw [al_iff]
      intro k _ hk
      have : dwi D k (dps D 0) = false := by unfold dwi; rw [dps, Nat.zero_testBit]; rfl
      rw [this]; rfl
  | succ i ih =>
    intro hi d hd
    have h1 := dor_b (D := D) (i := i) (by omega)
    rw [rls] at hd
    rw [dps]
    exact stp_ok w h1.2.1 h1.2.2 (ih (by omega)) d hd
theorem c_go27 {D : qD} (w : qW D) :
    ∀ m n i (M : jM) (F : jF), qRC D M F → (∀ j, j < dG D → M 19 j = nI (dor D j)) → (rls D i).length ≤ 3000 → hA (M 23) 0 (rls D i) → F 4 = nI (rls D i).length → F 5 = nI (rlk D i) → i + m = dG D → m < n →
    (al (rok D) i m = true → (rls D (dG D)).length ≤ 3000 ∧ ∃ M' F', fRu_go_27 n (nI (dG D)) (nI (dps D i)) (nI i) M F = fRu_go_98 jfuel (nI (dG D)) (nI (dG D) - 1) M' F' ∧ hA (M' 23) 0 (rls D (dG D)) ∧ F' 4 = nI (rls D (dG D)).length ∧ F' 5 = nI (rlk D (dG D)) ∧ (∀ l, l < 20 ∨ 24 < l → M' l = M l) ∧ (∀ l, l < 2 ∨ 5 < l → F' l = F l)) ∧
    (al (rok D) i m = false → ∃ M' F', fRu_go_27 n (nI (dG D)) (nI (dps D i)) (nI i) M F = some (0, M', F') ∧ (∀ l, l < 20 ∨ 24 < l → M' l = M l) ∧ (∀ l, l < 2 ∨ 5 < l → F' l = F l)) := by
  have G6 := w.2.1
  intro m
  induction m with
  | zero =>
    intro n i M F h hO hl hR h4 h5 hi hn
    obtain ⟨n, rfl⟩ : ∃ z, n = z + 1 := ⟨n - 1, by omega⟩
    have : i = dG D := by omega
    subst this
    refine ⟨fun _ => ⟨hl, M, F, ?_, hR, h4, h5, fun _ _ => rfl, fun _ _ => rfl⟩, fun q => by cases q⟩
    rw [fRu_go_27, if_pos (nI_le (by omega) (by omega))]
  | succ m ih =>
    intro n i M F h hO hl hR h4 h5 hi hn
    obtain ⟨n, rfl⟩ : ∃ z, n = z + 1 := ⟨n - 1, by omega⟩
    have hi' : i < dG D := by omega
    obtain ⟨o1, o2, o3⟩ := dor_b hi'
    have hs := q_s64 w (dps_b (D := D) i (by omega)).2.1
    obtain ⟨M1, F1, a1, a2, a3, a4⟩ := c_prepare w h hs o2
    have h1 : qRC D M1 F1 := qRC_fr h (fun l hl => a3 l (by omega)) (a4 0 (by omega)) (a4 1 (by omega))
    obtain ⟨M2, F2, b1, b2, b3, b4⟩ := c_goTo w h1 hs o2 o3 a2 (fun d hd => (rls_ok w i (by omega) d hd).1) (by rw [a4 4 (by omega)]; exact h4) hl (by rw [a3 23 (by omega)]; exact hR)
    have h2 : qRC D M2 F2 := qRC_fr h1 (fun l hl => b2 l (by omega)) (b3 0 (by omega)) (b3 1 (by omega))
    have fM : ∀ l, l < 20 ∨ 24 < l → M2 l = M l := fun l hl => by rw [b2 l (by omega), a3 l (by omega)]
    have fF : ∀ l, l < 2 ∨ 5 < l → F2 l = F l := fun l hl => by rw [b3 l (by omega), a4 l (by omega)]
    have e : fRu_go_27 (n + 1) (nI (dG D)) (nI (dps D i)) (nI i) M F = (if b01 (rok D i) = 0 then some (0, M2, F2) else fRu_go_27 n (nI (dG D)) (nI (dps D (i + 1))) (nI (i + 1)) M2 F2) := by
      rw [fRu_go_27, if_neg (nI_ge (by omega) (by omega)), q_ibt (by omega) (by omega), if_pos rfl, nI_clamp (by omega), hO i hi', a1, Option.bind_some, c_condFor w h1 hs o2, Option.bind_some, b1, Option.bind_some, q_set (by omega), nI_1]
      rfl
    rw [e, b01_i0, al]
    cases z : rok D i with
    | false => exact ⟨fun q => (by cases q), fun _ => ⟨M2, F2, rfl, fM, fF⟩⟩
    | true =>
      have z' : (stp D (dps D i) (dor D i) (rls D i)).length ≤ 3000 := by unfold rok at z; exact of_decide_eq_true z
      obtain ⟨c1, c2, c3⟩ := b4 z'
      rw [if_pos rfl, Bool.true_and]
      obtain ⟨r1, r2⟩ := ih n (i + 1) M2 F2 h2 (fun j hj => by rw [fM 19 (by omega)]; exact hO j hj) z' c1 c2 (by rw [c3, a4 5 (by omega), h5, nI_add]; rfl) (by omega) (by omega)
      refine ⟨fun q => ?_, fun q => ?_⟩
      · obtain ⟨r3, M', F', d1, d2, d3, d4, d5, d6⟩ := r1 q
        exact ⟨r3, M', F', d1, d2, d3, d4, fun l hl => by rw [d5 l hl, fM l hl], fun l hl => by rw [d6 l hl, fF l hl]⟩
      · obtain ⟨M', F', d1, d5, d6⟩ := r2 q
        exact ⟨M', F', d1, fun l hl => by rw [d5 l hl, fM l hl], fun l hl => by rw [d6 l hl, fF l hl]⟩
