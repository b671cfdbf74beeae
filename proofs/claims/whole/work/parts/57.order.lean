/-! orders, and the first of the least -/
def sumO (D : qD) : Nat → List Nat → Nat
  | _, [] => 0
  | s, g :: o => dsz D (s ||| 2 ^ g) + sumO D (s ||| 2 ^ g) o
def am (s : Nat) (f : Nat → Nat) : Nat → Option Nat
  | 0 => none
  | g + 1 => if s.testBit g = true then am s f g else (match am s f g with | none => some g | some b => if f b ≤ f g then some b else some g)
def bo (D : qD) : Nat → Nat → List Nat
  | 0, _ => []
  | n + 1, s => (am s (fun g => dsz D (s ||| 2 ^ g) + sumO D (s ||| 2 ^ g) (bo D n (s ||| 2 ^ g))) (dG D)).getD 0 :: bo D n (s ||| 2 ^ (am s (fun g => dsz D (s ||| 2 ^ g) + sumO D (s ||| 2 ^ g) (bo D n (s ||| 2 ^ g))) (dG D)).getD 0)
def pe (G : Nat) : Nat → Nat → List (List Nat)
  | 0, _ => [[]]
  | n + 1, s => ((List.range G).filter (fun g => !s.testBit g)).flatMap (fun g => (pe G n (s ||| 2 ^ g)).map (fun o => g :: o))
def fm (f : List Nat → Nat) : Option (List Nat) → List (List Nat) → Option (List Nat)
  | b, [] => b
  | none, x :: l => fm f (some x) l
  | some b, x :: l => fm f (if f x < f b then some x else some b) l
theorem fm_app (f : List Nat → Nat) (l1 l2 : List (List Nat)) : ∀ b, fm f b (l1 ++ l2) = fm f (fm f b l1) l2 := by
  induction l1 with
  | nil => intro b; cases b <;> rfl
  | cons x l ih => intro b; cases b <;> exact ih _
theorem fm_some (f : List Nat → Nat) (l : List (List Nat)) : ∀ b, fm f (some b) l = (match fm f none l with | none => some b | some y => if f y < f b then some y else some b) := by
  induction l with
  | nil => intro b; rfl
  | cons x l ih =>
    intro b
    have e1 : fm f (some b) (x :: l) = fm f (if f x < f b then some x else some b) l := rfl
    have e2 : fm f none (x :: l) = fm f (some x) l := rfl
    rw [e1, e2, ih x]
    have e3 : fm f (if f x < f b then some x else some b) l = fm f (some (if f x < f b then x else b)) l := by split <;> rfl
    rw [e3, ih]
    cases fm f none l with
    | none => simp only; split <;> rfl
    | some y =>
      simp only
      by_cases h1 : f x < f b
      · rw [if_pos h1]
        by_cases h2 : f y < f x
        · rw [if_pos h2]; simp only; rw [if_pos (show f y < f b by omega)]
        · rw [if_neg h2]; simp only; rw [if_pos h1]
      · rw [if_neg h1]
        by_cases h2 : f y < f x
        · rw [if_pos h2]
        · rw [if_neg h2]; simp only; rw [if_neg h1, if_neg (show ¬ f y < f b by omega)]
theorem fm_map (D : qD) (s g : Nat) (l : List (List Nat)) : ∀ b, fm (sumO D s) (b.map (fun o => g :: o)) (l.map (fun o => g :: o)) = (fm (sumO D (s ||| 2 ^ g)) b l).map (fun o => g :: o) := by
  induction l with
  | nil => intro b; cases b <;> rfl
  | cons x l ih =>
    intro b
    cases b with
    | none => exact ih (some x)
    | some b =>
      have e1 : fm (sumO D s) ((some b).map (fun o => g :: o)) ((x :: l).map (fun o => g :: o)) = fm (sumO D s) (if sumO D s (g :: x) < sumO D s (g :: b) then some (g :: x) else some (g :: b)) (l.map (fun o => g :: o)) := rfl
      have e2 : fm (sumO D (s ||| 2 ^ g)) (some b) (x :: l) = fm (sumO D (s ||| 2 ^ g)) (if sumO D (s ||| 2 ^ g) x < sumO D (s ||| 2 ^ g) b then some x else some b) l := rfl
      rw [e1, e2, ← ih]
      congr 1
      have e3 : ∀ o, sumO D s (g :: o) = dsz D (s ||| 2 ^ g) + sumO D (s ||| 2 ^ g) o := fun _ => rfl
      rw [e3, e3]
      by_cases h : sumO D (s ||| 2 ^ g) x < sumO D (s ||| 2 ^ g) b
      · rw [if_pos h, if_pos (by omega)]; rfl
      · rw [if_neg h, if_neg (by omega)]; rfl
theorem qcb_set {p : Nat → Bool} {g : Nat} (h : p g = false) (n : Nat) : qcb (fun k => p k || decide (g = k)) n = qcb p n + (if g < n then 1 else 0) := by
  induction n with
  | zero => simp [qcb]
  | succ n ih =>
    show qcb _ n + (p n || decide (g = n)).toNat = qcb p n + (p n).toNat + _
    rw [ih]
    by_cases e : g = n
    · subst e; simp [h]
    · simp only [e, decide_false, Bool.or_false]
      by_cases e2 : g < n
      · rw [if_pos e2, if_pos (by omega)]; omega
      · rw [if_neg e2, if_neg (by omega)]; omega
theorem qcd_set {s g n : Nat} (h : s.testBit g = false) (hg : g < n) : qcb (s ||| 2 ^ g).testBit n = qcb s.testBit n + 1 := by
  have e := qcb_set (p := s.testBit) h n
  rw [if_pos hg] at e
  rw [← e]
  exact qcb_congr (fun r _ => q_settb s g r)
theorem qcb_all {p : Nat → Bool} {n : Nat} (h : ∀ g, g < n → p g = true) : qcb p n = n := by
  induction n with
  | zero => rfl
  | succ n ih => show qcb p n + (p n).toNat = n + 1; rw [ih (fun g hg => h g (by omega)), h n (by omega)]; rfl
theorem am_some {s : Nat} {f : Nat → Nat} {n b : Nat} (h : am s f n = some b) : b < n ∧ s.testBit b = false := by
  induction n with
  | zero => cases h
  | succ n ih =>
    rw [am] at h
    by_cases e : s.testBit n = true
    · rw [if_pos e] at h
      have := ih h
      exact ⟨by omega, this.2⟩
    · rw [if_neg e] at h
      cases e2 : am s f n with
      | none => rw [e2] at h; cases h; exact ⟨by omega, by simpa using e⟩
      | some c =>
        rw [e2] at h
        simp only at h
        by_cases e3 : f c ≤ f n
        · rw [if_pos e3] at h; cases h; have := ih e2; exact ⟨by omega, this.2⟩
        · rw [if_neg e3] at h; cases h; exact ⟨by omega, by simpa using e⟩
theorem am_none {s : Nat} {f : Nat → Nat} {n : Nat} (h : am s f n = none) : ∀ g, g < n → s.testBit g = true := by
  induction n with
  | zero => intro g hg; omega
  | succ n ih =>
    intro g hg
    rw [am] at h
    by_cases e : s.testBit n = true
    · rw [if_pos e] at h
      by_cases e1 : g = n
      · rw [e1]; exact e
      · exact ih h g (by omega)
    · rw [if_neg e] at h
      cases e2 : am s f n with
      | none => rw [e2] at h; cases h
      | some c =>
        rw [e2] at h
        simp only at h
        split at h <;> cases h
theorem am_ex {s : Nat} (f : Nat → Nat) {n : Nat} (h : qcb s.testBit n < n) : ∃ b, am s f n = some b := by
  cases e : am s f n with
  | some b => exact ⟨b, rfl⟩
  | none => have := qcb_all (am_none e); omega
theorem am_congr {s : Nat} {f f' : Nat → Nat} {n : Nat} (h : ∀ g, g < n → s.testBit g = false → f g = f' g) : am s f n = am s f' n := by
  induction n with
  | zero => rfl
  | succ n ih =>
    rw [am, am, ih (fun g hg => h g (by omega))]
    by_cases e : s.testBit n = true
    · rw [if_pos e, if_pos e]
    · rw [if_neg e, if_neg e]
      cases e2 : am s f' n with
      | none => rfl
      | some b =>
        have := am_some e2
        simp only
        rw [h b (by omega) this.2, h n (by omega) (by simpa using e)]
theorem fm_pe (D : qD) : ∀ n s, qcb s.testBit (dG D) + n = dG D → fm (sumO D s) none (pe (dG D) n s) = some (bo D n s) := by
  intro n
  induction n with
  | zero => intro s _; rfl
  | succ n ih =>
    intro s hs
    have key : ∀ m, m ≤ dG D → fm (sumO D s) none (((List.range m).filter (fun g => !s.testBit g)).flatMap (fun g => (pe (dG D) n (s ||| 2 ^ g)).map (fun o => g :: o))) = (am s (fun g => dsz D (s ||| 2 ^ g) + sumO D (s ||| 2 ^ g) (bo D n (s ||| 2 ^ g))) m).map (fun g => g :: bo D n (s ||| 2 ^ g)) := by
      intro m
      induction m with
      | zero => intro _; rfl
      | succ m ihm =>
        intro hm
        rw [List.range_succ, List.filter_append, List.flatMap_append, fm_app, ihm (by omega), am]
        cases e : s.testBit m with
        | true => simp [e]; cases am s _ m <;> rfl
        | false =>
          rw [if_neg (by simp)]
          have e1 : List.filter (fun g => !s.testBit g) [m] = [m] := by simp [e]
          have e2 : fm (sumO D (s ||| 2 ^ m)) none (pe (dG D) n (s ||| 2 ^ m)) = some (bo D n (s ||| 2 ^ m)) := ih _ (by rw [qcd_set e (by omega)]; omega)
          have e3 : fm (sumO D s) none ((pe (dG D) n (s ||| 2 ^ m)).map (fun o => m :: o)) = some (m :: bo D n (s ||| 2 ^ m)) := by
            have := fm_map D s m (pe (dG D) n (s ||| 2 ^ m)) none
            rw [e2] at this
            exact this
          rw [e1, List.flatMap_cons, List.flatMap_nil, List.append_nil]
          cases e4 : am s (fun g => dsz D (s ||| 2 ^ g) + sumO D (s ||| 2 ^ g) (bo D n (s ||| 2 ^ g))) m with
          | none => exact e3
          | some b =>
            rw [Option.map_some, fm_some, e3]
            simp only
            have e5 : ∀ z, sumO D s (z :: bo D n (s ||| 2 ^ z)) = dsz D (s ||| 2 ^ z) + sumO D (s ||| 2 ^ z) (bo D n (s ||| 2 ^ z)) := fun _ => rfl
            rw [e5, e5]
            by_cases e6 : dsz D (s ||| 2 ^ b) + sumO D (s ||| 2 ^ b) (bo D n (s ||| 2 ^ b)) ≤ dsz D (s ||| 2 ^ m) + sumO D (s ||| 2 ^ m) (bo D n (s ||| 2 ^ m))
            · rw [if_pos e6, if_neg (by omega)]; rfl
            · rw [if_neg e6, if_pos (by omega)]; rfl
    have := key (dG D) (Nat.le_refl _)
    rw [pe, this, bo]
    obtain ⟨b, hb⟩ := am_ex (s := s) (fun g => dsz D (s ||| 2 ^ g) + sumO D (s ||| 2 ^ g) (bo D n (s ||| 2 ^ g))) (n := dG D) (by omega)
    rw [hb]; rfl
/-! the order of the data -/
def dor (D : qD) (i : Nat) : Nat := (bo D (dG D) 0).getD i 0
def dps (D : qD) : Nat → Nat
  | 0 => 0
  | i + 1 => dps D i ||| 2 ^ dor D i
def la (D : qD) (s : Nat) : Nat := sumO D s (bo D (dG D - qcb s.testBit (dG D)) s)
def dsf (D : qD) (s g : Nat) : Nat := dsz D (s ||| 2 ^ g) + la D (s ||| 2 ^ g)
theorem q_setG {s g n : Nat} (hs : s < 2 ^ n) (hg : g < n) : s ||| 2 ^ g < 2 ^ n := Nat.or_lt_two_pow hs (Nat.pow_lt_pow_right (by omega) hg)
theorem bo_s {D : qD} {n s : Nat} (h : qcb s.testBit (dG D) + (n + 1) = dG D) : ∃ g, am s (dsf D s) (dG D) = some g ∧ bo D (n + 1) s = g :: bo D n (s ||| 2 ^ g) := by
  obtain ⟨g, hg⟩ := am_ex (s := s) (dsf D s) (n := dG D) (by omega)
  refine ⟨g, hg, ?_⟩
  have e : am s (fun g => dsz D (s ||| 2 ^ g) + sumO D (s ||| 2 ^ g) (bo D n (s ||| 2 ^ g))) (dG D) = am s (dsf D s) (dG D) := by
    apply am_congr
    intro z hz hn
    unfold dsf la
    rw [qcd_set hn hz, show dG D - (qcb s.testBit (dG D) + 1) = n by omega]
  rw [bo, e, hg]; rfl
theorem la_s {D : qD} {s g : Nat} (h : qcb s.testBit (dG D) < dG D) (hg : am s (dsf D s) (dG D) = some g) : la D s = dsf D s g := by
  obtain ⟨n, hn⟩ : ∃ n, qcb s.testBit (dG D) + (n + 1) = dG D := ⟨dG D - qcb s.testBit (dG D) - 1, by omega⟩
  obtain ⟨g', h1, h2⟩ := bo_s hn
  rw [hg] at h1
  cases h1
  have := am_some hg
  unfold la dsf la
  rw [show dG D - qcb s.testBit (dG D) = n + 1 by omega, h2, qcd_set this.2 this.1, show dG D - (qcb s.testBit (dG D) + 1) = n by omega]
  rfl
theorem q_b0 (n : Nat) : qcb (0 : Nat).testBit n = 0 := by
  induction n with
  | zero => rfl
  | succ n ih => show qcb _ n + ((0 : Nat).testBit n).toNat = 0; rw [ih, Nat.zero_testBit]; rfl
theorem dps_b {D : qD} : ∀ i, i ≤ dG D → qcb (dps D i).testBit (dG D) = i ∧ dps D i < 2 ^ dG D ∧ (bo D (dG D) 0).drop i = bo D (dG D - i) (dps D i) := by
  intro i
  induction i with
  | zero => intro _; exact ⟨q_b0 _, Nat.two_pow_pos _, rfl⟩
  | succ i ih =>
    intro hi
    obtain ⟨a, b, c⟩ := ih (by omega)
    obtain ⟨n, hn⟩ : ∃ n, i + (n + 1) = dG D := ⟨dG D - i - 1, by omega⟩
    obtain ⟨g, h1, h2⟩ := bo_s (D := D) (n := n) (s := dps D i) (by omega)
    have hg := am_some h1
    rw [show dG D - i = n + 1 by omega, h2] at c
    have e : dor D i = g := by
      unfold dor
      have : ((bo D (dG D) 0).drop i).head? = some g := by rw [c]; rfl
      rw [List.head?_drop] at this
      rw [List.getD_eq_getElem?_getD, this]; rfl
    have e2 : dps D (i + 1) = dps D i ||| 2 ^ g := by rw [dps, e]
    refine ⟨by rw [e2, qcd_set hg.2 hg.1, a], by rw [e2]; exact q_setG b hg.1, ?_⟩
    rw [e2, show dG D - (i + 1) = n by omega, ← List.tail_drop, c]; rfl
theorem dor_b {D : qD} {i : Nat} (hi : i < dG D) : am (dps D i) (dsf D (dps D i)) (dG D) = some (dor D i) ∧ dor D i < dG D ∧ (dps D i).testBit (dor D i) = false := by
  obtain ⟨a, b, c⟩ := dps_b (D := D) i (by omega)
  obtain ⟨n, hn⟩ : ∃ n, i + (n + 1) = dG D := ⟨dG D - i - 1, by omega⟩
  obtain ⟨g, h1, h2⟩ := bo_s (D := D) (n := n) (s := dps D i) (by omega)
  rw [show dG D - i = n + 1 by omega, h2] at c
  have e : dor D i = g := by
    unfold dor
    have : ((bo D (dG D) 0).drop i).head? = some g := by rw [c]; rfl
    rw [List.head?_drop] at this
    rw [List.getD_eq_getElem?_getD, this]; rfl
  rw [e]
  exact ⟨h1, am_some h1⟩
theorem bo_len {D : qD} : ∀ n s, (bo D n s).length = n := by
  intro n
  induction n with
  | zero => intro s; rfl
  | succ n ih => intro s; rw [bo, List.length_cons, ih]
/-! how great the sums may be -/
def bd : Nat → Nat → Nat
  | _, 0 => 0
  | c, n + 1 => 30 ^ (c + 1) + bd (c + 1) n
theorem bd_le : ∀ c, c < 7 → ∀ n, n < 7 → c + n ≤ 6 → bd c n ≤ 754137930 := by decide +kernel
theorem bo_le {D : qD} (w : qW D) : ∀ n s, qcb s.testBit (dG D) + n = dG D → sumO D s (bo D n s) ≤ bd (qcb s.testBit (dG D)) n := by
  intro n
  induction n with
  | zero => intro s _; exact Nat.le_refl 0
  | succ n ih =>
    intro s h
    obtain ⟨g, h1, h2⟩ := bo_s h
    have hg := am_some h1
    have h3 := ih (s ||| 2 ^ g) (by rw [qcd_set hg.2 hg.1]; omega)
    have h4 := dsz_le w (s ||| 2 ^ g)
    rw [qcd_set hg.2 hg.1] at h3 h4
    rw [h2, bd]
    show dsz D (s ||| 2 ^ g) + sumO D (s ||| 2 ^ g) (bo D n (s ||| 2 ^ g)) ≤ _
    omega
theorem la_le {D : qD} (w : qW D) (s : Nat) : la D s ≤ 754137930 := by
  have G6 := w.2.1
  have h := qcb_le s.testBit (dG D)
  exact Nat.le_trans (bo_le w (dG D - qcb s.testBit (dG D)) s (by omega)) (bd_le _ (by omega) _ (by omega) (by omega))
theorem dsf_le {D : qD} (w : qW D) {s g : Nat} : dsf D s g < 2 ^ 31 := by
  have h1 := la_le w (s ||| 2 ^ g)
  have h2 := dsz_lt w (s ||| 2 ^ g)
  unfold dsf
  omega
/-! orders one after another -/
def n7 (o : Nat → Nat) : Nat → Option Nat
  | 0 => none
  | i + 1 => if o i ≤ o (i + 1) then some i else n7 o i
def n47 (o : Nat → Nat) (i : Nat) : Nat → Nat
  | 0 => 0
  | j + 1 => if o i ≤ o (j + 1) then j + 1 else n47 o i j
def nsw (o : Nat → Nat) (i j : Nat) : Nat → Nat := fun k => if k = j then o i else if k = i then o j else o k
def n86 : Nat → (Nat → Nat) → Nat → Nat → Nat → Nat
  | 0, o, _, _ => o
  | n + 1, o, i, j => if j ≤ i then o else n86 n (nsw o i j) (i + 1) (j - 1)
def nls (l : List Nat) : Nat → Nat := fun i => l.getD i 0
def nok (G : Nat) (l l' : List Nat) : Bool := match n7 (nls l) (G - 1) with | none => false | some i => decide (nls l i ≤ nls l (n47 (nls l) i (G - 1))) && decide (n47 (nls l) i (G - 1) < G) && ((List.range G).map (n86 6 (nsw (nls l) i (n47 (nls l) i (G - 1))) (i + 1) (G - 1)) == l')
def nch (G : Nat) : List (List Nat) → Bool
  | [] => false
  | l :: r => l.all (fun g => decide (g < G)) && (l.length == G) && (match r with | [] => (n7 (nls l) (G - 1)).isNone | l' :: _ => nok G l l' && nch G r)
theorem nch_pe : ∀ G, G < 7 → 0 < G → nch G (pe G G 0) = true ∧ (pe G G 0).head? = some (List.range G) ∧ (pe G G 0).length ≤ 720 := by decide +kernel
