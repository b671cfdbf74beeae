/-! the data that both sides hold -/
abbrev qD : Type := (Nat → Nat) × (Nat → Nat → Nat → Int32) × (Nat → Nat) × Nat × (Nat → Nat) × Nat × (Nat → Nat) × (Nat → Nat) × (Nat → Nat) × (Nat → Nat) × (Nat → Nat) × (Nat → Int32)
def dcnt (D : qD) : Nat → Nat := D.1
def dcel (D : qD) : Nat → Nat → Nat → Int32 := D.2.1
def didx (D : qD) : Nat → Nat := D.2.2.1
def dG (D : qD) : Nat := D.2.2.2.1
def dtb (D : qD) : Nat → Nat := D.2.2.2.2.1
def dC (D : qD) : Nat := D.2.2.2.2.2.1
def dkd (D : qD) : Nat → Nat := D.2.2.2.2.2.2.1
def dfi (D : qD) : Nat → Nat := D.2.2.2.2.2.2.2.1
def dfc (D : qD) : Nat → Nat := D.2.2.2.2.2.2.2.2.1
def dse (D : qD) : Nat → Nat := D.2.2.2.2.2.2.2.2.2.1
def dsc (D : qD) : Nat → Nat := D.2.2.2.2.2.2.2.2.2.2.1
def dnu (D : qD) : Nat → Int32 := D.2.2.2.2.2.2.2.2.2.2.2
def dfr (D : qD) (t c r : Nat) : Bool := (List.range r).all (fun q => dcel D t q c != dcel D t r c)
def dun (D : qD) (t c : Nat) : Nat := qcb (dfr D t c) (dcnt D t)
def dn (D : qD) (g : Nat) : Nat := dcnt D (dtb D g)
def dv (D : qD) (g r c : Nat) : Int32 := dcel D (dtb D g) r c
def dsp (D : qD) (g c : Nat) : Nat := if 1 < dun D (dtb D g) c then dun D (dtb D g) c else 1
def ddv (D : qD) (k : Nat) : Nat := if dkd D k = 2 then 3 else if dkd D k = 1 then dsp D (dfi D k) (dfc D k) else if dsp D (dfi D k) (dfc D k) < dsp D (dse D k) (dsc D k) then dsp D (dse D k) (dsc D k) else dsp D (dfi D k) (dfc D k)
def dwi (D : qD) (k s : Nat) : Bool := s.testBit (dfi D k) && s.testBit (dse D k)
def dju (D : qD) (k g s : Nat) : Bool := dwi D k (s ||| 2 ^ g) && !dwi D k s
def dti (D : qD) (k g s : Nat) : Bool := dju D k g s && (decide (dkd D k = 1) || (decide (dkd D k = 0) && decide (dfi D k ≠ dse D k)))
def dco (D : qD) (k g : Nat) : Nat := if dfi D k = g then dfc D k else dsc D k
def dix (D : qD) (k g : Nat) : Bool := (didx D (dtb D g)).testBit (dco D k g)
def dho (D : qD) (k a b : Nat) : Bool := if dkd D k = 1 then decide (dv D (dfi D k) a (dfc D k) = dnu D k) else if dkd D k = 2 then decide (¬ dv D (dse D k) b (dsc D k) ≤ dv D (dfi D k) a (dfc D k)) else decide (dv D (dfi D k) a (dfc D k) = dv D (dse D k) b (dsc D k))
def qW (D : qD) : Prop := (∀ t, t < 6 → dcnt D t ≤ 30 ∧ didx D t < 16) ∧ dG D ≤ 6 ∧ (∀ g, g < dG D → dtb D g < 6) ∧ dC D ≤ 12 ∧ (∀ k, k < dC D → dkd D k ≤ 2 ∧ dfi D k < dG D ∧ dfc D k < 4 ∧ dse D k < dG D ∧ (dkd D k ≠ 1 → dsc D k < 4) ∧ (dkd D k = 1 → dse D k = dfi D k))
def qRC (D : qD) (M : jM) (F : jF) : Prop := F 0 = nI (dG D) ∧ F 1 = nI (dC D) ∧ (∀ t, t < 6 → M 7 t = nI (dcnt D t) ∧ M 8 t = nI (didx D t)) ∧ (∀ t r c, t < 6 → r < dcnt D t → c < 4 → M 6 ((t * 30 + r) * 4 + c) = dcel D t r c) ∧ (∀ t c, t < 6 → c < 4 → M 9 (t * 4 + c) = nI (dun D t c)) ∧ (∀ g, g < dG D → M 10 g = nI (dtb D g)) ∧ (∀ k, k < dC D → M 11 k = nI (dkd D k) ∧ M 12 k = nI (dfi D k) ∧ M 13 k = nI (dfc D k) ∧ M 14 k = (if dkd D k = 1 then -1 else nI (dse D k)) ∧ M 15 k = (if dkd D k = 1 then dnu D k else nI (dsc D k)) ∧ M 16 k = nI (2 ^ dfi D k ||| 2 ^ dse D k))
def qRM (D : qD) (M : jM) (F : jF) : Prop := F 1 = nI (dG D) ∧ F 2 = nI (dC D) ∧ (∀ t, t < 6 → M 2 t = nI (dcnt D t) ∧ M 3 t = nI (didx D t)) ∧ (∀ t r c, t < 6 → r < dcnt D t → c < 4 → M 1 (4 * (30 * t + r) + c) = dcel D t r c) ∧ (∀ g, g < dG D → M 4 g = nI (dtb D g)) ∧ (∀ k, k < dC D → M 5 k = nI (dkd D k) ∧ M 6 k = nI (dfi D k) ∧ M 7 k = nI (dfc D k) ∧ M 8 k = nI (dse D k) ∧ M 9 k = (if dkd D k = 1 then dnu D k else nI (dsc D k)))
theorem qRC_fr {D : qD} {M M' : jM} {F F' : jF} (h : qRC D M F) (hM : ∀ k, k ≤ 16 → M' k = M k) (h0 : F' 0 = F 0) (h1 : F' 1 = F 1) : qRC D M' F' := by
  obtain ⟨a, b, c, d, e, f, g⟩ := h
  refine ⟨by rw [h0, a], by rw [h1, b], ?_, ?_, ?_, ?_, ?_⟩
  · intro t ht; rw [hM 7 (by omega), hM 8 (by omega)]; exact c t ht
  · intro t r q; rw [hM 6 (by omega)]; exact d t r q
  · intro t q; rw [hM 9 (by omega)]; exact e t q
  · intro t; rw [hM 10 (by omega)]; exact f t
  · intro t ht; rw [hM 11 (by omega), hM 12 (by omega), hM 13 (by omega), hM 14 (by omega), hM 15 (by omega), hM 16 (by omega)]; exact g t ht
theorem qRM_fr {D : qD} {M M' : jM} {F F' : jF} (h : qRM D M F) (hM : ∀ k, k ≤ 9 → M' k = M k) (h0 : F' 1 = F 1) (h1 : F' 2 = F 2) : qRM D M' F' := by
  obtain ⟨a, b, c, d, f, g⟩ := h
  refine ⟨by rw [h0, a], by rw [h1, b], ?_, ?_, ?_, ?_⟩
  · intro t ht; rw [hM 2 (by omega), hM 3 (by omega)]; exact c t ht
  · intro t r q; rw [hM 1 (by omega)]; exact d t r q
  · intro t; rw [hM 4 (by omega)]; exact f t
  · intro t ht; rw [hM 5 (by omega), hM 6 (by omega), hM 7 (by omega), hM 8 (by omega), hM 9 (by omega)]; exact g t ht
def b01 (b : Bool) : Int32 := if b then 1 else 0
theorem b01_0 (b : Bool) : (b01 b = 0) = (b = false) := by cases b <;> decide
theorem b01_1 (b : Bool) : (b01 b = 1) = (b = true) := by cases b <;> decide
theorem q_2 {n : Nat} (h : n < 2 ^ 31) : nI n = 2 ↔ n = 2 := by
  rw [show (2 : Int32) = nI 2 from rfl, nI_eq h (by omega)]
theorem q_3 {n : Nat} (h : n < 2 ^ 31) : nI n = 3 ↔ n = 3 := by
  rw [show (3 : Int32) = nI 3 from rfl, nI_eq h (by omega)]
theorem qn_30 : (30 : Int32) = nI 30 := rfl
theorem qn_4 : (4 : Int32) = nI 4 := rfl
theorem qn_5 : (5 : Int32) = nI 5 := rfl
theorem qn_6 : (6 : Int32) = nI 6 := rfl
theorem qn_12 : (12 : Int32) = nI 12 := rfl
theorem qn_32 : (32 : Int32) = nI 32 := rfl
theorem qn_3000 : (3000 : Int32) = nI 3000 := rfl
theorem qn_0 : (0 : Int32) = nI 0 := rfl
theorem qn_1 : (1 : Int32) = nI 1 := rfl
theorem qn_2 : (2 : Int32) = nI 2 := rfl
theorem qn_3 : (3 : Int32) = nI 3 := rfl
theorem q_ifp {P : Prop} {h : Decidable P} {α : Type} {a b : α} (p : P) : (@ite α P h a b) = a := if_pos p
theorem q_ifn {P : Prop} {h : Decidable P} {α : Type} {a b : α} (p : ¬ P) : (@ite α P h a b) = b := if_neg p
/-! reads of the house -/
theorem qW_g {D : qD} (w : qW D) {g : Nat} (hg : g < dG D) : g < 6 ∧ dtb D g < 6 ∧ dn D g ≤ 30 := ⟨by have := w.2.1; omega, w.2.2.1 g hg, (w.1 _ (w.2.2.1 g hg)).1⟩
theorem qW_k {D : qD} (w : qW D) {k : Nat} (hk : k < dC D) : k < 12 := by have := w.2.2.2.1; omega
theorem c_rows {D : qD} {M : jM} {F : jF} (h : qRC D M F) {t : Nat} (ht : t < 6) : fTa_rows (nI t) M F = some (nI (dcnt D t)) := by
  show fTa_rows_0 _ M F = _
  unfold fTa_rows_0
  rw [q_ibt ht (by omega), if_pos rfl, nI_clamp (by omega), (h.2.2.1 t ht).1]
theorem c_rowsOf {D : qD} {M : jM} {F : jF} (w : qW D) (h : qRC D M F) {g : Nat} (hg : g < dG D) : fQu_rowsOf (nI g) M F = some (nI (dn D g)) := by
  obtain ⟨g6, gt, _⟩ := qW_g w hg
  show fQu_rowsOf_0 _ M F = _
  unfold fQu_rowsOf_0
  rw [q_ibt g6 (by omega), if_pos rfl, nI_clamp (by omega), h.2.2.2.2.2.1 g hg, c_rows h gt]
  rfl
theorem c_value {D : qD} {M : jM} {F : jF} (w : qW D) (h : qRC D M F) {t r c : Nat} (ht : t < 6) (hr : r < dcnt D t) (hc : c < 4) : fTa_value (nI t) (nI r) (nI c) M F = some (dcel D t r c) := by
  have hn := (w.1 t ht).1
  show fTa_value_0 _ _ _ M F = _
  unfold fTa_value_0
  rw [qn_30, pk_mul, nI_add, qn_4, pk_mul, nI_add, q_ibt (by omega) (by omega), if_pos rfl, nI_clamp (by omega), h.2.2.2.1 t r c ht hr hc]
theorem c_isWithin {D : qD} {M : jM} {F : jF} (w : qW D) (h : qRC D M F) {k s : Nat} (hk : k < dC D) (hs : s < 64) : fQu_isWithin (nI k) (nI s) M F = some (b01 (dwi D k s)) := by
  have k12 := qW_k w hk
  obtain ⟨_, f1, _, s1, _, _⟩ := w.2.2.2.2 k hk
  have g6 := w.2.1
  show fQu_isWithin_0 _ _ M F = _
  unfold fQu_isWithin_0
  rw [q_ibt k12 (by omega), if_pos rfl, nI_clamp (by omega), (h.2.2.2.2.2.2 k hk).2.2.2.2.2]
  have e := q_wi (dfi D k) (by omega) (dse D k) (by omega) s hs
  unfold dwi
  by_cases q : (s.testBit (dfi D k) && s.testBit (dse D k)) = true
  · rw [if_pos (e.mpr q), q]; rfl
  · rw [if_neg (fun z => q (e.mp z)), Bool.eq_false_iff.mpr q]; rfl
theorem c_isJudgedAt {D : qD} {M : jM} {F : jF} (w : qW D) (h : qRC D M F) {k s g : Nat} (hk : k < dC D) (hs : s < 64) (hg : g < 6) : fQu_isJudgedAt (nI k) (nI g) (nI s) M F = some (b01 (dju D k g s)) := by
  show fQu_isJudgedAt_0 _ _ _ M F = _
  unfold fQu_isJudgedAt_0
  rw [q_set (by omega), c_isWithin w h hk (q_setlt s hs g hg), c_isWithin w h hk hs, Option.bind_some]
  unfold dju
  cases dwi D k (s ||| 2 ^ g)
  · rfl
  · cases dwi D k s <;> rfl
