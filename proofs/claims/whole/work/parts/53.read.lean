/-! more reads of the house -/
theorem b01_i0 {α : Type} (b : Bool) (x y : α) : (if b01 b = 0 then x else y) = (if b = true then y else x) := by cases b <;> rfl
theorem b01_i1 {α : Type} (b : Bool) (x y : α) : (if b01 b = 1 then x else y) = (if b = true then x else y) := by cases b <;> rfl
theorem dju_g {D : qD} {k g s : Nat} (h : dju D k g s = true) : dfi D k = g ∨ dse D k = g := by
  unfold dju dwi at h
  rw [q_settb, q_settb] at h
  by_cases a : g = dfi D k
  · exact Or.inl a.symm
  · by_cases b : g = dse D k
    · exact Or.inr b.symm
    · simp only [a, b, decide_false, Bool.or_false] at h
      revert h
      cases s.testBit (dfi D k) <;> cases s.testBit (dse D k) <;> simp
theorem dju_p {D : qD} {k g s : Nat} (h : dju D k g s = true) : (dfi D k ≠ g → s.testBit (dfi D k) = true) ∧ (dse D k ≠ g → s.testBit (dse D k) = true) := by
  unfold dju dwi at h
  rw [q_settb, q_settb] at h
  constructor
  · intro a
    have a' : ¬ g = dfi D k := fun e => a e.symm
    simp [a'] at h
    exact h.1.1
  · intro a
    have a' : ¬ g = dse D k := fun e => a e.symm
    simp [a'] at h
    exact h.1.2
def dpa (D : qD) (k g : Nat) : Option Nat := if dkd D k = 1 then none else if dfi D k = dse D k then none else if dfi D k = g then some (dse D k) else some (dfi D k)
def o32 (o : Option Nat) : Int32 := match o with | none => -1 | some n => nI n
theorem c_partner {D : qD} {M : jM} {F : jF} (w : qW D) (h : qRC D M F) {k g : Nat} (hk : k < dC D) (hg : g < 6) (hj : dkd D k = 1 → dfi D k = g) : fQu_partner (nI k) (nI g) M F = some (o32 (dpa D k g)) := by
  have k12 := qW_k w hk
  obtain ⟨_, f1, _, s1, _, _⟩ := w.2.2.2.2 k hk
  have g6 := w.2.1
  obtain ⟨h11, h12, h13, h14, h15, h16⟩ := h.2.2.2.2.2.2 k hk
  show fQu_partner_0 _ _ M F = _
  unfold fQu_partner_0 dpa
  rw [q_ibt k12 (by omega), nI_clamp (by omega), h12, h14]
  by_cases e : dkd D k = 1
  · rw [if_pos e, if_pos rfl, if_pos rfl, if_neg (q_m1 (by omega)), if_pos rfl, if_pos (by rw [hj e]), if_pos rfl, if_pos e]; rfl
  · rw [if_neg e, if_pos rfl, if_pos rfl, if_neg e]
    by_cases f : dfi D k = dse D k
    · rw [if_pos (by rw [f]), if_pos f]; rfl
    · rw [if_neg (fun z => f ((nI_eq (by omega) (by omega)).mp z)), if_neg f, if_pos rfl]
      by_cases q : dfi D k = g
      · rw [if_pos (by rw [q]), if_pos rfl, if_pos q]; rfl
      · rw [if_neg (fun z => q ((nI_eq (by omega) (by omega)).mp z)), if_pos rfl, if_neg q]; rfl
theorem c_tellsValue {D : qD} {M : jM} {F : jF} (w : qW D) (h : qRC D M F) {k s g : Nat} (hk : k < dC D) (hs : s < 64) (hg : g < 6) : fQu_tellsValue (nI k) (nI g) (nI s) M F = some (b01 (dti D k g s)) := by
  have k12 := qW_k w hk
  have k2 := (w.2.2.2.2 k hk).1
  obtain ⟨_, f1, _, s1, _, se⟩ := w.2.2.2.2 k hk
  have g6 := w.2.1
  obtain ⟨h11, h12, h13, h14, h15, h16⟩ := h.2.2.2.2.2.2 k hk
  show fQu_tellsValue_0 _ _ _ M F = _
  unfold fQu_tellsValue_0 dti
  rw [c_isJudgedAt w h hk hs hg, Option.bind_some, b01_i0, q_ibt k12 (by omega), nI_clamp (by omega), h11]
  by_cases j : dju D k g s = true
  · rw [if_pos j, if_pos rfl, j, Bool.true_and]
    by_cases e : dkd D k = 1
    · rw [if_pos (by rw [e]; rfl), decide_eq_true e]; rfl
    · rw [if_neg (fun z => e ((q_1 (by omega)).mp z)), if_pos rfl, decide_eq_false e, Bool.false_or]
      by_cases e0 : dkd D k = 0
      · rw [if_pos (by rw [e0]; rfl), decide_eq_true e0, Bool.true_and, c_partner w h hk hg (fun z => absurd z e), Option.bind_some]
        unfold dpa
        rw [if_neg e]
        by_cases f : dfi D k = dse D k
        · rw [if_pos f]; simp [o32, f]; rfl
        · rw [if_neg f]
          by_cases q : dfi D k = g
          · rw [if_pos q]; simp [o32, f, q_m1 (show dse D k < 2 ^ 31 by omega)]; rfl
          · rw [if_neg q]; simp [o32, f, q_m1 (show dfi D k < 2 ^ 31 by omega)]; rfl
      · rw [if_neg (fun z => e0 ((q_0 (by omega)).mp z)), decide_eq_false e0]; rfl
  · rw [if_neg j, Bool.eq_false_iff.mpr j]; rfl
theorem c_hasIndex {D : qD} {M : jM} {F : jF} (w : qW D) (h : qRC D M F) {t c : Nat} (ht : t < 6) (hc : c < 4) : fTa_hasIndex (nI t) (nI c) M F = some (b01 ((didx D t).testBit c)) := by
  have := (w.1 t ht).2
  show fTa_hasIndex_0 _ _ M F = _
  unfold fTa_hasIndex_0
  rw [q_ibt ht (by omega), if_pos rfl, nI_clamp (by omega), (h.2.2.1 t ht).2]
  by_cases e : (didx D t).testBit c = true
  · rw [if_neg (by rw [q_in (by omega) (by omega)]; simp [e]), e]; rfl
  · rw [if_pos (by rw [q_in (by omega) (by omega)]; simpa using e), Bool.eq_false_iff.mpr e]; rfl
theorem b01_bo (b : Bool) : jbo (b01 b) = true := by cases b <;> decide
theorem c_tellsByIndex {D : qD} {M : jM} {F : jF} (w : qW D) (h : qRC D M F) {k g : Nat} (hk : k < dC D) (hg : g < dG D) (hj : dkd D k = 1 → dfi D k = g) : fQu_tellsByIndex (nI k) (nI g) M F = some (b01 (dix D k g)) := by
  have k12 := qW_k w hk
  obtain ⟨_, f1, fc, s1, sc, _⟩ := w.2.2.2.2 k hk
  obtain ⟨g6, gt, _⟩ := qW_g w hg
  have G6 := w.2.1
  obtain ⟨h11, h12, h13, h14, h15, h16⟩ := h.2.2.2.2.2.2 k hk
  show fQu_tellsByIndex_0 _ _ M F = _
  unfold fQu_tellsByIndex_0 dix dco
  rw [q_ibt k12 (by omega), nI_clamp (by omega), h12, h13, h15, if_pos rfl, if_pos rfl]
  unfold fQu_tellsByIndex_25
  rw [q_ibt g6 (by omega), nI_clamp (show g < 2 ^ 31 by omega), h.2.2.2.2.2.1 g hg]
  by_cases q : dfi D k = g
  · rw [if_pos (by rw [q]), if_pos rfl, c_hasIndex w h gt fc, Option.bind_some, b01_bo, if_pos rfl, if_pos q]
  · have e : ¬ dkd D k = 1 := fun z => q (hj z)
    rw [if_neg (fun z => q ((nI_eq (by omega) (by omega)).mp z)), if_pos rfl, if_pos rfl, if_neg e, c_hasIndex w h gt (sc e), Option.bind_some, b01_bo, if_pos rfl, if_neg q]
theorem dun_le {D : qD} {t c : Nat} : dun D t c ≤ dcnt D t := by
  unfold dun
  generalize dcnt D t = n
  generalize dfr D t c = p
  induction n with
  | zero => exact Nat.le_refl 0
  | succ n ih => show qcb p n + (p n).toNat ≤ n + 1; have := Bool.toNat_le (p n); omega
theorem dsp_le {D : qD} (w : qW D) {g c : Nat} (hg : g < dG D) : 1 ≤ dsp D g c ∧ dsp D g c ≤ 30 := by
  have := (qW_g w hg).2.2
  unfold dn at this
  have := @dun_le D (dtb D g) c
  unfold dsp
  split <;> omega
theorem ddv_le {D : qD} (w : qW D) {k : Nat} (hk : k < dC D) : 1 ≤ ddv D k ∧ ddv D k ≤ 30 := by
  obtain ⟨_, f1, _, s1, _, _⟩ := w.2.2.2.2 k hk
  have := dsp_le (c := dfc D k) w f1
  have := dsp_le (c := dsc D k) w s1
  unfold ddv
  split
  · omega
  · split
    · omega
    · split <;> omega
theorem c_spread {D : qD} {M : jM} {F : jF} (w : qW D) (h : qRC D M F) {g c : Nat} (hg : g < dG D) (hc : c < 4) : fTa_spread (nI (dtb D g)) (nI c) M F = some (nI (dsp D g c)) := by
  obtain ⟨g6, gt, gn⟩ := qW_g w hg
  have := @dun_le D (dtb D g) c
  unfold dn at gn
  show fTa_spread_0 _ _ M F = _
  unfold fTa_spread_0 dsp
  rw [qn_4, pk_mul, nI_add, q_ibt (by omega) (by omega), if_pos rfl, nI_clamp (by omega), h.2.2.2.2.1 _ c gt hc]
  by_cases q : 1 < dun D (dtb D g) c
  · rw [if_pos q, qn_1, if_pos (nI_lt q (by omega))]
  · rw [if_neg q, qn_1, if_neg (fun z => q ((nI_ltI (by omega) (by omega)).mp z))]
theorem c_divisor {D : qD} {M : jM} {F : jF} (w : qW D) (h : qRC D M F) {k : Nat} (hk : k < dC D) : fQu_divisor (nI k) M F = some (nI (ddv D k)) := by
  have k12 := qW_k w hk
  obtain ⟨k2, f1, fc, s1, sc, _⟩ := w.2.2.2.2 k hk
  have G6 := w.2.1
  obtain ⟨h11, h12, h13, h14, h15, h16⟩ := h.2.2.2.2.2.2 k hk
  have e1 := dsp_le (c := dfc D k) w f1
  have e2 := dsp_le (c := dsc D k) w s1
  show fQu_divisor_0 _ M F = _
  unfold fQu_divisor_0 ddv
  rw [q_ibt k12 (by omega), nI_clamp (by omega), h11, h12, h13, h14, h15]
  by_cases a : dkd D k = 2
  · rw [if_pos rfl, if_pos (by rw [a]; rfl), if_pos a]; rfl
  · rw [if_pos rfl, if_neg (fun z => a ((q_2 (by omega)).mp z)), if_neg a, if_pos rfl, q_ibt (by omega) (by omega), if_pos rfl, if_pos rfl, nI_clamp (show dfi D k < 2 ^ 31 by omega), h.2.2.2.2.2.1 _ f1, c_spread w h f1 fc, Option.bind_some, if_pos rfl]
    by_cases b : dkd D k = 1
    · rw [if_pos (by rw [b]; rfl), if_pos b]
    · rw [if_neg (fun z => b ((q_1 (by omega)).mp z)), if_neg b, if_neg b, if_pos rfl, q_ibt (by omega) (by omega), if_pos rfl, if_pos rfl, nI_clamp (show dse D k < 2 ^ 31 by omega), h.2.2.2.2.2.1 _ s1, if_neg b, c_spread w h s1 (sc b), Option.bind_some]
      by_cases q : dsp D (dfi D k) (dfc D k) < dsp D (dse D k) (dsc D k)
      · rw [if_pos q, if_pos (nI_lt q (by omega))]
      · rw [if_neg q, if_neg (fun z => q ((nI_ltI (by omega) (by omega)).mp z))]
theorem c_holds {D : qD} {M : jM} {F : jF} (w : qW D) (h : qRC D M F) {k g r o : Nat} (hk : k < dC D) (hg : g < 6) (ha : (if dfi D k = g then r else o) < dn D (dfi D k)) (hb : dkd D k ≠ 1 → (if dse D k = g then r else o) < dn D (dse D k)) :
    fQu_holds (nI k) (nI g) (nI r) (nI o) M F = some (b01 (dho D k (if dfi D k = g then r else o) (if dse D k = g then r else o))) := by
  have k12 := qW_k w hk
  obtain ⟨k2, f1, fc, s1, sc, _⟩ := w.2.2.2.2 k hk
  have G6 := w.2.1
  obtain ⟨h11, h12, h13, h14, h15, h16⟩ := h.2.2.2.2.2.2 k hk
  show fQu_holds_0 _ _ _ _ M F = _
  unfold fQu_holds_0
  rw [q_ibt k12 (by omega), nI_clamp (by omega), h12, if_pos rfl]
  have e1 : (if nI (dfi D k) = nI g then fQu_holds_20 (nI k) (nI g) (nI r) (nI o) (nI (dfi D k)) (nI r) M F else fQu_holds_20 (nI k) (nI g) (nI r) (nI o) (nI (dfi D k)) (nI o) M F) = fQu_holds_20 (nI k) (nI g) (nI r) (nI o) (nI (dfi D k)) (nI (if dfi D k = g then r else o)) M F := by
    by_cases q : dfi D k = g
    · rw [if_pos (by rw [q]), if_pos q]
    · rw [if_neg (fun z => q ((nI_eq (by omega) (by omega)).mp z)), if_neg q]
  rw [e1]
  generalize (if dfi D k = g then r else o) = a at *
  unfold fQu_holds_20
  rw [q_ibt k12 (by omega), q_ibt (show dfi D k < 6 by omega) (by omega), nI_clamp (show k < 2 ^ 31 by omega), nI_clamp (show dfi D k < 2 ^ 31 by omega), h11, h13, h14, h15, if_pos rfl, if_pos rfl, h.2.2.2.2.2.1 _ f1, c_value w h (qW_g w f1).2.1 ha fc, Option.bind_some, if_pos rfl, if_pos rfl]
  unfold dho dv
  by_cases b : dkd D k = 1
  · rw [if_pos (by rw [b]; rfl), if_pos b, if_pos b]
    by_cases z : dcel D (dtb D (dfi D k)) a (dfc D k) = dnu D k
    · rw [if_pos z, decide_eq_true z]; rfl
    · rw [if_neg z, decide_eq_false z]; rfl
  · rw [if_neg (fun z => b ((q_1 (by omega)).mp z)), if_neg b, if_pos rfl]
    have e2 : (if nI (dse D k) = nI g then fQu_holds_93 (nI k) (dcel D (dtb D (dfi D k)) a (dfc D k)) (nI (dse D k)) (nI r) M F else fQu_holds_93 (nI k) (dcel D (dtb D (dfi D k)) a (dfc D k)) (nI (dse D k)) (nI o) M F) = fQu_holds_93 (nI k) (dcel D (dtb D (dfi D k)) a (dfc D k)) (nI (dse D k)) (nI (if dse D k = g then r else o)) M F := by
      by_cases q : dse D k = g
      · rw [if_pos (by rw [q]), if_pos q]
      · rw [if_neg (fun z => q ((nI_eq (by omega) (by omega)).mp z)), if_neg q]
    rw [e2]
    have hb := hb b
    generalize (if dse D k = g then r else o) = c at *
    unfold fQu_holds_93
    rw [q_ibt k12 (by omega), q_ibt (show dse D k < 6 by omega) (by omega), nI_clamp (show k < 2 ^ 31 by omega), nI_clamp (show dse D k < 2 ^ 31 by omega), h11, h15, if_pos rfl, if_pos rfl, h.2.2.2.2.2.1 _ s1, if_neg b, c_value w h (qW_g w s1).2.1 hb (sc b), Option.bind_some, if_pos rfl]
    by_cases a2 : dkd D k = 2
    · rw [if_pos (by rw [a2]; rfl), if_pos a2, if_neg b]
      by_cases z : dcel D (dtb D (dse D k)) c (dsc D k) ≤ dcel D (dtb D (dfi D k)) a (dfc D k)
      · rw [if_pos z, decide_eq_false (fun y => y z)]; rfl
      · rw [if_neg z, decide_eq_true z]; rfl
    · rw [if_neg (fun z => a2 ((q_2 (by omega)).mp z)), if_neg a2, if_neg b]
      by_cases z : dcel D (dtb D (dfi D k)) a (dfc D k) = dcel D (dtb D (dse D k)) c (dsc D k)
      · rw [if_pos z, decide_eq_true z]; rfl
      · rw [if_neg z, decide_eq_false z]; rfl
