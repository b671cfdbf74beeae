/-! the plan of the house -/
theorem q_sub1 (x : Int32) : x - 1 = x + (-1) := by rw [Int32.sub_eq_add_neg]
theorem q_s64 {D : qD} (w : qW D) {s : Nat} (h : s < 2 ^ dG D) : s < 64 := Nat.lt_of_lt_of_le h (Nat.le_trans (Nat.pow_le_pow_right (by omega) w.2.1) (by decide))
def qLA (D : qD) (M : jM) (m : Nat) : Prop := (∀ s, s < 2 ^ dG D → M 17 s = nI (dsz D s)) ∧ (∀ s, m ≤ s → s < 2 ^ dG D → M 18 s = nI (la D s))
theorem c_sumFrom {D : qD} {M : jM} {F : jF} (w : qW D) {s g m : Nat} (hL : qLA D M m) (hs : s < 2 ^ dG D) (hg : g < dG D) (hm : m ≤ s ||| 2 ^ g) : fPl_sumFrom (nI s) (nI g) M F = some (nI (dsf D s g)) := by
  have G6 := w.2.1
  have h1 := q_setG hs hg
  have h2 := q_s64 w h1
  show fPl_sumFrom_0 _ _ M F = _
  unfold fPl_sumFrom_0 dsf
  rw [if_neg (show ¬ nI g = -1 from q_m1 (by omega)), q_set (by omega), q_ibt h2 (by omega), if_pos rfl, if_pos rfl, nI_clamp (by omega), hL.1 _ h1, hL.2 _ hm h1, nI_add]
theorem c_sumFromN {M : jM} {F : jF} (x : Int32) : fPl_sumFrom x (-1) M F = some 0 := by
  show fPl_sumFrom_0 _ _ M F = _
  unfold fPl_sumFrom_0
  rw [if_pos rfl]
theorem q_setgt {s g : Nat} (h : s.testBit g = false) : s < s ||| 2 ^ g := by
  have h1 : s ≤ s ||| 2 ^ g := Nat.left_le_or
  have h2 : s ≠ s ||| 2 ^ g := by
    intro e
    have := q_settb s g g
    rw [← e, h] at this
    simp at this
  omega
theorem c_bestAfter4 {D : qD} {M : jM} {F : jF} (w : qW D) (h0 : F 0 = nI (dG D)) {s : Nat} (hL : qLA D M (s + 1)) (hs : s < 2 ^ dG D) :
    ∀ m n g, g + m = dG D → m < n → fPl_bestAfter_4 n (nI s) (o32 (am s (dsf D s) g)) (nI g) M F = some (o32 (am s (dsf D s) (dG D))) := by
  have G6 := w.2.1
  have hs64 := q_s64 w hs
  intro m
  induction m with
  | zero =>
    intro n g hg hn
    obtain ⟨n, rfl⟩ : ∃ z, n = z + 1 := ⟨n - 1, by omega⟩
    rw [fPl_bestAfter_4, h0, if_pos (nI_le (by omega) (by omega)), show g = dG D by omega]
  | succ m ih =>
    intro n g hg hn
    obtain ⟨n, rfl⟩ : ∃ z, n = z + 1 := ⟨n - 1, by omega⟩
    have hg' : g < dG D := by omega
    have e := ih n (g + 1) (by omega) (by omega)
    rw [am] at e
    rw [fPl_bestAfter_4, h0, if_neg (nI_ge (by omega) (by omega)), c_isIn (by omega) (by omega), Option.bind_some, b01_i0, nI_1]
    cases z : s.testBit g with
    | true => rw [if_pos rfl]; rw [z, if_pos rfl] at e; exact e
    | false =>
      rw [if_neg (by simp)]
      rw [z, if_neg (by simp)] at e
      have hb := q_setgt z
      cases z2 : am s (dsf D s) g with
      | none => rw [z2] at e; rw [if_pos (show o32 none = -1 from rfl)]; exact e
      | some b =>
        rw [z2] at e
        have hb2 := am_some z2
        have hb3 := q_setgt hb2.2
        rw [if_neg (show ¬ o32 (some b) = -1 from q_m1 (by omega)), c_sumFrom w hL hs hg' (by omega), Option.bind_some, show o32 (some b) = nI b from rfl, c_sumFrom w hL hs (show b < dG D by omega) (by omega), Option.bind_some, q_ifl (dsf_le w) (dsf_le w)]
        simp only at e
        by_cases z3 : dsf D s b ≤ dsf D s g
        · rw [if_pos z3]; rw [if_pos z3] at e; exact e
        · rw [if_neg z3]; rw [if_neg z3] at e; exact e
theorem c_bestAfter {D : qD} {M : jM} {F : jF} (w : qW D) (h0 : F 0 = nI (dG D)) {s : Nat} (hL : qLA D M (s + 1)) (hs : s < 2 ^ dG D) : fPl_bestAfter (nI s) M F = some (o32 (am s (dsf D s) (dG D))) := by
  have G6 := w.2.1
  exact c_bestAfter4 w h0 hL hs (dG D) jfuel 0 (by omega) (by show _ < 4000; omega)
theorem qcb_full {s n : Nat} (hs : s + 1 < 2 ^ n) : qcb s.testBit n < n := by
  rcases Nat.lt_or_ge (qcb s.testBit n) n with h | h
  · exact h
  · exfalso
    have h2 : ∀ m, qcb s.testBit m = m → ∀ g, g < m → s.testBit g = true := by
      intro m
      induction m with
      | zero => intro _ g hg; omega
      | succ m ih =>
        intro e g hg
        have e1 : qcb s.testBit m + (s.testBit m).toNat = m + 1 := e
        have e2 := qcb_le s.testBit m
        have e3 := Bool.toNat_le (s.testBit m)
        by_cases e4 : g = m
        · subst e4
          cases z : s.testBit g with
          | true => rfl
          | false => rw [z] at e1; simp at e1; omega
        · exact ih (by omega) g (by omega)
    have h3 := h2 n (by have := qcb_le s.testBit n; omega)
    have h4 : s = 2 ^ n - 1 := by
      apply Nat.eq_of_testBit_eq
      intro i
      rw [Nat.testBit_two_pow_sub_one]
      by_cases e : i < n
      · rw [h3 i e]; simp [e]
      · rw [Nat.testBit_lt_two_pow (Nat.lt_of_lt_of_le (show s < 2 ^ n by omega) (Nat.pow_le_pow_right (by omega) (by omega)))]; simp [e]
    omega
theorem qcb_full2 (n : Nat) : qcb (2 ^ n - 1).testBit n = n := by
  apply qcb_all
  intro g hg
  rw [Nat.testBit_two_pow_sub_one]; simp [hg]
theorem c_make68 {D : qD} (w : qW D) {F : jF} (h0 : F 0 = nI (dG D)) :
    ∀ m n i (M : jM), qLA D M 0 → (∀ j, j < i → M 19 j = nI (dor D j)) → i + m = dG D → m < n → ∃ M', fPl_make_68 n (nI (dps D i)) (nI i) M F = some (0, M', F) ∧ (∀ k, k ≠ 19 → M' k = M k) ∧ (∀ j, j < dG D → M' 19 j = nI (dor D j)) := by
  have G6 := w.2.1
  intro m
  induction m with
  | zero =>
    intro n i M hL hM hi hn
    obtain ⟨n, rfl⟩ : ∃ z, n = z + 1 := ⟨n - 1, by omega⟩
    refine ⟨M, ?_, fun _ _ => rfl, fun j hj => hM j (by omega)⟩
    rw [fPl_make_68, h0, if_pos (nI_le (by omega) (by omega))]
  | succ m ih =>
    intro n i M hL hM hi hn
    obtain ⟨n, rfl⟩ : ∃ z, n = z + 1 := ⟨n - 1, by omega⟩
    have hi' : i < dG D := by omega
    obtain ⟨a, b, c⟩ := dor_b hi'
    obtain ⟨d, e, f⟩ := dps_b (D := D) i (by omega)
    have hs := e
    obtain ⟨M', h1, h2, h3⟩ := ih n (i + 1) (jmu M 19 i (nI (dor D i))) ⟨fun s hs => by rw [q_muk (by omega)]; exact hL.1 s hs, fun s hs hs2 => by rw [q_muk (by omega)]; exact hL.2 s (by omega) hs2⟩ (fun j hj => by
      by_cases z : j = i
      · rw [z, q_mus]
      · rw [q_mui z]; exact hM j (by omega)) (by omega) (by omega)
    refine ⟨M', ?_, fun k hk => by rw [h2 k hk, q_mukf hk], h3⟩
    rw [fPl_make_68, h0, if_neg (nI_ge (by omega) (by omega)), c_bestAfter w h0 ⟨hL.1, fun s hs hs2 => hL.2 s (by omega) hs2⟩ hs, a, Option.bind_some, q_ibt (by omega) (by omega), if_pos rfl, if_pos rfl, nI_clamp (by omega), show o32 (some (dor D i)) = nI (dor D i) from rfl, q_mus, q_set (by omega), nI_1, ← h1]
    rfl
theorem am_full {n : Nat} (f : Nat → Nat) : am (2 ^ n - 1) f n = none := by
  cases z : am (2 ^ n - 1) f n with
  | none => rfl
  | some b =>
    have h := am_some z
    have h2 := h.2
    rw [Nat.testBit_two_pow_sub_one] at h2
    simp at h2
    omega
theorem la_full (D : qD) : la D (2 ^ dG D - 1) = 0 := by
  unfold la
  rw [qcb_full2, Nat.sub_self]; rfl
theorem c_make38 {D : qD} (w : qW D) {F : jF} (h0 : F 0 = nI (dG D)) :
    ∀ m n (M : jM), qLA D M m → m ≤ 2 ^ dG D → m < n → ∃ M', fPl_make_38 n (nI m + (-1)) M F = some (0, M', F) ∧ (∀ k, k ≠ 18 → k ≠ 19 → M' k = M k) ∧ (∀ j, j < dG D → M' 19 j = nI (dor D j)) := by
  have G6 := w.2.1
  intro m
  induction m with
  | zero =>
    intro n M hL hm hn
    obtain ⟨n, rfl⟩ : ∃ z, n = z + 1 := ⟨n - 1, by omega⟩
    obtain ⟨M', h1, h2, h3⟩ := c_make68 w h0 (dG D) jfuel 0 M hL (fun j hj => by omega) (by omega) (by show _ < 4000; omega)
    refine ⟨M', ?_, fun k _ hk => h2 k hk, h3⟩
    rw [fPl_make_38, if_pos (by decide)]
    exact h1
  | succ m ih =>
    intro n M hL hm hn
    obtain ⟨n, rfl⟩ : ∃ z, n = z + 1 := ⟨n - 1, by omega⟩
    have hm64 := q_s64 w (show m < 2 ^ dG D by omega)
    have key : ∃ g, am m (dsf D m) (dG D) = g ∧ fPl_sumFrom (nI m) (o32 g) M F = some (nI (la D m)) := by
      by_cases hf : m + 1 = 2 ^ dG D
      · have e : m = 2 ^ dG D - 1 := by omega
        refine ⟨none, by rw [e]; exact am_full _, ?_⟩
        rw [show o32 none = -1 from rfl, c_sumFromN, e, la_full]; rfl
      · have hc := qcb_full (s := m) (show m + 1 < 2 ^ dG D by omega)
        obtain ⟨g, hg⟩ := am_ex (s := m) (dsf D m) hc
        have hg2 := am_some hg
        have hg3 := q_setgt hg2.2
        refine ⟨some g, hg, ?_⟩
        rw [show o32 (some g) = nI g from rfl, c_sumFrom w hL (by omega) hg2.1 (by omega), la_s hc hg]
    obtain ⟨g, hg, hk⟩ := key
    obtain ⟨M', h1, h2, h3⟩ := ih n (jmu M 18 m (nI (la D m))) ⟨fun s hs => by rw [q_muk (by omega)]; exact hL.1 s hs, fun s hs hs2 => by
      by_cases z : s = m
      · rw [z, q_mus]
      · rw [q_mui z]; exact hL.2 s (by omega) hs2⟩ (by omega) (by omega)
    refine ⟨M', ?_, fun k hk hk2 => by rw [h2 k hk hk2, q_mukf hk], h3⟩
    rw [fPl_make_38, pk_m1, if_neg (nI_pos (by omega)), c_bestAfter w h0 hL (by omega), hg, Option.bind_some, hk, Option.bind_some, q_ibt hm64 (by omega), if_pos rfl, nI_clamp (by omega), h1]
theorem c_make14 {D : qD} (w : qW D) {F : jF} (hF : F 0 = nI (dG D)) :
    ∀ m n s (M : jM), qRC D M F → (∀ z, z < s → M 17 z = nI (dsz D z)) → s + m = 2 ^ dG D → m < n → ∃ M', fPl_make_14 n (nI (2 ^ dG D - 1)) (nI s) M F = some (0, M', F) ∧ (∀ k, k ≠ 17 → k ≠ 18 → k ≠ 19 → M' k = M k) ∧ (∀ j, j < dG D → M' 19 j = nI (dor D j)) ∧ (∀ z, z < 2 ^ dG D → M' 17 z = nI (dsz D z)) := by
  have G6 := w.2.1
  have hp : 0 < 2 ^ dG D := Nat.two_pow_pos _
  have hf64 := q_s64 w (show 2 ^ dG D - 1 < 2 ^ dG D by omega)
  intro m
  induction m with
  | zero =>
    intro n s M h hM hs hn
    obtain ⟨n, rfl⟩ : ∃ z, n = z + 1 := ⟨n - 1, by omega⟩
    obtain ⟨M', h1, h2, h3⟩ := c_make38 w hF (2 ^ dG D) jfuel M ⟨fun z hz => hM z (by omega), fun z hz hz2 => by omega⟩ (Nat.le_refl _) (by show _ < 4000; omega)
    refine ⟨M', ?_, fun k hk hk2 hk3 => h2 k hk2 hk3, h3, fun z hz => by rw [h2 17 (by omega) (by omega)]; exact hM z (by omega)⟩
    have e : nI (2 ^ dG D) + (-1) = nI (2 ^ dG D - 1) := by
      obtain ⟨p, hp⟩ : ∃ p, 2 ^ dG D = p + 1 := ⟨2 ^ dG D - 1, by omega⟩
      rw [hp, pk_m1, Nat.add_sub_cancel]
    rw [e] at h1
    rw [fPl_make_14, if_pos (nI_lt (by omega) (by omega)), h1]
  | succ m ih =>
    intro n s M h hM hs hn
    obtain ⟨n, rfl⟩ : ∃ z, n = z + 1 := ⟨n - 1, by omega⟩
    have hs64 := q_s64 w (show s < 2 ^ dG D by omega)
    obtain ⟨M', h1, h2, h3⟩ := ih n (s + 1) (jmu M 17 s (nI (dsz D s))) (qRC_fr h (fun k hk => q_mukf (by omega)) rfl rfl) (fun z hz => by
      by_cases e : z = s
      · rw [e, q_mus]
      · rw [q_mui e]; exact hM z (by omega)) (by omega) (by omega)
    refine ⟨M', ?_, fun k hk hk2 hk3 => by rw [h2 k hk hk2 hk3, q_mukf hk], h3⟩
    rw [fPl_make_14, if_neg (nI_nlt (by omega) (by omega)), c_sizeOf w h hs64, Option.bind_some, q_ibt hs64 (by omega), if_pos rfl, nI_clamp (by omega), nI_1, h1]
def qPC (D : qD) (M : jM) : Prop := (∀ j, j < dG D → M 19 j = nI (dor D j)) ∧ (∀ z, z < 2 ^ dG D → M 17 z = nI (dsz D z))
theorem c_make {D : qD} {M : jM} {F : jF} (w : qW D) (h : qRC D M F) : ∃ M', fPl_make M F = some (0, M', F) ∧ (∀ k, k ≠ 17 → k ≠ 18 → k ≠ 19 → M' k = M k) ∧ qPC D M' := by
  have G6 := w.2.1
  have hp : 2 ^ dG D ≤ 64 := Nat.le_trans (Nat.pow_le_pow_right (by omega) G6) (by decide)
  obtain ⟨M', h1, h2, h3, h4⟩ := c_make14 w h.1 (2 ^ dG D) jfuel 0 M h (fun z hz => by omega) (by omega) (by show _ < 4000; omega)
  refine ⟨M', ?_, h2, h3, h4⟩
  show fPl_make_0 M F = _
  unfold fPl_make_0
  rw [h.1, q_full (by omega)]
  exact h1
theorem c_aheadOf4 {D : qD} {M : jM} {F : jF} (w : qW D) (hP : qPC D M) (i : Nat) (hi : i ≤ dG D) :
    ∀ m n j, j + m = i → m < n → fPl_aheadOf_4 n (nI i) (nI (dps D j)) (nI j) M F = some (nI (dps D i)) := by
  have G6 := w.2.1
  intro m
  induction m with
  | zero =>
    intro n j hj hn
    obtain ⟨n, rfl⟩ : ∃ z, n = z + 1 := ⟨n - 1, by omega⟩
    rw [fPl_aheadOf_4, if_pos (nI_le (by omega) (by omega)), show j = i by omega]
  | succ m ih =>
    intro n j hj hn
    obtain ⟨n, rfl⟩ : ∃ z, n = z + 1 := ⟨n - 1, by omega⟩
    have := dor_b (D := D) (i := j) (by omega)
    rw [fPl_aheadOf_4, if_neg (nI_ge (by omega) (by omega)), q_ibt (by omega) (by omega), if_pos rfl, nI_clamp (by omega), hP.1 j (by omega), q_set (by omega), nI_1]
    exact ih n (j + 1) (by omega) (by omega)
theorem c_aheadOf {D : qD} {M : jM} {F : jF} (w : qW D) (hP : qPC D M) {i : Nat} (hi : i ≤ dG D) : fPl_aheadOf (nI i) M F = some (nI (dps D i)) := by
  have G6 := w.2.1
  exact c_aheadOf4 w hP i hi i jfuel 0 (by omega) (by show _ < 4000; omega)
theorem c_sizeAt {D : qD} {M : jM} {F : jF} (w : qW D) (hP : qPC D M) {i : Nat} (hi : i < dG D) : fPl_sizeAt (nI i) M F = some (nI (dsz D (dps D (i + 1)))) := by
  have G6 := w.2.1
  have h1 := dor_b hi
  have h2 := (dps_b (D := D) (i + 1) (by omega)).2.1
  have h3 := q_s64 w h2
  rw [dps] at h2 h3 ⊢
  show fPl_sizeAt_0 _ M F = _
  unfold fPl_sizeAt_0
  rw [c_aheadOf w hP (by omega), Option.bind_some, q_ibt (by omega) (by omega), if_pos rfl, nI_clamp (show i < 2 ^ 31 by omega), hP.1 i hi, q_set (by omega), q_ibt h3 (by omega), if_pos rfl, nI_clamp (by omega), hP.2 _ h2]
theorem c_methodAt {D : qD} {M : jM} {F : jF} (w : qW D) (h : qRC D M F) (hP : qPC D M) {i : Nat} (hi : i < dG D) : fPl_methodAt (nI i) M F = some (nI (dme D (dor D i) (dps D i))) := by
  have G6 := w.2.1
  have C12 := w.2.2.2.1
  have h1 := dor_b hi
  have h2 := (dps_b (D := D) i (by omega)).2.1
  have h3 := q_s64 w h2
  show fPl_methodAt_0 _ M F = _
  unfold fPl_methodAt_0
  rw [q_ibt (by omega) (by omega), if_pos rfl, c_aheadOf w hP (by omega), Option.bind_some, nI_clamp (show i < 2 ^ 31 by omega), hP.1 i hi, c_condFor w h h3 h1.2.1, Option.bind_some]
  cases e : dcf D (dor D i) (dps D i) with
  | none => rw [if_pos (show o32 none = -1 from rfl), dcf_none.mp e]; rfl
  | some k =>
    obtain ⟨e1, e2⟩ := dcf_some e
    rw [if_neg (show ¬ o32 (some k) = -1 from q_m1 (by omega)), show o32 (some k) = nI k from rfl, c_tellsByIndex w h e1 h1.2.1 (fun y => dti_1 w e1 e2 y), Option.bind_some, b01_i0, dcf_ix e]
    have e3 : dme D (dor D i) (dps D i) ≠ 3 := fun z => by rw [dcf_none.mpr z] at e; cases e
    by_cases z : dme D (dor D i) (dps D i) = 1
    · rw [z]; rfl
    · have z2 : dme D (dor D i) (dps D i) = 2 := by
        revert z e3
        unfold dme
        cases fd (fun k => dti D k (dor D i) (dps D i) && dix D k (dor D i)) 0 (dC D) with
        | some j => intro e3 z; exact absurd rfl z
        | none => cases fd (fun k => dti D k (dor D i) (dps D i) && decide (dkd D k = 0)) 0 (dC D) with
          | some j => intros; rfl
          | none => intro e3 z; exact absurd rfl e3
      rw [z2]; rfl
