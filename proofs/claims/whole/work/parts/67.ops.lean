/-! row -/
theorem c_hasValue3 {M : jM} {F : jF} {t c N : Nat} (ht : t < 6) (hc : c < 4) (h7 : M 7 t = nI N) (hN : N ≤ 30) {A : Nat → Int32} (hA : ∀ r, r < N → M 6 ((t * 30 + r) * 4 + c) = A r) (x : Int32) :
    ∀ m n r, r + m = N → m < n → fTa_hasValue_3 n (nI t) (nI c) x (nI r) M F = some (b01 (!al (fun r => A r != x) r m)) := by
  intro m
  induction m with
  | zero =>
    intro n r hr hn
    obtain ⟨n, rfl⟩ : ∃ z, n = z + 1 := ⟨n - 1, by omega⟩
    rw [fTa_hasValue_3, q_ibt ht (by omega), if_pos rfl, nI_clamp (by omega), h7, if_pos (nI_le (by omega) (by omega)), al]; rfl
  | succ m ih =>
    intro n r hr hn
    obtain ⟨n, rfl⟩ : ∃ z, n = z + 1 := ⟨n - 1, by omega⟩
    have e : fTa_value (nI t) (nI r) (nI c) M F = some (A r) := by
      show fTa_value_0 _ _ _ M F = _
      unfold fTa_value_0
      rw [qn_30, pk_mul, nI_add, qn_4, pk_mul, nI_add, q_ibt (by omega) (by omega), if_pos rfl, nI_clamp (by omega), hA r (by omega)]
    rw [fTa_hasValue_3, q_ibt ht (by omega), if_pos rfl, nI_clamp (by omega), h7, if_neg (nI_ge (by omega) (by omega)), e, Option.bind_some, nI_1, ih n (r + 1) (by omega) (by omega), al]
    by_cases z : A r = x
    · rw [if_pos z, show (A r != x) = false by simpa using z]; rfl
    · rw [if_neg z, show (A r != x) = true by simpa using z, Bool.true_and]
theorem c_put {M : jM} {F : jF} {t c N : Nat} (ht : t < 6) (hc : c < 4) (h7 : M 7 t = nI N) (hN : N < 30) {A : Nat → Int32} (hA : ∀ r, r < N → M 6 ((t * 30 + r) * 4 + c) = A r) (x : Int32) :
    ∃ M', fTa_put (nI t) (nI c) x M F = some (0, M', F) ∧ M' 9 (t * 4 + c) = M 9 (t * 4 + c) + nI (al (fun r => A r != x) 0 N).toNat ∧ (∀ i, i ≠ t * 4 + c → M' 9 i = M 9 i) ∧ M' 6 ((t * 30 + N) * 4 + c) = x ∧ (∀ i, i ≠ (t * 30 + N) * 4 + c → M' 6 i = M 6 i) ∧ (∀ k, k ≠ 6 → k ≠ 9 → M' k = M k) := by
  have e : fTa_hasValue (nI t) (nI c) x M F = some (b01 (!al (fun r => A r != x) 0 N)) := c_hasValue3 ht hc h7 (by omega) hA x N jfuel 0 (by omega) (by show _ < 4000; omega)
  have e24 : ∀ M1 : jM, M1 7 t = nI N → fTa_put_24 (nI t) (nI c) x M1 F = some (0, jmu M1 6 ((t * 30 + N) * 4 + c) x, F) := by
    intro M1 h1
    unfold fTa_put_24
    rw [q_ibt ht (by omega), if_pos rfl, nI_clamp (show t < 2 ^ 31 by omega), h1, qn_30, pk_mul, nI_add, qn_4, pk_mul, nI_add, q_ibt (by omega) (by omega), if_pos rfl, nI_clamp (by omega)]
  cases z : al (fun r => A r != x) 0 N with
  | false =>
    refine ⟨jmu M 6 ((t * 30 + N) * 4 + c) x, ?_, ?_, fun i hi => q_muk (by decide), q_mus, fun i hi => q_mui hi, fun k hk _ => q_mukf hk⟩
    · show fTa_put_0 _ _ x M F = _
      unfold fTa_put_0
      rw [e, Option.bind_some, z, b01_i0, if_pos (show (!false) = true from rfl), e24 M h7]
    · rw [q_muk (by decide)]
      show _ = _ + 0
      rw [Int32.add_zero]
  | true =>
    refine ⟨jmu (jmu M 9 (t * 4 + c) (M 9 (t * 4 + c) + 1)) 6 ((t * 30 + N) * 4 + c) x, ?_, ?_, fun i hi => by rw [q_muk (by decide), q_mui hi], q_mus, fun i hi => by rw [q_mui hi, q_muk (by decide)], fun k hk hk2 => by rw [q_mukf hk, q_mukf hk2]⟩
    · show fTa_put_0 _ _ x M F = _
      unfold fTa_put_0
      rw [e, Option.bind_some, z, b01_i0, if_neg (by simp), qn_4, pk_mul, nI_add, q_ibt (by omega) (by omega), if_pos rfl, if_pos rfl, nI_clamp (by omega), e24 _ (by rw [q_muk (by decide)]; exact h7)]
    · rw [q_muk (by decide), q_mus]; rfl
def xrow (x0 x1 x2 x3 : Int32) (c : Nat) : Int32 := if c = 0 then x0 else if c = 1 then x1 else if c = 2 then x2 else x3
def d_row (D : qD) (t : Nat) (xs : Nat → Int32) : qD := (fun z => if z = t then dcnt D t + 1 else dcnt D z, fun z r c => if z = t ∧ r = dcnt D t then xs c else dcel D z r c, D.2.2)
def qAP (D : qD) (t : Nat) (xs : Nat → Int32) (M : jM) (c0 : Nat) (M' : jM) : Prop := (∀ k, k ≠ 6 → k ≠ 9 → M' k = M k) ∧ (∀ c, c < c0 → M' 9 (t * 4 + c) = M 9 (t * 4 + c) + nI (al (fun r => dcel D t r c != xs c) 0 (dcnt D t)).toNat) ∧ (∀ i, i < t * 4 ∨ t * 4 + c0 ≤ i → M' 9 i = M 9 i) ∧ (∀ c, c < c0 → M' 6 ((t * 30 + dcnt D t) * 4 + c) = xs c) ∧ (∀ i, i < (t * 30 + dcnt D t) * 4 ∨ (t * 30 + dcnt D t) * 4 + c0 ≤ i → M' 6 i = M 6 i)
theorem c_put1 {D : qD} {M : jM} {F : jF} (h : qRC D M F) {t : Nat} (ht : t < 6) (hN : dcnt D t < 30) (xs : Nat → Int32) {c : Nat} (hc : c < 4) {M1 : jM} (hP : qAP D t xs M c M1) : ∃ M', fTa_put (nI t) (nI c) (xs c) M1 F = some (0, M', F) ∧ qAP D t xs M (c + 1) M' := by
  obtain ⟨p1, p2, p3, p4, p5⟩ := hP
  obtain ⟨M', a1, a2, a3, a4, a5, a6⟩ := c_put (M := M1) (F := F) ht hc (by rw [p1 7 (by decide) (by decide)]; exact (h.2.2.1 t ht).1) hN (A := fun r => dcel D t r c) (fun r hr => by rw [p5 _ (by omega)]; exact h.2.2.2.1 t r c ht hr hc) (xs c)
  refine ⟨M', a1, fun k hk hk2 => by rw [a6 k hk hk2, p1 k hk hk2], fun i hi => ?_, fun i hi => by rw [a3 i (by omega), p3 i (by omega)], fun i hi => ?_, fun i hi => by rw [a5 i (by omega), p5 i (by omega)]⟩
  · by_cases e : i = c
    · subst e; rw [a2, p3 _ (by omega)]
    · rw [a3 _ (by omega), p2 i (by omega)]
  · by_cases e : i = c
    · subst e; exact a4
    · rw [a5 _ (by omega), p4 i (by omega)]
theorem c_add {D : qD} {M : jM} {F : jF} (h : qRC D M F) {t : Nat} (ht : t < 6) (hN : dcnt D t < 30) (x0 x1 x2 x3 : Int32) : ∃ M', fTa_add (nI t) x0 x1 x2 x3 M F = some (nI (dcnt D t), jmu M' 7 t (nI (dcnt D t + 1)), F) ∧ qAP D t (xrow x0 x1 x2 x3) M 4 M' := by
  obtain ⟨M1, a1, b1⟩ := c_put1 (F := F) h ht hN (xrow x0 x1 x2 x3) (show 0 < 4 by omega) (M1 := M) ⟨fun _ _ _ => rfl, fun c hc => by omega, fun _ _ => rfl, fun c hc => by omega, fun _ _ => rfl⟩
  obtain ⟨M2, a2, b2⟩ := c_put1 (F := F) h ht hN (xrow x0 x1 x2 x3) (show 1 < 4 by omega) b1
  obtain ⟨M3, a3, b3⟩ := c_put1 (F := F) h ht hN (xrow x0 x1 x2 x3) (show 2 < 4 by omega) b2
  obtain ⟨M4, a4, b4⟩ := c_put1 (F := F) h ht hN (xrow x0 x1 x2 x3) (show 3 < 4 by omega) b3
  have e1 : fTa_put (nI t) 0 x0 M F = some (0, M1, F) := a1
  have e2 : fTa_put (nI t) 1 x1 M1 F = some (0, M2, F) := a2
  have e3 : fTa_put (nI t) 2 x2 M2 F = some (0, M3, F) := a3
  have e4 : fTa_put (nI t) 3 x3 M3 F = some (0, M4, F) := a4
  have e7 : M4 7 t = nI (dcnt D t) := by rw [b4.1 7 (by decide) (by decide)]; exact (h.2.2.1 t ht).1
  refine ⟨M4, ?_, b4⟩
  show fTa_add_0 _ _ _ _ _ M F = _
  unfold fTa_add_0
  rw [e1, Option.bind_some]
  simp only
  rw [e2, Option.bind_some]
  simp only
  rw [e3, Option.bind_some]
  simp only
  rw [e4, Option.bind_some, q_ibt ht (by omega), if_pos rfl, if_pos rfl, nI_clamp (by omega)]
  simp only
  rw [e7, nI_1]
theorem d_row_dfr {D : qD} {t z c r : Nat} {xs : Nat → Int32} (h : z ≠ t ∨ r < dcnt D t) : dfr (d_row D t xs) z c r = dfr D z c r := by
  unfold dfr
  rw [Bool.eq_iff_iff, List.all_eq_true, List.all_eq_true]
  have key : ∀ q, q < r + 1 → dcel (d_row D t xs) z q c = dcel D z q c := by
    intro q hq
    show (if z = t ∧ q = dcnt D t then xs c else dcel D z q c) = _
    rw [if_neg (by omega)]
  constructor
  · intro g q hq
    have hq' := List.mem_range.mp hq
    have := g q hq
    rw [key q (by omega), key r (by omega)] at this
    exact this
  · intro g q hq
    have hq' := List.mem_range.mp hq
    rw [key q (by omega), key r (by omega)]
    exact g q hq
theorem d_row_new {D : qD} {t c : Nat} {xs : Nat → Int32} : dfr (d_row D t xs) t c (dcnt D t) = al (fun r => dcel D t r c != xs c) 0 (dcnt D t) := by
  rw [al_range]
  unfold dfr
  rw [Bool.eq_iff_iff, List.all_eq_true, List.all_eq_true]
  have key : ∀ q, q < dcnt D t → dcel (d_row D t xs) t q c = dcel D t q c := by
    intro q hq
    show (if t = t ∧ q = dcnt D t then xs c else dcel D t q c) = _
    rw [if_neg (by omega)]
  have k2 : dcel (d_row D t xs) t (dcnt D t) c = xs c := by
    show (if t = t ∧ dcnt D t = dcnt D t then xs c else dcel D t _ c) = _
    rw [if_pos ⟨rfl, rfl⟩]
  constructor
  · intro g q hq
    have := g q hq
    rw [key q (List.mem_range.mp hq), k2] at this
    exact this
  · intro g q hq
    rw [key q (List.mem_range.mp hq), k2]
    exact g q hq
theorem q_S1 : jS1 qI := by
  intro M F M2 F2 L2 hI p1 p2 p3 p4 p5 O
  obtain ⟨D, K, e, w, h, h2, hK⟩ := hI
  rcases pk_ix' p1 (show 6 < 2 ^ 31 by omega) with h1 | ⟨t, ht, rfl⟩
  · refine ⟨1, M, F, O, 0, M2, jfu F2 0 1, L2, ?_, ?_, q_fus, fun z => absurd z (by decide), q_I0 w h h2 hK 1⟩
    · unfold hLa_row
      show (fJh_row_0 _ _ _ _ _ M F).bind _ = _
      unfold fJh_row_0
      rw [c_isTableF h1]; rfl
    · show fMo_row_0 _ _ _ _ _ M2 F2 L2 = _
      unfold fMo_row_0 fMo_row_30
      rw [q_c5, m_isF (by omega) h1, Option.bind_some, if_pos rfl, q_fus, if_neg (by decide)]
  · have hN := (w.1 t ht).1
    have h7 := (h2.2.2.1 t ht).1
    by_cases z : dcnt D t = 30
    · refine ⟨2, M, F, O, 0, M2, jfu F2 0 2, L2, ?_, ?_, q_fus, fun z => absurd z (by decide), q_I0 w h h2 hK 2⟩
      · unfold hLa_row
        show (fJh_row_0 _ _ _ _ _ M F).bind _ = _
        unfold fJh_row_0
        rw [c_isTableT ht, Option.bind_some, if_neg (by decide), c_rows h ht, Option.bind_some, z, if_neg (by decide)]; rfl
      · show fMo_row_0 _ _ _ _ _ M2 F2 L2 = _
        unfold fMo_row_0 fMo_row_30
        rw [q_c5, m_isT ht (by omega), Option.bind_some, if_neg (by decide), q_ibt ht (by omega), if_pos rfl, nI_clamp (by omega), h7, z, if_pos (by decide), q_fus, if_neg (by decide)]
    · obtain ⟨M', a1, p1', p2', p3', p4', p5'⟩ := c_add (F := F) h ht (show dcnt D t < 30 by omega) p2 p3 p4 p5
      refine ⟨0, jmu M' 7 t (nI (dcnt D t + 1)), F, vp_updL O (0 : Int32).toNatClampNeg (Int32.toInt64 (nI (dcnt D t))), nI (dcnt D t), jmu (jmu (jmu (jmu (jmu M2 1 (4 * (30 * t + dcnt D t)) p2) 1 (4 * (30 * t + dcnt D t) + 1) p3) 1 (4 * (30 * t + dcnt D t) + 2) p4) 1 (4 * (30 * t + dcnt D t) + 3) p5) 2 t (nI (dcnt D t + 1)), jfu F2 0 0, L2, ?_, ?_, q_fus, fun _ => q_O, d_row D t (xrow p2 p3 p4 p5), K, e, ?_, ?_, ?_, ?_⟩
      · unfold hLa_row
        show (fJh_row_0 _ _ _ _ _ M F).bind _ = _
        unfold fJh_row_0
        rw [c_isTableT ht, Option.bind_some, if_neg (by decide), c_rows h ht, Option.bind_some, qn_30, if_pos (nI_lt (by omega) (by omega)), a1]; rfl
      · show fMo_row_0 _ _ _ _ _ M2 F2 L2 = _
        unfold fMo_row_0 fMo_row_30
        rw [q_c5, m_isT ht (by omega), Option.bind_some, if_neg (by decide), q_ibt ht (by omega), if_pos rfl, nI_clamp (by omega), h7, if_neg (fun y => z ((nI_eq (by omega) (by omega)).mp (by rw [y]; rfl))), q_fus, if_pos (by decide), if_pos rfl]
        have e0 : (4 : Int32) * (30 * nI t + nI (dcnt D t)) = nI (4 * (30 * t + dcnt D t)) := by rw [qn_30, pk_mul, nI_add, qn_4, pk_mul]
        have e1 : nI (4 * (30 * t + dcnt D t)) + 1 = nI (4 * (30 * t + dcnt D t) + 1) := nI_1 _
        have e2 : nI (4 * (30 * t + dcnt D t)) + 2 = nI (4 * (30 * t + dcnt D t) + 2) := nI_add _ 2
        have e3 : nI (4 * (30 * t + dcnt D t)) + 3 = nI (4 * (30 * t + dcnt D t) + 3) := nI_add _ 3
        rw [e0, e1, e2, e3, q_ibt (by omega) (by omega), q_ibt (by omega) (by omega), q_ibt (by omega) (by omega), q_ibt (by omega) (by omega)]
        rw [nI_clamp (show 4 * (30 * t + dcnt D t) < 2 ^ 31 by omega), nI_clamp (show 4 * (30 * t + dcnt D t) + 1 < 2 ^ 31 by omega), nI_clamp (show 4 * (30 * t + dcnt D t) + 2 < 2 ^ 31 by omega), nI_clamp (show 4 * (30 * t + dcnt D t) + 3 < 2 ^ 31 by omega)]
        simp only [if_true]
        rw [q_mus, q_muk (show 2 ≠ 1 by decide), q_muk (show 2 ≠ 1 by decide), q_muk (show 2 ≠ 1 by decide), q_muk (show 2 ≠ 1 by decide), h7, nI_1, nI_pred]
      · refine ⟨fun y hy => ?_, w.2⟩
        show (if y = t then dcnt D t + 1 else dcnt D y) ≤ 30 ∧ didx D y < 16
        have := w.1 y hy
        by_cases q : y = t
        · rw [if_pos q]; omega
        · rw [if_neg q]; exact this
      · obtain ⟨c1, c2, c3, c4, c5, c6, c7⟩ := h
        refine ⟨c1, c2, fun y hy => ?_, fun y r c hy hr hc => ?_, fun y c hy hc => ?_, fun g hg => ?_, fun k hk => ?_⟩
        · show _ = nI (if y = t then dcnt D t + 1 else dcnt D y) ∧ _ = nI (didx D y)
          rw [q_muk (show 8 ≠ 7 by decide), p1' 8 (by decide) (by decide)]
          by_cases q : y = t
          · subst q; rw [if_pos rfl, q_mus]; exact ⟨rfl, (c3 y hy).2⟩
          · rw [if_neg q, q_mui q, p1' 7 (by decide) (by decide)]; exact c3 y hy
        · have hr' : r < (if y = t then dcnt D t + 1 else dcnt D y) := hr
          show _ = (if y = t ∧ r = dcnt D t then xrow p2 p3 p4 p5 c else dcel D y r c)
          rw [q_muk (by decide)]
          by_cases q : y = t
          · subst q
            rw [if_pos rfl] at hr'
            by_cases q2 : r = dcnt D y
            · subst q2; rw [if_pos ⟨rfl, rfl⟩]; exact p4' c hc
            · rw [if_neg (by omega), p5' _ (by omega)]; exact c4 y r c hy (by omega) hc
          · rw [if_neg q] at hr'
            have := w.1 y hy
            rw [if_neg (by omega), p5' _ (by omega)]; exact c4 y r c hy hr' hc
        · rw [q_muk (by decide)]
          by_cases q : y = t
          · subst q
            rw [p2' c hc, c5 y c hy hc, nI_add]
            congr 1
            show qcb (dfr D y c) (dcnt D y) + _ = qcb (dfr (d_row D y (xrow p2 p3 p4 p5)) y c) (if y = y then dcnt D y + 1 else dcnt D y)
            rw [if_pos rfl, qcb, d_row_new]
            congr 1
            exact qcb_congr (fun r hr => (d_row_dfr (Or.inr hr)).symm)
          · rw [p3' _ (by omega), c5 y c hy hc]
            congr 1
            show qcb (dfr D y c) (dcnt D y) = qcb (dfr (d_row D t (xrow p2 p3 p4 p5)) y c) (if y = t then dcnt D t + 1 else dcnt D y)
            rw [if_neg q]
            exact qcb_congr (fun r hr => (d_row_dfr (Or.inl q)).symm)
        · rw [q_muk (by decide), p1' 10 (by decide) (by decide)]; exact c6 g hg
        · simp only [q_mukf (show 11 ≠ 7 by decide), q_mukf (show 12 ≠ 7 by decide), q_mukf (show 13 ≠ 7 by decide), q_mukf (show 14 ≠ 7 by decide), q_mukf (show 15 ≠ 7 by decide), q_mukf (show 16 ≠ 7 by decide)]
          rw [p1' 11 (by decide) (by decide), p1' 12 (by decide) (by decide), p1' 13 (by decide) (by decide), p1' 14 (by decide) (by decide), p1' 15 (by decide) (by decide), p1' 16 (by decide) (by decide)]
          exact c7 k hk
      · obtain ⟨c1, c2, c3, c4, c6, c7⟩ := h2
        have hM1 : ∀ k i, k ≠ 1 → jmu (jmu (jmu (jmu (jmu M2 1 (4 * (30 * t + dcnt D t)) p2) 1 (4 * (30 * t + dcnt D t) + 1) p3) 1 (4 * (30 * t + dcnt D t) + 2) p4) 1 (4 * (30 * t + dcnt D t) + 3) p5) 2 t (nI (dcnt D t + 1)) k i = (if k = 2 ∧ i = t then nI (dcnt D t + 1) else M2 k i) := by
          intro k i hk
          rw [q_mu, q_muk hk, q_muk hk, q_muk hk, q_muk hk]
        refine ⟨by rw [q_fun (by decide)]; exact c1, by rw [q_fun (by decide)]; exact c2, fun y hy => ?_, fun y r c hy hr hc => ?_, fun g hg => ?_, fun k hk => ?_⟩
        · show _ = nI (if y = t then dcnt D t + 1 else dcnt D y) ∧ _ = nI (didx D y)
          rw [hM1 2 y (by decide), hM1 3 y (by decide), if_neg (show ¬ (3 = 2 ∧ y = t) by omega)]
          by_cases q : y = t
          · subst q; rw [if_pos rfl, if_pos ⟨rfl, rfl⟩]; exact ⟨rfl, (c3 y hy).2⟩
          · rw [if_neg q, if_neg (by omega)]; exact c3 y hy
        · have hr' : r < (if y = t then dcnt D t + 1 else dcnt D y) := hr
          show _ = (if y = t ∧ r = dcnt D t then xrow p2 p3 p4 p5 c else dcel D y r c)
          rw [q_muk (by decide)]
          have old : (¬ (y = t ∧ r = dcnt D t)) → r < dcnt D y → jmu (jmu (jmu (jmu M2 1 (4 * (30 * t + dcnt D t)) p2) 1 (4 * (30 * t + dcnt D t) + 1) p3) 1 (4 * (30 * t + dcnt D t) + 2) p4) 1 (4 * (30 * t + dcnt D t) + 3) p5 1 (4 * (30 * y + r) + c) = dcel D y r c := by
            intro q1 q2
            have := w.1 y hy
            rw [q_mui (by omega), q_mui (by omega), q_mui (by omega), q_mui (by omega)]
            exact c4 y r c hy q2 hc
          by_cases q : y = t
          · subst q
            rw [if_pos rfl] at hr'
            by_cases q2 : r = dcnt D y
            · subst q2
              rw [if_pos ⟨rfl, rfl⟩]
              have hc4 : c = 0 ∨ c = 1 ∨ c = 2 ∨ c = 3 := by omega
              rcases hc4 with rfl | rfl | rfl | rfl
              · rw [q_mui (by omega), q_mui (by omega), q_mui (by omega), Nat.add_zero, q_mus]; rfl
              · rw [q_mui (by omega), q_mui (by omega), q_mus]; rfl
              · rw [q_mui (by omega), q_mus]; rfl
              · rw [q_mus]; rfl
            · rw [if_neg (by omega)]; exact old (by omega) (by omega)
          · rw [if_neg q] at hr'
            rw [if_neg (by omega)]; exact old (by omega) hr'
        · rw [hM1 4 g (by decide), if_neg (by omega)]; exact c6 g hg
        · rw [hM1 5 k (by decide), if_neg (by omega), hM1 6 k (by decide), if_neg (by omega), hM1 7 k (by decide), if_neg (by omega), hM1 8 k (by decide), if_neg (by omega), hM1 9 k (by decide), if_neg (by omega)]
          exact c7 k hk
      · exact qK_fr hK (by rw [q_mukf (by decide), p1' 26 (by decide) (by decide)]) (fun _ _ => rfl) (by rw [q_mukf (by decide), q_mukf (by decide), q_mukf (by decide), q_mukf (by decide), q_mukf (by decide)]) (fun k hk => q_fun (by omega))
/-! conditions -/
def qBad (G : Nat) (x1 x2 : Int32) : Prop := (x1 < 0 ∨ nI G ≤ x1) ∨ ((∃ f, f < G ∧ x1 = nI f) ∧ (x2 < 0 ∨ nI 4 ≤ x2))
theorem q_side {G : Nat} (hG : G ≤ 6) (x1 x2 : Int32) : qBad G x1 x2 ∨ ∃ f c, f < G ∧ c < 4 ∧ x1 = nI f ∧ x2 = nI c := by
  rcases pk_ix' x1 (show G < 2 ^ 31 by omega) with h1 | ⟨f, hf, h1⟩
  · exact Or.inl (Or.inl h1)
  · rcases pk_ix' x2 (show 4 < 2 ^ 31 by omega) with h2 | ⟨c, hc, h2⟩
    · exact Or.inl (Or.inr ⟨⟨f, hf, h1⟩, h2⟩)
    · exact Or.inr ⟨f, c, hf, hc, h1, h2⟩
theorem c_sideF {D : qD} {M : jM} {F : jF} (w : qW D) (h : qRC D M F) {x1 x2 : Int32} (hb : qBad (dG D) x1 x2) : fJh_checkSide x1 x2 M F = some (1, 0, M, F) := by
  have G6 := w.2.1
  show fJh_checkSide_0 x1 x2 M F = _
  unfold fJh_checkSide_0 fJh_checkSide_15 fJh_checkSide_34
  rcases hb with hb | ⟨⟨f, hf, rfl⟩, hb⟩
  · rw [h.1, q_rng _ _ hb]
  · rw [h.1, q_rngT _ _ hf (by omega), qn_4, q_rng _ _ hb]
theorem c_sideT {D : qD} {M : jM} {F : jF} (w : qW D) (h : qRC D M F) {f c : Nat} (hf : f < dG D) (hc : c < 4) : fJh_checkSide (nI f) (nI c) M F = some (0, 0, M, F) := by
  have G6 := w.2.1
  show fJh_checkSide_0 _ _ M F = _
  unfold fJh_checkSide_0 fJh_checkSide_15 fJh_checkSide_34
  rw [h.1, q_rngT _ _ hf (by omega), qn_4, q_rngT _ _ hc (by omega)]
theorem m_colF {D : qD} {M : jM} {F : jF} {L : jL} (w : qW D) (h : qRM D M F) {x1 x2 : Int32} (hb : qBad (dG D) x1 x2) : fMo_isColumn x1 x2 M F L = some 0 := by
  have G6 := w.2.1
  show fMo_isColumn_0 x1 x2 M F L = _
  unfold fMo_isColumn_0
  rcases hb with hb | ⟨⟨f, hf, rfl⟩, hb⟩
  · rw [h.1, m_isF (by omega) hb, Option.bind_some, if_pos rfl]
  · rw [h.1, m_isT hf (by omega), Option.bind_some, if_neg (by decide), q_c3', m_isF (by omega) hb, Option.bind_some, if_pos rfl]
theorem m_colT {D : qD} {M : jM} {F : jF} {L : jL} (w : qW D) (h : qRM D M F) {f c : Nat} (hf : f < dG D) (hc : c < 4) : fMo_isColumn (nI f) (nI c) M F L = some 1 := by
  have G6 := w.2.1
  show fMo_isColumn_0 _ _ M F L = _
  unfold fMo_isColumn_0
  rw [h.1, m_isT hf (by omega), Option.bind_some, if_neg (by decide), q_c3', m_isT hc (by omega), Option.bind_some, if_neg (by decide)]
def d_cond (D : qD) (kd fi fc se sc : Nat) (nu : Int32) : qD := (dcnt D, dcel D, didx D, dG D, dtb D, dC D + 1, fun k => if k = dC D then kd else dkd D k, fun k => if k = dC D then fi else dfi D k, fun k => if k = dC D then fc else dfc D k, fun k => if k = dC D then se else dse D k, fun k => if k = dC D then sc else dsc D k, fun k => if k = dC D then nu else dnu D k)
theorem d_condW {D : qD} (w : qW D) {kd fi fc se sc : Nat} {nu : Int32} (h1 : kd ≤ 2) (h2 : fi < dG D) (h3 : fc < 4) (h4 : se < dG D) (h5 : kd ≠ 1 → sc < 4) (h6 : kd = 1 → se = fi) (hC : dC D < 12) : qW (d_cond D kd fi fc se sc nu) := by
  refine ⟨w.1, w.2.1, w.2.2.1, ?_, fun k hk => ?_⟩
  · show dC D + 1 ≤ 12; omega
  · have hk' : k < dC D + 1 := hk
    show (if k = dC D then kd else dkd D k) ≤ 2 ∧ (if k = dC D then fi else dfi D k) < dG D ∧ (if k = dC D then fc else dfc D k) < 4 ∧ (if k = dC D then se else dse D k) < dG D ∧ ((if k = dC D then kd else dkd D k) ≠ 1 → (if k = dC D then sc else dsc D k) < 4) ∧ ((if k = dC D then kd else dkd D k) = 1 → (if k = dC D then se else dse D k) = (if k = dC D then fi else dfi D k))
    by_cases y : k = dC D
    · simp only [if_pos y]
      exact ⟨h1, h2, h3, h4, h5, h6⟩
    · simp only [if_neg y]
      exact w.2.2.2.2 k (by omega)
theorem c_addCond {D : qD} {M : jM} {F : jF} (w : qW D) (h : qRC D M F) {kd fi fc se sc : Nat} {nu : Int32} (h1 : kd ≤ 2) (h2 : fi < dG D) (h4 : se < dG D) (h6 : kd = 1 → se = fi) (hC : dC D < 12) : ∃ M', fQu_addCondition (nI kd) (nI fi) (nI fc) (if kd = 1 then -1 else nI se) (if kd = 1 then nu else nI sc) M F = some (nI (dC D), M', jfu F 1 (nI (dC D + 1))) ∧ qRC (d_cond D kd fi fc se sc nu) M' (jfu F 1 (nI (dC D + 1))) ∧ M' 26 = M 26 := by
  have G6 := w.2.1
  refine ⟨jmu (jmu (jmu (jmu (jmu (jmu M 11 (dC D) (nI kd)) 12 (dC D) (nI fi)) 13 (dC D) (nI fc)) 14 (dC D) (if kd = 1 then -1 else nI se)) 15 (dC D) (if kd = 1 then nu else nI sc)) 16 (dC D) (nI (2 ^ fi ||| 2 ^ se)), ?_, ?_, ?_⟩
  · show fQu_addCondition_0 _ _ _ _ _ M F = _
    unfold fQu_addCondition_0 fQu_addCondition_74
    rw [h.2.1, q_ibt hC (by omega), nI_clamp (by omega), nI_1]
    simp only [if_true]
    by_cases e : kd = 1
    · simp only [if_pos e]
      rw [if_pos trivial, q_bit (by omega), h6 e, Nat.or_self]
    · simp only [if_neg e]
      rw [if_neg (q_m1 (by omega)), q_bit (by omega), q_bit (by omega), q_or]
  · obtain ⟨c1, c2, c3, c4, c5, c6, c7⟩ := h
    refine ⟨by rw [q_fun (by decide)]; exact c1, q_fus, fun y hy => ?_, fun y r c hy hr hc => ?_, fun y c hy hc => ?_, fun g hg => ?_, fun k hk => ?_⟩
    · simp only [q_mukf (show 7 ≠ 16 by decide), q_mukf (show 7 ≠ 15 by decide), q_mukf (show 7 ≠ 14 by decide), q_mukf (show 7 ≠ 13 by decide), q_mukf (show 7 ≠ 12 by decide), q_mukf (show 7 ≠ 11 by decide), q_mukf (show 8 ≠ 16 by decide), q_mukf (show 8 ≠ 15 by decide), q_mukf (show 8 ≠ 14 by decide), q_mukf (show 8 ≠ 13 by decide), q_mukf (show 8 ≠ 12 by decide), q_mukf (show 8 ≠ 11 by decide)]
      exact c3 y hy
    · simp only [q_mukf (show 6 ≠ 16 by decide), q_mukf (show 6 ≠ 15 by decide), q_mukf (show 6 ≠ 14 by decide), q_mukf (show 6 ≠ 13 by decide), q_mukf (show 6 ≠ 12 by decide), q_mukf (show 6 ≠ 11 by decide)]
      exact c4 y r c hy hr hc
    · simp only [q_mukf (show 9 ≠ 16 by decide), q_mukf (show 9 ≠ 15 by decide), q_mukf (show 9 ≠ 14 by decide), q_mukf (show 9 ≠ 13 by decide), q_mukf (show 9 ≠ 12 by decide), q_mukf (show 9 ≠ 11 by decide)]
      exact c5 y c hy hc
    · simp only [q_mukf (show 10 ≠ 16 by decide), q_mukf (show 10 ≠ 15 by decide), q_mukf (show 10 ≠ 14 by decide), q_mukf (show 10 ≠ 13 by decide), q_mukf (show 10 ≠ 12 by decide), q_mukf (show 10 ≠ 11 by decide)]
      exact c6 g hg
    · have hk' : k < dC D + 1 := hk
      show _ = nI (if k = dC D then kd else dkd D k) ∧ _ = nI (if k = dC D then fi else dfi D k) ∧ _ = nI (if k = dC D then fc else dfc D k) ∧ _ = (if (if k = dC D then kd else dkd D k) = 1 then -1 else nI (if k = dC D then se else dse D k)) ∧ _ = (if (if k = dC D then kd else dkd D k) = 1 then (if k = dC D then nu else dnu D k) else nI (if k = dC D then sc else dsc D k)) ∧ _ = nI (2 ^ (if k = dC D then fi else dfi D k) ||| 2 ^ (if k = dC D then se else dse D k))
      by_cases y : k = dC D
      · subst y
        simp only [if_true]
        refine ⟨?_, ?_, ?_, ?_, ?_, ?_⟩
        · rw [q_muk (by decide), q_muk (by decide), q_muk (by decide), q_muk (by decide), q_muk (by decide), q_mus]
        · rw [q_muk (by decide), q_muk (by decide), q_muk (by decide), q_muk (by decide), q_mus]
        · rw [q_muk (by decide), q_muk (by decide), q_muk (by decide), q_mus]
        · rw [q_muk (by decide), q_muk (by decide), q_mus]
        · rw [q_muk (by decide), q_mus]
        · rw [q_mus]
      · simp only [if_neg y]
        obtain ⟨d1, d2, d3, d4, d5, d6⟩ := c7 k (by omega)
        refine ⟨?_, ?_, ?_, ?_, ?_, ?_⟩
        · rw [q_muk (by decide), q_muk (by decide), q_muk (by decide), q_muk (by decide), q_muk (by decide), q_mui y]; exact d1
        · rw [q_muk (by decide), q_muk (by decide), q_muk (by decide), q_muk (by decide), q_mui y, q_muk (by decide)]; exact d2
        · rw [q_muk (by decide), q_muk (by decide), q_muk (by decide), q_mui y, q_muk (by decide), q_muk (by decide)]; exact d3
        · rw [q_muk (by decide), q_muk (by decide), q_mui y, q_muk (by decide), q_muk (by decide), q_muk (by decide)]; exact d4
        · rw [q_muk (by decide), q_mui y, q_muk (by decide), q_muk (by decide), q_muk (by decide), q_muk (by decide)]; exact d5
        · rw [q_mui y, q_muk (by decide), q_muk (by decide), q_muk (by decide), q_muk (by decide), q_muk (by decide)]; exact d6
  · rw [q_mukf (by decide), q_mukf (by decide), q_mukf (by decide), q_mukf (by decide), q_mukf (by decide), q_mukf (by decide)]
theorem m_condF {D : qD} {M : jM} {F : jF} {L : jL} (x1 x2 x3 x4 x5 : Int32) : fMo_condition x1 x2 x3 x4 x5 0 M F L = some (0, M, jfu F 0 1, L) := by
  show fMo_condition_0 _ _ _ _ _ _ M F L = _
  unfold fMo_condition_0 fMo_condition_24
  rw [if_pos rfl, q_fus, if_neg (by decide)]
theorem m_condU {D : qD} {M : jM} {F : jF} {L : jL} (h : qRM D M F) (hC : dC D = 12) (x1 x2 x3 x4 x5 : Int32) : fMo_condition x1 x2 x3 x4 x5 1 M F L = some (0, M, jfu F 0 2, L) := by
  show fMo_condition_0 _ _ _ _ _ _ M F L = _
  unfold fMo_condition_0 fMo_condition_24
  rw [if_neg (by decide), h.2.1, hC, if_pos (by decide), q_fus, if_neg (by decide)]
theorem m_addCond {D : qD} {M : jM} {F : jF} {L : jL} (w : qW D) (h : qRM D M F) {kd fi fc se sc : Nat} {nu : Int32} (hC : dC D < 12) : ∃ M', fMo_condition (nI kd) (nI fi) (nI fc) (nI se) (if kd = 1 then nu else nI sc) 1 M F L = some (nI (dC D), M', jfu (jfu F 0 0) 2 (nI (dC D + 1)), L) ∧ qRM (d_cond D kd fi fc se sc nu) M' (jfu (jfu F 0 0) 2 (nI (dC D + 1))) ∧ M' 13 = M 13 := by
  refine ⟨jmu (jmu (jmu (jmu (jmu M 5 (dC D) (nI kd)) 6 (dC D) (nI fi)) 7 (dC D) (nI fc)) 8 (dC D) (nI se)) 9 (dC D) (if kd = 1 then nu else nI sc), ?_, ?_, ?_⟩
  · show fMo_condition_0 _ _ _ _ _ _ M F L = _
    unfold fMo_condition_0 fMo_condition_24
    rw [if_neg (by decide), h.2.1, qn_12, if_neg (fun y => by have := (nI_eq (by omega) (by omega)).mp y; omega), q_fus, if_pos (by decide), q_fun (by decide), h.2.1, q_ibt hC (by omega), nI_clamp (by omega), nI_1, q_fus, nI_pred]
    simp only [if_true]
  · obtain ⟨c1, c2, c3, c4, c6, c7⟩ := h
    refine ⟨by rw [q_fun (by decide), q_fun (by decide)]; exact c1, q_fus, fun y hy => ?_, fun y r c hy hr hc => ?_, fun g hg => ?_, fun k hk => ?_⟩
    · simp only [q_mukf (show 2 ≠ 9 by decide), q_mukf (show 2 ≠ 8 by decide), q_mukf (show 2 ≠ 7 by decide), q_mukf (show 2 ≠ 6 by decide), q_mukf (show 2 ≠ 5 by decide), q_mukf (show 3 ≠ 9 by decide), q_mukf (show 3 ≠ 8 by decide), q_mukf (show 3 ≠ 7 by decide), q_mukf (show 3 ≠ 6 by decide), q_mukf (show 3 ≠ 5 by decide)]
      exact c3 y hy
    · simp only [q_mukf (show 1 ≠ 9 by decide), q_mukf (show 1 ≠ 8 by decide), q_mukf (show 1 ≠ 7 by decide), q_mukf (show 1 ≠ 6 by decide), q_mukf (show 1 ≠ 5 by decide)]
      exact c4 y r c hy hr hc
    · simp only [q_mukf (show 4 ≠ 9 by decide), q_mukf (show 4 ≠ 8 by decide), q_mukf (show 4 ≠ 7 by decide), q_mukf (show 4 ≠ 6 by decide), q_mukf (show 4 ≠ 5 by decide)]
      exact c6 g hg
    · have hk' : k < dC D + 1 := hk
      show _ = nI (if k = dC D then kd else dkd D k) ∧ _ = nI (if k = dC D then fi else dfi D k) ∧ _ = nI (if k = dC D then fc else dfc D k) ∧ _ = nI (if k = dC D then se else dse D k) ∧ _ = (if (if k = dC D then kd else dkd D k) = 1 then (if k = dC D then nu else dnu D k) else nI (if k = dC D then sc else dsc D k))
      by_cases y : k = dC D
      · subst y
        simp only [if_true]
        refine ⟨?_, ?_, ?_, ?_, ?_⟩
        · rw [q_muk (by decide), q_muk (by decide), q_muk (by decide), q_muk (by decide), q_mus]
        · rw [q_muk (by decide), q_muk (by decide), q_muk (by decide), q_mus]
        · rw [q_muk (by decide), q_muk (by decide), q_mus]
        · rw [q_muk (by decide), q_mus]
        · rw [q_mus]
      · simp only [if_neg y]
        obtain ⟨d1, d2, d3, d4, d5⟩ := c7 k (by omega)
        refine ⟨?_, ?_, ?_, ?_, ?_⟩
        · rw [q_muk (by decide), q_muk (by decide), q_muk (by decide), q_muk (by decide), q_mui y]; exact d1
        · rw [q_muk (by decide), q_muk (by decide), q_muk (by decide), q_mui y, q_muk (by decide)]; exact d2
        · rw [q_muk (by decide), q_muk (by decide), q_mui y, q_muk (by decide), q_muk (by decide)]; exact d3
        · rw [q_muk (by decide), q_mui y, q_muk (by decide), q_muk (by decide), q_muk (by decide)]; exact d4
        · rw [q_mui y, q_muk (by decide), q_muk (by decide), q_muk (by decide), q_muk (by decide)]; exact d5
  · rw [q_mukf (by decide), q_mukf (by decide), q_mukf (by decide), q_mukf (by decide), q_mukf (by decide)]
theorem q_I2 {D D' : qD} {K : List (Nat → Nat)} {e : Nat} {M M' : jM} {F : jF} {M2 M2' : jM} {F2 : jF} {L2 : jL} {n : Nat} (w' : qW D') (h' : qRC D' M' (jfu F 1 (nI n))) (h2' : qRM D' M2' (jfu (jfu F2 0 0) 2 (nI n))) (hK : qK K e M F M2 F2) (f1 : M' 26 = M 26) (f2 : M2' 13 = M2 13) : qI M' (jfu F 1 (nI n)) M2' (jfu (jfu F2 0 0) 2 (nI n)) L2 := ⟨D', K, e, w', h', h2', qK_fr hK f1 (fun k hk => q_fun (by omega)) f2 (fun k hk => by rw [q_fun (by omega), q_fun (by omega)])⟩
theorem c_leftF {D : qD} {M : jM} {F : jF} (h : qRC D M F) (hC : dC D = 12) : fJh_checkConditionsLeft M F = some (2, 0, M, F) := by
  show fJh_checkConditionsLeft_0 M F = _
  unfold fJh_checkConditionsLeft_0
  rw [h.2.1, hC, if_neg (by decide)]
theorem c_leftT {D : qD} {M : jM} {F : jF} (h : qRC D M F) (hC : dC D < 12) : fJh_checkConditionsLeft M F = some (0, 0, M, F) := by
  show fJh_checkConditionsLeft_0 M F = _
  unfold fJh_checkConditionsLeft_0
  rw [h.2.1, qn_12, if_pos (nI_lt hC (by omega))]
theorem q_S5 : jS5 qI := by
  intro M F M2 F2 L2 hI p1 p2 p3 O
  obtain ⟨D, K, e, w, h, h2, hK⟩ := hI
  have G6 := w.2.1
  have C12 := w.2.2.2.1
  rcases q_side G6 p1 p2 with hb | ⟨f, c, hf, hc, rfl, rfl⟩
  · refine ⟨1, M, F, O, 0, M2, jfu F2 0 1, L2, ?_, ?_, q_fus, fun z => absurd z (by decide), q_I0 w h h2 hK 1⟩
    · unfold hLa_number
      show (fJh_number_0 _ _ _ M F).bind _ = _
      unfold fJh_number_0
      rw [c_sideF w h hb]; rfl
    · show fMo_number_0 _ _ _ M2 F2 L2 = _
      unfold fMo_number_0
      rw [m_colF w h2 hb, Option.bind_some, m_condF (D := D)]; rfl
  · by_cases z : dC D = 12
    · refine ⟨2, M, F, O, 0, M2, jfu F2 0 2, L2, ?_, ?_, q_fus, fun z => absurd z (by decide), q_I0 w h h2 hK 2⟩
      · unfold hLa_number
        show (fJh_number_0 _ _ _ M F).bind _ = _
        unfold fJh_number_0
        rw [c_sideT w h hf hc, Option.bind_some]
        simp only [if_true]
        rw [c_leftF h z]; rfl
      · show fMo_number_0 _ _ _ M2 F2 L2 = _
        unfold fMo_number_0
        rw [m_colT w h2 hf hc, Option.bind_some, m_condU h2 z]; rfl
    · have hC : dC D < 12 := by omega
      obtain ⟨M', a1, a2, a3⟩ := c_addCond (kd := 1) (fi := f) (fc := c) (se := f) (sc := 0) (nu := p3) w h (by omega) hf hf (fun _ => rfl) hC
      obtain ⟨M2', b1, b2, b3⟩ := m_addCond (kd := 1) (fi := f) (fc := c) (se := f) (sc := 0) (nu := p3) (L := L2) w h2 hC
      refine ⟨0, M', jfu F 1 (nI (dC D + 1)), vp_updL O (0 : Int32).toNatClampNeg (Int32.toInt64 (nI (dC D))), nI (dC D), M2', jfu (jfu F2 0 0) 2 (nI (dC D + 1)), L2, ?_, ?_, by rw [q_fun (by decide), q_fus], fun _ => q_O, q_I2 (D := D) (d_condW w (by omega) hf hc hf (fun y => absurd rfl y) (fun _ => rfl) hC) a2 b2 hK a3 b3⟩
      · unfold hLa_number
        show (fJh_number_0 _ _ _ M F).bind _ = _
        unfold fJh_number_0
        rw [c_sideT w h hf hc, Option.bind_some]
        simp only [if_true]
        rw [c_leftT h hC, Option.bind_some]
        simp only [if_true]
        have a1' : fQu_addCondition 1 (nI f) (nI c) (-1) p3 M F = some (nI (dC D), M', jfu F 1 (nI (dC D + 1))) := a1
        rw [a1']; rfl
      · show fMo_number_0 _ _ _ M2 F2 L2 = _
        unfold fMo_number_0
        have b1' : fMo_condition 1 (nI f) (nI c) (nI f) p3 1 M2 F2 L2 = some (nI (dC D), M2', jfu (jfu F2 0 0) 2 (nI (dC D + 1)), L2) := b1
        rw [m_colT w h2 hf hc, Option.bind_some, b1']; rfl
theorem q_S4 : jS4 qI := by
  intro M F M2 F2 L2 hI p1 p2 p3 p4 O
  obtain ⟨D, K, e, w, h, h2, hK⟩ := hI
  have G6 := w.2.1
  have C12 := w.2.2.2.1
  have m30 : fMo_equal_30 0 p1 p2 p3 p4 M2 F2 L2 = some (0, M2, jfu F2 0 1, L2) := by
    unfold fMo_equal_30 fMo_equal_31
    rw [m_condF (D := D)]; rfl
  rcases q_side G6 p1 p2 with hb | ⟨f, c, hf, hc, rfl, rfl⟩
  · refine ⟨1, M, F, O, 0, M2, jfu F2 0 1, L2, ?_, ?_, q_fus, fun z => absurd z (by decide), q_I0 w h h2 hK 1⟩
    · unfold hLa_equal
      show (fJh_equal_0 _ _ _ _ M F).bind _ = _
      unfold fJh_equal_0
      rw [c_sideF w h hb]; rfl
    · show fMo_equal_0 _ _ _ _ M2 F2 L2 = _
      unfold fMo_equal_0
      rw [m_colF w h2 hb, Option.bind_some, if_pos rfl, m30]
  · rcases q_side G6 p3 p4 with hb | ⟨f2, c2, hf2, hc2, rfl, rfl⟩
    · refine ⟨1, M, F, O, 0, M2, jfu F2 0 1, L2, ?_, ?_, q_fus, fun z => absurd z (by decide), q_I0 w h h2 hK 1⟩
      · unfold hLa_equal
        show (fJh_equal_0 _ _ _ _ M F).bind _ = _
        unfold fJh_equal_0
        rw [c_sideT w h hf hc, Option.bind_some]
        simp only [if_true]
        rw [c_sideF w h hb]; rfl
      · show fMo_equal_0 _ _ _ _ M2 F2 L2 = _
        unfold fMo_equal_0
        rw [m_colT w h2 hf hc, Option.bind_some, if_neg (by decide), m_colF w h2 hb, Option.bind_some, if_pos rfl, m30]
    · by_cases z : dC D = 12
      · refine ⟨2, M, F, O, 0, M2, jfu F2 0 2, L2, ?_, ?_, q_fus, fun z => absurd z (by decide), q_I0 w h h2 hK 2⟩
        · unfold hLa_equal
          show (fJh_equal_0 _ _ _ _ M F).bind _ = _
          unfold fJh_equal_0
          rw [c_sideT w h hf hc, Option.bind_some]
          simp only [if_true]
          rw [c_sideT w h hf2 hc2, Option.bind_some]
          simp only [if_true]
          rw [c_leftF h z]; rfl
        · show fMo_equal_0 _ _ _ _ M2 F2 L2 = _
          unfold fMo_equal_0 fMo_equal_31
          rw [m_colT w h2 hf hc, Option.bind_some, if_neg (by decide), m_colT w h2 hf2 hc2, Option.bind_some, if_neg (by decide), m_condU h2 z]; rfl
      · have hC : dC D < 12 := by omega
        obtain ⟨M', a1, a2, a3⟩ := c_addCond (kd := 0) (fi := f) (fc := c) (se := f2) (sc := c2) (nu := 0) w h (by omega) hf hf2 (fun y => absurd y (by decide)) hC
        obtain ⟨M2', b1, b2, b3⟩ := m_addCond (kd := 0) (fi := f) (fc := c) (se := f2) (sc := c2) (nu := 0) (L := L2) w h2 hC
        refine ⟨0, M', jfu F 1 (nI (dC D + 1)), vp_updL O (0 : Int32).toNatClampNeg (Int32.toInt64 (nI (dC D))), nI (dC D), M2', jfu (jfu F2 0 0) 2 (nI (dC D + 1)), L2, ?_, ?_, by rw [q_fun (by decide), q_fus], fun _ => q_O, q_I2 (D := D) (d_condW w (by omega) hf hc hf2 (fun _ => hc2) (fun y => absurd y (by decide)) hC) a2 b2 hK a3 b3⟩
        · unfold hLa_equal
          show (fJh_equal_0 _ _ _ _ M F).bind _ = _
          unfold fJh_equal_0
          rw [c_sideT w h hf hc, Option.bind_some]
          simp only [if_true]
          rw [c_sideT w h hf2 hc2, Option.bind_some]
          simp only [if_true]
          rw [c_leftT h hC, Option.bind_some]
          simp only [if_true]
          have a1' : fQu_addCondition 0 (nI f) (nI c) (nI f2) (nI c2) M F = some (nI (dC D), M', jfu F 1 (nI (dC D + 1))) := a1
          rw [a1']; rfl
        · show fMo_equal_0 _ _ _ _ M2 F2 L2 = _
          unfold fMo_equal_0 fMo_equal_31
          have b1' : fMo_condition 0 (nI f) (nI c) (nI f2) (nI c2) 1 M2 F2 L2 = some (nI (dC D), M2', jfu (jfu F2 0 0) 2 (nI (dC D + 1)), L2) := b1
          rw [m_colT w h2 hf hc, Option.bind_some, if_neg (by decide), m_colT w h2 hf2 hc2, Option.bind_some, if_neg (by decide), b1']; rfl
theorem q_S6 : jS6 qI := by
  intro M F M2 F2 L2 hI p1 p2 p3 p4 O
  obtain ⟨D, K, e, w, h, h2, hK⟩ := hI
  have G6 := w.2.1
  have C12 := w.2.2.2.1
  have m30 : fMo_less_30 2 p1 p2 p3 p4 M2 F2 L2 = some (0, M2, jfu F2 0 1, L2) := by
    unfold fMo_less_30 fMo_less_31
    rw [m_condF (D := D)]; rfl
  rcases q_side G6 p1 p2 with hb | ⟨f, c, hf, hc, rfl, rfl⟩
  · refine ⟨1, M, F, O, 0, M2, jfu F2 0 1, L2, ?_, ?_, q_fus, fun z => absurd z (by decide), q_I0 w h h2 hK 1⟩
    · unfold hLa_less
      show (fJh_less_0 _ _ _ _ M F).bind _ = _
      unfold fJh_less_0
      rw [c_sideF w h hb]; rfl
    · show fMo_less_0 _ _ _ _ M2 F2 L2 = _
      unfold fMo_less_0
      rw [m_colF w h2 hb, Option.bind_some, if_pos rfl, m30]
  · rcases q_side G6 p3 p4 with hb | ⟨f2, c2, hf2, hc2, rfl, rfl⟩
    · refine ⟨1, M, F, O, 0, M2, jfu F2 0 1, L2, ?_, ?_, q_fus, fun z => absurd z (by decide), q_I0 w h h2 hK 1⟩
      · unfold hLa_less
        show (fJh_less_0 _ _ _ _ M F).bind _ = _
        unfold fJh_less_0
        rw [c_sideT w h hf hc, Option.bind_some]
        simp only [if_true]
        rw [c_sideF w h hb]; rfl
      · show fMo_less_0 _ _ _ _ M2 F2 L2 = _
        unfold fMo_less_0
        rw [m_colT w h2 hf hc, Option.bind_some, if_neg (by decide), m_colF w h2 hb, Option.bind_some, if_pos rfl, m30]
    · by_cases z : dC D = 12
      · refine ⟨2, M, F, O, 0, M2, jfu F2 0 2, L2, ?_, ?_, q_fus, fun z => absurd z (by decide), q_I0 w h h2 hK 2⟩
        · unfold hLa_less
          show (fJh_less_0 _ _ _ _ M F).bind _ = _
          unfold fJh_less_0
          rw [c_sideT w h hf hc, Option.bind_some]
          simp only [if_true]
          rw [c_sideT w h hf2 hc2, Option.bind_some]
          simp only [if_true]
          rw [c_leftF h z]; rfl
        · show fMo_less_0 _ _ _ _ M2 F2 L2 = _
          unfold fMo_less_0 fMo_less_31
          rw [m_colT w h2 hf hc, Option.bind_some, if_neg (by decide), m_colT w h2 hf2 hc2, Option.bind_some, if_neg (by decide), m_condU h2 z]; rfl
      · have hC : dC D < 12 := by omega
        obtain ⟨M', a1, a2, a3⟩ := c_addCond (kd := 2) (fi := f) (fc := c) (se := f2) (sc := c2) (nu := 0) w h (by omega) hf hf2 (fun y => absurd y (by decide)) hC
        obtain ⟨M2', b1, b2, b3⟩ := m_addCond (kd := 2) (fi := f) (fc := c) (se := f2) (sc := c2) (nu := 0) (L := L2) w h2 hC
        refine ⟨0, M', jfu F 1 (nI (dC D + 1)), vp_updL O (0 : Int32).toNatClampNeg (Int32.toInt64 (nI (dC D))), nI (dC D), M2', jfu (jfu F2 0 0) 2 (nI (dC D + 1)), L2, ?_, ?_, by rw [q_fun (by decide), q_fus], fun _ => q_O, q_I2 (D := D) (d_condW w (by omega) hf hc hf2 (fun _ => hc2) (fun y => absurd y (by decide)) hC) a2 b2 hK a3 b3⟩
        · unfold hLa_less
          show (fJh_less_0 _ _ _ _ M F).bind _ = _
          unfold fJh_less_0
          rw [c_sideT w h hf hc, Option.bind_some]
          simp only [if_true]
          rw [c_sideT w h hf2 hc2, Option.bind_some]
          simp only [if_true]
          rw [c_leftT h hC, Option.bind_some]
          simp only [if_true]
          have a1' : fQu_addCondition 2 (nI f) (nI c) (nI f2) (nI c2) M F = some (nI (dC D), M', jfu F 1 (nI (dC D + 1))) := a1
          rw [a1']; rfl
        · show fMo_less_0 _ _ _ _ M2 F2 L2 = _
          unfold fMo_less_0 fMo_less_31
          have b1' : fMo_condition 2 (nI f) (nI c) (nI f2) (nI c2) 1 M2 F2 L2 = some (nI (dC D), M2', jfu (jfu F2 0 0) 2 (nI (dC D + 1)), L2) := b1
          rw [m_colT w h2 hf hc, Option.bind_some, if_neg (by decide), m_colT w h2 hf2 hc2, Option.bind_some, if_neg (by decide), b1']; rfl
/-! all of them -/
theorem q_zero : qI (fun _ _ => 0) (fun _ => 0) (fun _ _ => 0) (fun _ => 0) (fun _ => 0) := by
  refine ⟨(fun _ => 0, fun _ _ _ => 0, fun _ => 0, 0, fun _ => 0, 0, fun _ => 0, fun _ => 0, fun _ => 0, fun _ => 0, fun _ => 0, fun _ => 0), [], 0, ?_, ?_, ?_, ?_⟩
  · exact ⟨fun t _ => ⟨Nat.zero_le _, Nat.zero_lt_succ _⟩, Nat.zero_le _, fun g hg => absurd hg (Nat.not_lt_zero _), Nat.zero_le _, fun k hk => absurd hk (Nat.not_lt_zero _)⟩
  · exact ⟨rfl, rfl, fun t _ => ⟨rfl, rfl⟩, fun t r c _ hr _ => absurd hr (Nat.not_lt_zero _), fun t c _ _ => rfl, fun g hg => absurd hg (Nat.not_lt_zero _), fun k hk => absurd hk (Nat.not_lt_zero _)⟩
  · exact ⟨rfl, rfl, fun t _ => ⟨rfl, rfl⟩, fun t r c _ hr _ => absurd hr (Nat.not_lt_zero _), fun g hg => absurd hg (Nat.not_lt_zero _), fun k hk => absurd hk (Nat.not_lt_zero _)⟩
  · exact ⟨Nat.zero_le _, fun d hd => absurd hd (List.not_mem_nil), Nat.zero_le _, rfl, rfl, rfl, rfl, rfl, fun j d hj => (by cases hj), fun j d hj => (by cases hj)⟩
theorem jsim_all : jSim qI := ⟨q_S0, q_S1, q_S2, q_S3, q_S4, q_S5, q_S6, q_S7, q_S8, q_S9, q_S10, q_S11, q_S12⟩
