/-! both side by side -/
def qK (K : List (Nat → Nat)) (e : Nat) (M : jM) (F : jF) (M2 : jM) (F2 : jF) : Prop := K.length ≤ 3000 ∧ (∀ d, d ∈ K → q30 d) ∧ e ≤ 6 ∧ F 6 = nI K.length ∧ F2 4 = nI K.length ∧ F 7 = nI e ∧ F2 3 = nI e ∧ F 8 = F2 5 ∧ hA (M 26) 0 K ∧ hB (M2 13) 0 K
def qI (M : jM) (F : jF) (M2 : jM) (F2 : jF) (_L : jL) : Prop := ∃ D K e, qW D ∧ qRC D M F ∧ qRM D M2 F2 ∧ qK K e M F M2 F2
theorem qK_fr {K : List (Nat → Nat)} {e : Nat} {M M' : jM} {F F' : jF} {M2 M2' : jM} {F2 F2' : jF} (h : qK K e M F M2 F2) (h1 : M' 26 = M 26) (h2 : ∀ k, 5 < k → F' k = F k) (h3 : M2' 13 = M2 13) (h4 : ∀ k, 2 < k → F2' k = F2 k) : qK K e M' F' M2' F2' := by
  obtain ⟨a, b, c, d, e, f, g, i, j, k⟩ := h
  refine ⟨a, b, c, ?_, ?_, ?_, ?_, ?_, ?_, ?_⟩
  · rw [h2 6 (by decide)]; exact d
  · rw [h4 4 (by decide)]; exact e
  · rw [h2 7 (by decide)]; exact f
  · rw [h4 3 (by decide)]; exact g
  · rw [h2 8 (by decide), h4 5 (by decide)]; exact i
  · rw [h1]; exact j
  · rw [h3]; exact k
theorem q_m1lt {j : Nat} (h : j < 2 ^ 31) : (-1 : Int32) < nI j := by
  rw [Int32.lt_iff_toInt_lt, nI_toInt h]
  show (-1 : Int) < j
  omega
theorem m_isF {x : Int32} {n : Nat} (hn : n < 2 ^ 31) (h : x < 0 ∨ nI n ≤ x) {M : jM} {F : jF} {L : jL} : fMo_is x 0 (nI n - 1) M F L = some 0 := by
  show fMo_is_0 _ _ _ M F L = _
  unfold fMo_is_0
  by_cases e : x < 0
  · rw [if_pos e]
  · rw [if_neg e]
    have h : nI n ≤ x := by rcases h with q | q
                            · exact absurd q e
                            · exact q
    obtain ⟨j, hj, rfl⟩ := nI_of e
    have hnj := (nI_leI hn hj).mp h
    cases n with
    | zero => rw [if_pos (show nI 0 - 1 < nI j from q_m1lt hj)]
    | succ n => rw [nI_pred, if_pos (nI_lt (by omega) hj)]
theorem m_isT {j n : Nat} (h : j < n) (hn : n < 2 ^ 31) {M : jM} {F : jF} {L : jL} : fMo_is (nI j) 0 (nI n - 1) M F L = some 1 := by
  show fMo_is_0 _ _ _ M F L = _
  unfold fMo_is_0
  obtain ⟨n, rfl⟩ : ∃ z, n = z + 1 := ⟨n - 1, by omega⟩
  rw [if_neg (nI_pos (by omega)), nI_pred, if_neg (nI_nlt (by omega) (by omega))]
theorem q_c5 : (5 : Int32) = nI 6 - 1 := by decide
theorem q_c15 : (15 : Int32) = nI 16 - 1 := by decide
theorem q_c3' : (3 : Int32) = nI 4 - 1 := by decide
theorem q_rng {x : Int32} {n : Nat} {α : Type} (a b : α) (h : x < 0 ∨ nI n ≤ x) : (if x < 0 then a else (if x < nI n then b else a)) = a := by
  by_cases e : x < 0
  · rw [if_pos e]
  · rw [if_neg e]
    rcases h with q | q
    · exact absurd q e
    · rw [if_neg (fun z => absurd (Int32.lt_of_lt_of_le z q) (Int32.lt_irrefl))]
theorem q_rngT {j n : Nat} {α : Type} (a b : α) (h : j < n) (hn : n < 2 ^ 31) : (if nI j < 0 then a else (if nI j < nI n then b else a)) = b := by
  rw [if_neg (nI_pos (by omega)), if_pos (nI_lt h hn)]
theorem q_rng2 {x : Int32} {n : Nat} {α : Type} (a b : α) (h : x < 0 ∨ nI n ≤ x) : (if x < 0 then a else (if nI n ≤ x then a else b)) = a := by
  by_cases e : x < 0
  · rw [if_pos e]
  · rw [if_neg e]
    rcases h with q | q
    · exact absurd q e
    · rw [if_pos q]
theorem q_rng2T {j n : Nat} {α : Type} (a b : α) (h : j < n) (hn : n < 2 ^ 31) : (if nI j < 0 then a else (if nI n ≤ nI j then a else b)) = b := by
  rw [if_neg (nI_pos (by omega)), if_neg (nI_ge h hn)]
theorem pk_ix' (x : Int32) {n : Nat} (hn : n < 2 ^ 31) : (x < 0 ∨ nI n ≤ x) ∨ ∃ j : Nat, j < n ∧ x = nI j := by
  rcases pk_ix x hn with h | h | h
  · exact Or.inl (Or.inl h)
  · exact Or.inl (Or.inr h)
  · exact Or.inr h
theorem c_isTableF {x : Int32} (h : x < 0 ∨ nI 6 ≤ x) {M : jM} {F : jF} : fJh_isTable x M F = some 0 := by
  show fJh_isTable_0 x M F = _
  unfold fJh_isTable_0
  rw [qn_6, q_rng2 _ _ h]
theorem c_isTableT {t : Nat} (h : t < 6) {M : jM} {F : jF} : fJh_isTable (nI t) M F = some 1 := by
  show fJh_isTable_0 _ M F = _
  unfold fJh_isTable_0
  rw [qn_6, q_rng2T _ _ h (by omega)]
/-! table -/
theorem c_empty16 {F : jF} {t : Nat} (ht : t < 6) : ∀ m n c (M : jM), c + m = 4 → (∀ j, j < c → M 9 (t * 4 + j) = 0) → m < n → ∃ M', fTa_empty_16 n (nI t) (nI c) M F = some (0, M', F) ∧ (∀ k, k ≠ 9 → M' k = M k) ∧ (∀ i, i < t * 4 ∨ t * 4 + 4 ≤ i → M' 9 i = M 9 i) ∧ (∀ j, j < 4 → M' 9 (t * 4 + j) = 0) := by
  intro m
  induction m with
  | zero =>
    intro n c M hc hM hn
    obtain ⟨n, rfl⟩ : ∃ z, n = z + 1 := ⟨n - 1, by omega⟩
    refine ⟨M, ?_, fun _ _ => rfl, fun _ _ => rfl, fun j hj => hM j (by omega)⟩
    rw [fTa_empty_16, qn_4, if_pos (nI_le (by omega) (by omega))]
  | succ m ih =>
    intro n c M hc hM hn
    obtain ⟨n, rfl⟩ : ∃ z, n = z + 1 := ⟨n - 1, by omega⟩
    obtain ⟨M', a1, a2, a3, a4⟩ := ih n (c + 1) (jmu M 9 (t * 4 + c) 0) (by omega) (fun j hj => by
      by_cases e : j = c
      · rw [e, q_mus]
      · rw [q_mui (by omega)]; exact hM j (by omega)) (by omega)
    refine ⟨M', ?_, fun k hk => by rw [a2 k hk, q_mukf hk], fun i hi => by rw [a3 i hi, q_mui (by omega)], a4⟩
    rw [fTa_empty_16, qn_4, if_neg (nI_ge (by omega) (by omega)), pk_mul, nI_add, q_ibt (by omega) (by omega), if_pos rfl, nI_clamp (by omega), nI_1, a1]
def d_tab (D : qD) (t v : Nat) : qD := (fun z => if z = t then 0 else dcnt D z, dcel D, fun z => if z = t then v else didx D z, D.2.2.2)
theorem q_S0 : jS0 qI := by
  intro M F M2 F2 L2 hI p1 p2 O
  obtain ⟨D, K, e, w, h, h2, hK⟩ := hI
  have bad : ∀ s1 : Int32, s1 = 1 → qI M F M2 (jfu F2 0 s1) L2 := fun s1 _ => ⟨D, K, e, w, h, qRM_fr h2 (fun _ _ => rfl) (q_fun (by decide)) (q_fun (by decide)), qK_fr hK rfl (fun _ _ => rfl) rfl (fun k hk => q_fun (by omega))⟩
  have m25 : fMo_table_24 p1 p2 M2 F2 L2 = some (0, M2, jfu F2 0 1, L2) := by
    unfold fMo_table_24 fMo_table_25
    rw [q_fus, if_neg (by decide)]
  rcases pk_ix' p1 (show 6 < 2 ^ 31 by omega) with h1 | ⟨t, ht, rfl⟩
  · refine ⟨1, M, F, O, 0, M2, jfu F2 0 1, L2, ?_, ?_, q_fus, bad 1 rfl⟩
    · unfold hLa_table
      show (fJh_table_0 p1 p2 M F).bind _ = _
      unfold fJh_table_0
      rw [c_isTableF h1]; rfl
    · show fMo_table_0 p1 p2 M2 F2 L2 = _
      unfold fMo_table_0
      rw [q_c5, m_isF (by omega) h1, Option.bind_some, if_pos rfl, m25]
  · rcases pk_ix' p2 (show 16 < 2 ^ 31 by omega) with h3 | ⟨v, hv, rfl⟩
    · refine ⟨1, M, F, O, 0, M2, jfu F2 0 1, L2, ?_, ?_, q_fus, bad 1 rfl⟩
      · unfold hLa_table
        show (fJh_table_0 _ p2 M F).bind _ = _
        unfold fJh_table_0 fJh_table_27
        rw [c_isTableT ht, Option.bind_some, if_neg (by decide), show (16 : Int32) = nI 16 from rfl, q_rng _ _ h3]; rfl
      · show fMo_table_0 _ p2 M2 F2 L2 = _
        unfold fMo_table_0
        rw [q_c5, m_isT ht (by omega), Option.bind_some, if_neg (by decide), q_c15, m_isF (by omega) h3, Option.bind_some, if_pos rfl, m25]
    · obtain ⟨M', a1, a2, a3, a4⟩ := c_empty16 (F := F) ht 4 jfuel 0 (jmu (jmu M 7 t 0) 8 t (nI v)) (by omega) (fun j hj => by omega) (by show _ < 4000; omega)
      refine ⟨0, M', F, O, 0, jmu (jmu M2 2 t 0) 3 t (nI v), jfu F2 0 0, L2, ?_, ?_, q_fus, d_tab D t v, K, e, ?_, ?_, ?_, ?_⟩
      · unfold hLa_table
        show (fJh_table_0 _ _ M F).bind _ = _
        unfold fJh_table_0 fJh_table_27
        rw [c_isTableT ht, Option.bind_some, if_neg (by decide), show (16 : Int32) = nI 16 from rfl, q_rngT _ _ hv (by omega)]
        show ((fTa_empty_0 (nI t) (nI v) M F).bind _).bind _ = _
        unfold fTa_empty_0
        rw [q_ibt ht (by omega), if_pos rfl, if_pos rfl, nI_clamp (by omega), qn_0]
        rw [qn_0] at a1
        rw [a1]; rfl
      · show fMo_table_0 _ _ M2 F2 L2 = _
        unfold fMo_table_0 fMo_table_25
        rw [q_c5, m_isT ht (by omega), Option.bind_some, if_neg (by decide), q_c15, m_isT hv (by omega), Option.bind_some, if_neg (by decide), q_fus, if_pos (by decide), q_ibt ht (by omega), if_pos rfl, if_pos rfl, nI_clamp (by omega)]
      · refine ⟨fun z hz => ?_, w.2⟩
        show (if z = t then 0 else dcnt D z) ≤ 30 ∧ (if z = t then v else didx D z) < 16
        by_cases y : z = t
        · rw [if_pos y, if_pos y]; omega
        · rw [if_neg y, if_neg y]; exact w.1 z hz
      · obtain ⟨c1, c2, c3, c4, c5, c6, c7⟩ := h
        refine ⟨c1, c2, fun z hz => ?_, fun z r c hz hr hc => ?_, fun z c hz hc => ?_, fun g hg => ?_, fun k hk => ?_⟩
        · show M' 7 z = nI (if z = t then 0 else dcnt D z) ∧ M' 8 z = nI (if z = t then v else didx D z)
          rw [a2 7 (by decide), a2 8 (by decide)]
          by_cases y : z = t
          · subst y; rw [if_pos rfl, if_pos rfl, q_mus, q_muk (by decide), q_mus]; exact ⟨rfl, rfl⟩
          · rw [if_neg y, if_neg y, q_mui y, q_muk (by decide), q_mui y, q_muk (by decide)]; exact c3 z hz
        · have hr' : r < (if z = t then 0 else dcnt D z) := hr
          by_cases y : z = t
          · rw [if_pos y] at hr'; omega
          · rw [if_neg y] at hr'
            rw [a2 6 (by decide), q_muk (by decide), q_muk (by decide)]
            exact c4 z r c hz hr' hc
        · show M' 9 (z * 4 + c) = nI (qcb (dfr D z c) (if z = t then 0 else dcnt D z))
          by_cases y : z = t
          · subst y; rw [if_pos rfl, a4 c hc]; rfl
          · rw [if_neg y, a3 _ (by omega), q_muk (by decide), q_muk (by decide)]
            exact c5 z c hz hc
        · rw [a2 10 (by decide), q_muk (by decide), q_muk (by decide)]; exact c6 g hg
        · rw [a2 11 (by decide), a2 12 (by decide), a2 13 (by decide), a2 14 (by decide), a2 15 (by decide), a2 16 (by decide)]
          simp only [q_mukf (show 11 ≠ 8 by decide), q_mukf (show 11 ≠ 7 by decide), q_mukf (show 12 ≠ 8 by decide), q_mukf (show 12 ≠ 7 by decide), q_mukf (show 13 ≠ 8 by decide), q_mukf (show 13 ≠ 7 by decide), q_mukf (show 14 ≠ 8 by decide), q_mukf (show 14 ≠ 7 by decide), q_mukf (show 15 ≠ 8 by decide), q_mukf (show 15 ≠ 7 by decide), q_mukf (show 16 ≠ 8 by decide), q_mukf (show 16 ≠ 7 by decide)]
          exact c7 k hk
      · obtain ⟨c1, c2, c3, c4, c6, c7⟩ := h2
        refine ⟨by rw [q_fun (by decide)]; exact c1, by rw [q_fun (by decide)]; exact c2, fun z hz => ?_, fun z r c hz hr hc => ?_, fun g hg => ?_, fun k hk => ?_⟩
        · show _ = nI (if z = t then 0 else dcnt D z) ∧ _ = nI (if z = t then v else didx D z)
          by_cases y : z = t
          · subst y; rw [if_pos rfl, if_pos rfl, q_mus, q_muk (by decide), q_mus]; exact ⟨rfl, rfl⟩
          · rw [if_neg y, if_neg y, q_mui y, q_muk (by decide), q_mui y, q_muk (by decide)]; exact c3 z hz
        · have hr' : r < (if z = t then 0 else dcnt D z) := hr
          by_cases y : z = t
          · rw [if_pos y] at hr'; omega
          · rw [if_neg y] at hr'
            rw [q_muk (by decide), q_muk (by decide)]
            exact c4 z r c hz hr' hc
        · rw [q_muk (by decide), q_muk (by decide)]; exact c6 g hg
        · simp only [q_mukf (show 5 ≠ 3 by decide), q_mukf (show 5 ≠ 2 by decide), q_mukf (show 6 ≠ 3 by decide), q_mukf (show 6 ≠ 2 by decide), q_mukf (show 7 ≠ 3 by decide), q_mukf (show 7 ≠ 2 by decide), q_mukf (show 8 ≠ 3 by decide), q_mukf (show 8 ≠ 2 by decide), q_mukf (show 9 ≠ 3 by decide), q_mukf (show 9 ≠ 2 by decide)]
          exact c7 k hk
      · exact qK_fr hK (by rw [a2 26 (by decide), q_mukf (by decide), q_mukf (by decide)]) (fun _ _ => rfl) (by rw [q_mukf (by decide), q_mukf (by decide)]) (fun k hk => q_fun (by omega))
/-! clear and generator -/
theorem q_S2 : jS2 qI := by
  intro M F M2 F2 L2 hI
  obtain ⟨D, K, e, w, h, h2, hK⟩ := hI
  refine ⟨0, M, jfu (jfu F 0 0) 1 0, 0, M2, jfu (jfu (jfu F2 0 0) 1 0) 2 0, L2, rfl, rfl, (dcnt D, dcel D, didx D, 0, dtb D, 0, D.2.2.2.2.2.2), K, e, ?_, ?_, ?_, ?_⟩
  · exact ⟨w.1, Nat.zero_le _, fun g hg => absurd hg (Nat.not_lt_zero _), Nat.zero_le _, fun k hk => absurd hk (Nat.not_lt_zero _)⟩
  · exact ⟨by rw [q_fun (by decide), q_fus]; rfl, by rw [q_fus]; rfl, h.2.2.1, h.2.2.2.1, h.2.2.2.2.1, fun g hg => absurd hg (Nat.not_lt_zero _), fun k hk => absurd hk (Nat.not_lt_zero _)⟩
  · exact ⟨by rw [q_fun (by decide), q_fus]; rfl, by rw [q_fus]; rfl, h2.2.2.1, h2.2.2.2.1, fun g hg => absurd hg (Nat.not_lt_zero _), fun k hk => absurd hk (Nat.not_lt_zero _)⟩
  · exact qK_fr hK rfl (fun k hk => by rw [q_fun (by omega), q_fun (by omega)]) rfl (fun k hk => by rw [q_fun (by omega), q_fun (by omega), q_fun (by omega)])
theorem q_I0 {D : qD} {K : List (Nat → Nat)} {e : Nat} {M : jM} {F : jF} {M2 : jM} {F2 : jF} {L2 : jL} (w : qW D) (h : qRC D M F) (h2 : qRM D M2 F2) (hK : qK K e M F M2 F2) (x : Int32) : qI M F M2 (jfu F2 0 x) L2 := ⟨D, K, e, w, h, qRM_fr h2 (fun _ _ => rfl) (q_fun (by decide)) (q_fun (by decide)), qK_fr hK rfl (fun _ _ => rfl) rfl (fun k hk => q_fun (by omega))⟩
theorem q_O {O : Nat → Int64} {x : Int64} : vp_updL O (0 : Int32).toNatClampNeg x (0 : Int32).toNatClampNeg = x := pk_uLs
theorem q_S3 : jS3 qI := by
  intro M F M2 F2 L2 hI p1 O
  obtain ⟨D, K, e, w, h, h2, hK⟩ := hI
  have G6 := w.2.1
  rcases pk_ix' p1 (show 6 < 2 ^ 31 by omega) with h1 | ⟨t, ht, rfl⟩
  · refine ⟨1, M, F, O, 0, M2, jfu F2 0 1, L2, ?_, ?_, q_fus, fun z => absurd z (by decide), q_I0 w h h2 hK 1⟩
    · unfold hLa_generator
      show (fJh_generator_0 p1 M F).bind _ = _
      unfold fJh_generator_0
      rw [c_isTableF h1]; rfl
    · show fMo_generator_0 p1 M2 F2 L2 = _
      unfold fMo_generator_0 fMo_generator_28
      rw [q_c5, m_isF (by omega) h1, Option.bind_some, if_pos rfl, q_fus, if_neg (by decide)]
  · by_cases z : dG D = 6
    · refine ⟨2, M, F, O, 0, M2, jfu F2 0 2, L2, ?_, ?_, q_fus, fun z => absurd z (by decide), q_I0 w h h2 hK 2⟩
      · unfold hLa_generator
        show (fJh_generator_0 _ M F).bind _ = _
        unfold fJh_generator_0
        rw [c_isTableT ht, Option.bind_some, if_neg (by decide), h.1, z, if_neg (by decide)]; rfl
      · show fMo_generator_0 _ M2 F2 L2 = _
        unfold fMo_generator_0 fMo_generator_28
        rw [q_c5, m_isT ht (by omega), Option.bind_some, if_neg (by decide), h2.1, z, if_pos (by decide), q_fus, if_neg (by decide)]
    · refine ⟨0, jmu M 10 (dG D) (nI t), jfu F 0 (nI (dG D + 1)), vp_updL O (0 : Int32).toNatClampNeg (Int32.toInt64 (nI (dG D))), nI (dG D), jmu M2 4 (dG D) (nI t), jfu (jfu F2 0 0) 1 (nI (dG D + 1)), L2, ?_, ?_, by rw [q_fun (by decide), q_fus], fun _ => q_O, (dcnt D, dcel D, didx D, dG D + 1, fun g => if g = dG D then t else dtb D g, D.2.2.2.2.2), K, e, ?_, ?_, ?_, ?_⟩
      · unfold hLa_generator
        show (fJh_generator_0 _ M F).bind _ = _
        unfold fJh_generator_0
        rw [c_isTableT ht, Option.bind_some, if_neg (by decide), h.1, qn_6, if_pos (nI_lt (by omega) (by omega))]
        show ((fQu_addGenerator_0 (nI t) M F).bind _).bind _ = _
        unfold fQu_addGenerator_0
        rw [h.1, q_ibt (by omega) (by omega), if_pos rfl, nI_clamp (by omega), nI_1]; rfl
      · show fMo_generator_0 _ M2 F2 L2 = _
        unfold fMo_generator_0 fMo_generator_28
        rw [q_c5, m_isT ht (by omega), Option.bind_some, if_neg (by decide), h2.1, qn_6, if_neg (fun y => z ((nI_eq (by omega) (by omega)).mp y)), q_fus, if_pos (by decide), q_fun (by decide), h2.1, q_ibt (by omega) (by omega), if_pos rfl, nI_clamp (by omega), nI_1, q_fus, nI_pred]
      · refine ⟨w.1, ?_, fun g hg => ?_, w.2.2.2.1, fun k hk => ?_⟩
        · show dG D + 1 ≤ 6; omega
        · have hg' : g < dG D + 1 := hg
          show (if g = dG D then t else dtb D g) < 6
          by_cases y : g = dG D
          · rw [if_pos y]; exact ht
          · rw [if_neg y]; exact w.2.2.1 g (by omega)
        · obtain ⟨q1, q2, q3, q4, q5, q6⟩ := w.2.2.2.2 k hk
          exact ⟨q1, Nat.lt_succ_of_lt q2, q3, Nat.lt_succ_of_lt q4, q5, q6⟩
      · obtain ⟨c1, c2, c3, c4, c5, c6, c7⟩ := h
        refine ⟨q_fus, by rw [q_fun (by decide)]; exact c2, fun z hz => by rw [q_muk (by decide), q_muk (by decide)]; exact c3 z hz, fun z r c hz hr hc => by rw [q_muk (by decide)]; exact c4 z r c hz hr hc, fun z c hz hc => by rw [q_muk (by decide)]; exact c5 z c hz hc, fun g hg => ?_, fun k hk => by simp only [q_mukf (show 11 ≠ 10 by decide), q_mukf (show 12 ≠ 10 by decide), q_mukf (show 13 ≠ 10 by decide), q_mukf (show 14 ≠ 10 by decide), q_mukf (show 15 ≠ 10 by decide), q_mukf (show 16 ≠ 10 by decide)]; exact c7 k hk⟩
        have hg' : g < dG D + 1 := hg
        show _ = nI (if g = dG D then t else dtb D g)
        by_cases y : g = dG D
        · rw [if_pos y, y, q_mus]
        · rw [if_neg y, q_mui y]; exact c6 g (by omega)
      · obtain ⟨c1, c2, c3, c4, c6, c7⟩ := h2
        refine ⟨q_fus, by rw [q_fun (by decide), q_fun (by decide)]; exact c2, fun z hz => by rw [q_muk (by decide), q_muk (by decide)]; exact c3 z hz, fun z r c hz hr hc => by rw [q_muk (by decide)]; exact c4 z r c hz hr hc, fun g hg => ?_, fun k hk => by simp only [q_mukf (show 5 ≠ 4 by decide), q_mukf (show 6 ≠ 4 by decide), q_mukf (show 7 ≠ 4 by decide), q_mukf (show 8 ≠ 4 by decide), q_mukf (show 9 ≠ 4 by decide)]; exact c7 k hk⟩
        have hg' : g < dG D + 1 := hg
        show _ = nI (if g = dG D then t else dtb D g)
        by_cases y : g = dG D
        · rw [if_pos y, y, q_mus]
        · rw [if_neg y, q_mui y]; exact c6 g (by omega)
      · exact qK_fr hK (q_mukf (by decide)) (fun k hk => q_fun (by omega)) (q_mukf (by decide)) (fun k hk => by rw [q_fun (by omega), q_fun (by omega)])
/-! looks, way -/
theorem q_S11 : jS11 qI := by
  intro M F M2 F2 L2 hI
  obtain ⟨D, K, e, w, h, h2, hK⟩ := hI
  refine ⟨F 8, F2 5, M2, jfu F2 0 0, L2, rfl, ?_, hK.2.2.2.2.2.2.2.1, q_I0 w h h2 hK 0⟩
  show fMo_looks_0 M2 F2 L2 = _
  unfold fMo_looks_0
  rw [q_fun (by decide)]
theorem q_S12 : jS12 qI := by
  intro M F M2 F2 L2 hI p1 p2 O
  obtain ⟨D, K, e, w, h, h2, hK⟩ := hI
  obtain ⟨k1, k2, k3, k4, k5, k6, k7, k8, k9, k10⟩ := hK
  have hK : qK K e M F M2 F2 := ⟨k1, k2, k3, k4, k5, k6, k7, k8, k9, k10⟩
  have m33 : fMo_way_33 p1 p2 M2 F2 L2 = some (0, M2, jfu F2 0 1, L2) := by
    unfold fMo_way_33 fMo_way_34
    rw [q_fus, if_neg (by decide)]
  rcases pk_ix' p1 (show K.length < 2 ^ 31 by omega) with h1 | ⟨t, ht, rfl⟩
  · refine ⟨1, M, F, O, 0, M2, jfu F2 0 1, L2, ?_, ?_, q_fus, fun z => absurd z (by decide), q_I0 w h h2 hK 1⟩
    · unfold hLa_way
      show (fJh_way_0 p1 p2 M F).bind _ = _
      unfold fJh_way_0 fJh_way_15
      rw [k4, q_rng _ _ h1]; rfl
    · show fMo_way_0 p1 p2 M2 F2 L2 = _
      unfold fMo_way_0
      rw [k5, m_isF (by omega) h1, Option.bind_some, if_pos rfl, m33]
  · rcases pk_ix' p2 (show e < 2 ^ 31 by omega) with h3 | ⟨v, hv, rfl⟩
    · refine ⟨1, M, F, O, 0, M2, jfu F2 0 1, L2, ?_, ?_, q_fus, fun z => absurd z (by decide), q_I0 w h h2 hK 1⟩
      · unfold hLa_way
        show (fJh_way_0 _ p2 M F).bind _ = _
        unfold fJh_way_0 fJh_way_15 fJh_way_40
        rw [k4, q_rngT _ _ ht (by omega), k6, q_rng _ _ h3]; rfl
      · show fMo_way_0 _ p2 M2 F2 L2 = _
        unfold fMo_way_0
        rw [k5, m_isT ht (by omega), Option.bind_some, if_neg (by decide), k7, m_isF (by omega) h3, Option.bind_some, if_pos rfl, m33]
    · have hd := k2 _ (List.getElem_mem ht)
      have j1 := k9 t _ (List.getElem?_eq_getElem ht)
      have j2 := k10 t _ (List.getElem?_eq_getElem ht)
      rw [Nat.zero_add] at j1 j2
      refine ⟨0, M, F, vp_updL O (0 : Int32).toNatClampNeg (Int32.toInt64 (nI (K[t] v))), nI (K[t] v), M2, jfu F2 0 0, L2, ?_, ?_, q_fus, fun _ => q_O, q_I0 w h h2 hK 0⟩
      · unfold hLa_way
        show (fJh_way_0 _ _ M F).bind _ = _
        unfold fJh_way_0
        rw [k4, q_rngT _ _ ht (by omega), k6, q_rngT _ _ hv (by omega), q_ibt (by omega) (by omega), if_pos rfl, nI_clamp (by omega), j1, c_rowIn hd (by omega)]; rfl
      · show fMo_way_0 _ _ M2 F2 L2 = _
        unfold fMo_way_0 fMo_way_34
        rw [k5, m_isT ht (by omega), Option.bind_some, if_neg (by decide), k7, m_isT hv (by omega), Option.bind_some, if_neg (by decide), q_fus, if_pos (by decide), q_ibt (by omega) (by omega), if_pos rfl, nI_clamp (by omega), j2, m_rowIn hd (by omega)]; rfl
/-! plan, method, size, run -/
theorem c_placeF {D : qD} {M : jM} {F : jF} (h : qRC D M F) {x : Int32} (h1 : x < 0 ∨ nI (dG D) ≤ x) : fJh_checkPlace x M F = some (3, 0, M, F) := by
  show fJh_checkPlace_0 x M F = _
  unfold fJh_checkPlace_0 fJh_checkPlace_15
  rw [h.1, q_rng _ _ h1]
theorem c_placeT {D : qD} {M : jM} {F : jF} (w : qW D) (h : qRC D M F) {j : Nat} (h1 : j < dG D) : fJh_checkPlace (nI j) M F = some (0, 0, M, F) := by
  have := w.2.1
  show fJh_checkPlace_0 _ M F = _
  unfold fJh_checkPlace_0 fJh_checkPlace_15
  rw [h.1, q_rngT _ _ h1 (by omega)]
theorem m_plansF {D : qD} {M : jM} {F : jF} {L : jL} (w : qW D) (h : qRM D M F) {x : Int32} (h1 : x < 0 ∨ nI (dG D) ≤ x) : fMo_plansTo x M F L = some (0, M, jfu F 0 1, L) := by
  have := w.2.1
  show fMo_plansTo_0 x M F L = _
  unfold fMo_plansTo_0 fMo_plansTo_20
  rw [h.1, m_isF (by omega) h1, Option.bind_some, if_pos rfl, q_fus, if_neg (by decide)]
theorem m_plansT {D : qD} {M : jM} {F : jF} {L : jL} (w : qW D) (h : qRM D M F) {j : Nat} (h1 : j < dG D) : ∃ M' L', fMo_plansTo (nI j) M F L = some (1, M', jfu F 0 0, L') ∧ (∀ k, k ≠ 11 → k ≠ 12 → M' k = M k) ∧ qPM D M' L' := by
  have := w.2.1
  have h0 : qRM D M (jfu F 0 0) := qRM_fr h (fun _ _ => rfl) (q_fun (by decide)) (q_fun (by decide))
  obtain ⟨M', L', a1, a2, a3⟩ := m_makePlan (L := L) w h0 (by omega)
  refine ⟨M', L', ?_, a2, a3⟩
  show fMo_plansTo_0 _ M F L = _
  unfold fMo_plansTo_0 fMo_plansTo_20
  rw [h.1, m_isT h1 (by omega), Option.bind_some, if_neg (by decide), q_fus, if_pos (by decide), a1]; rfl
theorem q_I1 {D : qD} {K : List (Nat → Nat)} {e : Nat} {M M' : jM} {F : jF} {M2 M2' : jM} {F2 : jF} {L2 : jL} (w : qW D) (h : qRC D M F) (h2 : qRM D M2 F2) (hK : qK K e M F M2 F2) (x : Int32) (f1 : ∀ k, k ≠ 17 → k ≠ 18 → k ≠ 19 → M' k = M k) (f2 : ∀ k, k ≠ 11 → k ≠ 12 → M2' k = M2 k) : qI M' F M2' (jfu F2 0 x) L2 := ⟨D, K, e, w, qRC_fr h (fun k hk => f1 k (by omega) (by omega) (by omega)) rfl rfl, qRM_fr h2 (fun k hk => f2 k (by omega) (by omega)) (q_fun (by decide)) (q_fun (by decide)), qK_fr hK (f1 26 (by decide) (by decide) (by decide)) (fun _ _ => rfl) (f2 13 (by decide) (by decide)) (fun k hk => q_fun (by omega))⟩
theorem q_S7 : jS7 qI := by
  intro M F M2 F2 L2 hI p1 O
  obtain ⟨D, K, e, w, h, h2, hK⟩ := hI
  have G6 := w.2.1
  rcases pk_ix' p1 (show dG D < 2 ^ 31 by omega) with h1 | ⟨t, ht, rfl⟩
  · refine ⟨1, M, F, O, 0, M2, jfu F2 0 1, L2, ?_, ?_, q_fus, fun z => absurd z (by decide), q_I0 w h h2 hK 1⟩
    · unfold hLa_plan
      show (fJh_plan_0 p1 M F).bind _ = _
      unfold fJh_plan_0
      rw [c_placeF h h1]; rfl
    · show fMo_plan_0 p1 M2 F2 L2 = _
      unfold fMo_plan_0
      rw [m_plansF w h2 h1]; rfl
  · obtain ⟨M', a1, a2, a3⟩ := c_make w h
    obtain ⟨M2', L2', b1, b2, b3⟩ := m_plansT (L := L2) w h2 ht
    refine ⟨0, M', F, vp_updL O (0 : Int32).toNatClampNeg (Int32.toInt64 (nI (dor D t))), nI (dor D t), M2', jfu F2 0 0, L2', ?_, ?_, q_fus, fun _ => q_O, q_I1 w h h2 hK 0 a2 b2⟩
    · unfold hLa_plan
      show (fJh_plan_0 _ M F).bind _ = _
      unfold fJh_plan_0
      rw [c_placeT w h ht, Option.bind_some]
      simp only [if_true]
      rw [a1, Option.bind_some, q_ibt (by omega) (by omega), if_pos rfl, nI_clamp (by omega)]
      simp only
      rw [a3.1 t ht]; rfl
    · show fMo_plan_0 _ M2 F2 L2 = _
      unfold fMo_plan_0
      rw [b1, Option.bind_some, if_neg (show ¬ (1 : Int32) = 0 by decide), q_ibt (by omega) (by omega), if_pos rfl, nI_clamp (by omega)]
      simp only
      rw [b3.1 t ht]
theorem q_S8 : jS8 qI := by
  intro M F M2 F2 L2 hI p1 O
  obtain ⟨D, K, e, w, h, h2, hK⟩ := hI
  have G6 := w.2.1
  rcases pk_ix' p1 (show dG D < 2 ^ 31 by omega) with h1 | ⟨t, ht, rfl⟩
  · refine ⟨1, M, F, O, 0, M2, jfu F2 0 1, L2, ?_, ?_, q_fus, fun z => absurd z (by decide), q_I0 w h h2 hK 1⟩
    · unfold hLa_method
      show (fJh_method_0 p1 M F).bind _ = _
      unfold fJh_method_0
      rw [c_placeF h h1]; rfl
    · show fMo_method_0 p1 M2 F2 L2 = _
      unfold fMo_method_0
      rw [m_plansF w h2 h1]; rfl
  · obtain ⟨M', a1, a2, a3⟩ := c_make w h
    obtain ⟨M2', L2', b1, b2, b3⟩ := m_plansT (L := L2) w h2 ht
    have hC : qRC D M' F := qRC_fr h (fun k hk => a2 k (by omega) (by omega) (by omega)) rfl rfl
    have hM : qRM D M2' (jfu F2 0 0) := qRM_fr h2 (fun k hk => b2 k (by omega) (by omega)) (q_fun (by decide)) (q_fun (by decide))
    refine ⟨0, M', F, vp_updL O (0 : Int32).toNatClampNeg (Int32.toInt64 (nI (dme D (dor D t) (dps D t)))), nI (dme D (dor D t) (dps D t)), M2', jfu F2 0 0, L2', ?_, ?_, q_fus, fun _ => q_O, q_I1 w h h2 hK 0 a2 b2⟩
    · unfold hLa_method
      show (fJh_method_0 _ M F).bind _ = _
      unfold fJh_method_0
      rw [c_placeT w h ht, Option.bind_some]
      simp only [if_true]
      rw [a1, Option.bind_some]
      simp only
      rw [c_methodAt w hC a3 ht]; rfl
    · show fMo_method_0 _ M2 F2 L2 = _
      unfold fMo_method_0
      rw [b1, Option.bind_some, if_neg (show ¬ (1 : Int32) = 0 by decide)]
      simp only
      rw [m_methodAt w hM b3 ht]; rfl
theorem q_S9 : jS9 qI := by
  intro M F M2 F2 L2 hI p1 O
  obtain ⟨D, K, e, w, h, h2, hK⟩ := hI
  have G6 := w.2.1
  rcases pk_ix' p1 (show dG D < 2 ^ 31 by omega) with h1 | ⟨t, ht, rfl⟩
  · refine ⟨1, M, F, O, 0, M2, jfu F2 0 1, L2, ?_, ?_, q_fus, fun z => absurd z (by decide), q_I0 w h h2 hK 1⟩
    · unfold hLa_size
      show (fJh_size_0 p1 M F).bind _ = _
      unfold fJh_size_0
      rw [c_placeF h h1]; rfl
    · show fMo_size_0 p1 M2 F2 L2 = _
      unfold fMo_size_0
      rw [m_plansF w h2 h1]; rfl
  · obtain ⟨M', a1, a2, a3⟩ := c_make w h
    obtain ⟨M2', L2', b1, b2, b3⟩ := m_plansT (L := L2) w h2 ht
    have hs := (dps_b (D := D) (t + 1) (by omega)).2.1
    have hs64 := q_s64 w hs
    refine ⟨0, M', F, vp_updL O (0 : Int32).toNatClampNeg (Int32.toInt64 (nI (dsz D (dps D (t + 1))))), nI (dsz D (dps D (t + 1))), M2', jfu F2 0 0, L2', ?_, ?_, q_fus, fun _ => q_O, q_I1 w h h2 hK 0 a2 b2⟩
    · unfold hLa_size
      show (fJh_size_0 _ M F).bind _ = _
      unfold fJh_size_0
      rw [c_placeT w h ht, Option.bind_some]
      simp only [if_true]
      rw [a1, Option.bind_some]
      simp only
      rw [c_sizeAt w a3 ht]; rfl
    · show fMo_size_0 _ M2 F2 L2 = _
      unfold fMo_size_0
      rw [b1, Option.bind_some, if_neg (show ¬ (1 : Int32) = 0 by decide)]
      simp only
      rw [nI_1, m_ahead w b3 (by omega), Option.bind_some, q_ibt hs64 (by omega), if_pos rfl, nI_clamp (by omega), b3.2 _ (by rw [dps]; exact q_set0) hs, lN_i]
theorem q_S10 : jS10 qI := by
  intro M F M2 F2 L2 hI O
  obtain ⟨D, K, e, w, h, h2, hK⟩ := hI
  have G6 := w.2.1
  obtain ⟨r1, r2⟩ := c_go w h
  obtain ⟨s1, s2⟩ := m_run (L := L2) w h2
  cases z : al (rok D) 0 (dG D) with
  | true =>
    obtain ⟨hl, K', M', F', a1, a2, a3, a4, a5, a6, a7, a8, a9⟩ := r1 z
    obtain ⟨M2', F2', L2', b1, b2, b3, b4, b5, b6, b7, b8, b9⟩ := s1 z K' hl a2 a3
    have hok := rls_ok w (dG D) (Nat.le_refl _)
    refine ⟨0, M', F', vp_updL O (0 : Int32).toNatClampNeg (Int32.toInt64 (nI K'.length)), nI K'.length, M2', F2', L2', ?_, b1, b3, fun _ => q_O, D, K', dG D, w, qRC_fr h (fun k hk => a8 k (by omega)) (a9 0 (by omega)) (a9 1 (by omega)), qRM_fr h2 (fun k hk => b7 k (by omega)) b8 b9, by rw [a2.length_eq]; exact hl, fun d hd => (hok d (a2.mem_iff.mp hd)).1.1, G6, a5, b4, a6, b6, by rw [a7, b5], a4, b2⟩
    unfold hLa_run
    show (fJh_run_0 M F).bind _ = _
    unfold fJh_run_0
    rw [a1, Option.bind_some, if_neg (show ¬ (1 : Int32) = 0 by decide)]
    simp only
    rw [a5]; rfl
  | false =>
    obtain ⟨M', F', a1, a2, a3⟩ := r2 z
    obtain ⟨M2', F2', L2', b1, b2, b3, b4⟩ := s2 z
    refine ⟨1, M', F', O, 0, M2', F2', L2', ?_, b1, b2, fun q => absurd q (by decide), D, K, e, w, qRC_fr h (fun k hk => a2 k (by omega)) (a3 0 (by omega)) (a3 1 (by omega)), qRM_fr h2 (fun k hk => b3 k (by omega)) (b4 1 (by omega)) (b4 2 (by omega)), qK_fr hK (a2 26 (by omega)) (fun k hk => a3 k (by omega)) (b3 13 (by omega)) (fun k hk => b4 k (by omega))⟩
    unfold hLa_run
    show (fJh_run_0 M F).bind _ = _
    unfold fJh_run_0
    rw [a1, Option.bind_some, if_pos rfl]; rfl
