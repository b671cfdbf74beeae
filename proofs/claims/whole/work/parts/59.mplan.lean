/-! the reference's plan -/
theorem q_sub2 (m : Nat) : nI (m + 1) - 2 = nI m + (-1) := by
  rw [nI_succ, Int32.sub_eq_add_neg, Int32.add_assoc]; rfl
theorem m_swap {M : jM} {F : jF} {L : jL} {i j : Nat} (hi : i < 6) (hj : j < 6) : fMo_swap (nI i) (nI j) M F L = some (0, jmu (jmu M 11 i (M 11 j)) 11 j (M 11 i), F, L) := by
  show fMo_swap_0 _ _ M F L = _
  unfold fMo_swap_0
  rw [q_ibt hi (by omega), q_ibt hj (by omega), nI_clamp (by omega), nI_clamp (by omega), if_pos rfl, if_pos rfl, if_pos rfl, if_pos rfl]
theorem m_swapo {M : jM} {G i j : Nat} {o : Nat → Nat} (h : ∀ k, k < G → M 11 k = nI (o k)) (hi : i < G) (hj : j < G) : (∀ k, k < G → jmu (jmu M 11 i (M 11 j)) 11 j (M 11 i) 11 k = nI (nsw o i j k)) := by
  intro k hk
  unfold nsw
  by_cases e : k = j
  · rw [e, q_mus, if_pos rfl, h i hi]
  · rw [q_mui e, if_neg e]
    by_cases e2 : k = i
    · rw [e2, q_mus, if_pos rfl, h j hj]
    · rw [q_mui e2, if_neg e2, h k hk]
theorem m_next86 {F : jF} {L : jL} {G : Nat} (hG : G ≤ 6) : ∀ n' n i j (M : jM) (o : Nat → Nat), (∀ k, k < G → M 11 k = nI (o k)) → j < G → i ≤ G → j ≤ i + n' → n' < n →
    ∃ M', fMo_nextOrder_86 n (nI i) (nI j) M F L = some (1, M', F, L) ∧ (∀ k, k ≠ 11 → M' k = M k) ∧ (∀ k, k < G → M' 11 k = nI (n86 n' o i j k)) := by
  intro n'
  induction n' with
  | zero =>
    intro n i j M o h hj hi hd hn
    obtain ⟨n, rfl⟩ : ∃ z, n = z + 1 := ⟨n - 1, by omega⟩
    refine ⟨M, ?_, fun _ _ => rfl, h⟩
    rw [fMo_nextOrder_86, if_pos (nI_le (by omega) (by omega))]
  | succ n' ih =>
    intro n i j M o h hj hi hd hn
    obtain ⟨n, rfl⟩ : ∃ z, n = z + 1 := ⟨n - 1, by omega⟩
    by_cases e : j ≤ i
    · refine ⟨M, ?_, fun _ _ => rfl, ?_⟩
      · rw [fMo_nextOrder_86, if_pos (nI_le (by omega) (by omega))]
      · rw [n86, if_pos e]; exact h
    · obtain ⟨M', h1, h2, h3⟩ := ih n (i + 1) (j - 1) _ _ (m_swapo h (show i < G by omega) hj) (by omega) (by omega) (by omega) (by omega)
      refine ⟨M', ?_, fun k hk => by rw [h2 k hk, q_mukf hk, q_mukf hk], ?_⟩
      · rw [fMo_nextOrder_86, if_neg (nI_ge (by omega) (by omega)), m_swap (by omega) (by omega), Option.bind_some, nI_1, q_dec (by omega)]
        exact h1
      · rw [n86, if_neg e]; exact h3
theorem m_next47 {M : jM} {F : jF} {L : jL} {G i : Nat} {o : Nat → Nat} (hG : G ≤ 6) (h : ∀ k, k < G → M 11 k = nI (o k)) (hb : ∀ k, k < G → o k < G) (hi : i < G) : ∀ j n, j < G → o i ≤ o (n47 o i j) → j < n →
    fMo_nextOrder_47 n (nI i) (nI j) M F L = (fMo_swap (nI i) (nI (n47 o i j)) M F L).bind fun q6 => fMo_nextOrder_86 jfuel (nI i + 1) ((q6.2.2.1 1) - 1) q6.2.1 q6.2.2.1 q6.2.2.2 := by
  have hbi := hb i hi
  intro j
  induction j with
  | zero =>
    intro n hj ho hn
    obtain ⟨n, rfl⟩ : ∃ z, n = z + 1 := ⟨n - 1, by omega⟩
    rw [n47] at ho ⊢
    have := hb 0 hj
    rw [fMo_nextOrder_47, q_ibt (by omega) (by omega), q_ibt (by omega) (by omega), if_pos rfl, if_pos rfl, nI_clamp (by omega), nI_clamp (by omega), h i hi, h 0 hj, if_pos (nI_le ho (by omega))]
  | succ j ih =>
    intro n hj ho hn
    obtain ⟨n, rfl⟩ : ∃ z, n = z + 1 := ⟨n - 1, by omega⟩
    have := hb (j + 1) hj
    rw [n47] at ho ⊢
    rw [fMo_nextOrder_47, q_ibt (by omega) (by omega), q_ibt (by omega) (by omega), if_pos rfl, if_pos rfl, nI_clamp (by omega), nI_clamp (by omega), h i hi, h _ hj, q_ifl (by omega) (by omega), pk_m1]
    by_cases e : o i ≤ o (j + 1)
    · rw [if_pos e, if_pos e]
    · rw [if_neg e] at ho ⊢
      rw [if_neg e]
      exact ih n (by omega) ho (by omega)
theorem m_next7 {M : jM} {F : jF} {L : jL} {G : Nat} {o : Nat → Nat} (hG : G ≤ 6) (h : ∀ k, k < G → M 11 k = nI (o k)) (hb : ∀ k, k < G → o k < G) : ∀ m n, m < G → m < n →
    fMo_nextOrder_7 n (nI m + (-1)) M F L = (match n7 o m with | none => some (0, M, F, L) | some i => fMo_nextOrder_47 jfuel (nI i) ((F 1) - 1) M F L) := by
  intro m
  induction m with
  | zero =>
    intro n hm hn
    obtain ⟨n, rfl⟩ : ∃ z, n = z + 1 := ⟨n - 1, by omega⟩
    rw [fMo_nextOrder_7, if_pos (by decide)]
    unfold fMo_nextOrder_34
    rw [if_neg (by decide)]; rfl
  | succ m ih =>
    intro n hm hn
    obtain ⟨n, rfl⟩ : ∃ z, n = z + 1 := ⟨n - 1, by omega⟩
    have b1 := hb m (by omega)
    have b2 := hb (m + 1) (by omega)
    rw [fMo_nextOrder_7, pk_m1, if_neg (nI_pos (by omega)), nI_1, q_ibt (by omega) (by omega), q_ibt (by omega) (by omega), if_pos rfl, if_pos rfl, nI_clamp (by omega), nI_clamp (by omega), h _ (by omega), h _ hm, q_ifl (by omega) (by omega), n7]
    by_cases e : o m ≤ o (m + 1)
    · rw [if_pos e, if_pos e]
      unfold fMo_nextOrder_34
      rw [if_pos (nI_pos' (by omega))]
    · rw [if_neg e, if_neg e]
      exact ih n (by omega) (by omega)
theorem n7_lt {o : Nat → Nat} : ∀ m i, n7 o m = some i → i < m := by
  intro m
  induction m with
  | zero => intro i h; cases h
  | succ m ih =>
    intro i h
    rw [n7] at h
    split at h
    · cases h; omega
    · have := ih i h; omega
theorem nls_b {G : Nat} {l : List Nat} (h : l.all (fun g => decide (g < G)) = true) (hl : l.length = G) : ∀ k, k < G → nls l k < G := by
  intro k hk
  rw [List.all_eq_true] at h
  unfold nls
  rw [List.getD_eq_getElem?_getD, List.getElem?_eq_getElem (by omega)]
  simpa using h _ (List.getElem_mem (by omega))
theorem m_nextN {D : qD} {M : jM} {F : jF} {L : jL} (w : qW D) (h1 : F 1 = nI (dG D)) (hp : 0 < dG D) {l : List Nat} (h : ∀ k, k < dG D → M 11 k = nI (nls l k)) (hb : l.all (fun g => decide (g < dG D)) = true) (hl : l.length = dG D) (hn : (n7 (nls l) (dG D - 1)).isNone = true) : fMo_nextOrder M F L = some (0, M, F, L) := by
  have G6 := w.2.1
  show fMo_nextOrder_0 M F L = _
  unfold fMo_nextOrder_0
  have e := q_sub2 (dG D - 1)
  rw [show dG D - 1 + 1 = dG D by omega] at e
  rw [h1, e, m_next7 G6 h (nls_b hb hl) (dG D - 1) jfuel (by omega) (by show _ < 4000; omega)]
  cases z : n7 (nls l) (dG D - 1) with
  | none => rfl
  | some i => rw [z] at hn; cases hn
theorem nls_map {G : Nat} {f : Nat → Nat} {l : List Nat} (h : (List.range G).map f = l) : ∀ k, k < G → f k = nls l k := by
  intro k hk
  unfold nls
  rw [← h, List.getD_eq_getElem?_getD, List.getElem?_map, List.getElem?_range hk]; rfl
theorem m_nextS {D : qD} {M : jM} {F : jF} {L : jL} (w : qW D) (h1 : F 1 = nI (dG D)) (hp : 0 < dG D) {l l' : List Nat} (h : ∀ k, k < dG D → M 11 k = nI (nls l k)) (hb : l.all (fun g => decide (g < dG D)) = true) (hl : l.length = dG D) (hn : nok (dG D) l l' = true) : ∃ M', fMo_nextOrder M F L = some (1, M', F, L) ∧ (∀ k, k ≠ 11 → M' k = M k) ∧ (∀ k, k < dG D → M' 11 k = nI (nls l' k)) := by
  have G6 := w.2.1
  have hbb := nls_b hb hl
  unfold nok at hn
  cases z : n7 (nls l) (dG D - 1) with
  | none => rw [z] at hn; cases hn
  | some i =>
    rw [z] at hn
    simp only [Bool.and_eq_true, decide_eq_true_eq, beq_iff_eq] at hn
    obtain ⟨⟨ho, hj⟩, hm⟩ := hn
    have hi := n7_lt _ _ z
    obtain ⟨M', a1, a2, a3⟩ := m_next86 (F := F) (L := L) G6 6 jfuel (i + 1) (dG D - 1) _ _ (m_swapo h (show i < dG D by omega) hj) (by omega) (by omega) (by omega) (by show _ < 4000; omega)
    refine ⟨M', ?_, fun k hk => by rw [a2 k hk, q_mukf hk, q_mukf hk], fun k hk => by rw [a3 k hk, nls_map hm k hk]⟩
    show fMo_nextOrder_0 M F L = _
    unfold fMo_nextOrder_0
    have e := q_sub2 (dG D - 1)
    rw [show dG D - 1 + 1 = dG D by omega] at e
    rw [h1, e, m_next7 G6 h hbb (dG D - 1) jfuel (by omega) (by show _ < 4000; omega), z]
    simp only
    rw [h1, qn_1, pk_sub (by omega), m_next47 G6 h hbb (by omega) (dG D - 1) jfuel (by omega) ho (by show _ < 4000; omega), m_swap (by omega) (by omega), Option.bind_some]
    simp only
    rw [h1, qn_1, pk_sub (by omega), nI_add]
    exact a1
def qLS (D : qD) (L : jL) : Prop := ∀ s, 0 < s → s < 2 ^ dG D → L s = lN (dsz D s)
theorem q_set0 {s g : Nat} : 0 < s ||| 2 ^ g := Nat.lt_of_lt_of_le (Nat.two_pow_pos g) Nat.right_le_or
theorem m_sum7 {D : qD} {M : jM} {F : jF} {L : jL} (w : qW D) (h1 : F 1 = nI (dG D)) (hL : qLS D L) : ∀ (r : List Nat) n i s a, (∀ j, j < r.length → M 11 (i + j) = nI (nls r j)) → r.all (fun g => decide (g < dG D)) = true → i + r.length = dG D → s < 2 ^ dG D → r.length < n →
    fMo_sumOfOrder_7 n (lN a) (nI s) (nI i) M F L = some (lN (a + sumO D s r)) := by
  have G6 := w.2.1
  intro r
  induction r with
  | nil =>
    intro n i s a hM hb hi hs hn
    obtain ⟨n, rfl⟩ : ∃ z, n = z + 1 := ⟨n - 1, by omega⟩
    rw [List.length_nil] at hi
    rw [fMo_sumOfOrder_7, h1, if_pos (nI_le (by omega) (by omega))]; rfl
  | cons g r ih =>
    intro n i s a hM hb hi hs hn
    obtain ⟨n, rfl⟩ : ∃ z, n = z + 1 := ⟨n - 1, by omega⟩
    rw [List.length_cons] at hi hn hM
    rw [List.all_cons, Bool.and_eq_true, decide_eq_true_eq] at hb
    have h0 : M 11 i = nI g := hM 0 (by omega)
    have h2 := q_setG hs hb.1
    have h3 := q_s64 w h2
    have := ih n (i + 1) (s ||| 2 ^ g) (a + dsz D (s ||| 2 ^ g)) (fun j hj => by have := hM (j + 1) (by omega); rw [show i + 1 + j = i + (j + 1) by omega, this]; rfl) hb.2 (by omega) h2 (by omega)
    rw [fMo_sumOfOrder_7, h1, if_neg (nI_ge (by omega) (by omega)), q_ibt (by omega) (by omega), if_pos rfl, nI_clamp (show i < 2 ^ 31 by omega), h0, q_set (by omega), q_ibt h3 (by omega), if_pos rfl, nI_clamp (by omega), hL _ q_set0 h2, lN_add, nI_1, this, Nat.add_assoc]; rfl
theorem m_sum {D : qD} {M : jM} {F : jF} {L : jL} (w : qW D) (h1 : F 1 = nI (dG D)) (hL : qLS D L) {l : List Nat} (h : ∀ k, k < dG D → M 11 k = nI (nls l k)) (hb : l.all (fun g => decide (g < dG D)) = true) (hl : l.length = dG D) : fMo_sumOfOrder M F L = some (lN (sumO D 0 l)) := by
  have G6 := w.2.1
  have := m_sum7 (M := M) (F := F) w h1 hL l jfuel 0 0 0 (fun j hj => by rw [Nat.zero_add]; exact h j (by omega)) hb (by omega) (Nat.two_pow_pos _) (by show _ < 4000; omega)
  rw [Nat.zero_add] at this
  exact this
theorem sumO_le {D : qD} (w : qW D) (l : List Nat) : ∀ s, sumO D s l ≤ l.length * 729000000 := by
  induction l with
  | nil => intro s; exact Nat.le_refl 0
  | cons g l ih =>
    intro s
    have h1 := dsz_lt w (s ||| 2 ^ g)
    have h2 := ih (s ||| 2 ^ g)
    show dsz D (s ||| 2 ^ g) + sumO D (s ||| 2 ^ g) l ≤ (l.length + 1) * 729000000
    omega
theorem m_plan87 {F : jF} {L : jL} {G : Nat} (hG : G ≤ 6) (h1 : F 1 = nI G) (kk : Int64 → jM → jF → jL → Option (Int32 × jM × jF × jL)) (x1 : Int64) : ∀ m n i (M : jM), (∀ j, j < i → M 12 j = M 11 j) → i + m = G → m < n → ∃ M', fMo_makePlan_87 kk n x1 (nI i) M F L = kk x1 M' F L ∧ (∀ k, k ≠ 12 → M' k = M k) ∧ (∀ j, j < G → M' 12 j = M 11 j) := by
  intro m
  induction m with
  | zero =>
    intro n i M hM hi hn
    obtain ⟨n, rfl⟩ : ∃ z, n = z + 1 := ⟨n - 1, by omega⟩
    refine ⟨M, ?_, fun _ _ => rfl, fun j hj => hM j (by omega)⟩
    rw [fMo_makePlan_87, h1, if_pos (nI_le (by omega) (by omega))]
  | succ m ih =>
    intro n i M hM hi hn
    obtain ⟨n, rfl⟩ : ∃ z, n = z + 1 := ⟨n - 1, by omega⟩
    obtain ⟨M', a1, a2, a3⟩ := ih n (i + 1) (jmu M 12 i (M 11 i)) (fun j hj => by
      rw [q_muk (show 11 ≠ 12 by decide)]
      by_cases e : j = i
      · rw [e, q_mus]
      · rw [q_mui e]; exact hM j (by omega)) (by omega) (by omega)
    refine ⟨M', ?_, fun k hk => by rw [a2 k hk, q_mukf hk], fun j hj => by rw [a3 j hj, q_muk (by decide)]⟩
    rw [fMo_makePlan_87, h1, if_neg (nI_ge (by omega) (by omega)), q_ibt (by omega) (by omega), if_pos rfl, if_pos rfl, nI_clamp (by omega), nI_1, a1]
def qbs (D : qD) (b : Option (List Nat)) : Int64 := match b with | none => -1 | some l => lN (sumO D 0 l)
theorem nch_1 {G : Nat} {l : List Nat} (h : nch G [l] = true) : l.all (fun g => decide (g < G)) = true ∧ l.length = G ∧ (n7 (nls l) (G - 1)).isNone = true := by
  unfold nch at h
  simp only [Bool.and_eq_true, beq_iff_eq] at h
  exact ⟨h.1.1, h.1.2, h.2⟩
theorem nch_2 {G : Nat} {l l' : List Nat} {r : List (List Nat)} (h : nch G (l :: l' :: r) = true) : l.all (fun g => decide (g < G)) = true ∧ l.length = G ∧ nok G l l' = true ∧ nch G (l' :: r) = true := by
  rw [nch] at h
  simp only [Bool.and_eq_true, beq_iff_eq] at h
  exact ⟨h.1.1, h.1.2, h.2.1, h.2.2⟩
theorem m_plan58 {D : qD} {F : jF} {L : jL} (w : qW D) (h1 : F 1 = nI (dG D)) (hp : 0 < dG D) (hL : qLS D L) : ∀ (r : List (List Nat)) n l b (M : jM), nch (dG D) (l :: r) = true → (∀ k, k < dG D → M 11 k = nI (nls l k)) → (∀ z, b = some z → z.length = dG D ∧ ∀ k, k < dG D → M 12 k = nI (nls z k)) → r.length + 1 < n →
    ∃ M' z, fMo_makePlan_58 n (qbs D b) 1 M F L = some (0, M', F, L) ∧ (∀ k, k ≠ 11 → k ≠ 12 → M' k = M k) ∧ fm (sumO D 0) b (l :: r) = some z ∧ (∀ k, k < dG D → M' 12 k = nI (nls z k)) := by
  have G6 := w.2.1
  intro r
  induction r with
  | nil =>
    intro n l b M hc hM hb hn
    obtain ⟨n, rfl⟩ : ∃ z, n = z + 1 := ⟨n - 1, by omega⟩
    obtain ⟨n, rfl⟩ : ∃ z, n = z + 1 := ⟨n - 1, by rw [List.length_nil] at hn; omega⟩
    obtain ⟨c1, c2, c3⟩ := nch_1 hc
    have es := m_sum w h1 hL hM c1 c2
    have take : ∀ M0 : jM, (∀ k, k ≠ 12 → M0 k = M k) → ∀ x, fMo_makePlan_116 (fun x1 x3 M F L => fMo_makePlan_58 (n + 1) x1 x3 M F L) x M0 F L = some (0, M0, F, L) := by
      intro M0 hM0 x
      unfold fMo_makePlan_116
      rw [m_nextN w h1 hp (l := l) (fun k hk => by rw [hM0 11 (by decide)]; exact hM k hk) c1 c2 c3, Option.bind_some]
      simp only
      rw [fMo_makePlan_58, if_pos rfl]
    obtain ⟨M', a1, a2, a3⟩ := m_plan87 (F := F) (L := L) G6 h1 (fun x1 M F L => fMo_makePlan_116 (fun x1 x3 M F L => fMo_makePlan_58 (n + 1) x1 x3 M F L) x1 M F L) (lN (sumO D 0 l)) (dG D) jfuel 0 M (fun j hj => by omega) (by omega) (by show _ < 4000; omega)
    have better : fMo_makePlan_81 (fun x1 x3 M F L => fMo_makePlan_58 (n + 1) x1 x3 M F L) (lN (sumO D 0 l)) M F L = some (0, M', F, L) := by
      unfold fMo_makePlan_81
      exact a1.trans (take M' a2 _)
    rw [fMo_makePlan_58, if_neg (by decide), es, Option.bind_some]
    cases b with
    | none =>
      refine ⟨M', l, ?_, fun k _ hk => a2 k hk, rfl, fun k hk => by rw [a3 k hk, hM k hk]⟩
      rw [if_pos (by show lg_cmp (-1) 0 < 0; decide), better]
    | some b =>
      obtain ⟨b1, b2⟩ := hb b rfl
      have s1 := sumO_le w l 0
      have s2 := sumO_le w b 0
      rw [show qbs D (some b) = lN (sumO D 0 b) from rfl, if_neg (by rw [lg_cmp_lt, show (0 : Int64) = lN 0 from rfl, pk_lLT (by omega) (by omega)]; omega)]
      have e : fm (sumO D 0) (some b) [l] = if sumO D 0 l < sumO D 0 b then some l else some b := by
        show fm (sumO D 0) (if sumO D 0 l < sumO D 0 b then some l else some b) [] = _
        split <;> rfl
      by_cases z : sumO D 0 b ≤ sumO D 0 l
      · refine ⟨M, b, ?_, fun _ _ _ => rfl, by rw [e, if_neg (by omega)], b2⟩
        rw [if_pos (by rw [lg_cmp_ge, pk_lLE (by omega) (by omega)]; exact z), take M (fun _ _ => rfl)]
      · refine ⟨M', l, ?_, fun k _ hk => a2 k hk, by rw [e, if_pos (by omega)], fun k hk => by rw [a3 k hk, hM k hk]⟩
        rw [if_neg (by rw [lg_cmp_ge, pk_lLE (by omega) (by omega)]; exact z), better]
  | cons l' r ih =>
    intro n l b M hc hM hb hn
    obtain ⟨n, rfl⟩ : ∃ z, n = z + 1 := ⟨n - 1, by omega⟩
    rw [List.length_cons] at hn
    obtain ⟨c1, c2, c3⟩ := nch_2 hc
    have es := m_sum w h1 hL hM c1 c2
    have take : ∀ (M0 : jM) b', (∀ k, k ≠ 12 → M0 k = M k) → (∀ z, b' = some z → z.length = dG D ∧ ∀ k, k < dG D → M0 12 k = nI (nls z k)) → ∃ M' z, fMo_makePlan_116 (fun x1 x3 M F L => fMo_makePlan_58 n x1 x3 M F L) (qbs D b') M0 F L = some (0, M', F, L) ∧ (∀ k, k ≠ 11 → k ≠ 12 → M' k = M k) ∧ fm (sumO D 0) b' (l' :: r) = some z ∧ (∀ k, k < dG D → M' 12 k = nI (nls z k)) := by
      intro M0 b' hM0 hb'
      obtain ⟨M1, d1, d2, d3⟩ := m_nextS (M := M0) (L := L) w h1 hp (l := l) (l' := l') (fun k hk => by rw [hM0 11 (by decide)]; exact hM k hk) c1 c2 c3.1
      obtain ⟨M', z, f1, f2, f3, f4⟩ := ih n l' b' M1 c3.2 d3 (fun z hz => ⟨(hb' z hz).1, fun k hk => by rw [d2 12 (by decide)]; exact (hb' z hz).2 k hk⟩) (by omega)
      refine ⟨M', z, ?_, fun k hk hk2 => by rw [f2 k hk hk2, d2 k hk, hM0 k hk2], f3, f4⟩
      unfold fMo_makePlan_116
      rw [d1, Option.bind_some]
      exact f1
    obtain ⟨M0, a1, a2, a3⟩ := m_plan87 (F := F) (L := L) G6 h1 (fun x1 M F L => fMo_makePlan_116 (fun x1 x3 M F L => fMo_makePlan_58 n x1 x3 M F L) x1 M F L) (lN (sumO D 0 l)) (dG D) jfuel 0 M (fun j hj => by omega) (by omega) (by show _ < 4000; omega)
    obtain ⟨M', z, t1, t2, t3, t4⟩ := take M0 (some l) a2 (fun z hz => by cases hz; exact ⟨c2, fun k hk => by rw [a3 k hk, hM k hk]⟩)
    have better : fMo_makePlan_81 (fun x1 x3 M F L => fMo_makePlan_58 n x1 x3 M F L) (lN (sumO D 0 l)) M F L = some (0, M', F, L) := by
      unfold fMo_makePlan_81
      exact a1.trans t1
    rw [fMo_makePlan_58, if_neg (by decide), es, Option.bind_some]
    cases b with
    | none =>
      refine ⟨M', z, ?_, t2, t3, t4⟩
      rw [if_pos (by show lg_cmp (-1) 0 < 0; decide), better]
    | some b =>
      obtain ⟨b1, b2⟩ := hb b rfl
      have s1 := sumO_le w l 0
      have s2 := sumO_le w b 0
      rw [show qbs D (some b) = lN (sumO D 0 b) from rfl, if_neg (by rw [lg_cmp_lt, show (0 : Int64) = lN 0 from rfl, pk_lLT (by omega) (by omega)]; omega)]
      have e : fm (sumO D 0) (some b) (l :: l' :: r) = fm (sumO D 0) (if sumO D 0 l < sumO D 0 b then some l else some b) (l' :: r) := rfl
      by_cases y : sumO D 0 b ≤ sumO D 0 l
      · obtain ⟨M2, z2, u1, u2, u3, u4⟩ := take M (some b) (fun _ _ => rfl) (fun z hz => by cases hz; exact ⟨b1, b2⟩)
        refine ⟨M2, z2, ?_, u2, by rw [e, if_neg (by omega)]; exact u3, u4⟩
        rw [if_pos (by rw [lg_cmp_ge, pk_lLE (by omega) (by omega)]; exact y)]
        exact u1
      · refine ⟨M', z, ?_, t2, by rw [e, if_pos (by omega)]; exact t3, t4⟩
        rw [if_neg (by rw [lg_cmp_ge, pk_lLE (by omega) (by omega)]; exact y), better]
def qPM (D : qD) (M : jM) (L : jL) : Prop := (∀ j, j < dG D → M 12 j = nI (dor D j)) ∧ qLS D L
theorem m_plan31 {D : qD} {F : jF} {L : jL} (w : qW D) (h1 : F 1 = nI (dG D)) (hp : 0 < dG D) (hL : qLS D L) : ∀ m n i (M : jM), (∀ j, j < i → M 11 j = nI j) → i + m = dG D → m < n → ∃ M', fMo_makePlan_31 n (nI i) M F L = some (0, M', F, L) ∧ (∀ k, k ≠ 11 → k ≠ 12 → M' k = M k) ∧ (∀ j, j < dG D → M' 12 j = nI (dor D j)) := by
  have G6 := w.2.1
  intro m
  induction m with
  | zero =>
    intro n i M hM hi hn
    obtain ⟨n, rfl⟩ : ∃ z, n = z + 1 := ⟨n - 1, by omega⟩
    obtain ⟨e1, e2, e3⟩ := nch_pe (dG D) (by omega) hp
    cases hpe : pe (dG D) (dG D) 0 with
    | nil => rw [hpe] at e1; cases e1
    | cons l r =>
      rw [hpe] at e1 e2 e3
      rw [List.head?_cons] at e2
      cases e2
      rw [List.length_cons] at e3
      obtain ⟨M', z, f1, f2, f3, f4⟩ := m_plan58 (L := L) w h1 hp hL r jfuel (List.range (dG D)) none M e1 (fun k hk => by
        rw [hM k (by omega)]
        unfold nls
        rw [List.getD_eq_getElem?_getD, List.getElem?_range hk]; rfl) (fun z hz => by cases hz) (by show _ < 4000; omega)
      have := fm_pe D (dG D) 0 (by rw [q_b0]; omega)
      rw [hpe, f3] at this
      cases this
      refine ⟨M', ?_, f2, f4⟩
      rw [fMo_makePlan_31, h1, if_pos (nI_le (by omega) (by omega))]
      exact f1
  | succ m ih =>
    intro n i M hM hi hn
    obtain ⟨n, rfl⟩ : ∃ z, n = z + 1 := ⟨n - 1, by omega⟩
    obtain ⟨M', a1, a2, a3⟩ := ih n (i + 1) (jmu M 11 i (nI i)) (fun j hj => by
      by_cases e : j = i
      · rw [e, q_mus]
      · rw [q_mui e]; exact hM j (by omega)) (by omega) (by omega)
    refine ⟨M', ?_, fun k hk hk2 => by rw [a2 k hk hk2, q_mukf hk], a3⟩
    rw [fMo_makePlan_31, h1, if_neg (nI_ge (by omega) (by omega)), q_ibt (by omega) (by omega), if_pos rfl, nI_clamp (by omega), nI_1, a1]
theorem m_plan2 {D : qD} {M : jM} {F : jF} (w : qW D) (h : qRM D M F) (hp : 0 < dG D) : ∀ m n s (L : jL), (∀ z, 0 < z → z < s → L z = lN (dsz D z)) → s + m = 2 ^ dG D → m < n → ∃ M' L', fMo_makePlan_2 n (nI s) M F L = some (0, M', F, L') ∧ (∀ k, k ≠ 11 → k ≠ 12 → M' k = M k) ∧ qPM D M' L' := by
  have G6 := w.2.1
  have hp64 : 2 ^ dG D ≤ 64 := Nat.le_trans (Nat.pow_le_pow_right (by omega) G6) (by decide)
  intro m
  induction m with
  | zero =>
    intro n s L hL hs hn
    obtain ⟨n, rfl⟩ : ∃ z, n = z + 1 := ⟨n - 1, by omega⟩
    have hLS : qLS D L := fun z hz hz2 => hL z hz (by omega)
    obtain ⟨M', a1, a2, a3⟩ := m_plan31 w h.1 hp hLS (dG D) jfuel 0 M (fun j hj => by omega) (by omega) (by show _ < 4000; omega)
    refine ⟨M', L, ?_, a2, a3, hLS⟩
    rw [fMo_makePlan_2, h.1, q_bit (by omega), if_pos (nI_le (by omega) (by omega))]
    exact a1
  | succ m ih =>
    intro n s L hL hs hn
    obtain ⟨n, rfl⟩ : ∃ z, n = z + 1 := ⟨n - 1, by omega⟩
    obtain ⟨M', L', a1, a2⟩ := ih n (s + 1) (vp_updL L s (lN (dsz D s))) (fun z hz hz2 => by
      by_cases e : z = s
      · rw [e, pk_uLs]
      · rw [pk_uLn e]; exact hL z hz (by omega)) (by omega) (by omega)
    refine ⟨M', L', ?_, a2⟩
    rw [fMo_makePlan_2, h.1, q_bit (by omega), if_neg (nI_ge (by omega) (by omega)), m_sizeOf w h (by omega), Option.bind_some, q_ibt (by omega) (by omega), if_pos rfl, nI_clamp (by omega), nI_1, a1]
theorem m_makePlan {D : qD} {M : jM} {F : jF} {L : jL} (w : qW D) (h : qRM D M F) (hp : 0 < dG D) : ∃ M' L', fMo_makePlan M F L = some (0, M', F, L') ∧ (∀ k, k ≠ 11 → k ≠ 12 → M' k = M k) ∧ qPM D M' L' := by
  have G6 := w.2.1
  have hp64 : 2 ^ dG D ≤ 64 := Nat.le_trans (Nat.pow_le_pow_right (by omega) G6) (by decide)
  have hp1 : 0 < 2 ^ dG D := Nat.two_pow_pos _
  exact m_plan2 w h hp (2 ^ dG D - 1) jfuel 1 L (fun z hz hz2 => by omega) (by omega) (by show _ < 4000; omega)
theorem m_ahead4 {D : qD} {M : jM} {F : jF} {L : jL} (w : qW D) (hP : qPM D M L) (i : Nat) (hi : i ≤ dG D) :
    ∀ m n j, j + m = i → m < n → fMo_ahead_4 n (nI i) (nI (dps D j)) (nI j) M F L = some (nI (dps D i)) := by
  have G6 := w.2.1
  intro m
  induction m with
  | zero =>
    intro n j hj hn
    obtain ⟨n, rfl⟩ : ∃ z, n = z + 1 := ⟨n - 1, by omega⟩
    rw [fMo_ahead_4, if_pos (nI_le (by omega) (by omega)), show j = i by omega]
  | succ m ih =>
    intro n j hj hn
    obtain ⟨n, rfl⟩ : ∃ z, n = z + 1 := ⟨n - 1, by omega⟩
    have := dor_b (D := D) (i := j) (by omega)
    rw [fMo_ahead_4, if_neg (nI_ge (by omega) (by omega)), q_ibt (by omega) (by omega), if_pos rfl, nI_clamp (by omega), hP.1 j (by omega), q_set (by omega), nI_1]
    exact ih n (j + 1) (by omega) (by omega)
theorem m_ahead {D : qD} {M : jM} {F : jF} {L : jL} (w : qW D) (hP : qPM D M L) {i : Nat} (hi : i ≤ dG D) : fMo_ahead (nI i) M F L = some (nI (dps D i)) := by
  have G6 := w.2.1
  exact m_ahead4 w hP i hi i jfuel 0 (by omega) (by show _ < 4000; omega)
theorem m_cond1 {D : qD} {M : jM} {F : jF} {L : jL} (w : qW D) (h : qRM D M F) {s g : Nat} (hs : s < 64) (hg : g < dG D) (hn : s.testBit g = false) : fMo_conditionFor 1 (nI g) (nI s) M F L = some (o32 (fd (fun k => dti D k g s && dix D k g) 0 (dC D))) := by
  have C12 := w.2.2.2.1
  exact m_condFor1 w h hs hg hn (dC D) jfuel 0 (by omega) (by show _ < 4000; omega)
theorem m_cond2 {D : qD} {M : jM} {F : jF} {L : jL} (w : qW D) (h : qRM D M F) {s g : Nat} (hs : s < 64) (hg : g < dG D) (hn : s.testBit g = false) : fMo_conditionFor 2 (nI g) (nI s) M F L = some (o32 (fd (fun k => dti D k g s && decide (dkd D k = 0)) 0 (dC D))) := by
  have C12 := w.2.2.2.1
  exact m_condFor2 w h hs hg hn (dC D) jfuel 0 (by omega) (by show _ < 4000; omega)
theorem o32_m1 {o : Option Nat} (h : ∀ k, o = some k → k < 2 ^ 31) {α : Type} (x y : α) : (if o32 o = -1 then x else y) = (if o.isNone = true then x else y) := by
  cases o with
  | none => rw [if_pos (show o32 none = -1 from rfl)]; rfl
  | some k => rw [if_neg (show ¬ o32 (some k) = -1 from q_m1 (h k rfl))]; rfl
theorem fd_lt {D : qD} (w : qW D) {p : Nat → Bool} : ∀ k, fd p 0 (dC D) = some k → k < 2 ^ 31 := by
  intro k hk
  have := fd_some hk
  have C12 := w.2.2.2.1
  omega
theorem m_methodAt {D : qD} {M : jM} {F : jF} {L : jL} (w : qW D) (h : qRM D M F) (hP : qPM D M L) {i : Nat} (hi : i < dG D) : fMo_methodAt (nI i) M F L = some (nI (dme D (dor D i) (dps D i))) := by
  have G6 := w.2.1
  have C12 := w.2.2.2.1
  have h1 := dor_b hi
  have h2 := (dps_b (D := D) i (by omega)).2.1
  have h3 := q_s64 w h2
  show fMo_methodAt_0 _ M F L = _
  unfold fMo_methodAt_0 dme
  rw [m_ahead w hP (by omega), Option.bind_some, q_ibt (by omega) (by omega), if_pos rfl, nI_clamp (show i < 2 ^ 31 by omega), hP.1 i hi, m_cond1 w h h3 h1.2.1 h1.2.2, Option.bind_some, o32_m1 (fd_lt w), if_pos rfl, m_cond2 w h h3 h1.2.1 h1.2.2, Option.bind_some, o32_m1 (fd_lt w)]
  cases fd (fun k => dti D k (dor D i) (dps D i) && dix D k (dor D i)) 0 (dC D) with
  | some j => rfl
  | none => cases fd (fun k => dti D k (dor D i) (dps D i) && decide (dkd D k = 0)) 0 (dC D) <;> rfl
