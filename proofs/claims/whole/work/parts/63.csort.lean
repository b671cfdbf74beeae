/-! the house sorts -/
def flt (g v : Nat) (l : List (Nat → Nat)) : List (Nat → Nat) := l.filter (fun d => decide (d g = v))
def bk (g : Nat) (l : List (Nat → Nat)) : Nat → List (Nat → Nat)
  | 0 => []
  | n + 1 => bk g l n ++ flt g n l
def stt (g : Nat) (l : List (Nat → Nat)) (n : Nat) : Nat := (bk g l n).length
theorem stt_s (g : Nat) (l : List (Nat → Nat)) (n : Nat) : stt g l (n + 1) = stt g l n + (flt g n l).length := by
  unfold stt; rw [bk, List.length_append]
theorem stt_mono {g : Nat} {l : List (Nat → Nat)} {a b : Nat} (h : a ≤ b) : stt g l a ≤ stt g l b := by
  induction b with
  | zero => have : a = 0 := by omega
            subst this; exact Nat.le_refl _
  | succ b ih =>
    by_cases e : a = b + 1
    · subst e; exact Nat.le_refl _
    · have := ih (by omega)
      rw [stt_s]; omega
theorem perm_split {g n : Nat} (l : List (Nat → Nat)) : ((l.filter (fun d => decide (d g < n))) ++ flt g n l).Perm (l.filter (fun d => decide (d g < n + 1))) := by
  induction l with
  | nil => exact List.Perm.refl _
  | cons d l ih =>
    unfold flt at ih ⊢
    by_cases h1 : d g < n
    · rw [List.filter_cons_of_pos (by simpa using h1), List.filter_cons_of_neg (by simp; omega), List.filter_cons_of_pos (by simp; omega)]
      exact List.Perm.cons _ ih
    · by_cases h2 : d g = n
      · rw [List.filter_cons_of_neg (by simpa using h1), List.filter_cons_of_pos (by simpa using h2), List.filter_cons_of_pos (by simp; omega)]
        exact List.Perm.trans List.perm_middle (List.Perm.cons _ ih)
      · rw [List.filter_cons_of_neg (by simpa using h1), List.filter_cons_of_neg (by simpa using h2), List.filter_cons_of_neg (by simp; omega)]
        exact ih
theorem bk_perm (g : Nat) (l : List (Nat → Nat)) : ∀ n, (bk g l n).Perm (l.filter (fun d => decide (d g < n))) := by
  intro n
  induction n with
  | zero => rw [bk, List.filter_eq_nil_iff.mpr (by simp)]
  | succ n ih =>
    rw [bk]
    exact List.Perm.trans (List.Perm.append_right _ ih) (perm_split l)
theorem bk_perm32 {g : Nat} {l : List (Nat → Nat)} (h : ∀ d, d ∈ l → d g < 32) : (bk g l 32).Perm l := by
  have := bk_perm g l 32
  rw [List.filter_eq_self.mpr (by simpa using h)] at this
  exact this
theorem stt_le {g : Nat} {l : List (Nat → Nat)} (h : ∀ d, d ∈ l → d g < 32) {n : Nat} (hn : n ≤ 32) : stt g l n ≤ l.length := by
  have h1 := stt_mono (g := g) (l := l) hn
  have h2 := (bk_perm32 h).length_eq
  unfold stt at *
  omega
theorem flt_app (g v : Nat) (l : List (Nat → Nat)) (d : Nat → Nat) : flt g v (l ++ [d]) = flt g v l ++ (if d g = v then [d] else []) := by
  unfold flt
  rw [List.filter_append]
  by_cases e : d g = v <;> simp [e]
theorem c_fill5 {F : jF} : ∀ m n i (M : jM), (∀ j, j < i → M 25 j = 0) → i + m = 33 → m < n → ∃ M', fAr_fill_5 n 0 (nI i) 33 M F = some (0, M', F) ∧ (∀ l, l ≠ 25 → M' l = M l) ∧ (∀ j, j < 33 → M' 25 j = 0) := by
  intro m
  induction m with
  | zero =>
    intro n i M hM hi hn
    obtain ⟨n, rfl⟩ : ∃ z, n = z + 1 := ⟨n - 1, by omega⟩
    refine ⟨M, ?_, fun _ _ => rfl, fun j hj => hM j (by omega)⟩
    rw [fAr_fill_5, show (33 : Int32) = nI 33 from rfl, if_pos (nI_le (by omega) (by omega))]
  | succ m ih =>
    intro n i M hM hi hn
    obtain ⟨n, rfl⟩ : ∃ z, n = z + 1 := ⟨n - 1, by omega⟩
    obtain ⟨M', a1, a2, a3⟩ := ih n (i + 1) (jmu M 25 i 0) (fun j hj => by
      by_cases e : j = i
      · rw [e, q_mus]
      · rw [q_mui e]; exact hM j (by omega)) (by omega) (by omega)
    refine ⟨M', ?_, fun l hl => by rw [a2 l hl, q_mukf hl], a3⟩
    rw [fAr_fill_5, show (33 : Int32) = nI 33 from rfl, if_neg (nI_ge (by omega) (by omega)), q_ibt (by omega) (by omega), if_pos rfl, nI_clamp (by omega), nI_1]
    exact a1
theorem c_sort78 {F : jF} {g : Nat} (hg : g < 6) {l : List (Nat → Nat)} (hl : l.length ≤ 3000) (hd : ∀ d, d ∈ l → q30 d) (h4 : F 4 = nI l.length) :
    ∀ (rem : List (Nat → Nat)) n (pre : List (Nat → Nat)) (M : jM), l = pre ++ rem → hA (M 23) 0 l → (∀ v, v < 32 → M 25 v = nI (stt g l v + (flt g v pre).length)) → (∀ v, v < 32 → hA (M 24) (stt g l v) (flt g v pre)) → rem.length < n →
    ∃ M', fRu_sortBy_78 n (nI g) (nI pre.length) M F = some (0, M', F) ∧ (∀ k, k < 23 ∨ 25 < k → M' k = M k) ∧ (∀ v, v < 32 → hA (M' 23) (stt g l v) (flt g v l)) := by
  have hd32 : ∀ d, d ∈ l → d g < 32 := fun d h => Nat.lt_trans (hd d h g hg) (by omega)
  intro rem
  induction rem with
  | nil =>
    intro n pre M hl2 h23 h25 h24 hn
    obtain ⟨n, rfl⟩ : ∃ z, n = z + 1 := ⟨n - 1, by omega⟩
    rw [List.append_nil] at hl2
    subst hl2
    refine ⟨jms M 23 24, ?_, fun k hk => by unfold jms; rw [if_neg (by omega), if_neg (by omega)], fun v hv => by unfold jms; rw [if_pos rfl]; exact h24 v hv⟩
    rw [fRu_sortBy_78, h4, if_pos (nI_le (by omega) (by omega))]; rfl
  | cons d rem ih =>
    intro n pre M hl2 h23 h25 h24 hn
    obtain ⟨n, rfl⟩ : ∃ z, n = z + 1 := ⟨n - 1, by omega⟩
    rw [List.length_cons] at hn
    have hmem : d ∈ l := by rw [hl2]; exact List.mem_append_right _ List.mem_cons_self
    have hlen : l.length = pre.length + (rem.length + 1) := by rw [hl2, List.length_append, List.length_cons]
    have h30 := hd d hmem
    have hv : d g < 30 := h30 g hg
    have h0 : M 23 pre.length = nI (eC d) := by
      have := h23 pre.length d (by rw [hl2, List.getElem?_append_right (by omega), Nat.sub_self]; rfl)
      rw [Nat.zero_add] at this
      exact this
    have hfl : (flt g (d g) pre).length < (flt g (d g) l).length := by
      rw [hl2, show pre ++ d :: rem = (pre ++ [d]) ++ rem by simp]
      unfold flt
      rw [List.filter_append, List.filter_append, List.length_append, List.length_append]
      simp
      omega
    have hfv : ∀ v, (flt g v pre).length ≤ (flt g v l).length := by
      intro v
      rw [hl2]
      unfold flt
      rw [List.filter_append, List.length_append]
      omega
    have hst : ∀ v, v < 32 → stt g l v + (flt g v l).length ≤ l.length := by
      intro v hv
      rw [← stt_s]
      exact stt_le hd32 (by omega)
    have hp := hst (d g) (by omega)
    have hpos : stt g l (d g) + (flt g (d g) pre).length < 3000 := by omega
    obtain ⟨M', a1, a2, a3⟩ := ih n (pre ++ [d]) (jmu (jmu M 24 (stt g l (d g) + (flt g (d g) pre).length) (nI (eC d))) 25 (d g) (nI (stt g l (d g) + (flt g (d g) pre).length + 1))) (by rw [hl2]; simp) (by rw [q_mukf (by decide), q_mukf (by decide)]; exact h23) (fun v hv2 => by
        rw [flt_app]
        by_cases e : v = d g
        · subst e; rw [q_mus, if_pos rfl, List.length_append, List.length_singleton, Nat.add_assoc]
        · rw [q_mui e, q_muk (by decide), if_neg (fun z => e z.symm), List.append_nil]; exact h25 v hv2) (fun v hv2 => by
        rw [flt_app, q_mukf (by decide)]
        by_cases e : v = d g
        · subst e
          rw [if_pos rfl]
          refine hA_app (hA_congr (h24 (d g) hv2) (fun i h1 h2 => q_mui (by omega))) (fun j x hj => ?_)
          cases j with
          | zero => cases hj; rw [Nat.add_zero, q_mus]
          | succ j => cases hj
        · rw [if_neg (fun z => e z.symm), List.append_nil]
          refine hA_congr (h24 v hv2) (fun i h1 h2 => q_mui ?_)
          have k1 := hfv v
          rcases Nat.lt_or_gt_of_ne e with q | q
          · have k2 := stt_mono (g := g) (l := l) (show v + 1 ≤ d g by omega)
            rw [stt_s] at k2
            omega
          · have k2 := stt_mono (g := g) (l := l) (show d g + 1 ≤ v by omega)
            rw [stt_s] at k2
            omega) (by omega)
    refine ⟨M', ?_, fun k hk => by rw [a2 k hk, q_mukf (by omega), q_mukf (by omega)], a3⟩
    rw [fRu_sortBy_78, h4, if_neg (nI_ge (by omega) (by omega)), q_ibt (by omega) (by omega), if_pos rfl, nI_clamp (show pre.length < 2 ^ 31 by omega), h0, c_rowIn h30 hg, Option.bind_some, q_ibt (show d g < 33 by omega) (by omega), if_pos rfl, if_pos rfl, nI_clamp (show d g < 2 ^ 31 by omega), h25 (d g) (by omega), q_ibt hpos (by omega), if_pos rfl, if_pos rfl, if_pos rfl, nI_clamp (by omega), q_muk (by decide), h25 (d g) (by omega), nI_1, nI_1]
    rw [List.length_append] at a1
    exact a1
theorem c_sort47 {F : jF} {g : Nat} {l : List (Nat → Nat)} (kk : jM → Prop) :
    ∀ m n i (M : jM), i + m = 32 → (∀ v, v ≤ i → M 25 v = nI (stt g l v)) → (∀ v, i ≤ v → v < 32 → M 25 (v + 1) = nI (flt g v l).length) → m < n →
    ∃ M', fRu_sortBy_47 n (nI g) (nI i) M F = fRu_sortBy_78 jfuel (nI g) 0 M' F ∧ (∀ k, k ≠ 25 → M' k = M k) ∧ (∀ v, v ≤ 32 → M' 25 v = nI (stt g l v)) := by
  intro m
  induction m with
  | zero =>
    intro n i M hi h1 h2 hn
    obtain ⟨n, rfl⟩ : ∃ z, n = z + 1 := ⟨n - 1, by omega⟩
    refine ⟨M, ?_, fun _ _ => rfl, fun v hv => h1 v (by omega)⟩
    rw [fRu_sortBy_47, qn_32, if_pos (nI_le (by omega) (by omega))]
  | succ m ih =>
    intro n i M hi h1 h2 hn
    obtain ⟨n, rfl⟩ : ∃ z, n = z + 1 := ⟨n - 1, by omega⟩
    obtain ⟨M', a1, a2, a3⟩ := ih n (i + 1) (jmu M 25 (i + 1) (nI (stt g l (i + 1)))) (by omega) (fun v hv => by
        by_cases e : v = i + 1
        · rw [e, q_mus]
        · rw [q_mui e]; exact h1 v (by omega)) (fun v hv hv2 => by rw [q_mui (by omega)]; exact h2 v (by omega) hv2) (by omega)
    refine ⟨M', ?_, fun k hk => by rw [a2 k hk, q_mukf hk], a3⟩
    rw [fRu_sortBy_47, qn_32, if_neg (nI_ge (by omega) (by omega)), nI_1, q_ibt (by omega) (by omega), q_ibt (by omega) (by omega), if_pos rfl, if_pos rfl, if_pos rfl, nI_clamp (by omega), nI_clamp (by omega), h2 i (by omega) (by omega), h1 i (by omega), nI_add, Nat.add_comm (flt g i l).length, ← stt_s, a1]
theorem c_sort10 {F : jF} {g : Nat} (hg : g < 6) {l : List (Nat → Nat)} (hl : l.length ≤ 3000) (hd : ∀ d, d ∈ l → q30 d) (h4 : F 4 = nI l.length) :
    ∀ (rem : List (Nat → Nat)) n (pre : List (Nat → Nat)) (M : jM), l = pre ++ rem → hA (M 23) 0 l → M 25 0 = 0 → (∀ v, v < 32 → M 25 (v + 1) = nI (flt g v pre).length) → rem.length < n →
    ∃ M', fRu_sortBy_10 n (nI g) (nI pre.length) M F = fRu_sortBy_47 jfuel (nI g) 0 M' F ∧ (∀ k, k ≠ 25 → M' k = M k) ∧ M' 25 0 = 0 ∧ (∀ v, v < 32 → M' 25 (v + 1) = nI (flt g v l).length) := by
  intro rem
  induction rem with
  | nil =>
    intro n pre M hl2 h23 h0 h25 hn
    obtain ⟨n, rfl⟩ : ∃ z, n = z + 1 := ⟨n - 1, by omega⟩
    rw [List.append_nil] at hl2
    subst hl2
    refine ⟨M, ?_, fun _ _ => rfl, h0, h25⟩
    rw [fRu_sortBy_10, h4, if_pos (nI_le (by omega) (by omega))]
  | cons d rem ih =>
    intro n pre M hl2 h23 h0 h25 hn
    obtain ⟨n, rfl⟩ : ∃ z, n = z + 1 := ⟨n - 1, by omega⟩
    rw [List.length_cons] at hn
    have hmem : d ∈ l := by rw [hl2]; exact List.mem_append_right _ List.mem_cons_self
    have hlen : l.length = pre.length + (rem.length + 1) := by rw [hl2, List.length_append, List.length_cons]
    have h30 := hd d hmem
    have hv : d g < 30 := h30 g hg
    have h00 : M 23 pre.length = nI (eC d) := by
      have := h23 pre.length d (by rw [hl2, List.getElem?_append_right (by omega), Nat.sub_self]; rfl)
      rw [Nat.zero_add] at this
      exact this
    obtain ⟨M', a1, a2, a3, a4⟩ := ih n (pre ++ [d]) (jmu M 25 (d g + 1) (nI ((flt g (d g) pre).length + 1))) (by rw [hl2]; simp) (by rw [q_mukf (by decide)]; exact h23) (by rw [q_mui (by omega)]; exact h0) (fun v hv2 => by
        rw [flt_app]
        by_cases e : v = d g
        · subst e; rw [q_mus, if_pos rfl, List.length_append, List.length_singleton]
        · rw [q_mui (by omega), if_neg (fun z => e z.symm), List.append_nil]; exact h25 v hv2) (by omega)
    refine ⟨M', ?_, fun k hk => by rw [a2 k hk, q_mukf hk], a3, a4⟩
    rw [fRu_sortBy_10, h4, if_neg (nI_ge (by omega) (by omega)), q_ibt (by omega) (by omega), if_pos rfl, nI_clamp (show pre.length < 2 ^ 31 by omega), h00, c_rowIn h30 hg, Option.bind_some, nI_1, q_ibt (show d g + 1 < 33 by omega) (by omega), if_pos rfl, if_pos rfl, nI_clamp (by omega), h25 (d g) (by omega), nI_1, nI_1]
    rw [List.length_append] at a1
    exact a1
theorem c_sortBy {M : jM} {F : jF} {g : Nat} (hg : g < 6) {l : List (Nat → Nat)} (hl : l.length ≤ 3000) (hd : ∀ d, d ∈ l → q30 d) (h4 : F 4 = nI l.length) (hR : hA (M 23) 0 l) :
    ∃ M', fRu_sortBy (nI g) M F = some (0, M', F) ∧ (∀ k, k < 23 ∨ 25 < k → M' k = M k) ∧ hA (M' 23) 0 (bk g l 32) := by
  have hd32 : ∀ d, d ∈ l → d g < 32 := fun d h => Nat.lt_trans (hd d h g hg) (by omega)
  obtain ⟨M1, a1, a2, a3⟩ := c_fill5 (F := F) 33 jfuel 0 M (fun j hj => by omega) (by omega) (by show _ < 4000; omega)
  obtain ⟨M2, b1, b2, b3, b4⟩ := c_sort10 hg hl hd h4 l jfuel [] M1 rfl (by rw [a2 23 (by decide)]; exact hR) (a3 0 (by omega)) (fun v hv => by rw [a3 (v + 1) (by omega)]; rfl) (by show _ < 4000; omega)
  obtain ⟨M3, c1, c2, c3⟩ := c_sort47 (F := F) (g := g) (l := l) (fun _ => True) 32 jfuel 0 M2 (by omega) (fun v hv => by
    have : v = 0 := by omega
    subst this; rw [b3]; rfl) (fun v _ hv => b4 v hv) (by show _ < 4000; omega)
  obtain ⟨M4, d1, d2, d3⟩ := c_sort78 hg hl hd h4 l jfuel [] M3 rfl (by rw [c2 23 (by decide), b2 23 (by decide), a2 23 (by decide)]; exact hR) (fun v hv => by rw [c3 v (by omega)]; rfl) (fun v hv j d hj => by cases hj) (by show _ < 4000; omega)
  refine ⟨M4, ?_, fun k hk => by rw [d2 k hk, c2 k (by omega), b2 k (by omega), a2 k (by omega)], ?_⟩
  · show fRu_sortBy_0 (nI g) M F = _
    unfold fRu_sortBy_0
    have e1 : fAr_fill 0 M F = some (0, M1, F) := a1
    rw [e1, Option.bind_some]
    exact (b1.trans c1).trans d1
  · have : ∀ n, n ≤ 32 → hA (M4 23) 0 (bk g l n) := by
      intro n
      induction n with
      | zero => intro _ j d hj; cases hj
      | succ n ih =>
        intro hn
        rw [bk]
        exact hA_app (ih (by omega)) (by rw [Nat.zero_add]; exact d3 n (by omega))
    exact this 32 (by omega)
/-! sorted by the digits from a generator on -/
def er (d : Nat → Nat) : Nat → Nat
  | 0 => 0
  | m + 1 => d (5 - m) * 30 ^ m + er d m
theorem er_lt {d : Nat → Nat} (h : q30 d) : ∀ m, er d m < 30 ^ m := by
  intro m
  induction m with
  | zero => exact Nat.one_pos
  | succ m ih =>
    rw [er, Nat.pow_succ]
    have h1 := h (5 - m) (by omega)
    have h2 : d (5 - m) * 30 ^ m ≤ 29 * 30 ^ m := Nat.mul_le_mul_right _ (by omega)
    omega
theorem er_6 (d : Nat → Nat) : er d 6 = eM d := by
  rw [eM_u]
  show d 0 * 24300000 + (d 1 * 810000 + (d 2 * 27000 + (d 3 * 900 + (d 4 * 30 + (d 5 * 1 + 0))))) = _
  omega
theorem er_0 {d : Nat → Nat} {G : Nat} (hG : G ≤ 6) (h : ∀ g, G ≤ g → d g = 0) : er d (6 - G) = 0 := by
  have : ∀ m, m ≤ 6 - G → er d m = 0 := by
    intro m
    induction m with
    | zero => intro _; rfl
    | succ m ih => intro hm; rw [er, ih (by omega), h (5 - m) (by omega), Nat.zero_mul]
  exact this _ (Nat.le_refl _)
theorem bk_mem {g : Nat} {l : List (Nat → Nat)} {n : Nat} {d : Nat → Nat} (h : d ∈ bk g l n) : d ∈ l ∧ d g < n := by
  have := (bk_perm g l n).mem_iff.mp h
  rw [List.mem_filter] at this
  simpa using this
theorem bk_sorted {g : Nat} (hg : g < 6) {l : List (Nat → Nat)} (hd : ∀ d, d ∈ l → q30 d) (hs : l.Pairwise (fun a b => er a (5 - g) ≤ er b (5 - g))) : ∀ n, (bk g l n).Pairwise (fun a b => er a (6 - g) ≤ er b (6 - g)) := by
  have e : ∀ d, er d (6 - g) = d g * 30 ^ (5 - g) + er d (5 - g) := by
    intro d
    rw [show 6 - g = (5 - g) + 1 by omega, er, show 5 - (5 - g) = g by omega]
  intro n
  induction n with
  | zero => exact List.Pairwise.nil
  | succ n ih =>
    rw [bk, List.pairwise_append]
    refine ⟨ih, ?_, ?_⟩
    · have h1 : (flt g n l).Pairwise (fun a b => er a (5 - g) ≤ er b (5 - g)) := List.Pairwise.filter _ hs
      refine List.Pairwise.imp_of_mem ?_ h1
      intro a b ha hb hab
      have ha2 : a g = n := by simpa using (List.mem_filter.mp ha).2
      have hb2 : b g = n := by simpa using (List.mem_filter.mp hb).2
      rw [e, e, ha2, hb2]; omega
    · intro a ha b hb
      obtain ⟨h1, h2⟩ := bk_mem ha
      have hb2 : b g = n := by simpa using (List.mem_filter.mp hb).2
      have h3 := er_lt (hd a h1) (5 - g)
      rw [e, e, hb2]
      have h4 : (a g + 1) * 30 ^ (5 - g) ≤ n * 30 ^ (5 - g) := Nat.mul_le_mul_right _ (by omega)
      rw [Nat.succ_mul] at h4
      omega
theorem c_go98 {D : qD} (w : qW D) (x1 : Int32) :
    ∀ m n l (M : jM) (F : jF), m ≤ dG D → l.length ≤ 3000 → (∀ d, d ∈ l → q30 d) → F 4 = nI l.length → hA (M 23) 0 l → l.Pairwise (fun a b => er a (6 - m) ≤ er b (6 - m)) → m < n →
    ∃ K M' F', fRu_go_98 n x1 (nI m + (-1)) M F = some (1, M', F') ∧ K.Perm l ∧ K.Pairwise (fun a b => eM a ≤ eM b) ∧ hA (M' 26) 0 K ∧ F' 6 = nI K.length ∧ F' 7 = x1 ∧ F' 8 = F 5 ∧ (∀ k, k < 23 → M' k = M k) ∧ (∀ k, k < 6 → F' k = F k) := by
  have G6 := w.2.1
  intro m
  induction m with
  | zero =>
    intro n l M F hm hl hd h4 hR hs hn
    obtain ⟨n, rfl⟩ : ∃ z, n = z + 1 := ⟨n - 1, by omega⟩
    refine ⟨l, jms M 23 26, jfu (jfu (jfu F 6 (F 4)) 7 x1) 8 (F 5), ?_, List.Perm.refl _, ?_, ?_, ?_, ?_, q_fus, ?_, ?_⟩
    · rw [fRu_go_98, if_pos (by decide)]; rfl
    · refine List.Pairwise.imp ?_ hs
      intro a b hab
      rw [er_6, er_6] at hab
      exact hab
    · unfold jms; rw [if_neg (by decide), if_pos rfl]; exact hR
    · rw [q_fun (by decide), q_fun (by decide), q_fus, h4]
    · rw [q_fun (by decide), q_fus]
    · intro k hk; unfold jms; rw [if_neg (by omega), if_neg (by omega)]
    · intro k hk; rw [q_fun (by omega), q_fun (by omega), q_fun (by omega)]
  | succ m ih =>
    intro n l M F hm hl hd h4 hR hs hn
    obtain ⟨n, rfl⟩ : ∃ z, n = z + 1 := ⟨n - 1, by omega⟩
    have hd32 : ∀ d, d ∈ l → d m < 32 := fun d h => Nat.lt_trans (hd d h m (by omega)) (by omega)
    obtain ⟨M1, a1, a2, a3⟩ := c_sortBy (show m < 6 by omega) hl hd h4 hR
    have hp := bk_perm32 hd32
    have hs' : l.Pairwise (fun a b => er a (5 - m) ≤ er b (5 - m)) := by
      rw [show 6 - (m + 1) = 5 - m by omega] at hs
      exact hs
    obtain ⟨K, M', F', b1, b2, b3, b4, b5, b6, b7, b8, b9⟩ := ih n (bk m l 32) M1 F (by omega) (by rw [hp.length_eq]; exact hl) (fun d h => hd d (hp.mem_iff.mp h)) (by rw [hp.length_eq]; exact h4) a3 (bk_sorted (by omega) hd hs' 32) (by omega)
    refine ⟨K, M', F', ?_, b2.trans hp, b3, b4, b5, b6, b7, fun k hk => by rw [b8 k hk, a2 k (by omega)], b9⟩
    rw [fRu_go_98, pk_m1, if_neg (nI_pos (by omega)), a1, Option.bind_some]
    exact b1
theorem dps_G {D : qD} {d : Nat → Nat} {i : Nat} (hi : i ≤ dG D) (h : qin D d (dps D i)) : ∀ g, dG D ≤ g → d g = 0 := by
  intro g hg
  apply h.2.2
  exact Nat.testBit_lt_two_pow (Nat.lt_of_lt_of_le (dps_b (D := D) i hi).2.1 (Nat.pow_le_pow_right (by omega) hg))
theorem c_go {D : qD} {M : jM} {F : jF} (w : qW D) (h : qRC D M F) :
    (al (rok D) 0 (dG D) = true → (rls D (dG D)).length ≤ 3000 ∧ ∃ K M' F', fRu_go M F = some (1, M', F') ∧ K.Perm (rls D (dG D)) ∧ K.Pairwise (fun a b => eM a ≤ eM b) ∧ hA (M' 26) 0 K ∧ F' 6 = nI K.length ∧ F' 7 = nI (dG D) ∧ F' 8 = nI (rlk D (dG D)) ∧ (∀ k, k < 17 → M' k = M k) ∧ (∀ k, k < 2 → F' k = F k)) ∧
    (al (rok D) 0 (dG D) = false → ∃ M' F', fRu_go M F = some (0, M', F') ∧ (∀ k, k < 17 ∨ k = 26 → M' k = M k) ∧ (∀ k, k < 2 ∨ 5 < k → F' k = F k)) := by
  have G6 := w.2.1
  obtain ⟨M1, a1, a2, a3⟩ := c_make w h
  have e1 : fRu_begin (F 0) M1 F = some (0, jmu M1 23 0 0, jfu (jfu F 4 (nI (rls D 0).length)) 5 0) := by
    show fRu_begin_0 (F 0) M1 F = _
    unfold fRu_begin_0 fRu_begin_17
    rw [if_pos (by decide), h.1, rls]
    by_cases z : dG D = 0
    · rw [z, if_pos (show nI 0 = 0 from rfl), if_pos rfl]; rfl
    · rw [if_neg (nI_ne0 (by omega) (by omega)), if_neg z]; rfl
  have hlen : (rls D 0).length ≤ 1 := by
    rw [rls]
    by_cases z : dG D = 0
    · rw [if_pos z]; simp
    · rw [if_neg z]; simp
  obtain ⟨r1, r2⟩ := c_go27 w (dG D) jfuel 0 (jmu M1 23 0 0) (jfu (jfu F 4 (nI (rls D 0).length)) 5 0) (qRC_fr h (fun k hk => by rw [q_mukf (by omega), a2 k (by omega) (by omega) (by omega)]) (by rw [q_fun (by decide), q_fun (by decide)]) (by rw [q_fun (by decide), q_fun (by decide)])) (fun j hj => by rw [q_muk (by decide)]; exact a3.1 j hj) (by omega) (by
      intro j d hj
      rw [rls] at hj
      by_cases z : dG D = 0
      · rw [if_pos z] at hj; cases hj
      · rw [if_neg z] at hj
        cases j with
        | zero => cases hj; rw [q_mus]; rfl
        | succ j => cases hj) (by rw [q_fun (by decide), q_fus]) q_fus (by omega) (by show _ < 4000; omega)
  have e2 : ∀ y, fRu_go_27 jfuel (nI (dG D)) (nI (dps D 0)) (nI 0) (jmu M1 23 0 0) (jfu (jfu F 4 (nI (rls D 0).length)) 5 0) = y → fRu_go M F = y := by
    intro y hy
    show fRu_go_0 M F = y
    unfold fRu_go_0
    rw [a1, Option.bind_some]
    show ((fRu_begin (F 0) M1 F).bind fun q3 => fRu_go_27 jfuel (F 0) 0 0 q3.2.1 q3.2.2) = y
    rw [e1, Option.bind_some, h.1]
    exact hy
  refine ⟨fun q => ?_, fun q => ?_⟩
  · obtain ⟨b1, M2, F2, b2, b3, b4, b5, b6, b7⟩ := r1 q
    have hok := rls_ok w (dG D) (Nat.le_refl _)
    obtain ⟨K, M', F', c1, c2, c3, c4, c5, c6, c7, c8, c9⟩ := c_go98 w (nI (dG D)) (dG D) jfuel (rls D (dG D)) M2 F2 (Nat.le_refl _) b1 (fun d hd => (hok d hd).1.1) b4 b3 (by
      refine List.Pairwise.imp_of_mem ?_ (List.pairwise_of_forall (R := fun _ _ => True) (fun _ _ => trivial))
      intro a b ha hb _
      rw [er_0 G6 (dps_G (Nat.le_refl _) (hok a ha).1), er_0 G6 (dps_G (Nat.le_refl _) (hok b hb).1)]
      exact Nat.le_refl 0) (by show _ < 4000; omega)
    refine ⟨b1, K, M', F', e2 _ (by rw [b2, q_sub1]; exact c1), c2, c3, c4, c5, c6, by rw [c7, b5], fun k hk => by rw [c8 k (by omega), b6 k (by omega), q_mukf (by omega), a2 k (by omega) (by omega) (by omega)], fun k hk => by rw [c9 k (by omega), b7 k (by omega), q_fun (by omega), q_fun (by omega)]⟩
  · obtain ⟨M', F', b2, b6, b7⟩ := r2 q
    exact ⟨M', F', e2 _ b2, fun k hk => by rw [b6 k (by omega), q_mukf (by omega), a2 k (by omega) (by omega) (by omega)], fun k hk => by rw [b7 k (by omega), q_fun (by omega), q_fun (by omega)]⟩
