/-! the reference sorts -/
def vc (v : Nat → Nat) (n x : Nat) : Nat := qcb (fun i => decide (v i = x)) n
theorem qcb_ud {p : Nat → Bool} {i : Nat} {b : Bool} {n : Nat} (h : i < n) : qcb (fun j => if j = i then b else p j) n + (p i).toNat = qcb p n + b.toNat := by
  induction n with
  | zero => omega
  | succ n ih =>
    show qcb _ n + (if n = i then b else p n).toNat + _ = qcb p n + (p n).toNat + _
    by_cases e : n = i
    · subst e
      rw [if_pos rfl]
      have : qcb (fun j => if j = n then b else p j) n = qcb p n := qcb_congr (fun r hr => by rw [if_neg (by omega)])
      rw [this]; omega
    · rw [if_neg e]
      have := ih (by omega)
      omega
theorem vc_ud {v : Nat → Nat} {i y n : Nat} (h : i < n) (x : Nat) : vc (ud v i y) n x + (decide (v i = x)).toNat = vc v n x + (decide (y = x)).toNat := by
  unfold vc
  rw [← qcb_ud (p := fun i => decide (v i = x)) (b := decide (y = x)) h]
  congr 1
  apply qcb_congr
  intro j _
  unfold ud
  by_cases e : j = i
  · rw [if_pos e, if_pos e]
  · rw [if_neg e, if_neg e]
theorem vc_move {v : Nat → Nat} {i j y n : Nat} (hi : i < n) (hj : j < n) (hij : i ≠ j) (x : Nat) : vc (ud (ud v j (v i)) i y) n x = vc (ud v j y) n x := by
  have h1 := vc_ud (v := ud v j (v i)) (y := y) hi x
  have h2 := vc_ud (v := v) (y := v i) hj x
  have h3 := vc_ud (v := v) (y := y) hj x
  rw [ud_n hij] at h1
  omega
def vs (v : Nat → Nat) (n : Nat) : Prop := ∀ a b, a < b → b < n → v a ≤ v b
theorem m_sort26 {F : jF} {L : jL} {N h i y : Nat} (hN : N ≤ 3000) (h1 : 1 ≤ h) (hh : h ≤ N) (hi : i < N) (hy : y < 2 ^ 31) (x1 x3 : Int32) (kk : Int32 → Int32 → Int32 → Int32 → Int32 → jM → jF → jL → Option (Int32 × jM × jF × jL)) :
    ∀ n j v (M : jM), j < n → j ≤ i → (∀ k, k < N → M 14 k = nI (v k)) → (∀ k, k < N → v k < 2 ^ 31) → (h = 1 → (∀ a b, a < b → b ≤ i → a ≠ j → b ≠ j → v a ≤ v b) ∧ (∀ b, j < b → b ≤ i → y ≤ v b)) →
    ∃ j' v' M', fMo_sort_26 kk n x1 (nI h) x3 (nI y) (nI j) M F L = kk x1 (nI h) x3 (nI y) (nI j') M' F L ∧ j' ≤ i ∧ (∀ k, k < N → M' 14 k = nI (v' k)) ∧ (∀ k, k < N → v' k < 2 ^ 31) ∧ (∀ k, k ≠ 14 → M' k = M k) ∧ (∀ x, vc (ud v' j' y) N x = vc (ud v j y) N x) ∧ (h = 1 → vs (ud v' j' y) (i + 1)) := by
  intro n
  induction n with
  | zero => intro j v M hj; omega
  | succ n ih =>
    intro j v M hj hji hM hv hS
    have stop : (h = 1 → j = 0 ∨ v (j - 1) ≤ y) → (h = 1 → vs (ud v j y) (i + 1)) := by
      intro hc e
      obtain ⟨s1, s2⟩ := hS e
      intro a b hab hb
      by_cases ea : a = j
      · subst ea
        rw [ud_s, ud_n (by omega)]
        exact s2 b hab (by omega)
      · by_cases eb : b = j
        · subst eb
          rw [ud_s, ud_n ea]
          rcases hc e with q | q
          · omega
          · by_cases e2 : a = b - 1
            · rw [e2]; exact q
            · exact Nat.le_trans (s1 a (b - 1) (by omega) (by omega) (by omega) (by omega)) q
        · rw [ud_n ea, ud_n eb]
          exact s1 a b hab (by omega) ea eb
    rw [fMo_sort_26, q_iflt (by omega) (by omega)]
    by_cases e1 : j < h
    · rw [if_pos e1]
      exact ⟨j, v, M, rfl, hji, hM, hv, fun _ _ => rfl, fun _ => rfl, stop (fun e => Or.inl (by omega))⟩
    · rw [if_neg e1, pk_sub (by omega), q_ibt (by omega) (by omega), if_pos rfl, nI_clamp (by omega), hM _ (by omega), q_ifl (hv _ (by omega)) hy]
      by_cases e2 : v (j - h) ≤ y
      · rw [if_pos e2]
        exact ⟨j, v, M, rfl, hji, hM, hv, fun _ _ => rfl, fun _ => rfl, stop (fun e => Or.inr (by rw [e] at e2; exact e2))⟩
      · rw [if_neg e2, if_pos rfl, q_ibt (by omega) (by omega), if_pos rfl, nI_clamp (by omega)]
        obtain ⟨j', v', M', a1, a2, a3, a4, a5, a6, a7⟩ := ih (j - h) (ud v j (v (j - h))) (jmu M 14 j (nI (v (j - h)))) (by omega) (by omega) (fun k hk => by
          by_cases e : k = j
          · rw [e, q_mus, ud_s]
          · rw [q_mui e, ud_n e]; exact hM k hk) (fun k hk => by
          by_cases e : k = j
          · rw [e, ud_s]; exact hv _ (by omega)
          · rw [ud_n e]; exact hv k hk) (fun e => by
          obtain ⟨s1, s2⟩ := hS e
          subst e
          refine ⟨fun a b hab hb ha hb2 => ?_, fun b hb hb2 => ?_⟩
          · by_cases ea : a = j
            · subst ea
              rw [ud_s, ud_n (by omega)]
              exact s1 _ _ (by omega) hb (by omega) (by omega)
            · by_cases eb : b = j
              · subst eb
                rw [ud_s, ud_n ea]
                exact s1 _ _ (by omega) (by omega) ea (by omega)
              · rw [ud_n ea, ud_n eb]
                exact s1 a b hab hb ea eb
          · by_cases eb : b = j
            · subst eb
              rw [ud_s]; omega
            · rw [ud_n eb]
              exact s2 b (by omega) hb2)
        refine ⟨j', v', M', a1, a2, a3, a4, fun k hk => by rw [a5 k hk, q_mukf hk], fun x => ?_, a7⟩
        rw [a6 x, vc_move (by omega) (by omega) (by omega)]
theorem m_sort10 {F : jF} {L : jL} {N h : Nat} (hN : N ≤ 3000) (h1 : 1 ≤ h) (hh : h ≤ N) (kk : Int32 → Int32 → jM → jF → jL → Option (Int32 × jM × jF × jL)) :
    ∀ m n i v (M : jM), i + m = N → m < n → (∀ k, k < N → M 14 k = nI (v k)) → (∀ k, k < N → v k < 2 ^ 31) → (h = 1 → vs v i) →
    ∃ v' M', fMo_sort_10 kk n (nI N) (nI h) (nI i) M F L = kk (nI N) (nI h) M' F L ∧ (∀ k, k < N → M' 14 k = nI (v' k)) ∧ (∀ k, k < N → v' k < 2 ^ 31) ∧ (∀ k, k ≠ 14 → M' k = M k) ∧ (∀ x, vc v' N x = vc v N x) ∧ (h = 1 → vs v' N) := by
  intro m
  induction m with
  | zero =>
    intro n i v M hi hn hM hv hS
    obtain ⟨n, rfl⟩ : ∃ z, n = z + 1 := ⟨n - 1, by omega⟩
    have : i = N := by omega
    subst this
    refine ⟨v, M, ?_, hM, hv, fun _ _ => rfl, fun _ => rfl, hS⟩
    rw [fMo_sort_10, if_pos (nI_le (by omega) (by omega))]
  | succ m ih =>
    intro n i v M hi hn hM hv hS
    obtain ⟨n, rfl⟩ : ∃ z, n = z + 1 := ⟨n - 1, by omega⟩
    obtain ⟨j', v', M', a1, a2, a3, a4, a5, a6, a7⟩ := m_sort26 (F := F) (L := L) hN h1 hh (show i < N by omega) (hv i (by omega)) (nI N) (nI i) (fun x1 x2 x3 x4 x5 M F L => fMo_sort_71 (fun x1 x2 x3 M F L => fMo_sort_10 kk n x1 x2 x3 M F L) x1 x2 x3 x4 x5 M F L) jfuel i v M (by show _ < 4000; omega) (Nat.le_refl _) hM hv (fun e => ⟨fun a b hab hb ha hb2 => hS e a b hab (by omega), fun b hb hb2 => by omega⟩)
    have hy := hv i (by omega)
    obtain ⟨v2, M2, b1, b2, b3, b4, b5, b6⟩ := ih n (i + 1) (ud v' j' (v i)) (jmu M' 14 j' (nI (v i))) (by omega) (by omega) (fun k hk => by
        by_cases e : k = j'
        · rw [e, q_mus, ud_s]
        · rw [q_mui e, ud_n e]; exact a3 k hk) (fun k hk => by
        by_cases e : k = j'
        · rw [e, ud_s]; exact hy
        · rw [ud_n e]; exact a4 k hk) a7
    refine ⟨v2, M2, ?_, b2, b3, fun k hk => by rw [b4 k hk, q_mukf hk, a5 k hk], fun x => ?_, b6⟩
    · rw [fMo_sort_10, if_neg (nI_ge (by omega) (by omega)), q_ibt (by omega) (by omega), if_pos rfl, nI_clamp (by omega), hM i (by omega), a1]
      unfold fMo_sort_71
      rw [q_ibt (by omega) (by omega), if_pos rfl, nI_clamp (by omega), nI_1]
      exact b1
    · rw [b5 x, a6 x]
      have h2 := vc_ud (v := v) (y := v i) (show i < N by omega) x
      omega
theorem m_sort4 {F : jF} {L : jL} {N : Nat} (hN : N ≤ 3000) :
    ∀ n h v (M : jM), h < n → h ≤ N → (∀ k, k < N → M 14 k = nI (v k)) → (∀ k, k < N → v k < 2 ^ 31) → (h = 0 → vs v N) →
    ∃ v' M', fMo_sort_4 n (nI N) (nI h) M F L = some (0, M', F, L) ∧ (∀ k, k < N → M' 14 k = nI (v' k)) ∧ (∀ k, k < N → v' k < 2 ^ 31) ∧ (∀ k, k ≠ 14 → M' k = M k) ∧ (∀ x, vc v' N x = vc v N x) ∧ vs v' N := by
  intro n
  induction n with
  | zero => intro h v M hn; omega
  | succ n ih =>
    intro h v M hn hh hM hv hS
    rw [fMo_sort_4, qn_0, q_ifl (by omega) (by omega)]
    by_cases e : h ≤ 0
    · rw [if_pos e]
      exact ⟨v, M, rfl, hM, hv, fun _ _ => rfl, fun _ => rfl, hS (by omega)⟩
    · rw [if_neg e]
      obtain ⟨v1, M1, a1, a2, a3, a4, a5, a6⟩ := m_sort10 (F := F) (L := L) hN (show 1 ≤ h by omega) hh (fun x1 x2 M F L => (if (2 : Int32) = nI 0 then none else fMo_sort_4 n x1 (x2 / 2) M F L)) (N - h) jfuel h v M (by omega) (by show _ < 4000; omega) hM hv (fun e a b hab hb => by omega)
      obtain ⟨v', M', b1, b2, b3, b4, b5, b6⟩ := ih (h / 2) v1 M1 (by omega) (by omega) a2 a3 (fun e => a6 (by omega))
      refine ⟨v', M', ?_, b2, b3, fun k hk => by rw [b4 k hk, a4 k hk], fun x => by rw [b5 x, a5 x], b6⟩
      rw [a1, if_neg (by decide), qn_2, pk_div (by omega) (by omega) (by omega)]
      exact b1
theorem m_sort {M : jM} {F : jF} {L : jL} {N : Nat} (hN : N ≤ 3000) {v : Nat → Nat} (hM : ∀ k, k < N → M 14 k = nI (v k)) (hv : ∀ k, k < N → v k < 2 ^ 31) :
    ∃ v' M', fMo_sort (nI N) M F L = some (0, M', F, L) ∧ (∀ k, k < N → M' 14 k = nI (v' k)) ∧ (∀ k, k < N → v' k < 2 ^ 31) ∧ (∀ k, k ≠ 14 → M' k = M k) ∧ (∀ x, vc v' N x = vc v N x) ∧ vs v' N := by
  obtain ⟨v', M', a1, a2⟩ := m_sort4 (F := F) (L := L) hN jfuel (N / 2) v M (by show _ < 4000; omega) (by omega) hM hv (fun e a b hab hb => by omega)
  refine ⟨v', M', ?_, a2⟩
  show fMo_sort_0 (nI N) M F L = _
  unfold fMo_sort_0
  rw [if_neg (by decide), qn_2, pk_div (by omega) (by omega) (by omega)]
  exact a1
theorem vc_count (v : Nat → Nat) (n x : Nat) : ((List.range n).map v).count x = vc v n x := by
  induction n with
  | zero => rfl
  | succ n ih =>
    rw [List.range_succ, List.map_append, List.count_append, ih]
    show _ = vc v n x + (decide (v n = x)).toNat
    congr 1
theorem vs_pair {v : Nat → Nat} {n : Nat} (h : vs v n) : ((List.range n).map v).Pairwise (fun a b => a ≤ b) := by
  rw [List.pairwise_map]
  refine List.Pairwise.imp_of_mem ?_ (List.pairwise_lt_range)
  intro a b ha hb hab
  exact h a b hab (List.mem_range.mp hb)
theorem m_run298 {F : jF} {L : jL} (x2 : Int32) (N : Nat) (hN : N ≤ 3000) :
    ∀ m n i (M : jM), i + m = N → (∀ j, j < i → M 13 j = M 14 j) → m < n → ∃ M', fMo_run_298 n (nI N) x2 (nI i) M F L = some (nI N, M', jfu (jfu (jfu F 4 (nI N)) 5 x2) 3 (F 1), L) ∧ (∀ k, k ≠ 13 → M' k = M k) ∧ (∀ j, j < N → M' 13 j = M 14 j) := by
  intro m
  induction m with
  | zero =>
    intro n i M hi hM hn
    obtain ⟨n, rfl⟩ : ∃ z, n = z + 1 := ⟨n - 1, by omega⟩
    refine ⟨M, ?_, fun _ _ => rfl, fun j hj => hM j (by omega)⟩
    rw [fMo_run_298, if_pos (nI_le (by omega) (by omega)), q_fun (show 1 ≠ 5 by decide), q_fun (show 1 ≠ 4 by decide)]
  | succ m ih =>
    intro n i M hi hM hn
    obtain ⟨n, rfl⟩ : ∃ z, n = z + 1 := ⟨n - 1, by omega⟩
    obtain ⟨M', a1, a2, a3⟩ := ih n (i + 1) (jmu M 13 i (M 14 i)) (by omega) (fun j hj => by
      rw [q_muk (show 14 ≠ 13 by decide)]
      by_cases e : j = i
      · rw [e, q_mus]
      · rw [q_mui e]; exact hM j (by omega)) (by omega)
    refine ⟨M', ?_, fun k hk => by rw [a2 k hk, q_mukf hk], fun j hj => by rw [a3 j hj, q_muk (by decide)]⟩
    rw [fMo_run_298, if_neg (nI_ge (by omega) (by omega)), q_ibt (by omega) (by omega), if_pos rfl, if_pos rfl, nI_clamp (by omega), nI_1, a1]
theorem m_run {D : qD} {M : jM} {F : jF} {L : jL} (w : qW D) (h : qRM D M F) :
    (al (rok D) 0 (dG D) = true → ∀ K : List (Nat → Nat), (rls D (dG D)).length ≤ 3000 → K.Perm (rls D (dG D)) → K.Pairwise (fun a b => eM a ≤ eM b) → ∃ M' F' L', fMo_run M F L = some (nI K.length, M', F', L') ∧ hB (M' 13) 0 K ∧ F' 0 = 0 ∧ F' 4 = nI K.length ∧ F' 5 = nI (rlk D (dG D)) ∧ F' 3 = nI (dG D) ∧ (∀ k, k < 11 → M' k = M k) ∧ F' 1 = F 1 ∧ F' 2 = F 2) ∧
    (al (rok D) 0 (dG D) = false → ∃ M' F' L', fMo_run M F L = some (0, M', F', L') ∧ F' 0 = 1 ∧ (∀ k, k < 11 ∨ k = 13 → M' k = M k) ∧ (∀ k, k ≠ 0 → F' k = F k)) := by
  have G6 := w.2.1
  have h0 : qRM D M (jfu F 0 0) := qRM_fr h (fun _ _ => rfl) (q_fun (by decide)) (q_fun (by decide))
  have hlen : (rls D 0).length ≤ 1 := by
    rw [rls]
    by_cases z : dG D = 0
    · rw [if_pos z]; simp
    · rw [if_neg z]; simp
  have e1 : ∃ M1 L1, (∀ k, k ≠ 11 → k ≠ 12 → M1 k = M k) ∧ (dG D ≠ 0 → qPM D M1 L1) ∧ fMo_run M F L = fMo_run_40 jfuel (nI (rls D 0).length) (nI (rlk D 0)) (nI 0) (jmu M1 14 0 0) (jfu F 0 0) L1 := by
    have e2 : ∀ M1 L1, fMo_run_16 M1 (jfu F 0 0) L1 = fMo_run_40 jfuel (nI (rls D 0).length) (nI (rlk D 0)) (nI 0) (jmu M1 14 0 0) (jfu F 0 0) L1 := by
      intro M1 L1
      unfold fMo_run_16 fMo_run_28
      rw [h0.1]
      by_cases z : dG D = 0
      · rw [if_pos (show nI (dG D) ≤ 0 by rw [z]; decide), if_pos (show jib 0 3000 = true by decide), rls, if_pos z]; rfl
      · rw [if_neg (nI_nle (by omega) (by omega)), if_pos (show jib 0 3000 = true by decide), rls, if_neg z]; rfl
    by_cases z : dG D = 0
    · refine ⟨M, L, fun _ _ _ => rfl, fun q => absurd z q, ?_⟩
      rw [← e2]
      show fMo_run_0 M F L = _
      unfold fMo_run_0
      rw [h0.1, if_pos (by rw [z]; decide)]
    · obtain ⟨M1, L1, a1, a2, a3⟩ := m_makePlan (L := L) w h0 (by omega)
      refine ⟨M1, L1, a2, fun _ => a3, ?_⟩
      rw [← e2]
      show fMo_run_0 M F L = _
      unfold fMo_run_0
      rw [h0.1, if_neg (nI_nle (by omega) (by omega)), a1, Option.bind_some]
  obtain ⟨M1, L1, b1, b2, b3⟩ := e1
  obtain ⟨r1, r2⟩ := m_run40 (F := jfu F 0 0) (L := L1) w (dG D) jfuel 0 (jmu M1 14 0 0) (qRM_fr h0 (fun k hk => by rw [q_mukf (by omega), b1 k (by omega) (by omega)]) rfl rfl) (fun q => ⟨fun j hj => by rw [q_muk (by decide)]; exact (b2 q).1 j hj, (b2 q).2⟩) (by omega) (by
      intro j d hj
      rw [rls] at hj
      by_cases z : dG D = 0
      · rw [if_pos z] at hj; cases hj
      · rw [if_neg z] at hj
        cases j with
        | zero => cases hj; rw [q_mus]; rfl
        | succ j => cases hj) (by omega) (by show _ < 4000; omega)
  rw [b3]
  refine ⟨fun q K hl hK hS => ?_, fun q => ?_⟩
  · obtain ⟨M2, a1, a2, a3⟩ := r1 q
    have hok := rls_ok w (dG D) (Nat.le_refl _)
    have a3' : ∀ k, k < (rls D (dG D)).length → M2 14 k = nI (((rls D (dG D)).map eM).getD k 0) := by
      intro k hk
      have := a3 k _ (List.getElem?_eq_getElem hk)
      rw [Nat.zero_add] at this
      rw [this, List.getD_eq_getElem?_getD, List.getElem?_map, List.getElem?_eq_getElem hk]; rfl
    have hv : ∀ k, k < (rls D (dG D)).length → ((rls D (dG D)).map eM).getD k 0 < 2 ^ 31 := by
      intro k hk
      rw [List.getD_eq_getElem?_getD, List.getElem?_map, List.getElem?_eq_getElem hk]
      have := eM_lt (hok _ (List.getElem_mem hk)).1.1
      show eM _ < _
      omega
    obtain ⟨v', M3, c1, c2, c3, c4, c5, c6⟩ := m_sort (F := jfu F 0 0) (L := L1) hl a3' hv
    obtain ⟨M4, d1, d2, d3⟩ := m_run298 (F := jfu F 0 0) (L := L1) (nI (rlk D (dG D))) (rls D (dG D)).length hl (rls D (dG D)).length jfuel 0 M3 (by omega) (fun j hj => by omega) (by show _ < 4000; omega)
    have hKl : K.length = (rls D (dG D)).length := hK.length_eq
    have p1 : ((List.range (rls D (dG D)).length).map (fun k => ((rls D (dG D)).map eM).getD k 0)) = (rls D (dG D)).map eM := by
      apply List.ext_getElem?
      intro k
      rw [List.getElem?_map]
      by_cases e : k < (rls D (dG D)).length
      · rw [List.getElem?_range e, Option.map_some, List.getD_eq_getElem?_getD, List.getElem?_map, List.getElem?_eq_getElem e]; rfl
      · rw [List.getElem?_eq_none (by simpa using e), List.getElem?_eq_none (by simpa using e)]; rfl
    have p2 : ((List.range (rls D (dG D)).length).map v').Perm (K.map eM) := by
      refine List.Perm.trans ?_ (hK.map eM).symm
      rw [← p1, List.perm_iff_count]
      intro x
      rw [vc_count, vc_count, c5 x]
    have p3 : (List.range (rls D (dG D)).length).map v' = K.map eM := by
      refine List.Perm.eq_of_pairwise (le := fun a b => a ≤ b) (fun a b _ _ h1 h2 => Nat.le_antisymm h1 h2) (vs_pair c6) ?_ p2
      rw [List.pairwise_map]
      exact hS
    refine ⟨M4, jfu (jfu (jfu (jfu F 0 0) 4 (nI (rls D (dG D)).length)) 5 (nI (rlk D (dG D)))) 3 (jfu F 0 0 1), L1, ?_, ?_, ?_, ?_, ?_, ?_, ?_, ?_, ?_⟩
    · rw [a1, c1, Option.bind_some, hKl]
      exact d1
    · intro j d hj
      have hjl : j < K.length := by
        rcases Nat.lt_or_ge j K.length with z | z
        · exact z
        · rw [List.getElem?_eq_none z] at hj; cases hj
      rw [Nat.zero_add, d3 j (by omega), c2 j (by omega)]
      have := congrArg (fun l => l[j]?) p3
      simp only [List.getElem?_map, hj] at this
      rw [List.getElem?_range (by omega)] at this
      simp only [Option.map_some, Option.some.injEq] at this
      rw [this]
    · rw [q_fun (by decide), q_fun (by decide), q_fun (by decide), q_fus]
    · rw [q_fun (by decide), q_fun (by decide), q_fus, hKl]
    · rw [q_fun (by decide), q_fus]
    · rw [q_fus]; exact h0.1
    · intro k hk; rw [d2 k (by omega), c4 k (by omega), a2 k (by omega), q_mukf (by omega), b1 k (by omega) (by omega)]
    · rw [q_fun (by decide), q_fun (by decide), q_fun (by decide), q_fun (by decide)]
    · rw [q_fun (by decide), q_fun (by decide), q_fun (by decide), q_fun (by decide)]
  · obtain ⟨M2, a1, a2⟩ := r2 q
    refine ⟨M2, jfu (jfu F 0 0) 0 1, L1, a1, q_fus, fun k hk => by rw [a2 k (by omega), q_mukf (by omega), b1 k (by omega) (by omega)], fun k hk => by rw [q_fun hk, q_fun hk]⟩
