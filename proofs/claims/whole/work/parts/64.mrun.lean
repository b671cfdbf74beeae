/-! a run of the reference -/
def hB (A : Nat → Int32) (o : Nat) (l : List (Nat → Nat)) : Prop := ∀ j d, l[j]? = some d → A (o + j) = nI (eM d)
theorem hB_congr {A B : Nat → Int32} {o : Nat} {l : List (Nat → Nat)} (h : hB A o l) (e : ∀ i, o ≤ i → i < o + l.length → B i = A i) : hB B o l := by
  intro j d hj
  have hl : j < l.length := by
    rcases Nat.lt_or_ge j l.length with q | q
    · exact q
    · rw [List.getElem?_eq_none q] at hj; cases hj
  rw [e _ (by omega) (by omega)]; exact h j d hj
theorem hB_push {A : Nat → Int32} {l : List (Nat → Nat)} (h : hB A 0 l) (d : Nat → Nat) {x : Int32} (hx : x = nI (eM d)) : hB (upd A l.length x) 0 (l ++ [d]) := by
  intro j d' hj
  rw [Nat.zero_add]
  by_cases e : j < l.length
  · rw [List.getElem?_append_left e] at hj
    rw [pk_un (by omega)]
    have := h j d' hj
    rw [Nat.zero_add] at this
    exact this
  · rw [List.getElem?_append_right (by omega)] at hj
    have e2 : j = l.length := by
      rcases Nat.lt_or_ge (j - l.length) 1 with q | q
      · omega
      · rw [List.getElem?_eq_none (by simpa using q)] at hj; cases hj
    subst e2
    rw [Nat.sub_self] at hj
    cases hj
    rw [pk_us, hx]
theorem m_isLooked {D : qD} {M : jM} {F : jF} {L : jL} (w : qW D) (h : qRM D M F) {s g k r : Nat} {d : Nat → Nat} (hs : s < 64) (hg : g < dG D) (hn : s.testBit g = false) (hk : k < dC D) (ht : dti D k g s = true) (hd : qin D d s) (hr : r < dn D g) : fMo_isLooked (nI k) (nI g) (nI r) (nI (eM d)) (nI s) M F L = some (b01 (dhu D k g d r)) := by
  have k12 := qW_k w hk
  obtain ⟨g6, gt, gn⟩ := qW_g w hg
  obtain ⟨k2, f1, fc, s1, sc, se⟩ := w.2.2.2.2 k hk
  have G6 := w.2.1
  obtain ⟨h11, h12, h13, h14, h15⟩ := h.2.2.2.2.2 k hk
  have hco : dco D k g < 4 := by
    unfold dco
    split
    · exact fc
    · rename_i z
      exact sc (fun y => z (dti_1 w hk ht y))
  have ht2 := ht
  unfold dti at ht2
  rw [Bool.and_eq_true] at ht2
  have hp := dju_p ht2.1
  have hgk := dju_g ht2.1
  show fMo_isLooked_0 _ _ _ _ _ M F L = _
  unfold fMo_isLooked_0 fMo_isLooked_76 fMo_isLooked_77 fMo_isLooked_125
  rw [m_tied w h hk hs g6 hn, Option.bind_some, ht]
  simp only [if_true]
  rw [m_cell w h hg hr hco, Option.bind_some, q_ibt k12 (by omega), nI_clamp (by omega), h11, h12, h13, h14, h15]
  simp only [if_true]
  unfold dhu dho
  by_cases b : dkd D k = 1
  · have e := dti_1 w hk ht b
    rw [if_pos (by rw [b]; rfl), if_pos b, if_pos b, e, ud_s]
    unfold dco
    rw [if_pos e]
    by_cases z : dv D g r (dfc D k) = dnu D k
    · rw [if_pos z, decide_eq_true z]; rfl
    · rw [if_neg z, decide_eq_false z]; rfl
  · have b0 : dkd D k = 0 ∧ dfi D k ≠ dse D k := by simpa [b] using ht2.2
    rw [if_neg (fun z => b ((q_1 (by omega)).mp z)), if_neg b, if_neg b, q_ife (by omega) (by omega), q_if2 (by omega) (by omega), if_neg (show ¬ dkd D k = 2 by omega)]
    by_cases e : dfi D k = g
    · have e4 : dse D k ≠ g := by omega
      rw [if_pos e, if_pos (hp.2 e4), if_neg (by decide), m_valueIn w h hd.1 s1 (hd.2.1 _ (hp.2 e4)) (sc b), Option.bind_some, ud_n e4, e, ud_s]
      unfold dco
      rw [if_pos e]
      by_cases z : dv D g r (dfc D k) = dv D (dse D k) (d (dse D k)) (dsc D k)
      · rw [if_pos z, decide_eq_true z]; rfl
      · rw [if_neg z, decide_eq_false z]; rfl
    · have e4 : dse D k = g := by rcases hgk with q | q <;> omega
      rw [if_neg e, m_valueIn w h hd.1 f1 (hd.2.1 _ (hp.1 e)) fc, Option.bind_some, ud_n e, e4, ud_s]
      unfold dco
      rw [if_neg e]
      by_cases z : dv D g r (dsc D k) = dv D (dfi D k) (d (dfi D k)) (dfc D k)
      · rw [if_pos z, decide_eq_true z.symm]; rfl
      · rw [if_neg z, decide_eq_false (fun y => z y.symm)]; rfl
def lkr (D : qD) (s g : Nat) (d : Nat → Nat) (r m : Nat) : Nat := match dcf D g s with | none => m | some k => qcb (fun j => dhu D k g d (r + j)) m
theorem lkr_s (D : qD) (s g : Nat) (d : Nat → Nat) (r m : Nat) : lkr D s g d r (m + 1) = (match dcf D g s with | none => 1 | some k => (dhu D k g d r).toNat) + lkr D s g d (r + 1) m := by
  unfold lkr
  cases dcf D g s with
  | none => simp only; omega
  | some k =>
    simp only
    rw [Nat.add_comm m 1, qcb_add]
    congr 1
    · show 0 + (dhu D k g d (r + 0)).toNat = _; simp
    · exact qcb_congr (fun j _ => by rw [Nat.add_assoc])
theorem m_run136 {D : qD} {F : jF} {L : jL} (w : qW D) (h1 : F 1 = nI (dG D)) {s g : Nat} (hs : s < 64) (hg : g < dG D) (hn : s.testBit g = false) {d : Nat → Nat} (hd : qok D s d) {i : Nat} (hi : i < 3000) (x1 x3 : Int32) (kk : Int32 → Int32 → Int32 → Int32 → Int32 → Int32 → Int32 → Int32 → Int32 → jM → jF → jL → Option (Int32 × jM × jF × jL)) :
    ∀ m n r x2 (acc : List (Nat → Nat)) (M : jM), qRM D M F → M 14 i = nI (eM d) → hB (M 15) 0 acc → acc.length ≤ 3000 → r + m = dn D g → m < n →
    ((acc ++ (rl (dok D s g d) r m).map (ud d g)).length ≤ 3000 → ∃ M', fMo_run_136 kk n x1 (nI x2) x3 (nI g) (nI s) (o32 (dcf D g s)) (nI (dn D g)) (nI acc.length) (nI i) (nI r) M F L = kk x1 (nI (x2 + lkr D s g d r m)) x3 (nI g) (nI s) (o32 (dcf D g s)) (nI (dn D g)) (nI (acc ++ (rl (dok D s g d) r m).map (ud d g)).length) (nI i) M' F L ∧ (∀ k, k ≠ 15 → M' k = M k) ∧ hB (M' 15) 0 (acc ++ (rl (dok D s g d) r m).map (ud d g))) ∧
    (¬ (acc ++ (rl (dok D s g d) r m).map (ud d g)).length ≤ 3000 → ∃ M', fMo_run_136 kk n x1 (nI x2) x3 (nI g) (nI s) (o32 (dcf D g s)) (nI (dn D g)) (nI acc.length) (nI i) (nI r) M F L = some (0, M', jfu F 0 1, L) ∧ (∀ k, k ≠ 15 → M' k = M k)) := by
  obtain ⟨g6, gt, gn⟩ := qW_g w hg
  have C12 := w.2.2.2.1
  have hsg : s ||| 2 ^ g < 64 := q_setlt s hs g g6
  have hz := hd.1.2.2 g hn
  intro m
  induction m with
  | zero =>
    intro n r x2 acc M h h14 hB15 ha hr hm
    obtain ⟨n, rfl⟩ : ∃ z, n = z + 1 := ⟨n - 1, by omega⟩
    rw [rl, List.map_nil, List.append_nil]
    have e : lkr D s g d r 0 = 0 := by unfold lkr; cases dcf D g s <;> rfl
    refine ⟨fun _ => ⟨M, ?_, fun _ _ => rfl, hB15⟩, fun q => absurd ha q⟩
    rw [fMo_run_136, if_pos (nI_le (by omega) (by omega)), e, Nat.add_zero]
  | succ m ih =>
    intro n r x2 acc M h h14 hB15 ha hr hm
    obtain ⟨n, rfl⟩ : ∃ z, n = z + 1 := ⟨n - 1, by omega⟩
    have hrn : r < dn D g := by omega
    have go : ((acc ++ (rl (dok D s g d) r (m + 1)).map (ud d g)).length ≤ 3000 → ∃ M', fMo_run_174 (fun x1 x2 x3 x4 x5 x7 x8 x9 x10 x11 M F L => fMo_run_136 kk n x1 x2 x3 x4 x5 x7 x8 x9 x10 x11 M F L) x1 (nI x2) x3 (nI g) (nI s) (o32 (dcf D g s)) (nI (dn D g)) (nI acc.length) (nI i) (nI r) M F L = kk x1 (nI (x2 + 1 + lkr D s g d (r + 1) m)) x3 (nI g) (nI s) (o32 (dcf D g s)) (nI (dn D g)) (nI (acc ++ (rl (dok D s g d) r (m + 1)).map (ud d g)).length) (nI i) M' F L ∧ (∀ k, k ≠ 15 → M' k = M k) ∧ hB (M' 15) 0 (acc ++ (rl (dok D s g d) r (m + 1)).map (ud d g))) ∧
      (¬ (acc ++ (rl (dok D s g d) r (m + 1)).map (ud d g)).length ≤ 3000 → ∃ M', fMo_run_174 (fun x1 x2 x3 x4 x5 x7 x8 x9 x10 x11 M F L => fMo_run_136 kk n x1 x2 x3 x4 x5 x7 x8 x9 x10 x11 M F L) x1 (nI x2) x3 (nI g) (nI s) (o32 (dcf D g s)) (nI (dn D g)) (nI acc.length) (nI i) (nI r) M F L = some (0, M', jfu F 0 1, L) ∧ (∀ k, k ≠ 15 → M' k = M k)) := by
      unfold fMo_run_174
      rw [q_ibt hi (by omega), if_pos rfl, m_digit g6, Option.bind_some, nI_clamp (by omega), h14, pk_mul, nI_add, ← eM_ud g6 hz, q_set (by omega), m_allHold w h hsg (qin_ud w hd.1 hg hrn), Option.bind_some, dal_dok hd.2 hn, b01_i0, nI_1, nI_1, nI_1, rl]
      cases z : dok D s g d r with
      | false =>
        rw [if_neg (show ¬ (false = true) by simp), if_neg (show ¬ (false = true) by simp)]
        exact ih n (r + 1) (x2 + 1) acc M h h14 hB15 ha (by omega) (by omega)
      | true =>
        rw [if_pos (show true = true from rfl), if_pos (show true = true from rfl), List.map_cons, show acc ++ ud d g r :: (rl (dok D s g d) (r + 1) m).map (ud d g) = (acc ++ [ud d g r]) ++ (rl (dok D s g d) (r + 1) m).map (ud d g) by simp, qn_3000, q_ife (by omega) (by omega)]
        by_cases z2 : acc.length = 3000
        · rw [if_pos z2]
          refine ⟨fun q => ?_, fun _ => ⟨M, rfl, fun _ _ => rfl⟩⟩
          rw [List.length_append, List.length_append, List.length_singleton] at q
          omega
        · rw [if_neg z2, q_ibt (show acc.length < 3000 by omega) (by omega), if_pos rfl, nI_clamp (by omega)]
          have e : (acc ++ [ud d g r]).length = acc.length + 1 := by rw [List.length_append, List.length_singleton]
          obtain ⟨r1, r2⟩ := ih n (r + 1) (x2 + 1) (acc ++ [ud d g r]) (jmu M 15 acc.length (nI (eM (ud d g r)))) (qRM_fr h (fun k hk => q_mukf (by omega)) rfl rfl) (by rw [q_muk (by decide)]; exact h14) (by
            have := hB_push hB15 (ud d g r) rfl
            have e2 : jmu M 15 acc.length (nI (eM (ud d g r))) 15 = upd (M 15) acc.length (nI (eM (ud d g r))) := by unfold jmu; rw [if_pos rfl]
            rw [e2]; exact this) (by rw [e]; omega) (by omega) (by omega)
          rw [e] at r1 r2
          refine ⟨fun q => ?_, fun q => ?_⟩
          · obtain ⟨M', a1, a2, a3⟩ := r1 q
            exact ⟨M', a1, fun k hk => by rw [a2 k hk, q_mukf hk], a3⟩
          · obtain ⟨M', a1, a2⟩ := r2 q
            exact ⟨M', a1, fun k hk => by rw [a2 k hk, q_mukf hk]⟩
    rw [fMo_run_136, if_neg (nI_ge (by omega) (by omega)), lkr_s]
    cases z : dcf D g s with
    | none =>
      rw [if_pos (show o32 none = -1 from rfl)]
      rw [z] at go
      simp only
      rw [← Nat.add_assoc]
      exact go
    | some k =>
      obtain ⟨z1, z2⟩ := dcf_some z
      rw [if_neg (show ¬ o32 (some k) = -1 from q_m1 (by omega)), show o32 (some k) = nI k from rfl, q_ibt hi (by omega), if_pos rfl, nI_clamp (by omega), h14, m_isLooked w h hs hg hn z1 z2 hd.1 hrn, Option.bind_some, b01_i0, nI_1]
      simp only
      rw [z] at go
      cases z3 : dhu D k g d r with
      | true =>
        rw [if_pos rfl, Bool.toNat_true, ← Nat.add_assoc]
        exact go
      | false =>
        rw [if_neg (show ¬ (false = true) by simp), Bool.toNat_false, Nat.zero_add]
        have z4 : dok D s g d r = false := by
          have z5 : dju D k g s = true := by unfold dti at z2; rw [Bool.and_eq_true] at z2; exact z2.1
          cases z6 : dok D s g d r with
          | false => rfl
          | true =>
            unfold dok at z6
            rw [al_iff] at z6
            have := z6 k (by omega) (by omega)
            rw [z5, z3] at this
            cases this
        rw [rl, z4, if_neg (show ¬ (false = true) by simp)]
        have := ih n (r + 1) x2 acc M h h14 hB15 ha (by omega) (by omega)
        rw [z] at this
        exact this
theorem lk_lkr (D : qD) (s g : Nat) (d : Nat → Nat) : lkr D s g d 0 (dn D g) = lk D s g d := by
  unfold lkr lk
  cases dcf D g s with
  | none => rfl
  | some k => exact qcb_congr (fun j _ => by rw [Nat.zero_add])
theorem m_run127 {D : qD} {F : jF} {L : jL} (w : qW D) (h1 : F 1 = nI (dG D)) {s g : Nat} (hs : s < 64) (hg : g < dG D) (hn : s.testBit g = false) (len : Nat) (hlen : len ≤ 3000) (x3 : Int32) (kk : Int32 → Int32 → Int32 → jM → jF → jL → Option (Int32 × jM × jF × jL)) :
    ∀ (rem : List (Nat → Nat)) n i x2 (acc : List (Nat → Nat)) (M : jM), qRM D M F → (∀ d, d ∈ rem → qok D s d) → i + rem.length = len → hB (M 14) i rem → hB (M 15) 0 acc → acc.length ≤ 3000 → rem.length < n →
    ((acc ++ stp D s g rem).length ≤ 3000 → ∃ M', fMo_run_127 kk n (nI len) (nI x2) x3 (nI g) (nI s) (o32 (dcf D g s)) (nI (dn D g)) (nI acc.length) (nI i) M F L = kk (nI (x2 + lks D s g rem)) x3 (nI (acc ++ stp D s g rem).length) M' F L ∧ (∀ k, k ≠ 15 → M' k = M k) ∧ hB (M' 15) 0 (acc ++ stp D s g rem)) ∧
    (¬ (acc ++ stp D s g rem).length ≤ 3000 → ∃ M', fMo_run_127 kk n (nI len) (nI x2) x3 (nI g) (nI s) (o32 (dcf D g s)) (nI (dn D g)) (nI acc.length) (nI i) M F L = some (0, M', jfu F 0 1, L) ∧ (∀ k, k ≠ 15 → M' k = M k)) := by
  obtain ⟨g6, gt, gn⟩ := qW_g w hg
  intro rem
  induction rem with
  | nil =>
    intro n i x2 acc M h hin hi hR hB15 ha hm
    obtain ⟨n, rfl⟩ : ∃ z, n = z + 1 := ⟨n - 1, by omega⟩
    rw [List.length_nil] at hi
    have e : acc ++ stp D s g [] = acc := by unfold stp; rw [List.flatMap_nil, List.append_nil]
    rw [e]
    refine ⟨fun _ => ⟨M, ?_, fun _ _ => rfl, hB15⟩, fun q => absurd ha q⟩
    rw [fMo_run_127, if_pos (nI_le (by omega) (by omega))]; rfl
  | cons d rem ih =>
    intro n i x2 acc M h hin hi hR hB15 ha hm
    obtain ⟨n, rfl⟩ : ∃ z, n = z + 1 := ⟨n - 1, by omega⟩
    rw [List.length_cons] at hi hm
    have hd := hin d (List.mem_cons_self)
    have e : acc ++ stp D s g (d :: rem) = (acc ++ stp1 D s g d) ++ stp D s g rem := by unfold stp; rw [List.flatMap_cons, List.append_assoc]
    have h0 : M 14 i = nI (eM d) := hR 0 d rfl
    obtain ⟨r1, r2⟩ := m_run136 (L := L) w h1 hs hg hn hd (show i < 3000 by omega) (nI len) x3 (fun x1 x2 x3 x4 x5 x7 x8 x9 x10 M F L => fMo_run_127 kk n x1 x2 x3 x4 x5 x7 x8 x9 (x10 + 1) M F L) (dn D g) jfuel 0 x2 acc M h h0 hB15 ha (by omega) (by show _ < 4000; omega)
    rw [lk_lkr] at r1
    have e2 : (rl (dok D s g d) 0 (dn D g)).map (ud d g) = stp1 D s g d := rfl
    rw [e2] at r1 r2
    have e3 : fMo_run_127 kk (n + 1) (nI len) (nI x2) x3 (nI g) (nI s) (o32 (dcf D g s)) (nI (dn D g)) (nI acc.length) (nI i) M F L = fMo_run_136 (fun x1 x2 x3 x4 x5 x7 x8 x9 x10 M F L => fMo_run_127 kk n x1 x2 x3 x4 x5 x7 x8 x9 (x10 + 1) M F L) jfuel (nI len) (nI x2) x3 (nI g) (nI s) (o32 (dcf D g s)) (nI (dn D g)) (nI acc.length) (nI i) (nI 0) M F L := by
      rw [fMo_run_127, if_neg (nI_ge (by omega) (by omega))]; rfl
    rw [e3, e]
    by_cases z : (acc ++ stp1 D s g d).length ≤ 3000
    · obtain ⟨M1, a1, a2, a3⟩ := r1 z
      obtain ⟨s1, s2⟩ := ih n (i + 1) (x2 + lk D s g d) (acc ++ stp1 D s g d) M1 (qRM_fr h (fun k hk => a2 k (by omega)) rfl rfl) (fun d' hd' => hin d' (List.mem_cons_of_mem _ hd')) (by omega) (fun j d' hj => by
          rw [a2 14 (by decide), show i + 1 + j = i + (j + 1) by omega]
          exact hR (j + 1) d' hj) a3 z (by omega)
      rw [a1, nI_1]
      refine ⟨fun q => ?_, fun q => ?_⟩
      · obtain ⟨M', b1, b2, b3⟩ := s1 q
        refine ⟨M', ?_, fun k hk => by rw [b2 k hk, a2 k hk], b3⟩
        rw [b1, Nat.add_assoc]; rfl
      · obtain ⟨M', b1, b2⟩ := s2 q
        exact ⟨M', b1, fun k hk => by rw [b2 k hk, a2 k hk]⟩
    · refine ⟨fun q => ?_, fun _ => r2 z⟩
      rw [List.length_append] at q
      omega
theorem m_run259 {F : jF} {L : jL} (x2 x3 : Int32) (kk : Int32 → Int32 → Int32 → jM → jF → jL → Option (Int32 × jM × jF × jL)) (len : Nat) (hlen : len ≤ 3000) :
    ∀ m n i (M : jM), i + m = len → (∀ j, j < i → M 14 j = M 15 j) → m < n → ∃ M', fMo_run_259 kk n (nI len) x2 x3 (nI i) M F L = kk (nI len) x2 x3 M' F L ∧ (∀ k, k ≠ 14 → M' k = M k) ∧ (∀ j, j < len → M' 14 j = M 15 j) := by
  intro m
  induction m with
  | zero =>
    intro n i M hi hM hn
    obtain ⟨n, rfl⟩ : ∃ z, n = z + 1 := ⟨n - 1, by omega⟩
    refine ⟨M, ?_, fun _ _ => rfl, fun j hj => hM j (by omega)⟩
    rw [fMo_run_259, if_pos (nI_le (by omega) (by omega))]
  | succ m ih =>
    intro n i M hi hM hn
    obtain ⟨n, rfl⟩ : ∃ z, n = z + 1 := ⟨n - 1, by omega⟩
    obtain ⟨M', a1, a2, a3⟩ := ih n (i + 1) (jmu M 14 i (M 15 i)) (by omega) (fun j hj => by
      rw [q_muk (show 15 ≠ 14 by decide)]
      by_cases e : j = i
      · rw [e, q_mus]
      · rw [q_mui e]; exact hM j (by omega)) (by omega)
    refine ⟨M', ?_, fun k hk => by rw [a2 k hk, q_mukf hk], fun j hj => by rw [a3 j hj, q_muk (by decide)]⟩
    rw [fMo_run_259, if_neg (nI_ge (by omega) (by omega)), q_ibt (by omega) (by omega), if_pos rfl, if_pos rfl, nI_clamp (by omega), nI_1, a1]
theorem m_run90 {D : qD} {M : jM} {F : jF} {L : jL} (w : qW D) (h : qRM D M F) {s g : Nat} (hs : s < 64) (hg : g < dG D) (hn : s.testBit g = false) {l : List (Nat → Nat)} (hl : l.length ≤ 3000) (hin : ∀ d, d ∈ l → qok D s d) (hR : hB (M 14) 0 l) (x2 : Nat) (x3 : Int32) (kk : Int32 → Int32 → Int32 → jM → jF → jL → Option (Int32 × jM × jF × jL)) :
    ((stp D s g l).length ≤ 3000 → ∃ M', fMo_run_90 kk (nI l.length) (nI x2) x3 (nI g) (nI s) (nI (dme D g s)) (o32 (dcf D g s)) M F L = kk (nI (stp D s g l).length) (nI (x2 + lkx D s g l)) (x3 + 1) M' F L ∧ (∀ k, k < 14 ∨ 15 < k → M' k = M k) ∧ hB (M' 14) 0 (stp D s g l)) ∧
    (¬ (stp D s g l).length ≤ 3000 → ∃ M', fMo_run_90 kk (nI l.length) (nI x2) x3 (nI g) (nI s) (nI (dme D g s)) (o32 (dcf D g s)) M F L = some (0, M', jfu F 0 1, L) ∧ (∀ k, k < 14 ∨ 15 < k → M' k = M k)) := by
  obtain ⟨g6, gt, gn⟩ := qW_g w hg
  have hme : dme D g s ≤ 3 := by
    unfold dme
    cases fd (fun k => dti D k g s && dix D k g) 0 (dC D) with
    | some j => simp
    | none => cases fd (fun k => dti D k g s && decide (dkd D k = 0)) 0 (dC D) <;> simp
  have e : fMo_run_90 kk (nI l.length) (nI x2) x3 (nI g) (nI s) (nI (dme D g s)) (o32 (dcf D g s)) M F L = fMo_run_127 (fun x2 x3 x9 M F L => fMo_run_259 (fun x1 x2 x3 M F L => kk x1 x2 (x3 + 1) M F L) jfuel x9 x2 x3 0 M F L) jfuel (nI l.length) (nI (x2 + (if dme D g s = 2 then dn D g else 0))) x3 (nI g) (nI s) (o32 (dcf D g s)) (nI (dn D g)) (nI ([] : List (Nat → Nat)).length) (nI 0) M F L := by
    unfold fMo_run_90 fMo_run_119
    rw [q_ibt g6 (by omega), if_pos rfl, nI_clamp (by omega), h.2.2.2.2.1 g hg, q_ibt gt (by omega), if_pos rfl, nI_clamp (by omega), (h.2.2.1 _ gt).1, qn_2, q_ife (by omega) (by omega)]
    by_cases z : dme D g s = 2
    · rw [if_pos z, if_pos z, nI_add]; rfl
    · rw [if_neg z, if_neg z, qn_0, nI_add]; rfl
  obtain ⟨r1, r2⟩ := m_run127 (L := L) w h.1 hs hg hn l.length hl x3 (fun x2 x3 x9 M F L => fMo_run_259 (fun x1 x2 x3 M F L => kk x1 x2 (x3 + 1) M F L) jfuel x9 x2 x3 0 M F L) l jfuel 0 (x2 + (if dme D g s = 2 then dn D g else 0)) [] M h hin (by omega) hR (fun j d hj => by cases hj) (by simp) (by show _ < 4000; omega)
  rw [List.nil_append] at r1 r2
  rw [e]
  refine ⟨fun q => ?_, fun q => ?_⟩
  · obtain ⟨M1, a1, a2, a3⟩ := r1 q
    obtain ⟨M', b1, b2, b3⟩ := m_run259 (F := F) (L := L) (nI (x2 + (if dme D g s = 2 then dn D g else 0) + lks D s g l)) x3 (fun x1 x2 x3 M F L => kk x1 x2 (x3 + 1) M F L) (stp D s g l).length q (stp D s g l).length jfuel 0 M1 (by omega) (fun j hj => by omega) (by show _ < 4000; omega)
    refine ⟨M', ?_, fun k hk => by rw [b2 k (by omega), a2 k (by omega)], ?_⟩
    · rw [a1, qn_0, b1, Nat.add_assoc]; rfl
    · exact hB_congr a3 (fun i _ hi => by rw [b3 i (by omega)])
  · obtain ⟨M1, a1, a2⟩ := r2 q
    exact ⟨M1, a1, fun k hk => a2 k (by omega)⟩
theorem m_run40 {D : qD} {F : jF} {L : jL} (w : qW D) :
    ∀ m n i (M : jM), qRM D M F → (dG D ≠ 0 → qPM D M L) → (rls D i).length ≤ 3000 → hB (M 14) 0 (rls D i) → i + m = dG D → m < n →
    (al (rok D) i m = true → ∃ M', fMo_run_40 n (nI (rls D i).length) (nI (rlk D i)) (nI i) M F L = ((fMo_sort (nI (rls D (dG D)).length) M' F L).bind fun q5 => fMo_run_298 jfuel (nI (rls D (dG D)).length) (nI (rlk D (dG D))) 0 q5.2.1 q5.2.2.1 q5.2.2.2) ∧ (∀ k, k < 14 → M' k = M k) ∧ hB (M' 14) 0 (rls D (dG D))) ∧
    (al (rok D) i m = false → ∃ M', fMo_run_40 n (nI (rls D i).length) (nI (rlk D i)) (nI i) M F L = some (0, M', jfu F 0 1, L) ∧ (∀ k, k < 14 → M' k = M k)) := by
  have G6 := w.2.1
  intro m
  induction m with
  | zero =>
    intro n i M h hP hl hR hi hn
    obtain ⟨n, rfl⟩ : ∃ z, n = z + 1 := ⟨n - 1, by omega⟩
    have : i = dG D := by omega
    subst this
    refine ⟨fun _ => ⟨M, ?_, fun _ _ => rfl, hR⟩, fun q => by cases q⟩
    rw [fMo_run_40, h.1, if_pos (nI_le (by omega) (by omega))]
  | succ m ih =>
    intro n i M h hP hl hR hi hn
    obtain ⟨n, rfl⟩ : ∃ z, n = z + 1 := ⟨n - 1, by omega⟩
    have hi' : i < dG D := by omega
    have hP' := hP (by omega)
    obtain ⟨o1, o2, o3⟩ := dor_b hi'
    have hs := q_s64 w (dps_b (D := D) i (by omega)).2.1
    obtain ⟨r1, r2⟩ := m_run90 (L := L) w h hs o2 o3 hl (rls_ok w i (by omega)) hR (rlk D i) (nI i) (fun x1 x2 x3 M F L => fMo_run_40 n x1 x2 x3 M F L)
    have e : fMo_run_40 (n + 1) (nI (rls D i).length) (nI (rlk D i)) (nI i) M F L = fMo_run_90 (fun x1 x2 x3 M F L => fMo_run_40 n x1 x2 x3 M F L) (nI (rls D i).length) (nI (rlk D i)) (nI i) (nI (dor D i)) (nI (dps D i)) (nI (dme D (dor D i) (dps D i))) (o32 (dcf D (dor D i) (dps D i))) M F L := by
      rw [fMo_run_40, h.1, if_neg (nI_ge (by omega) (by omega)), q_ibt (by omega) (by omega), if_pos rfl, nI_clamp (by omega), m_ahead w hP' (by omega), Option.bind_some, m_methodAt w h hP' hi', Option.bind_some, hP'.1 i hi']
      have c1 := m_cond1 (L := L) w h hs o2 o3
      have c2 := m_cond2 (L := L) w h hs o2 o3
      unfold dme dcf
      cases z : fd (fun k => dti D k (dor D i) (dps D i) && dix D k (dor D i)) 0 (dC D) with
      | some k =>
        rw [z] at c1
        simp only
        rw [if_neg (by decide), show nI 1 = 1 from rfl, c1, Option.bind_some]
      | none =>
        simp only
        cases z2 : fd (fun k => dti D k (dor D i) (dps D i) && decide (dkd D k = 0)) 0 (dC D) with
        | some k =>
          rw [z2] at c2
          simp only
          rw [if_neg (by decide), show nI 2 = 2 from rfl, c2, Option.bind_some]
        | none =>
          simp only
          rw [if_pos (by decide)]; rfl
    rw [e, al]
    cases z : rok D i with
    | false =>
      have z' : ¬ (stp D (dps D i) (dor D i) (rls D i)).length ≤ 3000 := by unfold rok at z; exact of_decide_eq_false z
      obtain ⟨M', a1, a2⟩ := r2 z'
      exact ⟨fun q => (by cases q), fun _ => ⟨M', a1, fun k hk => a2 k (by omega)⟩⟩
    | true =>
      have z' : (stp D (dps D i) (dor D i) (rls D i)).length ≤ 3000 := by unfold rok at z; exact of_decide_eq_true z
      obtain ⟨M1, a1, a2, a3⟩ := r1 z'
      rw [Bool.true_and, a1, nI_1]
      obtain ⟨s1, s2⟩ := ih n (i + 1) M1 (qRM_fr h (fun k hk => a2 k (by omega)) rfl rfl) (fun q => ⟨fun j hj => by rw [a2 12 (by omega)]; exact hP'.1 j hj, hP'.2⟩) z' a3 (by omega) (by omega)
      refine ⟨fun q => ?_, fun q => ?_⟩
      · obtain ⟨M', b1, b2, b3⟩ := s1 q
        exact ⟨M', b1, fun k hk => by rw [b2 k hk, a2 k (by omega)], b3⟩
      · obtain ⟨M', b1, b2⟩ := s2 q
        exact ⟨M', b1, fun k hk => by rw [b2 k hk, a2 k (by omega)]⟩
