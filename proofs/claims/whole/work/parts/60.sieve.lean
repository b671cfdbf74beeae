/-! steps of a run -/
def rl (p : Nat → Bool) : Nat → Nat → List Nat
  | _, 0 => []
  | r, m + 1 => if p r = true then r :: rl p (r + 1) m else rl p (r + 1) m
def dhu (D : qD) (k g : Nat) (d : Nat → Nat) (r : Nat) : Bool := dho D k (ud d g r (dfi D k)) (ud d g r (dse D k))
def dok (D : qD) (s g : Nat) (d : Nat → Nat) (r : Nat) : Bool := al (fun k => !dju D k g s || dhu D k g d r) 0 (dC D)
def stp1 (D : qD) (s g : Nat) (d : Nat → Nat) : List (Nat → Nat) := (rl (dok D s g d) 0 (dn D g)).map (ud d g)
def stp (D : qD) (s g : Nat) (l : List (Nat → Nat)) : List (Nat → Nat) := l.flatMap (stp1 D s g)
def lk (D : qD) (s g : Nat) (d : Nat → Nat) : Nat := match dcf D g s with | none => dn D g | some k => qcb (dhu D k g d) (dn D g)
def lks (D : qD) (s g : Nat) : List (Nat → Nat) → Nat
  | [] => 0
  | d :: l => lk D s g d + lks D s g l
theorem rl_len (p : Nat → Bool) : ∀ m r, (rl p r m).length = qcb (fun i => p (r + i)) m := by
  intro m
  induction m with
  | zero => intro r; rfl
  | succ m ih =>
    intro r
    rw [rl, Nat.add_comm m 1, qcb_add]
    have e : qcb (fun i => p (r + i)) 1 = (p r).toNat := by show 0 + (p (r + 0)).toNat = _; simp
    have e2 : (rl p (r + 1) m).length = qcb (fun j => p (r + (1 + j))) m := by
      rw [ih]; exact qcb_congr (fun j _ => by rw [Nat.add_assoc])
    rw [e]
    cases z : p r with
    | true => rw [if_pos rfl, List.length_cons, e2, Bool.toNat_true, Nat.add_comm]
    | false => rw [if_neg (by simp), e2, Bool.toNat_false, Nat.zero_add]
theorem rl_len0 (p : Nat → Bool) (m : Nat) : (rl p 0 m).length = qcb p m := by
  rw [rl_len]; exact qcb_congr (fun j _ => by rw [Nat.zero_add])
theorem rl_mem {p : Nat → Bool} : ∀ {m r x}, x ∈ rl p r m → r ≤ x ∧ x < r + m ∧ p x = true := by
  intro m
  induction m with
  | zero => intro r x h; cases h
  | succ m ih =>
    intro r x h
    rw [rl] at h
    by_cases e : p r = true
    · rw [if_pos e] at h
      rcases List.mem_cons.mp h with h | h
      · subst h; exact ⟨by omega, by omega, e⟩
      · have := ih h; exact ⟨by omega, by omega, this.2.2⟩
    · rw [if_neg e] at h
      have := ih h; exact ⟨by omega, by omega, this.2.2⟩
theorem rl_nil {p : Nat → Bool} : ∀ {m r}, (∀ x, r ≤ x → x < r + m → p x = false) → rl p r m = [] := by
  intro m
  induction m with
  | zero => intro r h; rfl
  | succ m ih =>
    intro r h
    rw [rl, if_neg (by rw [h r (by omega) (by omega)]; simp)]
    exact ih (fun x h1 h2 => h x (by omega) (by omega))
/-! the sieve of the house -/
def dlm (D : qD) (k g x : Nat) (r : Nat) : Bool := dho D k (if dfi D k = g then r else x) (if dse D k = g then r else x)
theorem c_rth13 {D : qD} {M : jM} {F : jF} (w : qW D) (h : qRC D M F) {k g x : Nat} (hk : k < dC D) (hg : g < dG D) (h1 : dfi D k ≠ g → x < dn D (dfi D k)) (h2 : dse D k ≠ g → dkd D k ≠ 1 → x < dn D (dse D k)) :
    ∀ m n r, r + m = dn D g → m < n → fSi_rowsThatHold_13 n (nI k) (nI g) (nI x) (nI (qrm (dlm D k g x) r)) (nI (dn D g)) (nI r) M F = some (nI (qrm (dlm D k g x) (dn D g))) := by
  obtain ⟨g6, gt, gn⟩ := qW_g w hg
  intro m
  induction m with
  | zero =>
    intro n r hr hn
    obtain ⟨n, rfl⟩ : ∃ z, n = z + 1 := ⟨n - 1, by omega⟩
    rw [fSi_rowsThatHold_13, if_pos (nI_le (by omega) (by omega)), show r = dn D g by omega]
  | succ m ih =>
    intro n r hr hn
    obtain ⟨n, rfl⟩ : ∃ z, n = z + 1 := ⟨n - 1, by omega⟩
    have e := ih n (r + 1) (by omega) (by omega)
    have ha : (if dfi D k = g then r else x) < dn D (dfi D k) := by
      split
      · rename_i z; rw [z]; omega
      · rename_i z; exact h1 z
    have hb : dkd D k ≠ 1 → (if dse D k = g then r else x) < dn D (dse D k) := by
      intro y
      split
      · rename_i z; rw [z]; omega
      · rename_i z; exact h2 z y
    rw [fSi_rowsThatHold_13, if_neg (nI_ge (by omega) (by omega)), c_holds w h hk g6 ha hb, Option.bind_some, b01_i0, q_set (by omega), nI_1]
    rw [qrm] at e
    show (if dlm D k g x r = true then _ else _) = _
    cases z : dlm D k g x r with
    | true => rw [if_pos rfl]; rw [z, if_pos rfl] at e; exact e
    | false => rw [if_neg (by simp)]; rw [z, if_neg (by simp), Nat.or_zero] at e; exact e
theorem c_rowsThatHold {D : qD} {M : jM} {F : jF} (w : qW D) (h : qRC D M F) {k g x : Nat} (hk : k < dC D) (hg : g < dG D) (h1 : dfi D k ≠ g → x < dn D (dfi D k)) (h2 : dse D k ≠ g → dkd D k ≠ 1 → x < dn D (dse D k)) : fSi_rowsThatHold (nI k) (nI g) (nI x) M F = some (nI (qrm (dlm D k g x) (dn D g))) := by
  have gn := (qW_g w hg).2.2
  show fSi_rowsThatHold_0 _ _ _ M F = _
  unfold fSi_rowsThatHold_0
  rw [c_rowsOf w h hg, Option.bind_some]
  exact c_rth13 w h hk hg h1 h2 (dn D g) jfuel 0 (by omega) (by show _ < 4000; omega)
theorem c_judge37 {D : qD} (w : qW D) {F : jF} {k g y : Nat} (hk : k < dC D) (hg : g < dG D) (h1 : dfi D k ≠ g → y ≤ dn D (dfi D k)) (h2 : dse D k ≠ g → dkd D k ≠ 1 → y ≤ dn D (dse D k)) (hy : y ≤ 32) :
    ∀ m n x (M : jM), qRC D M F → (∀ i, i < x → M 22 (k * 32 + i) = nI (qrm (dlm D k g i) (dn D g))) → x + m = y → m < n →
    ∃ M', fSi_judge_37 n (nI k) (nI g) (nI y) (nI x) M F = some (0, M', F) ∧ (∀ l, l ≠ 22 → M' l = M l) ∧ (∀ i, i < k * 32 ∨ k * 32 + 32 ≤ i → M' 22 i = M 22 i) ∧ (∀ i, i < y → M' 22 (k * 32 + i) = nI (qrm (dlm D k g i) (dn D g))) := by
  have k12 := qW_k w hk
  intro m
  induction m with
  | zero =>
    intro n x M h hM hx hn
    obtain ⟨n, rfl⟩ : ∃ z, n = z + 1 := ⟨n - 1, by omega⟩
    refine ⟨M, ?_, fun _ _ => rfl, fun _ _ => rfl, fun i hi => hM i (by omega)⟩
    rw [fSi_judge_37, if_pos (nI_le (by omega) (by omega))]
  | succ m ih =>
    intro n x M h hM hx hn
    obtain ⟨n, rfl⟩ : ∃ z, n = z + 1 := ⟨n - 1, by omega⟩
    obtain ⟨M', a1, a2, a3, a4⟩ := ih n (x + 1) (jmu M 22 (k * 32 + x) (nI (qrm (dlm D k g x) (dn D g)))) (qRC_fr h (fun l hl => q_mukf (by omega)) rfl rfl) (fun i hi => by
      by_cases e : i = x
      · rw [e, q_mus]
      · rw [q_mui (by omega)]; exact hM i (by omega)) (by omega) (by omega)
    refine ⟨M', ?_, fun l hl => by rw [a2 l hl, q_mukf hl], fun i hi => by rw [a3 i hi, q_mui (by omega)], a4⟩
    rw [fSi_judge_37, if_neg (nI_ge (by omega) (by omega)), c_rowsThatHold w h hk hg (fun z => by have := h1 z; omega) (fun z z2 => by have := h2 z z2; omega), Option.bind_some, qn_32, pk_mul, nI_add, q_ibt (by omega) (by omega), if_pos rfl, nI_clamp (by omega), nI_1, a1]
def dpn (D : qD) (k g : Nat) : Nat := match dpa D k g with | none => 1 | some p => dn D p
theorem dju_k1 {D : qD} (w : qW D) {k g s : Nat} (hk : k < dC D) (h : dju D k g s = true) (e : dkd D k = 1) : dfi D k = g := by
  rcases dju_g h with q | q
  · exact q
  · rw [← (w.2.2.2.2 k hk).2.2.2.2.2 e]; exact q
theorem c_judge {D : qD} {M : jM} {F : jF} (w : qW D) (h : qRC D M F) {k g s : Nat} (hk : k < dC D) (hg : g < dG D) (hj : dju D k g s = true) :
    ∃ M', fSi_judge (nI k) (nI g) M F = some (0, M', F) ∧ (∀ l, l ≠ 21 → l ≠ 22 → M' l = M l) ∧ (∀ i, i ≠ k → M' 21 i = M 21 i) ∧ M' 21 k = o32 (dpa D k g) ∧ (∀ i, i < k * 32 ∨ k * 32 + 32 ≤ i → M' 22 i = M 22 i) ∧ (∀ i, i < dpn D k g → M' 22 (k * 32 + i) = nI (qrm (dlm D k g i) (dn D g))) := by
  have k12 := qW_k w hk
  obtain ⟨g6, gt, gn⟩ := qW_g w hg
  obtain ⟨k2, f1, fc, s1, sc, se⟩ := w.2.2.2.2 k hk
  have G6 := w.2.1
  have hgk := dju_g hj
  have hpn : dpn D k g ≤ 32 ∧ (dfi D k ≠ g → dpn D k g ≤ dn D (dfi D k)) ∧ (dse D k ≠ g → dkd D k ≠ 1 → dpn D k g ≤ dn D (dse D k)) ∧ (∀ p, dpa D k g = some p → p < dG D) := by
    unfold dpn dpa
    by_cases e : dkd D k = 1
    · rw [if_pos e]
      exact ⟨by simp, fun z => absurd (dju_k1 w hk hj e) z, fun _ z => absurd e z, fun p hp => by cases hp⟩
    · rw [if_neg e]
      by_cases e2 : dfi D k = dse D k
      · rw [if_pos e2]
        have : dfi D k = g := by rcases hgk with q | q <;> omega
        exact ⟨by simp, fun z => absurd this z, fun z => absurd (by omega) z, fun p hp => by cases hp⟩
      · rw [if_neg e2]
        by_cases e3 : dfi D k = g
        · rw [if_pos e3]
          have := (qW_g w s1).2.2
          exact ⟨by simp only; omega, fun z => absurd e3 z, fun _ _ => Nat.le_refl _, fun p hp => by cases hp; exact s1⟩
        · rw [if_neg e3]
          have := (qW_g w f1).2.2
          have e4 : dse D k = g := by rcases hgk with q | q <;> omega
          exact ⟨by simp only; omega, fun _ => Nat.le_refl _, fun z => absurd e4 z, fun p hp => by cases hp; exact f1⟩
  obtain ⟨p1, p2, p3, p4⟩ := hpn
  obtain ⟨M', a1, a2, a3, a4⟩ := c_judge37 (F := F) w hk hg p2 p3 p1 (dpn D k g) jfuel 0 (jmu M 21 k (o32 (dpa D k g))) (qRC_fr h (fun l hl => q_mukf (by omega)) rfl rfl) (fun i hi => by omega) (by omega) (by show _ < 4000; omega)
  refine ⟨M', ?_, fun l hl hl2 => by rw [a2 l hl2, q_mukf hl], fun i hi => by rw [a2 21 (by decide), q_mui hi], by rw [a2 21 (by decide), q_mus], fun i hi => by rw [a3 i hi, q_muk (by decide)], a4⟩
  show fSi_judge_0 _ _ M F = _
  unfold fSi_judge_0
  rw [c_partner w h hk g6 (dju_k1 w hk hj), Option.bind_some]
  cases e : dpa D k g with
  | none =>
    rw [if_pos (show o32 none = -1 from rfl)]
    unfold fSi_judge_24
    rw [q_ibt k12 (by omega), if_pos rfl, nI_clamp (by omega)]
    rw [e, show dpn D k g = 1 by unfold dpn; rw [e]] at a1
    exact a1
  | some p =>
    have hp := p4 p e
    have := (qW_g w hp).1
    rw [if_neg (show ¬ o32 (some p) = -1 from q_m1 (by omega)), show o32 (some p) = nI p from rfl, c_rowsOf w h hp, Option.bind_some]
    unfold fSi_judge_24
    rw [q_ibt k12 (by omega), if_pos rfl, nI_clamp (by omega)]
    rw [e, show dpn D k g = dn D p by unfold dpn; rw [e]] at a1
    exact a1
def jj (D : qD) (s g n : Nat) : List Nat := (List.range n).filter (fun k => dju D k g s)
def qSVn (D : qD) (s g n : Nat) (M : jM) (F : jF) : Prop := F 3 = nI (2 ^ dn D g - 1) ∧ F 2 = nI (jj D s g n).length ∧ (∀ i k, (jj D s g n)[i]? = some k → M 20 i = nI k) ∧ (∀ k, k < n → dju D k g s = true → M 21 k = o32 (dpa D k g) ∧ ∀ i, i < dpn D k g → M 22 (k * 32 + i) = nI (qrm (dlm D k g i) (dn D g)))
theorem jj_le (D : qD) (s g n : Nat) : (jj D s g n).length ≤ n := by
  unfold jj
  have := List.length_filter_le (fun k => dju D k g s) (List.range n)
  rw [List.length_range] at this
  exact this
theorem jj_s (D : qD) (s g n : Nat) : jj D s g (n + 1) = jj D s g n ++ (if dju D n g s = true then [n] else []) := by
  unfold jj
  rw [List.range_succ, List.filter_append]
  cases z : dju D n g s <;> simp [z]
theorem dpn_le {D : qD} (w : qW D) {k g : Nat} (hk : k < dC D) : dpn D k g ≤ 32 := by
  obtain ⟨k2, f1, fc, s1, sc, se⟩ := w.2.2.2.2 k hk
  have h1 := (qW_g w s1).2.2
  have h2 := (qW_g w f1).2.2
  unfold dpn dpa
  by_cases e : dkd D k = 1
  · rw [if_pos e]; simp
  · rw [if_neg e]
    by_cases e2 : dfi D k = dse D k
    · rw [if_pos e2]; simp
    · rw [if_neg e2]
      by_cases e3 : dfi D k = g
      · rw [if_pos e3]; simp only; omega
      · rw [if_neg e3]; simp only; omega
theorem c_prep21 {D : qD} (w : qW D) {s g : Nat} (hs : s < 64) (hg : g < dG D) :
    ∀ m n k (M : jM) (F : jF), qRC D M F → qSVn D s g k M F → k + m = dC D → m < n →
    ∃ M' F', fSi_prepare_21 n (nI g) (nI s) (nI k) M F = some (0, M', F') ∧ qSVn D s g (dC D) M' F' ∧ (∀ l, l < 20 ∨ 22 < l → M' l = M l) ∧ (∀ l, l < 2 ∨ 3 < l → F' l = F l) := by
  have C12 := w.2.2.2.1
  obtain ⟨g6, gt, gn⟩ := qW_g w hg
  intro m
  induction m with
  | zero =>
    intro n k M F h hV hk hn
    obtain ⟨n, rfl⟩ : ∃ z, n = z + 1 := ⟨n - 1, by omega⟩
    have : k = dC D := by omega
    subst this
    refine ⟨M, F, ?_, hV, fun _ _ => rfl, fun _ _ => rfl⟩
    rw [fSi_prepare_21, h.2.1, if_pos (nI_le (by omega) (by omega))]
  | succ m ih =>
    intro n k M F h hV hk hn
    obtain ⟨n, rfl⟩ : ∃ z, n = z + 1 := ⟨n - 1, by omega⟩
    have hk' : k < dC D := by omega
    obtain ⟨v1, v2, v3, v4⟩ := hV
    have hl := jj_le D s g k
    rw [fSi_prepare_21, h.2.1, if_neg (nI_ge (by omega) (by omega)), c_isJudgedAt w h hk' hs g6, Option.bind_some, b01_i0, nI_1]
    cases z : dju D k g s with
    | false =>
      rw [if_neg (by simp)]
      have e : jj D s g (k + 1) = jj D s g k := by rw [jj_s, z]; simp
      exact ih n (k + 1) M F h ⟨v1, by rw [e, v2], by rw [e]; exact v3, fun i hi hi2 => v4 i (by
        by_cases y : i = k
        · rw [y, z] at hi2; cases hi2
        · omega) hi2⟩ (by omega) (by omega)
    | true =>
      have e : jj D s g (k + 1) = jj D s g k ++ [k] := by rw [jj_s, z]; simp
      rw [if_pos rfl, v2, q_ibt (by omega) (by omega), if_pos rfl, nI_clamp (by omega), nI_1]
      have h' : qRC D (jmu M 20 (jj D s g k).length (nI k)) (jfu F 2 (nI ((jj D s g k).length + 1))) := qRC_fr h (fun l hl => q_mukf (by omega)) (q_fun (by decide)) (q_fun (by decide))
      obtain ⟨M1, a1, a2, a3, a4, a5, a6⟩ := c_judge w h' hk' hg z
      have h1 : qRC D M1 (jfu F 2 (nI ((jj D s g k).length + 1))) := qRC_fr h' (fun l hl => a2 l (by omega) (by omega)) rfl rfl
      obtain ⟨M', F', b1, b2, b3, b4⟩ := ih n (k + 1) M1 _ h1 ⟨by rw [q_fun (by decide)]; exact v1, by rw [q_fus, e, List.length_append]; rfl, fun i j hij => by
        rw [a2 20 (by decide) (by decide)]
        rw [e] at hij
        by_cases y : i < (jj D s g k).length
        · rw [List.getElem?_append_left y] at hij
          rw [q_mui (by omega)]; exact v3 i j hij
        · rw [List.getElem?_append_right (by omega)] at hij
          have y2 : i = (jj D s g k).length := by
            rcases Nat.lt_or_ge (i - (jj D s g k).length) 1 with q | q
            · omega
            · rw [List.getElem?_eq_none (by simpa using q)] at hij; cases hij
          subst y2
          rw [Nat.sub_self] at hij
          cases hij
          rw [q_mus], fun i hi hi2 => by
        by_cases y : i = k
        · subst y; exact ⟨a4, a6⟩
        · obtain ⟨c1, c2⟩ := v4 i (by omega) hi2
          refine ⟨by rw [a3 i y, q_muk (by decide), c1], fun j hj => ?_⟩
          have := dpn_le w (g := g) (show i < dC D by omega)
          rw [a5 _ (by omega), q_muk (by decide), c2 j hj]⟩ (by omega) (by omega)
      refine ⟨M', F', ?_, b2, fun l hl => by rw [b3 l hl, a2 l (by omega) (by omega), q_mukf (by omega)], fun l hl => by rw [b4 l hl, q_fun (by omega)]⟩
      rw [a1, Option.bind_some]
      exact b1
theorem c_prepare {D : qD} {M : jM} {F : jF} (w : qW D) (h : qRC D M F) {s g : Nat} (hs : s < 64) (hg : g < dG D) :
    ∃ M' F', fSi_prepare (nI g) (nI s) M F = some (0, M', F') ∧ qSVn D s g (dC D) M' F' ∧ (∀ l, l < 20 ∨ 22 < l → M' l = M l) ∧ (∀ l, l < 2 ∨ 3 < l → F' l = F l) := by
  have C12 := w.2.2.2.1
  obtain ⟨g6, gt, gn⟩ := qW_g w hg
  have h' : qRC D M (jfu F 2 0) := qRC_fr h (fun l hl => rfl) (q_fun (by decide)) (q_fun (by decide))
  have h'' : qRC D M (jfu (jfu F 2 0) 3 (nI (2 ^ dn D g - 1))) := qRC_fr h' (fun l hl => rfl) (q_fun (by decide)) (q_fun (by decide))
  obtain ⟨M', F', b1, b2, b3, b4⟩ := c_prep21 w hs hg (dC D) jfuel 0 M _ h'' ⟨q_fus, by rw [q_fun (by decide), q_fus]; rfl, fun i k hik => (by cases hik), fun k hk => by omega⟩ (by omega) (by show _ < 4000; omega)
  refine ⟨M', F', ?_, b2, b3, fun l hl => by rw [b4 l hl, q_fun (by omega), q_fun (by omega)]⟩
  show fSi_prepare_0 _ _ M F = _
  unfold fSi_prepare_0
  rw [c_rowsOf w h' hg, Option.bind_some, q_full (by omega)]
  exact b1
