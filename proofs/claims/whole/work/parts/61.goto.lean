/-! the house goes to a generator -/
theorem c_rowIn {M : jM} {F : jF} {d : Nat → Nat} (h : q30 d) {g : Nat} (hg : g < 6) : fJh_rowIn (nI (eC d)) (nI g) M F = some (nI (d g)) := by
  have e := eC_lt h
  show fJh_rowIn_0 _ _ M F = _
  unfold fJh_rowIn_0
  rw [qn_5, pk_mul, q_us (by omega) (by omega), q_and31, eC_row h hg]
theorem dlm_dhu {D : qD} {k g : Nat} {d : Nat → Nat} {x : Nat} (h1 : dfi D k ≠ g → x = d (dfi D k)) (h2 : dse D k ≠ g → x = d (dse D k)) : dlm D k g x = dhu D k g d := by
  funext r
  unfold dlm dhu ud
  by_cases a : dfi D k = g
  · by_cases b : dse D k = g
    · rw [if_pos a, if_pos b, if_pos a, if_pos b]
    · rw [if_pos a, if_neg b, if_pos a, if_neg b, h2 b]
  · by_cases b : dse D k = g
    · rw [if_neg a, if_pos b, if_neg a, if_pos b, h1 a]
    · rw [if_neg a, if_neg b, if_neg a, if_neg b, h1 a, ← h2 b, h1 a]
theorem c_ltb {D : qD} {M : jM} {F : jF} (w : qW D) {s g : Nat} (hg : g < dG D) (hV : qSVn D s g (dC D) M F) {d : Nat → Nat} (hd : qin D d s) {k : Nat} (hk : k < dC D) (hj : dju D k g s = true) : fSi_letThroughBy (nI k) (nI (eC d)) M F = some (nI (qrm (dhu D k g d) (dn D g))) := by
  have k12 := qW_k w hk
  obtain ⟨k2, f1, fc, s1, sc, se⟩ := w.2.2.2.2 k hk
  have G6 := w.2.1
  obtain ⟨v1, v2⟩ := hV.2.2.2 k hk hj
  have hp := dju_p hj
  have hgk := dju_g hj
  show fSi_letThroughBy_0 _ _ M F = _
  unfold fSi_letThroughBy_0 fSi_letThroughBy_21
  rw [q_ibt k12 (by omega), if_pos rfl, nI_clamp (by omega), v1]
  have main : ∀ x, x < dpn D k g → (dfi D k ≠ g → x = d (dfi D k)) → (dse D k ≠ g → x = d (dse D k)) → (if jib (nI k * 32 + nI x) 384 = true then some (M 22 (nI k * 32 + nI x).toNatClampNeg) else none) = some (nI (qrm (dhu D k g d) (dn D g))) := by
    intro x hx e1 e2
    have := dpn_le w (g := g) hk
    rw [qn_32, pk_mul, nI_add, q_ibt (by omega) (by omega), if_pos rfl, nI_clamp (by omega), v2 x hx, dlm_dhu e1 e2]
  unfold dpn dpa at main
  unfold dpa
  by_cases e : dkd D k = 1
  · rw [if_pos e] at main ⊢
    have := dju_k1 w hk hj e
    rw [if_pos (show o32 none = -1 from rfl), qn_0]
    exact main 0 (by simp) (fun z => absurd this z) (fun z => absurd (by rw [se e]; exact this) z)
  · rw [if_neg e] at main ⊢
    by_cases e2 : dfi D k = dse D k
    · rw [if_pos e2] at main ⊢
      rw [if_pos (show o32 none = -1 from rfl), qn_0]
      have : dfi D k = g := by rcases hgk with q | q <;> omega
      exact main 0 (by simp) (fun z => absurd this z) (fun z => absurd (by omega) z)
    · rw [if_neg e2] at main ⊢
      by_cases e3 : dfi D k = g
      · rw [if_pos e3] at main ⊢
        have e4 : dse D k ≠ g := by omega
        rw [if_neg (show ¬ o32 (some (dse D k)) = -1 from q_m1 (by omega)), show o32 (some (dse D k)) = nI (dse D k) from rfl, c_rowIn hd.1 (by omega), Option.bind_some]
        exact main (d (dse D k)) (hd.2.1 _ (hp.2 e4)) (fun z => absurd e3 z) (fun _ => rfl)
      · rw [if_neg e3] at main ⊢
        have e4 : dse D k = g := by rcases hgk with q | q <;> omega
        rw [if_neg (show ¬ o32 (some (dfi D k)) = -1 from q_m1 (by omega)), show o32 (some (dfi D k)) = nI (dfi D k) from rfl, c_rowIn hd.1 (by omega), Option.bind_some]
        exact main (d (dfi D k)) (hd.2.1 _ (hp.1 e3)) (fun _ => rfl) (fun z => absurd e4 z)
theorem jj_mem {D : qD} {s g n k : Nat} : k ∈ jj D s g n ↔ k < n ∧ dju D k g s = true := by
  unfold jj
  rw [List.mem_filter, List.mem_range]
theorem c_lt7 {D : qD} {M : jM} {F : jF} (w : qW D) {s g : Nat} (hg : g < dG D) (hV : qSVn D s g (dC D) M F) {d : Nat → Nat} (hd : qin D d s) :
    ∀ m n i (q : Nat → Bool), i + m = (jj D s g (dC D)).length → m < n → fSi_letThrough_7 n (nI (eC d)) (nI (qrm q (dn D g))) (nI i) M F = some (nI (qrm (fun r => q r && ((jj D s g (dC D)).drop i).all (fun k => dhu D k g d r)) (dn D g))) := by
  have C12 := w.2.2.2.1
  have hl := jj_le D s g (dC D)
  intro m
  induction m with
  | zero =>
    intro n i q hi hn
    obtain ⟨n, rfl⟩ : ∃ z, n = z + 1 := ⟨n - 1, by omega⟩
    rw [fSi_letThrough_7, hV.2.1, if_pos (nI_le (by omega) (by omega)), List.drop_of_length_le (by omega)]
    congr 2
    exact qrm_congr (fun r _ => by simp)
  | succ m ih =>
    intro n i q hi hn
    obtain ⟨n, rfl⟩ : ∃ z, n = z + 1 := ⟨n - 1, by omega⟩
    have hi' : i < (jj D s g (dC D)).length := by omega
    have hm := jj_mem.mp (List.getElem_mem hi')
    rw [fSi_letThrough_7, hV.2.1, if_neg (nI_ge (by omega) (by omega)), q_ibt (by omega) (by omega), if_pos rfl, nI_clamp (by omega), hV.2.2.1 i _ (List.getElem?_eq_getElem hi'), c_ltb w hg hV hd hm.1 hm.2, Option.bind_some, q_and, qrm_and, nI_1, ih n (i + 1) _ (by omega) (by omega)]
    congr 2
    apply qrm_congr
    intro r _
    rw [List.drop_eq_getElem_cons hi', List.all_cons, Bool.and_assoc]
theorem jj_all {D : qD} {s g : Nat} {p : Nat → Bool} : (jj D s g (dC D)).all p = al (fun k => !dju D k g s || p k) 0 (dC D) := by
  rw [Bool.eq_iff_iff, al_iff, List.all_eq_true]
  constructor
  · intro h k _ hk
    cases z : dju D k g s with
    | false => rfl
    | true => rw [h k (jj_mem.mpr ⟨by omega, z⟩)]; rfl
  · intro h k hk
    obtain ⟨a, b⟩ := jj_mem.mp hk
    have := h k (by omega) (by omega)
    rw [b] at this
    simpa using this
theorem c_letThrough {D : qD} {M : jM} {F : jF} (w : qW D) {s g : Nat} (hg : g < dG D) (hV : qSVn D s g (dC D) M F) {d : Nat → Nat} (hd : qin D d s) : fSi_letThrough (nI (eC d)) M F = some (nI (qrm (dok D s g d) (dn D g))) := by
  have C12 := w.2.2.2.1
  have hl := jj_le D s g (dC D)
  show fSi_letThrough_0 _ M F = _
  unfold fSi_letThrough_0
  rw [hV.1, qrm_full, show (0 : Int32) = nI 0 from rfl, c_lt7 w hg hV hd (jj D s g (dC D)).length jfuel 0 _ (by omega) (by show _ < 4000; omega)]
  congr 2
  apply qrm_congr
  intro r _
  rw [List.drop_zero, jj_all]; rfl
/-! arrays that hold a list of choices -/
def hA (A : Nat → Int32) (o : Nat) (l : List (Nat → Nat)) : Prop := ∀ j d, l[j]? = some d → A (o + j) = nI (eC d)
theorem eC_or {d : Nat → Nat} (h : q30 d) {g r : Nat} (hg : g < 6) (hr : r < 30) (hz : d g = 0) : nI (eC d) ||| (nI r <<< ((nI g * 5) &&& 31)) = nI (eC (ud d g r)) := by
  have hb : r * 2 ^ (g * 5) < 2 ^ 32 := by
    have : 2 ^ (g * 5) ≤ 2 ^ 25 := Nat.pow_le_pow_right (by omega) (by omega)
    calc r * 2 ^ (g * 5) ≤ 30 * 2 ^ 25 := Nat.mul_le_mul (by omega) this
      _ < 2 ^ 32 := by decide
  rw [qn_5, pk_mul, q_shl (by omega) hb, q_or, eC_ud hg hz]
  congr 1
  have e := eC_row h hg
  rw [hz] at e
  generalize eC d = x at *
  have hp : 0 < 2 ^ (g * 5) := Nat.two_pow_pos _
  have e1 : x = 2 ^ (g * 5) * (x / 2 ^ (g * 5)) + x % 2 ^ (g * 5) := (Nat.div_add_mod x _).symm
  have e2 : x / 2 ^ (g * 5) = 32 * (x / 2 ^ (g * 5) / 32) := by omega
  have hlo : x % 2 ^ (g * 5) < 2 ^ (g * 5) := Nat.mod_lt _ hp
  generalize x % 2 ^ (g * 5) = lo at *
  generalize x / 2 ^ (g * 5) / 32 = hi at *
  have e3 : x = 2 ^ (g * 5 + 5) * hi + lo := by
    rw [e1, e2, Nat.pow_add, show (2 : Nat) ^ 5 = 32 from rfl, Nat.mul_assoc]
  have hlo2 : lo < 2 ^ (g * 5 + 5) := Nat.lt_of_lt_of_le hlo (Nat.pow_le_pow_right (by omega) (by omega))
  have e4 : 2 ^ (g * 5) * r + lo < 2 ^ (g * 5 + 5) := by
    rw [Nat.pow_add, show (2 : Nat) ^ 5 = 32 from rfl]
    calc 2 ^ (g * 5) * r + lo < 2 ^ (g * 5) * r + 2 ^ (g * 5) := by omega
      _ = 2 ^ (g * 5) * (r + 1) := (Nat.mul_succ _ _).symm
      _ ≤ 2 ^ (g * 5) * 32 := Nat.mul_le_mul_left _ (by omega)
  rw [e3, Nat.two_pow_add_eq_or_of_lt hlo2, Nat.or_assoc, Nat.or_comm lo, Nat.mul_comm r, ← Nat.two_pow_add_eq_or_of_lt hlo, ← Nat.two_pow_add_eq_or_of_lt e4, ← Nat.two_pow_add_eq_or_of_lt hlo2]
  omega
theorem c_extend7 {F : jF} {d : Nat → Nat} (hd : q30 d) {g N : Nat} (hg : g < 6) (hz : d g = 0) (hN : N ≤ 30) (p : Nat → Bool) :
    ∀ m n r a (M : jM), r + m = 30 → m < n → a + (rl p r (N - r)).length ≤ 3000 → ∃ M', fRu_extend_7 n (nI (eC d)) (nI g) (nI (qrm p N)) (nI a) (nI r) M F = some (nI (a + (rl p r (N - r)).length), M', F) ∧ (∀ l, l ≠ 24 → M' l = M l) ∧ (∀ i, i < a → M' 24 i = M 24 i) ∧ hA (M' 24) a ((rl p r (N - r)).map (ud d g)) := by
  have hq : qrm p N < 2 ^ 31 := Nat.lt_of_lt_of_le (qrm_lt p N) (Nat.pow_le_pow_right (by omega) (by omega))
  intro m
  induction m with
  | zero =>
    intro n r a M hr hn ha
    obtain ⟨n, rfl⟩ : ∃ z, n = z + 1 := ⟨n - 1, by omega⟩
    rw [show N - r = 0 by omega, rl] at *
    refine ⟨M, ?_, fun _ _ => rfl, fun _ _ => rfl, fun j d h => by cases h⟩
    rw [fRu_extend_7, qn_30, if_pos (nI_le (by omega) (by omega))]; rfl
  | succ m ih =>
    intro n r a M hr hn ha
    obtain ⟨n, rfl⟩ : ∃ z, n = z + 1 := ⟨n - 1, by omega⟩
    rw [fRu_extend_7, qn_30, if_neg (nI_ge (by omega) (by omega)), q_us hq (by omega)]
    by_cases e : qrm p N / 2 ^ r = 0
    · have hlt : qrm p N < 2 ^ r := by
        rcases Nat.lt_or_ge (qrm p N) (2 ^ r) with q | q
        · exact q
        · have := Nat.div_pos q (Nat.two_pow_pos r); omega
      have hnil : rl p r (N - r) = [] := rl_nil (fun x h1 h2 => by
        have h3 := qrm_tb p N x
        rw [Nat.testBit_lt_two_pow (Nat.lt_of_lt_of_le hlt (Nat.pow_le_pow_right (by omega) h1))] at h3
        rw [decide_eq_true (show x < N by omega), Bool.true_and] at h3
        exact h3.symm)
      rw [hnil]
      refine ⟨M, ?_, fun _ _ => rfl, fun _ _ => rfl, fun j d h => by cases h⟩
      rw [e, if_pos (show nI 0 = 0 from rfl)]; rfl
    · have hlt2 : qrm p N / 2 ^ r < 2 ^ 31 := Nat.lt_of_le_of_lt (Nat.div_le_self _ _) hq
      rw [if_neg (nI_ne0 (Nat.pos_of_ne_zero e) hlt2), ← q_us hq (show r < 32 by omega)]
      have hrN : r < N := by
        rcases Nat.lt_or_ge r N with q | q
        · exact q
        · exact absurd (Nat.div_eq_of_lt (Nat.lt_of_lt_of_le (qrm_lt p N) (Nat.pow_le_pow_right (by omega) q))) e
      have hin := q_in hq (show r < 32 by omega)
      rw [qrm_tb, decide_eq_true hrN, Bool.true_and] at hin
      rw [show N - r = (N - (r + 1)) + 1 by omega, rl] at ha ⊢
      cases z : p r with
      | false =>
        rw [z, if_neg (by simp)] at ha
        rw [if_pos (hin.mpr z), if_neg (show ¬ (false = true) by simp), nI_1]
        exact ih n (r + 1) a M (by omega) (by omega) ha
      | true =>
        rw [z, if_pos rfl, List.length_cons] at ha
        rw [if_neg (fun y => by rw [hin.mp y] at z; cases z), q_ibt (by omega) (by omega), if_pos (show true = true from rfl), if_pos (show true = true from rfl), nI_1, nI_1, nI_clamp (by omega), eC_or hd hg (by omega) hz]
        obtain ⟨M', a1, a2, a3, a4⟩ := ih n (r + 1) (a + 1) (jmu M 24 a (nI (eC (ud d g r)))) (by omega) (by omega) (by omega)
        refine ⟨M', ?_, fun l hl => by rw [a2 l hl, q_mukf hl], fun i hi => by rw [a3 i (by omega), q_mui (by omega)], ?_⟩
        · rw [a1, List.length_cons, show a + 1 + (rl p (r + 1) (N - (r + 1))).length = a + ((rl p (r + 1) (N - (r + 1))).length + 1) by omega]
        · intro j x hx
          cases j with
          | zero =>
            rw [List.map_cons, List.getElem?_cons_zero] at hx
            cases hx
            rw [Nat.add_zero, a3 a (by omega), q_mus]
          | succ j =>
            rw [List.map_cons, List.getElem?_cons_succ] at hx
            rw [show a + (j + 1) = a + 1 + j by omega]
            exact a4 j x hx
theorem c_extend {D : qD} {M : jM} {F : jF} (w : qW D) {s g a : Nat} {d : Nat → Nat} (hg : g < dG D) (hn : s.testBit g = false) (hd : qin D d s) (ha : a + (stp1 D s g d).length ≤ 3000) : ∃ M', fRu_extend (nI (eC d)) (nI g) (nI (qrm (dok D s g d) (dn D g))) (nI a) M F = some (nI (a + (stp1 D s g d).length), M', F) ∧ (∀ l, l ≠ 24 → M' l = M l) ∧ (∀ i, i < a → M' 24 i = M 24 i) ∧ hA (M' 24) a (stp1 D s g d) := by
  obtain ⟨g6, gt, gn⟩ := qW_g w hg
  unfold stp1 at ha ⊢
  rw [List.length_map] at ha ⊢
  obtain ⟨M', a1, a2, a3, a4⟩ := c_extend7 (F := F) hd.1 g6 (hd.2.2 g hn) gn (dok D s g d) 30 jfuel 0 a M (by omega) (by show _ < 4000; omega) ha
  exact ⟨M', a1, a2, a3, a4⟩
theorem stp1_len {D : qD} {s g : Nat} {d : Nat → Nat} : (stp1 D s g d).length = qcb (dok D s g d) (dn D g) := by
  unfold stp1
  rw [List.length_map, rl_len0]
theorem hA_app {A : Nat → Int32} {o : Nat} {l1 l2 : List (Nat → Nat)} (h1 : hA A o l1) (h2 : hA A (o + l1.length) l2) : hA A o (l1 ++ l2) := by
  intro j d h
  by_cases e : j < l1.length
  · rw [List.getElem?_append_left e] at h; exact h1 j d h
  · rw [List.getElem?_append_right (by omega)] at h
    have := h2 _ _ h
    rw [show o + l1.length + (j - l1.length) = o + j by omega] at this
    exact this
theorem hA_congr {A B : Nat → Int32} {o : Nat} {l : List (Nat → Nat)} (h : hA A o l) (e : ∀ i, o ≤ i → i < o + l.length → B i = A i) : hA B o l := by
  intro j d hj
  have hl : j < l.length := by
    rcases Nat.lt_or_ge j l.length with q | q
    · exact q
    · rw [List.getElem?_eq_none q] at hj; cases hj
  rw [e _ (by omega) (by omega)]; exact h j d hj
theorem qSVn_fr {D : qD} {s g n : Nat} {M M' : jM} {F F' : jF} (h : qSVn D s g n M F) (h0 : M' 20 = M 20) (h1 : M' 21 = M 21) (h2 : M' 22 = M 22) (f2 : F' 2 = F 2) (f3 : F' 3 = F 3) : qSVn D s g n M' F' := by
  obtain ⟨a, b, c, d⟩ := h
  refine ⟨by rw [f3, a], by rw [f2, b], by rw [h0]; exact c, by rw [h1, h2]; exact d⟩
theorem qcb_32 {p : Nat → Bool} {n : Nat} (h : n ≤ 30) : qcb p n ≤ 30 := Nat.le_trans (qcb_le p n) h
theorem c_goTo48 {D : qD} (w : qW D) {s g : Nat} (hs : s < 64) (hg : g < dG D) (hn : s.testBit g = false) (len : Nat) (hlen : len ≤ 3000) :
    ∀ (rem : List (Nat → Nat)) n i (acc : List (Nat → Nat)) (M : jM) (F : jF), qSVn D s g (dC D) M F → (∀ d, d ∈ rem → qin D d s) → F 4 = nI len → i + rem.length = len → hA (M 23) i rem → hA (M 24) 0 acc → acc.length ≤ 3000 → rem.length < n →
    ∃ M' F', fRu_goTo_48 n (nI g) (o32 (dcf D g s)) (nI (dn D g)) (nI acc.length) (nI i) M F = some (b01 (decide ((acc ++ stp D s g rem).length ≤ 3000)), M', F') ∧ (∀ l, l < 23 ∨ 24 < l → M' l = M l) ∧ (∀ l, l < 4 ∨ 5 < l → F' l = F l) ∧ ((acc ++ stp D s g rem).length ≤ 3000 → hA (M' 23) 0 (acc ++ stp D s g rem) ∧ F' 4 = nI (acc ++ stp D s g rem).length ∧ F' 5 = F 5 + nI (lks D s g rem)) := by
  obtain ⟨g6, gt, gn⟩ := qW_g w hg
  have C12 := w.2.2.2.1
  intro rem
  induction rem with
  | nil =>
    intro n i acc M F hV hin h4 hi hR hacc ha hn'
    obtain ⟨n, rfl⟩ : ∃ z, n = z + 1 := ⟨n - 1, by omega⟩
    rw [List.length_nil] at hi
    have e : acc ++ stp D s g [] = acc := by unfold stp; rw [List.flatMap_nil, List.append_nil]
    rw [e]
    refine ⟨jms M 23 24, jfu F 4 (nI acc.length), ?_, fun l hl => by unfold jms; rw [if_neg (by omega), if_neg (by omega)], fun l hl => q_fun (by omega), fun _ => ⟨by unfold jms; rw [if_pos rfl]; exact hacc, q_fus, ?_⟩⟩
    · rw [fRu_goTo_48, h4, if_pos (nI_le (by omega) (by omega)), decide_eq_true ha]; rfl
    · rw [q_fun (by decide)]
      show F 5 = F 5 + 0
      rw [Int32.add_zero]
  | cons d rem ih =>
    intro n i acc M F hV hin h4 hi hR hacc ha hn'
    obtain ⟨n, rfl⟩ : ∃ z, n = z + 1 := ⟨n - 1, by omega⟩
    rw [List.length_cons] at hi hn'
    have hd := hin d (List.mem_cons_self)
    have h0 : M 23 i = nI (eC d) := hR 0 d rfl
    have e : acc ++ stp D s g (d :: rem) = (acc ++ stp1 D s g d) ++ stp D s g rem := by unfold stp; rw [List.flatMap_cons, List.append_assoc]
    have hl1 := @stp1_len D s g d
    have hc := @qcb_32 (dok D s g d) (dn D g) gn
    have go : ∀ x, x = lk D s g d → ∃ M' F', (fSi_letThrough (nI (eC d)) M (jfu F 5 (F 5 + nI x))).bind (fun q10 => ((fIn_bitCount q10 M (jfu F 5 ((F 5) + nI x))).bind fun q11 => (if (nI acc.length + q11) ≤ 3000 then ((fRu_extend (nI (eC d)) (nI g) q10 (nI acc.length) M (jfu F 5 ((F 5) + nI x))).bind fun q13 => fRu_goTo_48 n (nI g) (o32 (dcf D g s)) (nI (dn D g)) q13.1 (nI i + 1) q13.2.1 q13.2.2) else some (0, M, jfu F 5 ((F 5) + nI x))))) = some (b01 (decide ((acc ++ stp D s g (d :: rem)).length ≤ 3000)), M', F') ∧ (∀ l, l < 23 ∨ 24 < l → M' l = M l) ∧ (∀ l, l < 4 ∨ 5 < l → F' l = F l) ∧ ((acc ++ stp D s g (d :: rem)).length ≤ 3000 → hA (M' 23) 0 (acc ++ stp D s g (d :: rem)) ∧ F' 4 = nI (acc ++ stp D s g (d :: rem)).length ∧ F' 5 = F 5 + nI (lks D s g (d :: rem))) := by
      intro x hx
      have hV' : qSVn D s g (dC D) M (jfu F 5 (F 5 + nI x)) := qSVn_fr hV rfl rfl rfl (q_fun (by decide)) (q_fun (by decide))
      rw [c_letThrough w hg hV' hd, Option.bind_some, q_bcrm (by omega), Option.bind_some, nI_add, qn_3000, q_ifl (by omega) (by omega), ← hl1, nI_1]
      by_cases z : acc.length + (stp1 D s g d).length ≤ 3000
      · rw [if_pos z]
        obtain ⟨M1, a1, a2, a3, a4⟩ := c_extend (M := M) (F := jfu F 5 (F 5 + nI x)) w hg hn hd z
        have hV1 : qSVn D s g (dC D) M1 (jfu F 5 (F 5 + nI x)) := qSVn_fr hV' (a2 20 (by decide)) (a2 21 (by decide)) (a2 22 (by decide)) rfl rfl
        obtain ⟨M', F', b1, b2, b3, b4⟩ := ih n (i + 1) (acc ++ stp1 D s g d) M1 (jfu F 5 (F 5 + nI x)) hV1 (fun d' hd' => hin d' (List.mem_cons_of_mem _ hd')) (by rw [q_fun (by decide)]; exact h4) (by omega) (fun j d' hj => by
          rw [a2 23 (by decide), show i + 1 + j = i + (j + 1) by omega]
          exact hR (j + 1) d' hj) (hA_app (hA_congr hacc (fun i _ hi => a3 i (by omega))) (by rw [Nat.zero_add]; exact a4)) (by rw [List.length_append]; exact z) (by omega)
        refine ⟨M', F', ?_, fun l hl => by rw [b2 l hl, a2 l (by omega)], fun l hl => by rw [b3 l hl, q_fun (by omega)], ?_⟩
        · rw [a1, Option.bind_some, e]
          rw [List.length_append] at b1
          exact b1
        · rw [e]
          intro y
          obtain ⟨c1, c2, c3⟩ := b4 y
          refine ⟨c1, c2, ?_⟩
          rw [c3, q_fus, Int32.add_assoc, nI_add, hx]; rfl
      · rw [if_neg z]
        have y : ¬ (acc ++ stp D s g (d :: rem)).length ≤ 3000 := by
          rw [e, List.length_append, List.length_append]; omega
        refine ⟨M, jfu F 5 (F 5 + nI x), ?_, fun _ _ => rfl, fun l hl => q_fun (by omega), fun q => absurd q y⟩
        rw [decide_eq_false y]; rfl
    rw [fRu_goTo_48, h4, if_neg (nI_ge (by omega) (by omega)), q_ibt (by omega) (by omega), if_pos rfl, nI_clamp (by omega), h0]
    cases z : dcf D g s with
    | none =>
      rw [if_pos (show o32 none = -1 from rfl)]
      have := go (dn D g) (by unfold lk; rw [z])
      rw [z] at this
      exact this
    | some k =>
      obtain ⟨z1, z2⟩ := dcf_some z
      have z3 : dju D k g s = true := by unfold dti at z2; rw [Bool.and_eq_true] at z2; exact z2.1
      rw [if_neg (show ¬ o32 (some k) = -1 from q_m1 (by omega)), show o32 (some k) = nI k from rfl, c_ltb w hg hV hd z1 z3, Option.bind_some, q_bcrm (by omega), Option.bind_some]
      have := go (qcb (dhu D k g d) (dn D g)) (by unfold lk; rw [z])
      rw [z] at this
      exact this
