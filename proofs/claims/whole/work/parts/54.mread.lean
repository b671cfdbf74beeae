/-! reads of the reference -/
def al (p : Nat → Bool) : Nat → Nat → Bool
  | _, 0 => true
  | k, m + 1 => p k && al p (k + 1) m
theorem al_iff (p : Nat → Bool) (k m : Nat) : al p k m = true ↔ ∀ j, k ≤ j → j < k + m → p j = true := by
  induction m generalizing k with
  | zero => simp only [al, true_iff]; intro j h1 h2; omega
  | succ m ih =>
    rw [al, Bool.and_eq_true, ih]
    constructor
    · intro ⟨a, b⟩ j h1 h2
      by_cases e : j = k
      · rw [e]; exact a
      · exact b j (by omega) (by omega)
    · intro h
      exact ⟨h k (by omega) (by omega), fun j h1 h2 => h j (by omega) (by omega)⟩
theorem al_range (p : Nat → Bool) (m : Nat) : al p 0 m = (List.range m).all p := by
  rw [Bool.eq_iff_iff, al_iff, List.all_eq_true]
  constructor
  · intro h j hj; exact h j (by omega) (by have := List.mem_range.mp hj; omega)
  · intro h j _ hj; exact h j (List.mem_range.mpr (by omega))
def fd (p : Nat → Bool) : Nat → Nat → Option Nat
  | _, 0 => none
  | k, m + 1 => if p k = true then some k else fd p (k + 1) m
theorem fd_some {p : Nat → Bool} {k m j : Nat} (h : fd p k m = some j) : k ≤ j ∧ j < k + m ∧ p j = true := by
  induction m generalizing k with
  | zero => cases h
  | succ m ih =>
    rw [fd] at h
    by_cases e : p k = true
    · rw [if_pos e] at h
      cases h
      exact ⟨by omega, by omega, e⟩
    · rw [if_neg e] at h
      obtain ⟨a, b, c⟩ := ih h
      exact ⟨by omega, by omega, c⟩
theorem fd_none {p : Nat → Bool} {k m j : Nat} (h : fd p k m = none) (h1 : k ≤ j) (h2 : j < k + m) : p j = false := by
  induction m generalizing k with
  | zero => omega
  | succ m ih =>
    rw [fd] at h
    by_cases e : p k = true
    · rw [if_pos e] at h; cases h
    · rw [if_neg e] at h
      by_cases q : j = k
      · rw [q]; simpa using e
      · exact ih h (by omega) (by omega)
theorem fd_congr {p q : Nat → Bool} {k m : Nat} (h : ∀ j, k ≤ j → j < k + m → p j = q j) : fd p k m = fd q k m := by
  induction m generalizing k with
  | zero => rfl
  | succ m ih => rw [fd, fd, h k (by omega) (by omega), ih (fun j h1 h2 => h j (by omega) (by omega))]
theorem m_cell {D : qD} {M : jM} {F : jF} {L : jL} (w : qW D) (h : qRM D M F) {g r c : Nat} (hg : g < dG D) (hr : r < dn D g) (hc : c < 4) : fMo_cell (nI g) (nI r) (nI c) M F L = some (dv D g r c) := by
  obtain ⟨g6, gt, gn⟩ := qW_g w hg
  show fMo_cell_0 _ _ _ M F L = _
  unfold fMo_cell_0
  rw [q_ibt g6 (by omega), if_pos rfl, nI_clamp (show g < 2 ^ 31 by omega), h.2.2.2.2.1 g hg, qn_30, pk_mul, nI_add, qn_4, pk_mul, nI_add, q_ibt (by omega) (by omega), if_pos rfl, nI_clamp (by omega), h.2.2.2.1 _ r c gt hr hc]
  rfl
theorem m_spread27 {D : qD} {M : jM} {F : jF} {L : jL} (w : qW D) (h : qRM D M F) (kk : Int32 → Int32 → Int32 → Int32 → Int32 → jM → jF → jL → Option Int32) {g c r : Nat} (hg : g < dG D) (hr : r < dn D g) (hc : c < 4) (x3 : Int32) :
    ∀ m n q b, q + m = r → m < n → fMo_spread_27 kk n (nI g) (nI c) x3 (nI r) (b01 b) (nI q) M F L = kk (nI g) (nI c) x3 (nI r) (b01 (b && al (fun q => dv D g q c != dv D g r c) q m)) M F L := by
  obtain ⟨g6, gt, gn⟩ := qW_g w hg
  intro m
  induction m with
  | zero =>
    intro n q b hq hn
    obtain ⟨n, rfl⟩ : ∃ z, n = z + 1 := ⟨n - 1, by omega⟩
    rw [fMo_spread_27, if_pos (nI_le (by omega) (by omega)), al, Bool.and_true]
  | succ m ih =>
    intro n q b hq hn
    obtain ⟨n, rfl⟩ : ∃ z, n = z + 1 := ⟨n - 1, by omega⟩
    rw [fMo_spread_27, if_neg (nI_ge (by omega) (by omega)), nI_1, b01_i0, al]
    cases b with
    | false =>
      rw [if_neg (by simp)]
      have := ih n (q + 1) false (by omega) (by omega)
      rw [Bool.false_and] at this ⊢
      exact this
    | true =>
      rw [if_pos rfl, m_cell w h hg (show q < dn D g by omega) hc, m_cell w h hg hr hc, Option.bind_some, Option.bind_some, Bool.true_and]
      by_cases e : dv D g q c = dv D g r c
      · have := ih n (q + 1) false (by omega) (by omega)
        rw [if_pos e, show (dv D g q c != dv D g r c) = false by simpa using e, Bool.false_and]
        rw [Bool.false_and] at this
        exact this
      · have := ih n (q + 1) true (by omega) (by omega)
        rw [if_neg e, show (dv D g q c != dv D g r c) = true by simpa using e, Bool.true_and]
        rw [Bool.true_and] at this
        exact this
theorem qcb_le (p : Nat → Bool) (n : Nat) : qcb p n ≤ n := by
  induction n with
  | zero => exact Nat.le_refl 0
  | succ n ih => show qcb p n + (p n).toNat ≤ n + 1; have := Bool.toNat_le (p n); omega
theorem m_spread5 {D : qD} {M : jM} {F : jF} {L : jL} (w : qW D) (h : qRM D M F) {g c : Nat} (hg : g < dG D) (hc : c < 4) :
    ∀ m n r, r + m = dn D g → m < n → fMo_spread_5 n (nI g) (nI c) (nI (qcb (dfr D (dtb D g) c) r)) (nI r) M F L = some (nI (dsp D g c)) := by
  obtain ⟨g6, gt, gn⟩ := qW_g w hg
  intro m
  induction m with
  | zero =>
    intro n r hr hn
    obtain ⟨n, rfl⟩ : ∃ z, n = z + 1 := ⟨n - 1, by omega⟩
    have hr : r = dn D g := by omega
    subst hr
    rw [fMo_spread_5, q_ibt g6 (by omega), if_pos rfl, nI_clamp (show g < 2 ^ 31 by omega), h.2.2.2.2.1 g hg, q_ibt gt (by omega), if_pos rfl, nI_clamp (by omega), (h.2.2.1 _ gt).1, if_pos (nI_le (show dcnt D (dtb D g) ≤ dn D g from Nat.le_refl _) (by omega))]
    have e : qcb (dfr D (dtb D g) c) (dn D g) = dun D (dtb D g) c := rfl
    have e2 := qcb_le (dfr D (dtb D g) c) (dn D g)
    unfold dsp
    rw [e] at e2 ⊢
    by_cases z : dun D (dtb D g) c = 0
    · rw [z]; rfl
    · rw [if_neg (fun y => z ((q_0 (by omega)).mp y))]
      by_cases z1 : 1 < dun D (dtb D g) c
      · rw [if_pos z1]
      · rw [if_neg z1, show dun D (dtb D g) c = 1 by omega]
  | succ m ih =>
    intro n r hr hn
    obtain ⟨n, rfl⟩ : ∃ z, n = z + 1 := ⟨n - 1, by omega⟩
    have e2 := qcb_le (dfr D (dtb D g) c) r
    rw [fMo_spread_5, q_ibt g6 (by omega), if_pos rfl, nI_clamp (show g < 2 ^ 31 by omega), h.2.2.2.2.1 g hg, q_ibt gt (by omega), if_pos rfl, nI_clamp (by omega), (h.2.2.1 _ gt).1, if_neg (nI_ge (show r < dcnt D (dtb D g) by unfold dn at hr; omega) (by unfold dn at gn; omega))]
    have e := m_spread27 (L := L) w h (fun x1 x2 x3 x4 x5 M F L => (if x5 = 0 then fMo_spread_82 (fun x1 x2 x3 x4 M F L => fMo_spread_5 n x1 x2 x3 x4 M F L) x1 x2 x4 x3 0 M F L else fMo_spread_82 (fun x1 x2 x3 x4 M F L => fMo_spread_5 n x1 x2 x3 x4 M F L) x1 x2 x4 x3 1 M F L)) hg (show r < dn D g by omega) hc (nI (qcb (dfr D (dtb D g) c) r)) r jfuel 0 true (by omega) (by show r < 4000; omega)
    rw [show b01 true = 1 from rfl, nI_0] at e
    rw [e, Bool.true_and, al_range]
    have e3 : (List.range r).all (fun q => dv D g q c != dv D g r c) = dfr D (dtb D g) c r := rfl
    rw [e3]
    have e4 := ih n (r + 1) (by omega) (by omega)
    have e5 : qcb (dfr D (dtb D g) c) (r + 1) = qcb (dfr D (dtb D g) c) r + (dfr D (dtb D g) c r).toNat := rfl
    rw [e5] at e4
    show (if b01 _ = 0 then _ else _) = _
    rw [b01_i0]
    unfold fMo_spread_82
    rw [nI_1, qn_0, qn_1, nI_add, nI_add]
    cases z : dfr D (dtb D g) c r with
    | false => rw [if_neg (by simp)]; rw [z] at e4; exact e4
    | true => rw [if_pos rfl]; rw [z] at e4; exact e4
theorem m_spread {D : qD} {M : jM} {F : jF} {L : jL} (w : qW D) (h : qRM D M F) {g c : Nat} (hg : g < dG D) (hc : c < 4) : fMo_spread (nI g) (nI c) M F L = some (nI (dsp D g c)) := by
  have := (qW_g w hg).2.2
  exact m_spread5 (L := L) w h hg hc (dn D g) jfuel 0 (by omega) (by show _ < 4000; omega)
theorem m_divisor {D : qD} {M : jM} {F : jF} {L : jL} (w : qW D) (h : qRM D M F) {k : Nat} (hk : k < dC D) : fMo_divisor (nI k) M F L = some (nI (ddv D k)) := by
  have k12 := qW_k w hk
  obtain ⟨k2, f1, fc, s1, sc, _⟩ := w.2.2.2.2 k hk
  have G6 := w.2.1
  obtain ⟨h11, h12, h13, h14, h15⟩ := h.2.2.2.2.2 k hk
  have e1 := dsp_le (c := dfc D k) w f1
  have e2 := dsp_le (c := dsc D k) w s1
  show fMo_divisor_0 _ M F L = _
  unfold fMo_divisor_0 ddv
  rw [q_ibt k12 (by omega), nI_clamp (by omega), h11, h12, h13, h14, h15]
  by_cases a : dkd D k = 2
  · rw [if_pos rfl, if_pos (by rw [a]; rfl), if_pos a]; rfl
  · rw [if_pos rfl, if_neg (fun z => a ((q_2 (by omega)).mp z)), if_neg a, if_pos rfl, if_pos rfl, m_spread w h f1 fc, Option.bind_some, if_pos rfl]
    unfold fMo_divisor_59
    by_cases b : dkd D k = 1
    · rw [if_pos (by rw [b]; rfl), if_pos b, if_pos (nI_le (Nat.le_refl _) (by omega))]
    · rw [if_neg (fun z => b ((q_1 (by omega)).mp z)), if_neg b, if_neg b, if_pos rfl, if_pos rfl, m_spread w h s1 (sc b), Option.bind_some]
      by_cases q : dsp D (dfi D k) (dfc D k) < dsp D (dse D k) (dsc D k)
      · rw [if_pos q, if_pos (nI_le (by omega) (by omega))]
      · rw [if_neg q]
        by_cases e : dsp D (dfi D k) (dfc D k) = dsp D (dse D k) (dsc D k)
        · rw [e, if_pos (nI_le (by omega) (by omega))]
        · rw [if_neg (nI_ge (by omega) (by omega))]
theorem m_isAmong {D : qD} {M : jM} {F : jF} {L : jL} (w : qW D) (h : qRM D M F) {k s : Nat} (hk : k < dC D) (hs : s < 64) : fMo_isAmong (nI k) (nI s) M F L = some (b01 (dwi D k s)) := by
  have k12 := qW_k w hk
  obtain ⟨k2, f1, fc, s1, sc, _⟩ := w.2.2.2.2 k hk
  have G6 := w.2.1
  obtain ⟨h11, h12, h13, h14, h15⟩ := h.2.2.2.2.2 k hk
  show fMo_isAmong_0 _ _ M F L = _
  unfold fMo_isAmong_0 dwi
  rw [q_ibt k12 (by omega), nI_clamp (by omega), h12, h14, if_pos rfl, if_pos rfl]
  have e1 := q_in2 (s := s) (g := dfi D k) (by omega) (by omega)
  have e2 := q_in2 (s := s) (g := dse D k) (by omega) (by omega)
  cases a : s.testBit (dfi D k) with
  | false => rw [if_neg (fun z => by rw [e1.mp z] at a; cases a)]; rfl
  | true =>
    rw [if_pos (e1.mpr a)]
    cases b : s.testBit (dse D k) with
    | false => rw [if_neg (fun z => by rw [e2.mp z] at b; cases b)]; rfl
    | true => rw [if_pos (e2.mpr b)]; rfl
theorem q_if2 {α : Type} {s g : Nat} (hs : s < 2 ^ 31) (hg : g < 32) (x y : α) : (if nI s >>> (nI g &&& 31) &&& 1 = 1 then x else y) = (if s.testBit g = true then x else y) := by
  have e := q_in2 hs hg
  by_cases a : s.testBit g = true
  · rw [if_pos (e.mpr a), if_pos a]
  · rw [if_neg (fun z => a (e.mp z)), if_neg a]
theorem q_ife {α : Type} {a b : Nat} (ha : a < 2 ^ 31) (hb : b < 2 ^ 31) (x y : α) : (if nI a = nI b then x else y) = (if a = b then x else y) := by
  by_cases e : a = b
  · rw [if_pos e, if_pos (by rw [e])]
  · rw [if_neg e, if_neg (fun z => e ((nI_eq ha hb).mp z))]
theorem q_ifl {α : Type} {a b : Nat} (ha : a < 2 ^ 31) (hb : b < 2 ^ 31) (x y : α) : (if nI a ≤ nI b then x else y) = (if a ≤ b then x else y) := by
  by_cases e : a ≤ b
  · rw [if_pos e, if_pos (nI_le e hb)]
  · rw [if_neg e, if_neg (nI_ge (by omega) ha)]
theorem q_iflt {α : Type} {a b : Nat} (ha : a < 2 ^ 31) (hb : b < 2 ^ 31) (x y : α) : (if nI a < nI b then x else y) = (if a < b then x else y) := by
  by_cases e : a < b
  · rw [if_pos e, if_pos (nI_lt e hb)]
  · rw [if_neg e, if_neg (nI_nlt (by omega) ha)]
theorem m_tied {D : qD} {M : jM} {F : jF} {L : jL} (w : qW D) (h : qRM D M F) {k s g : Nat} (hk : k < dC D) (hs : s < 64) (hg : g < 6) (hn : s.testBit g = false) : fMo_tied (nI k) (nI g) (nI s) M F L = some (if dti D k g s = true then nI (dco D k g) else -1) := by
  have k12 := qW_k w hk
  obtain ⟨k2, f1, fc, s1, sc, se⟩ := w.2.2.2.2 k hk
  have G6 := w.2.1
  obtain ⟨h11, h12, h13, h14, h15⟩ := h.2.2.2.2.2 k hk
  show fMo_tied_0 _ _ _ M F L = _
  unfold fMo_tied_0 fMo_tied_74
  rw [q_ibt k12 (by omega), nI_clamp (by omega), h11, h12, h13, h14, h15]
  simp only [if_true]
  rw [qn_2, qn_1, q_ife (by omega) (by omega), q_ife (by omega) (by omega), q_ife (by omega) (by omega), q_ife (by omega) (by omega), q_ife (by omega) (by omega), ← qn_1, q_if2 (by omega) (by omega), q_if2 (by omega) (by omega)]
  unfold dti dju dwi dco
  rw [q_settb, q_settb]
  by_cases a2 : dkd D k = 2
  · simp [a2]
  · by_cases a1 : dkd D k = 1
    · rw [if_neg a2, if_pos a1, se a1]
      by_cases e : dfi D k = g
      · rw [if_pos e, if_pos e, e, hn, a1]; simp
      · rw [if_neg e]
        have e' : ¬ g = dfi D k := fun z => e z.symm
        cases s.testBit (dfi D k) <;> simp [e']
    · have a0 : dkd D k = 0 := by omega
      rw [if_neg a2, if_neg a1, a0]
      rw [if_neg (by decide : ¬ (0 : Nat) = 1)]
      by_cases e : dfi D k = g
      · rw [if_pos e, if_pos e, e, hn]
        by_cases f : dse D k = g
        · rw [f, hn]; simp
        · have f' : ¬ g = dse D k := fun z => f z.symm
          rw [if_neg f]
          cases s.testBit (dse D k) <;> simp [f']
      · have e' : ¬ g = dfi D k := fun z => e z.symm
        rw [if_neg e, if_neg e]
        by_cases f : dse D k = g
        · rw [if_pos f, f, hn]
          cases s.testBit (dfi D k) <;> simp [e']
          exact fun z => absurd z e
        · have f' : ¬ g = dse D k := fun z => f z.symm
          rw [if_neg f]
          cases s.testBit (dse D k) <;> cases s.testBit (dfi D k) <;> simp [f', e']
