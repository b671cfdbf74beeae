/-! sizes -/
def dpr (D : qD) (s : Nat) : Nat → Nat
  | 0 => 1
  | g + 1 => dpr D s g * (if s.testBit g = true then dn D g else 1)
def qdu (y d : Nat) : Nat := (y + d - 1) / d
def ddu (D : qD) (s x : Nat) : Nat → Nat
  | 0 => x
  | k + 1 => if dwi D k s = true then qdu (ddu D s x k) (ddv D k) else ddu D s x k
def dsz (D : qD) (s : Nat) : Nat := ddu D s (dpr D s (dG D)) (dC D)
theorem dpr_le {D : qD} (w : qW D) (s : Nat) : ∀ g, g ≤ dG D → dpr D s g ≤ 30 ^ qcb s.testBit g := by
  intro g
  induction g with
  | zero => intro _; exact Nat.le_refl 1
  | succ g ih =>
    intro hg
    have h1 := ih (by omega)
    have h2 := (qW_g w (show g < dG D by omega)).2.2
    show dpr D s g * _ ≤ 30 ^ (qcb s.testBit g + (s.testBit g).toNat)
    cases s.testBit g with
    | false => simpa using h1
    | true =>
      rw [if_pos rfl, Bool.toNat_true, Nat.pow_succ]
      exact Nat.mul_le_mul h1 h2
theorem qdu_le {y d : Nat} (h : 1 ≤ d) : qdu y d ≤ y := by
  unfold qdu
  cases y with
  | zero => rw [Nat.div_eq_of_lt (by omega)]; exact Nat.le_refl 0
  | succ y =>
    apply Nat.div_le_of_le_mul
    obtain ⟨e, rfl⟩ : ∃ e, d = e + 1 := ⟨d - 1, by omega⟩
    rw [Nat.mul_succ, Nat.succ_mul]
    have := Nat.zero_le (e * y)
    omega
theorem ddu_le {D : qD} (w : qW D) (s x : Nat) : ∀ k, k ≤ dC D → ddu D s x k ≤ x := by
  intro k
  induction k with
  | zero => intro _; exact Nat.le_refl _
  | succ k ih =>
    intro hk
    have h1 := ih (by omega)
    unfold ddu
    split
    · exact Nat.le_trans (qdu_le (ddv_le w (show k < dC D by omega)).1) h1
    · exact h1
theorem dsz_le {D : qD} (w : qW D) (s : Nat) : dsz D s ≤ 30 ^ qcb s.testBit (dG D) := Nat.le_trans (ddu_le w s _ _ (Nat.le_refl _)) (dpr_le w s _ (Nat.le_refl _))
theorem p30_le {n : Nat} (h : n ≤ 6) : 30 ^ n ≤ 729000000 := Nat.le_trans (Nat.pow_le_pow_right (by omega) h) (by decide)
theorem dpr_lt {D : qD} (w : qW D) (s : Nat) {g : Nat} (hg : g ≤ dG D) : dpr D s g ≤ 729000000 := by
  have h1 := dpr_le w s g hg
  have h2 := qcb_le s.testBit g
  have h3 := w.2.1
  exact Nat.le_trans h1 (p30_le (by omega))
theorem dsz_lt {D : qD} (w : qW D) (s : Nat) : dsz D s ≤ 729000000 := Nat.le_trans (ddu_le w s _ _ (Nat.le_refl _)) (dpr_lt w s (Nat.le_refl _))
theorem c_isIn {M : jM} {F : jF} {s g : Nat} (hs : s < 2 ^ 31) (hg : g < 32) : fJh_isIn (nI s) (nI g) M F = some (b01 (s.testBit g)) := by
  show fJh_isIn_0 _ _ M F = _
  unfold fJh_isIn_0
  have e := q_in hs hg
  cases a : s.testBit g with
  | false => rw [if_pos (e.mpr a)]; rfl
  | true => rw [if_neg (fun z => by rw [e.mp z] at a; cases a)]; rfl
theorem c_dividedUp {M : jM} {F : jF} {y d : Nat} (hy : y ≤ 729000000) (h1 : 1 ≤ d) (h2 : d ≤ 30) : fPl_dividedUp (nI y) (nI d) M F = some (nI (qdu y d)) := by
  show fPl_dividedUp_0 _ _ M F = _
  unfold fPl_dividedUp_0 qdu
  rw [qn_1, q_ifl (by omega) (by omega), nI_add, pk_sub (by omega), pk_div (by omega) (by omega) (by omega)]
  by_cases e : d ≤ 1
  · rw [if_pos e, show d = 1 by omega]; simp
  · rw [if_neg e, if_neg (nI_ne0 (by omega) (by omega))]
theorem c_sizeOf42 {D : qD} {M : jM} {F : jF} (w : qW D) (h : qRC D M F) {s x : Nat} (hs : s < 64) (hx : x ≤ 729000000) :
    ∀ m n k, k + m = dC D → m < n → fPl_sizeOf_42 n (nI s) (nI (ddu D s x k)) (nI k) M F = some (nI (ddu D s x (dC D))) := by
  have C12 := w.2.2.2.1
  intro m
  induction m with
  | zero =>
    intro n k hk hn
    obtain ⟨n, rfl⟩ : ∃ z, n = z + 1 := ⟨n - 1, by omega⟩
    rw [fPl_sizeOf_42, h.2.1, if_pos (nI_le (by omega) (by omega)), show k = dC D by omega]
  | succ m ih =>
    intro n k hk hn
    obtain ⟨n, rfl⟩ : ∃ z, n = z + 1 := ⟨n - 1, by omega⟩
    have hk' : k < dC D := by omega
    have hd := ddv_le w hk'
    have hl := ddu_le w s x k (by omega)
    have e := ih n (k + 1) (by omega) (by omega)
    rw [ddu] at e
    rw [fPl_sizeOf_42, h.2.1, if_neg (nI_ge (by omega) (by omega)), c_isWithin w h hk' hs, Option.bind_some, b01_i0, c_divisor w h hk', Option.bind_some, c_dividedUp (by omega) hd.1 hd.2, Option.bind_some, nI_1]
    cases z : dwi D k s with
    | false => rw [z] at e; rw [if_neg (by simp)]; rw [if_neg (by simp)] at e; exact e
    | true => rw [z] at e; rw [if_pos rfl]; rw [if_pos rfl] at e; exact e
theorem c_sizeOf4 {D : qD} {M : jM} {F : jF} (w : qW D) (h : qRC D M F) {s : Nat} (hs : s < 64) :
    ∀ m n g, g + m = dG D → m < n → fPl_sizeOf_4 n (nI s) (nI (dpr D s g)) (nI g) M F = some (nI (dsz D s)) := by
  have G6 := w.2.1
  have C12 := w.2.2.2.1
  intro m
  induction m with
  | zero =>
    intro n g hg hn
    obtain ⟨n, rfl⟩ : ∃ z, n = z + 1 := ⟨n - 1, by omega⟩
    have hg : g = dG D := by omega
    subst hg
    rw [fPl_sizeOf_4, h.1, if_pos (nI_le (by omega) (by omega))]
    exact c_sizeOf42 w h hs (dpr_lt w s (Nat.le_refl _)) (dC D) jfuel 0 (by omega) (by show _ < 4000; omega)
  | succ m ih =>
    intro n g hg hn
    obtain ⟨n, rfl⟩ : ∃ z, n = z + 1 := ⟨n - 1, by omega⟩
    have hg' : g < dG D := by omega
    have e := ih n (g + 1) (by omega) (by omega)
    rw [dpr] at e
    rw [fPl_sizeOf_4, h.1, if_neg (nI_ge (by omega) (by omega)), c_isIn (by omega) (by omega), Option.bind_some, b01_i0, c_rowsOf w h hg', Option.bind_some, nI_1, pk_mul]
    cases z : s.testBit g with
    | false => rw [z] at e; rw [if_neg (by simp)]; rw [if_neg (by simp), Nat.mul_one] at e; exact e
    | true => rw [z] at e; rw [if_pos rfl]; rw [if_pos rfl] at e; exact e
theorem c_sizeOf {D : qD} {M : jM} {F : jF} (w : qW D) (h : qRC D M F) {s : Nat} (hs : s < 64) : fPl_sizeOf (nI s) M F = some (nI (dsz D s)) := by
  have G6 := w.2.1
  exact c_sizeOf4 w h hs (dG D) jfuel 0 (by omega) (by show _ < 4000; omega)
theorem m_sizeOf53 {D : qD} {M : jM} {F : jF} {L : jL} (w : qW D) (h : qRM D M F) {s x : Nat} (hs : s < 64) (hx : x ≤ 729000000) :
    ∀ m n k, k + m = dC D → m < n → fMo_sizeOf_53 n (nI s) (lN (ddu D s x k)) (nI k) M F L = some (lN (ddu D s x (dC D))) := by
  have C12 := w.2.2.2.1
  intro m
  induction m with
  | zero =>
    intro n k hk hn
    obtain ⟨n, rfl⟩ : ∃ z, n = z + 1 := ⟨n - 1, by omega⟩
    rw [fMo_sizeOf_53, h.2.1, if_pos (nI_le (by omega) (by omega)), show k = dC D by omega]
  | succ m ih =>
    intro n k hk hn
    obtain ⟨n, rfl⟩ : ∃ z, n = z + 1 := ⟨n - 1, by omega⟩
    have hk' : k < dC D := by omega
    have hd := ddv_le w hk'
    have hl := ddu_le w s x k (by omega)
    have e := ih n (k + 1) (by omega) (by omega)
    rw [ddu] at e
    rw [fMo_sizeOf_53, h.2.1, if_neg (nI_ge (by omega) (by omega)), m_isAmong w h hk' hs, Option.bind_some, b01_i0, m_divisor w h hk', Option.bind_some, nI_1, nI_l (by omega)]
    cases z : dwi D k s with
    | false => rw [z] at e; rw [if_neg (by simp)]; rw [if_neg (by simp)] at e; exact e
    | true =>
      rw [z] at e
      rw [if_pos rfl]
      rw [if_pos rfl] at e
      have z2 : ¬ lN (ddv D k) = 0 := by
        rw [show (0 : Int64) = lN 0 from rfl, lN_eq (by omega) (by omega)]; omega
      rw [if_neg z2, lN_add, show (1 : Int64) = lN 1 from rfl, lN_sub (by omega), pk_lDiv (by omega) (by omega) (by omega)]
      exact e
theorem m_sizeOf5 {D : qD} {M : jM} {F : jF} {L : jL} (w : qW D) (h : qRM D M F) {s : Nat} (hs : s < 64) :
    ∀ m n g, g + m = dG D → m < n → fMo_sizeOf_5 n (nI s) (lN (dpr D s g)) (nI g) M F L = some (lN (dsz D s)) := by
  have G6 := w.2.1
  have C12 := w.2.2.2.1
  intro m
  induction m with
  | zero =>
    intro n g hg hn
    obtain ⟨n, rfl⟩ : ∃ z, n = z + 1 := ⟨n - 1, by omega⟩
    have hg : g = dG D := by omega
    subst hg
    rw [fMo_sizeOf_5, h.1, if_pos (nI_le (by omega) (by omega))]
    exact m_sizeOf53 w h hs (dpr_lt w s (Nat.le_refl _)) (dC D) jfuel 0 (by omega) (by show _ < 4000; omega)
  | succ m ih =>
    intro n g hg hn
    obtain ⟨n, rfl⟩ : ∃ z, n = z + 1 := ⟨n - 1, by omega⟩
    have hg' : g < dG D := by omega
    obtain ⟨g6, gt, gn⟩ := qW_g w hg'
    have e := ih n (g + 1) (by omega) (by omega)
    rw [dpr] at e
    rw [fMo_sizeOf_5, h.1, if_neg (nI_ge (by omega) (by omega)), q_if2 (by omega) (by omega), q_ibt g6 (by omega), if_pos rfl, nI_clamp (by omega), h.2.2.2.2.1 g hg', q_ibt gt (by omega), if_pos rfl, nI_clamp (by omega), (h.2.2.1 _ gt).1]
    unfold fMo_sizeOf_42
    unfold dn at gn
    rw [nI_1, nI_l (by omega), lN_mul, show (1 : Int64) = lN 1 from rfl, lN_mul]
    cases z : s.testBit g with
    | false => rw [z] at e; rw [if_neg (by simp)]; rw [if_neg (by simp)] at e; exact e
    | true => rw [z] at e; rw [if_pos rfl]; rw [if_pos rfl] at e; exact e
theorem m_sizeOf {D : qD} {M : jM} {F : jF} {L : jL} (w : qW D) (h : qRM D M F) {s : Nat} (hs : s < 64) : fMo_sizeOf (nI s) M F L = some (lN (dsz D s)) := by
  have G6 := w.2.1
  exact m_sizeOf5 w h hs (dG D) jfuel 0 (by omega) (by show _ < 4000; omega)
