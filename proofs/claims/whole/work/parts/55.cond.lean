/-! choices: a row for each generator -/
def eC (d : Nat → Nat) : Nat := d 0 + d 1 * 32 + d 2 * 1024 + d 3 * 32768 + d 4 * 1048576 + d 5 * 33554432
def eM (d : Nat → Nat) : Nat := d 0 * 24300000 + d 1 * 810000 + d 2 * 27000 + d 3 * 900 + d 4 * 30 + d 5
def ud (d : Nat → Nat) (g r : Nat) : Nat → Nat := fun h => if h = g then r else d h
def q30 (d : Nat → Nat) : Prop := ∀ h, h < 6 → d h < 30
theorem g6_cases {g : Nat} (h : g < 6) : g = 0 ∨ g = 1 ∨ g = 2 ∨ g = 3 ∨ g = 4 ∨ g = 5 := by omega
theorem eM_lt {d : Nat → Nat} (h : q30 d) : eM d < 729000000 := by
  have h0 := h 0 (by omega)
  have h1 := h 1 (by omega)
  have h2 := h 2 (by omega)
  have h3 := h 3 (by omega)
  have h4 := h 4 (by omega)
  have h5 := h 5 (by omega)
  unfold eM
  omega
theorem eC_lt {d : Nat → Nat} (h : q30 d) : eC d < 2 ^ 30 := by
  have h0 := h 0 (by omega)
  have h1 := h 1 (by omega)
  have h2 := h 2 (by omega)
  have h3 := h 3 (by omega)
  have h4 := h 4 (by omega)
  have h5 := h 5 (by omega)
  unfold eC
  omega
theorem q_h30 {x y : Nat} (h : y < 30) : (x * 30 + y) / 30 = x ∧ (x * 30 + y) % 30 = y := by omega
theorem q_h32 {x y : Nat} (h : y < 32) : (x * 32 + y) / 32 = x ∧ (x * 32 + y) % 32 = y := by omega
theorem eM_h (d : Nat → Nat) : eM d = ((((d 0 * 30 + d 1) * 30 + d 2) * 30 + d 3) * 30 + d 4) * 30 + d 5 := by unfold eM; omega
theorem eC_h (d : Nat → Nat) : eC d = ((((d 5 * 32 + d 4) * 32 + d 3) * 32 + d 2) * 32 + d 1) * 32 + d 0 := by unfold eC; omega
theorem eM_row {d : Nat → Nat} (h : q30 d) {g : Nat} (hg : g < 6) : eM d / 30 ^ (5 - g) % 30 = d g := by
  have h0 := h 0 (by omega)
  have h1 := h 1 (by omega)
  have h2 := h 2 (by omega)
  have h3 := h 3 (by omega)
  have h4 := h 4 (by omega)
  have h5 := h 5 (by omega)
  rw [eM_h]
  rcases g6_cases hg with e | e | e | e | e | e <;> subst e
  · rw [show (30 : Nat) ^ (5 - 0) = 30 * 30 * 30 * 30 * 30 from rfl, ← Nat.div_div_eq_div_mul, ← Nat.div_div_eq_div_mul, ← Nat.div_div_eq_div_mul, ← Nat.div_div_eq_div_mul, (q_h30 h5).1, (q_h30 h4).1, (q_h30 h3).1, (q_h30 h2).1, (q_h30 h1).1, Nat.mod_eq_of_lt h0]
  · rw [show (30 : Nat) ^ (5 - 1) = 30 * 30 * 30 * 30 from rfl, ← Nat.div_div_eq_div_mul, ← Nat.div_div_eq_div_mul, ← Nat.div_div_eq_div_mul, (q_h30 h5).1, (q_h30 h4).1, (q_h30 h3).1, (q_h30 h2).1, (q_h30 h1).2]
  · rw [show (30 : Nat) ^ (5 - 2) = 30 * 30 * 30 from rfl, ← Nat.div_div_eq_div_mul, ← Nat.div_div_eq_div_mul, (q_h30 h5).1, (q_h30 h4).1, (q_h30 h3).1, (q_h30 h2).2]
  · rw [show (30 : Nat) ^ (5 - 3) = 30 * 30 from rfl, ← Nat.div_div_eq_div_mul, (q_h30 h5).1, (q_h30 h4).1, (q_h30 h3).2]
  · rw [show (30 : Nat) ^ (5 - 4) = 30 from rfl, (q_h30 h5).1, (q_h30 h4).2]
  · rw [show (30 : Nat) ^ (5 - 5) = 1 from rfl, Nat.div_one, (q_h30 h5).2]
theorem eC_row {d : Nat → Nat} (h : q30 d) {g : Nat} (hg : g < 6) : eC d / 2 ^ (g * 5) % 32 = d g := by
  have h0 : d 0 < 32 := Nat.lt_trans (h 0 (by omega)) (by omega)
  have h1 : d 1 < 32 := Nat.lt_trans (h 1 (by omega)) (by omega)
  have h2 : d 2 < 32 := Nat.lt_trans (h 2 (by omega)) (by omega)
  have h3 : d 3 < 32 := Nat.lt_trans (h 3 (by omega)) (by omega)
  have h4 : d 4 < 32 := Nat.lt_trans (h 4 (by omega)) (by omega)
  have h5 : d 5 < 32 := Nat.lt_trans (h 5 (by omega)) (by omega)
  rw [eC_h]
  rcases g6_cases hg with e | e | e | e | e | e <;> subst e
  · rw [show (2 : Nat) ^ (0 * 5) = 1 from rfl, Nat.div_one, (q_h32 h0).2]
  · rw [show (2 : Nat) ^ (1 * 5) = 32 from rfl, (q_h32 h0).1, (q_h32 h1).2]
  · rw [show (2 : Nat) ^ (2 * 5) = 32 * 32 from rfl, ← Nat.div_div_eq_div_mul, (q_h32 h0).1, (q_h32 h1).1, (q_h32 h2).2]
  · rw [show (2 : Nat) ^ (3 * 5) = 32 * 32 * 32 from rfl, ← Nat.div_div_eq_div_mul, ← Nat.div_div_eq_div_mul, (q_h32 h0).1, (q_h32 h1).1, (q_h32 h2).1, (q_h32 h3).2]
  · rw [show (2 : Nat) ^ (4 * 5) = 32 * 32 * 32 * 32 from rfl, ← Nat.div_div_eq_div_mul, ← Nat.div_div_eq_div_mul, ← Nat.div_div_eq_div_mul, (q_h32 h0).1, (q_h32 h1).1, (q_h32 h2).1, (q_h32 h3).1, (q_h32 h4).2]
  · rw [show (2 : Nat) ^ (5 * 5) = 32 * 32 * 32 * 32 * 32 from rfl, ← Nat.div_div_eq_div_mul, ← Nat.div_div_eq_div_mul, ← Nat.div_div_eq_div_mul, ← Nat.div_div_eq_div_mul, (q_h32 h0).1, (q_h32 h1).1, (q_h32 h2).1, (q_h32 h3).1, (q_h32 h4).1, Nat.mod_eq_of_lt h5]
theorem ud_s {d : Nat → Nat} {g r : Nat} : ud d g r g = r := by simp [ud]
theorem ud_n {d : Nat → Nat} {g r h : Nat} (e : h ≠ g) : ud d g r h = d h := by simp [ud, e]
theorem q_li0 (a1 a2 a3 a4 a5 r c0 c1 c2 c3 c4 c5 : Nat) : r * c0 + a1 * c1 + a2 * c2 + a3 * c3 + a4 * c4 + a5 * c5 = 0 * c0 + a1 * c1 + a2 * c2 + a3 * c3 + a4 * c4 + a5 * c5 + r * c0 := by
  rw [Nat.zero_mul]
  omega
theorem q_li1 (a0 a2 a3 a4 a5 r c0 c1 c2 c3 c4 c5 : Nat) : a0 * c0 + r * c1 + a2 * c2 + a3 * c3 + a4 * c4 + a5 * c5 = a0 * c0 + 0 * c1 + a2 * c2 + a3 * c3 + a4 * c4 + a5 * c5 + r * c1 := by
  rw [Nat.zero_mul]
  omega
theorem q_li2 (a0 a1 a3 a4 a5 r c0 c1 c2 c3 c4 c5 : Nat) : a0 * c0 + a1 * c1 + r * c2 + a3 * c3 + a4 * c4 + a5 * c5 = a0 * c0 + a1 * c1 + 0 * c2 + a3 * c3 + a4 * c4 + a5 * c5 + r * c2 := by
  rw [Nat.zero_mul]
  omega
theorem q_li3 (a0 a1 a2 a4 a5 r c0 c1 c2 c3 c4 c5 : Nat) : a0 * c0 + a1 * c1 + a2 * c2 + r * c3 + a4 * c4 + a5 * c5 = a0 * c0 + a1 * c1 + a2 * c2 + 0 * c3 + a4 * c4 + a5 * c5 + r * c3 := by
  rw [Nat.zero_mul]
  omega
theorem q_li4 (a0 a1 a2 a3 a5 r c0 c1 c2 c3 c4 c5 : Nat) : a0 * c0 + a1 * c1 + a2 * c2 + a3 * c3 + r * c4 + a5 * c5 = a0 * c0 + a1 * c1 + a2 * c2 + a3 * c3 + 0 * c4 + a5 * c5 + r * c4 := by
  rw [Nat.zero_mul]
  omega
theorem q_li5 (a0 a1 a2 a3 a4 r c0 c1 c2 c3 c4 c5 : Nat) : a0 * c0 + a1 * c1 + a2 * c2 + a3 * c3 + a4 * c4 + r * c5 = a0 * c0 + a1 * c1 + a2 * c2 + a3 * c3 + a4 * c4 + 0 * c5 + r * c5 := by
  rw [Nat.zero_mul]
  omega
theorem eM_u (d : Nat → Nat) : eM d = d 0 * 24300000 + d 1 * 810000 + d 2 * 27000 + d 3 * 900 + d 4 * 30 + d 5 * 1 := by unfold eM; omega
theorem eC_u (d : Nat → Nat) : eC d = d 0 * 1 + d 1 * 32 + d 2 * 1024 + d 3 * 32768 + d 4 * 1048576 + d 5 * 33554432 := by unfold eC; omega
theorem eM_ud {d : Nat → Nat} {g r : Nat} (hg : g < 6) (h : d g = 0) : eM (ud d g r) = eM d + r * 30 ^ (5 - g) := by
  rcases g6_cases hg with e | e | e | e | e | e <;> subst e
  · have e1 : eM (ud d 0 r) = r * 24300000 + d 1 * 810000 + d 2 * 27000 + d 3 * 900 + d 4 * 30 + d 5 * 1 := by rw [eM_u]; rw [ud_s, ud_n (show 1 ≠ 0 by decide), ud_n (show 2 ≠ 0 by decide), ud_n (show 3 ≠ 0 by decide), ud_n (show 4 ≠ 0 by decide), ud_n (show 5 ≠ 0 by decide)]
    have e2 : eM d = 0 * 24300000 + d 1 * 810000 + d 2 * 27000 + d 3 * 900 + d 4 * 30 + d 5 * 1 := by rw [eM_u, h]
    rw [e1, e2, show (30 : Nat) ^ (5 - 0) = 24300000 from rfl]
    exact q_li0 _ _ _ _ _ _ _ _ _ _ _ _
  · have e1 : eM (ud d 1 r) = d 0 * 24300000 + r * 810000 + d 2 * 27000 + d 3 * 900 + d 4 * 30 + d 5 * 1 := by rw [eM_u]; rw [ud_s, ud_n (show 0 ≠ 1 by decide), ud_n (show 2 ≠ 1 by decide), ud_n (show 3 ≠ 1 by decide), ud_n (show 4 ≠ 1 by decide), ud_n (show 5 ≠ 1 by decide)]
    have e2 : eM d = d 0 * 24300000 + 0 * 810000 + d 2 * 27000 + d 3 * 900 + d 4 * 30 + d 5 * 1 := by rw [eM_u, h]
    rw [e1, e2, show (30 : Nat) ^ (5 - 1) = 810000 from rfl]
    exact q_li1 _ _ _ _ _ _ _ _ _ _ _ _
  · have e1 : eM (ud d 2 r) = d 0 * 24300000 + d 1 * 810000 + r * 27000 + d 3 * 900 + d 4 * 30 + d 5 * 1 := by rw [eM_u]; rw [ud_s, ud_n (show 0 ≠ 2 by decide), ud_n (show 1 ≠ 2 by decide), ud_n (show 3 ≠ 2 by decide), ud_n (show 4 ≠ 2 by decide), ud_n (show 5 ≠ 2 by decide)]
    have e2 : eM d = d 0 * 24300000 + d 1 * 810000 + 0 * 27000 + d 3 * 900 + d 4 * 30 + d 5 * 1 := by rw [eM_u, h]
    rw [e1, e2, show (30 : Nat) ^ (5 - 2) = 27000 from rfl]
    exact q_li2 _ _ _ _ _ _ _ _ _ _ _ _
  · have e1 : eM (ud d 3 r) = d 0 * 24300000 + d 1 * 810000 + d 2 * 27000 + r * 900 + d 4 * 30 + d 5 * 1 := by rw [eM_u]; rw [ud_s, ud_n (show 0 ≠ 3 by decide), ud_n (show 1 ≠ 3 by decide), ud_n (show 2 ≠ 3 by decide), ud_n (show 4 ≠ 3 by decide), ud_n (show 5 ≠ 3 by decide)]
    have e2 : eM d = d 0 * 24300000 + d 1 * 810000 + d 2 * 27000 + 0 * 900 + d 4 * 30 + d 5 * 1 := by rw [eM_u, h]
    rw [e1, e2, show (30 : Nat) ^ (5 - 3) = 900 from rfl]
    exact q_li3 _ _ _ _ _ _ _ _ _ _ _ _
  · have e1 : eM (ud d 4 r) = d 0 * 24300000 + d 1 * 810000 + d 2 * 27000 + d 3 * 900 + r * 30 + d 5 * 1 := by rw [eM_u]; rw [ud_s, ud_n (show 0 ≠ 4 by decide), ud_n (show 1 ≠ 4 by decide), ud_n (show 2 ≠ 4 by decide), ud_n (show 3 ≠ 4 by decide), ud_n (show 5 ≠ 4 by decide)]
    have e2 : eM d = d 0 * 24300000 + d 1 * 810000 + d 2 * 27000 + d 3 * 900 + 0 * 30 + d 5 * 1 := by rw [eM_u, h]
    rw [e1, e2, show (30 : Nat) ^ (5 - 4) = 30 from rfl]
    exact q_li4 _ _ _ _ _ _ _ _ _ _ _ _
  · have e1 : eM (ud d 5 r) = d 0 * 24300000 + d 1 * 810000 + d 2 * 27000 + d 3 * 900 + d 4 * 30 + r * 1 := by rw [eM_u]; rw [ud_s, ud_n (show 0 ≠ 5 by decide), ud_n (show 1 ≠ 5 by decide), ud_n (show 2 ≠ 5 by decide), ud_n (show 3 ≠ 5 by decide), ud_n (show 4 ≠ 5 by decide)]
    have e2 : eM d = d 0 * 24300000 + d 1 * 810000 + d 2 * 27000 + d 3 * 900 + d 4 * 30 + 0 * 1 := by rw [eM_u, h]
    rw [e1, e2, show (30 : Nat) ^ (5 - 5) = 1 from rfl]
    exact q_li5 _ _ _ _ _ _ _ _ _ _ _ _
theorem eC_ud {d : Nat → Nat} {g r : Nat} (hg : g < 6) (h : d g = 0) : eC (ud d g r) = eC d + r * 2 ^ (g * 5) := by
  rcases g6_cases hg with e | e | e | e | e | e <;> subst e
  · have e1 : eC (ud d 0 r) = r * 1 + d 1 * 32 + d 2 * 1024 + d 3 * 32768 + d 4 * 1048576 + d 5 * 33554432 := by rw [eC_u]; rw [ud_s, ud_n (show 1 ≠ 0 by decide), ud_n (show 2 ≠ 0 by decide), ud_n (show 3 ≠ 0 by decide), ud_n (show 4 ≠ 0 by decide), ud_n (show 5 ≠ 0 by decide)]
    have e2 : eC d = 0 * 1 + d 1 * 32 + d 2 * 1024 + d 3 * 32768 + d 4 * 1048576 + d 5 * 33554432 := by rw [eC_u, h]
    rw [e1, e2, show (2 : Nat) ^ (0 * 5) = 1 from rfl]
    exact q_li0 _ _ _ _ _ _ _ _ _ _ _ _
  · have e1 : eC (ud d 1 r) = d 0 * 1 + r * 32 + d 2 * 1024 + d 3 * 32768 + d 4 * 1048576 + d 5 * 33554432 := by rw [eC_u]; rw [ud_s, ud_n (show 0 ≠ 1 by decide), ud_n (show 2 ≠ 1 by decide), ud_n (show 3 ≠ 1 by decide), ud_n (show 4 ≠ 1 by decide), ud_n (show 5 ≠ 1 by decide)]
    have e2 : eC d = d 0 * 1 + 0 * 32 + d 2 * 1024 + d 3 * 32768 + d 4 * 1048576 + d 5 * 33554432 := by rw [eC_u, h]
    rw [e1, e2, show (2 : Nat) ^ (1 * 5) = 32 from rfl]
    exact q_li1 _ _ _ _ _ _ _ _ _ _ _ _
  · have e1 : eC (ud d 2 r) = d 0 * 1 + d 1 * 32 + r * 1024 + d 3 * 32768 + d 4 * 1048576 + d 5 * 33554432 := by rw [eC_u]; rw [ud_s, ud_n (show 0 ≠ 2 by decide), ud_n (show 1 ≠ 2 by decide), ud_n (show 3 ≠ 2 by decide), ud_n (show 4 ≠ 2 by decide), ud_n (show 5 ≠ 2 by decide)]
    have e2 : eC d = d 0 * 1 + d 1 * 32 + 0 * 1024 + d 3 * 32768 + d 4 * 1048576 + d 5 * 33554432 := by rw [eC_u, h]
    rw [e1, e2, show (2 : Nat) ^ (2 * 5) = 1024 from rfl]
    exact q_li2 _ _ _ _ _ _ _ _ _ _ _ _
  · have e1 : eC (ud d 3 r) = d 0 * 1 + d 1 * 32 + d 2 * 1024 + r * 32768 + d 4 * 1048576 + d 5 * 33554432 := by rw [eC_u]; rw [ud_s, ud_n (show 0 ≠ 3 by decide), ud_n (show 1 ≠ 3 by decide), ud_n (show 2 ≠ 3 by decide), ud_n (show 4 ≠ 3 by decide), ud_n (show 5 ≠ 3 by decide)]
    have e2 : eC d = d 0 * 1 + d 1 * 32 + d 2 * 1024 + 0 * 32768 + d 4 * 1048576 + d 5 * 33554432 := by rw [eC_u, h]
    rw [e1, e2, show (2 : Nat) ^ (3 * 5) = 32768 from rfl]
    exact q_li3 _ _ _ _ _ _ _ _ _ _ _ _
  · have e1 : eC (ud d 4 r) = d 0 * 1 + d 1 * 32 + d 2 * 1024 + d 3 * 32768 + r * 1048576 + d 5 * 33554432 := by rw [eC_u]; rw [ud_s, ud_n (show 0 ≠ 4 by decide), ud_n (show 1 ≠ 4 by decide), ud_n (show 2 ≠ 4 by decide), ud_n (show 3 ≠ 4 by decide), ud_n (show 5 ≠ 4 by decide)]
    have e2 : eC d = d 0 * 1 + d 1 * 32 + d 2 * 1024 + d 3 * 32768 + 0 * 1048576 + d 5 * 33554432 := by rw [eC_u, h]
    rw [e1, e2, show (2 : Nat) ^ (4 * 5) = 1048576 from rfl]
    exact q_li4 _ _ _ _ _ _ _ _ _ _ _ _
  · have e1 : eC (ud d 5 r) = d 0 * 1 + d 1 * 32 + d 2 * 1024 + d 3 * 32768 + d 4 * 1048576 + r * 33554432 := by rw [eC_u]; rw [ud_s, ud_n (show 0 ≠ 5 by decide), ud_n (show 1 ≠ 5 by decide), ud_n (show 2 ≠ 5 by decide), ud_n (show 3 ≠ 5 by decide), ud_n (show 4 ≠ 5 by decide)]
    have e2 : eC d = d 0 * 1 + d 1 * 32 + d 2 * 1024 + d 3 * 32768 + d 4 * 1048576 + 0 * 33554432 := by rw [eC_u, h]
    rw [e1, e2, show (2 : Nat) ^ (5 * 5) = 33554432 from rfl]
    exact q_li5 _ _ _ _ _ _ _ _ _ _ _ _
theorem q30_ud {d : Nat → Nat} {g r : Nat} (h : q30 d) (hr : r < 30) : q30 (ud d g r) := by
  intro i hi
  unfold ud
  split
  · exact hr
  · exact h i hi
theorem m_digit4 {M : jM} {F : jF} {L : jL} (g : Nat) : ∀ j n a, j < n → g + j < 100 → fMo_digit_4 n (nI g) (nI a) (nI (g + j)) M F L = some (nI (a * 30 ^ j)) := by
  intro j
  induction j with
  | zero =>
    intro n a hn hg
    obtain ⟨n, rfl⟩ : ∃ z, n = z + 1 := ⟨n - 1, by omega⟩
    rw [fMo_digit_4, if_pos (nI_le (by omega) (by omega)), Nat.pow_zero, Nat.mul_one]
  | succ j ih =>
    intro n a hn hg
    obtain ⟨n, rfl⟩ : ∃ z, n = z + 1 := ⟨n - 1, by omega⟩
    rw [fMo_digit_4, if_neg (nI_ge (by omega) (by omega)), ← Nat.add_assoc, pk_m1, qn_30, pk_mul, ih n _ (by omega) (by omega), Nat.mul_assoc, Nat.pow_succ, Nat.mul_comm 30]
theorem m_digit {M : jM} {F : jF} {L : jL} {g : Nat} (hg : g < 6) : fMo_digit (nI g) M F L = some (nI (30 ^ (5 - g))) := by
  have := m_digit4 (M := M) (F := F) (L := L) g (5 - g) jfuel 1 (by show _ < 4000; omega) (by omega)
  rw [show g + (5 - g) = 5 by omega, Nat.one_mul] at this
  exact this
theorem q_p30 {g : Nat} : 0 < 30 ^ (5 - g) ∧ 30 ^ (5 - g) < 2 ^ 31 := by
  refine ⟨Nat.pow_pos (by omega), ?_⟩
  exact Nat.lt_of_le_of_lt (Nat.pow_le_pow_right (by omega) (show 5 - g ≤ 5 by omega)) (by decide)
theorem m_rowIn {M : jM} {F : jF} {L : jL} {d : Nat → Nat} (h : q30 d) {g : Nat} (hg : g < 6) : fMo_rowIn (nI (eM d)) (nI g) M F L = some (nI (d g)) := by
  have e := eM_lt h
  have p := @q_p30 g
  show fMo_rowIn_0 _ _ M F L = _
  unfold fMo_rowIn_0
  rw [m_digit hg, Option.bind_some, if_neg (nI_ne0 p.1 p.2), if_neg (by decide), pk_div (by omega) p.1 p.2, qn_30, pk_rem (Nat.lt_of_le_of_lt (Nat.div_le_self _ _) (by omega)) (by omega) (by omega), eM_row h hg]
theorem m_valueIn {D : qD} {M : jM} {F : jF} {L : jL} (w : qW D) (h : qRM D M F) {d : Nat → Nat} (hd : q30 d) {g c : Nat} (hg : g < dG D) (hr : d g < dn D g) (hc : c < 4) : fMo_valueIn (nI (eM d)) (nI g) (nI c) M F L = some (dv D g (d g) c) := by
  show fMo_valueIn_0 _ _ _ M F L = _
  unfold fMo_valueIn_0
  rw [m_rowIn hd (qW_g w hg).1, Option.bind_some, m_cell w h hg hr hc]; rfl
theorem m_holds {D : qD} {M : jM} {F : jF} {L : jL} (w : qW D) (h : qRM D M F) {d : Nat → Nat} (hd : q30 d) {k : Nat} (hk : k < dC D) (ha : d (dfi D k) < dn D (dfi D k)) (hb : d (dse D k) < dn D (dse D k)) :
    fMo_holds (nI k) (nI (eM d)) M F L = some (b01 (dho D k (d (dfi D k)) (d (dse D k)))) := by
  have k12 := qW_k w hk
  obtain ⟨k2, f1, fc, s1, sc, se⟩ := w.2.2.2.2 k hk
  have G6 := w.2.1
  obtain ⟨h11, h12, h13, h14, h15⟩ := h.2.2.2.2.2 k hk
  show fMo_holds_0 _ _ M F L = _
  unfold fMo_holds_0 fMo_holds_54 dho
  rw [q_ibt k12 (by omega), nI_clamp (by omega), h11, h12, h13, h14, h15]
  simp only [if_true]
  rw [m_valueIn w h hd f1 ha fc, Option.bind_some]
  by_cases b : dkd D k = 1
  · simp only [b, if_true]
    rw [if_pos (by rfl), if_neg (by decide)]
    by_cases z : dv D (dfi D k) (d (dfi D k)) (dfc D k) = dnu D k
    · rw [if_pos z, decide_eq_true z]; rfl
    · rw [if_neg z, decide_eq_false z]; rfl
  · rw [if_neg (fun z => b ((q_1 (by omega)).mp z)), if_neg b, m_valueIn w h hd s1 hb (sc b), Option.bind_some, if_neg b]
    by_cases a2 : dkd D k = 2
    · rw [if_pos (by rw [a2]; rfl), if_pos a2]
      by_cases z : dv D (dse D k) (d (dse D k)) (dsc D k) ≤ dv D (dfi D k) (d (dfi D k)) (dfc D k)
      · rw [if_pos z, decide_eq_false (fun y => y z)]; rfl
      · rw [if_neg z, decide_eq_true z]; rfl
    · rw [if_neg (fun z => a2 ((q_2 (by omega)).mp z)), if_neg a2]
      by_cases z : dv D (dfi D k) (d (dfi D k)) (dfc D k) = dv D (dse D k) (d (dse D k)) (dsc D k)
      · rw [if_pos z, decide_eq_true z]; rfl
      · rw [if_neg z, decide_eq_false z]; rfl
/-! a choice lies in the rows of the generators of a set -/
def qin (D : qD) (d : Nat → Nat) (s : Nat) : Prop := q30 d ∧ (∀ g, s.testBit g = true → d g < dn D g) ∧ (∀ g, s.testBit g = false → d g = 0)
def dal (D : qD) (d : Nat → Nat) (s : Nat) : Bool := al (fun k => !dwi D k s || dho D k (d (dfi D k)) (d (dse D k))) 0 (dC D)
theorem m_allHold2 {D : qD} {M : jM} {F : jF} {L : jL} (w : qW D) (h : qRM D M F) {d : Nat → Nat} {s : Nat} (hs : s < 64) (hd : qin D d s) :
    ∀ m n k, k + m = dC D → m < n → fMo_allHold_2 n (nI (eM d)) (nI s) (nI k) M F L = some (b01 (al (fun k => !dwi D k s || dho D k (d (dfi D k)) (d (dse D k))) k m)) := by
  have C12 := w.2.2.2.1
  intro m
  induction m with
  | zero =>
    intro n k hk hn
    obtain ⟨n, rfl⟩ : ∃ z, n = z + 1 := ⟨n - 1, by omega⟩
    rw [fMo_allHold_2, h.2.1, if_pos (nI_le (by omega) (by omega)), al]; rfl
  | succ m ih =>
    intro n k hk hn
    obtain ⟨n, rfl⟩ : ∃ z, n = z + 1 := ⟨n - 1, by omega⟩
    have hk' : k < dC D := by omega
    rw [fMo_allHold_2, h.2.1, if_neg (nI_ge (by omega) (by omega)), m_isAmong w h hk' hs, Option.bind_some, b01_i0, nI_1, ih n (k + 1) (by omega) (by omega), al]
    cases e : dwi D k s with
    | false => simp
    | true =>
      have e' := e
      unfold dwi at e'
      rw [Bool.and_eq_true] at e'
      rw [if_pos rfl, m_holds w h hd.1 hk' (hd.2.1 _ e'.1) (hd.2.1 _ e'.2), Option.bind_some, b01_i0]
      cases dho D k (d (dfi D k)) (d (dse D k)) <;> simp [b01]
theorem m_allHold {D : qD} {M : jM} {F : jF} {L : jL} (w : qW D) (h : qRM D M F) {d : Nat → Nat} {s : Nat} (hs : s < 64) (hd : qin D d s) : fMo_allHold (nI (eM d)) (nI s) M F L = some (b01 (dal D d s)) := by
  have C12 := w.2.2.2.1
  exact m_allHold2 w h hs hd (dC D) jfuel 0 (by omega) (by show _ < 4000; omega)
/-! conditions for a generator -/
def dcf (D : qD) (g s : Nat) : Option Nat := match fd (fun k => dti D k g s && dix D k g) 0 (dC D) with | some k => some k | none => fd (fun k => dti D k g s && decide (dkd D k = 0)) 0 (dC D)
theorem dti_1 {D : qD} (w : qW D) {k g s : Nat} (hk : k < dC D) (h : dti D k g s = true) (e : dkd D k = 1) : dfi D k = g := by
  unfold dti at h
  rw [Bool.and_eq_true] at h
  rcases dju_g h.1 with q | q
  · exact q
  · rw [← (w.2.2.2.2 k hk).2.2.2.2.2 e]; exact q
theorem m_condFor1 {D : qD} {M : jM} {F : jF} {L : jL} (w : qW D) (h : qRM D M F) {s g : Nat} (hs : s < 64) (hg : g < dG D) (hn : s.testBit g = false) :
    ∀ m n k, k + m = dC D → m < n → fMo_conditionFor_3 n 1 (nI g) (nI s) (nI k) M F L = some (o32 (fd (fun k => dti D k g s && dix D k g) k m)) := by
  have C12 := w.2.2.2.1
  obtain ⟨g6, gt, gn⟩ := qW_g w hg
  intro m
  induction m with
  | zero =>
    intro n k hk hn
    obtain ⟨n, rfl⟩ : ∃ z, n = z + 1 := ⟨n - 1, by omega⟩
    rw [fMo_conditionFor_3, h.2.1, if_pos (nI_le (by omega) (by omega)), fd]; rfl
  | succ m ih =>
    intro n k hk hn'
    obtain ⟨n, rfl⟩ : ∃ z, n = z + 1 := ⟨n - 1, by omega⟩
    have hk' : k < dC D := by omega
    obtain ⟨k2, f1, fc, s1, sc, se⟩ := w.2.2.2.2 k hk'
    rw [fMo_conditionFor_3, h.2.1, if_neg (nI_ge (by omega) (by omega)), m_tied w h hk' hs g6 hn, Option.bind_some, nI_1, ih n (k + 1) (by omega) (by omega), fd]
    cases e : dti D k g s with
    | false => simp
    | true =>
      have hco : dco D k g < 4 := by
        unfold dco
        split
        · exact fc
        · rename_i z
          exact sc (fun y => z (dti_1 w hk' e y))
      have hi := (w.1 _ gt).2
      simp only [if_true, Bool.true_and]
      rw [if_neg (q_m1 (by omega)), q_ibt g6 (by omega), if_pos rfl, nI_clamp (by omega), h.2.2.2.2.1 g hg, q_ibt gt (by omega), if_pos rfl, nI_clamp (by omega), (h.2.2.1 _ gt).2, q_if2 (by omega) (by omega)]
      show (if dix D k g = true then _ else _) = _
      cases dix D k g <;> simp [o32]
theorem m_condFor2 {D : qD} {M : jM} {F : jF} {L : jL} (w : qW D) (h : qRM D M F) {s g : Nat} (hs : s < 64) (hg : g < dG D) (hn : s.testBit g = false) :
    ∀ m n k, k + m = dC D → m < n → fMo_conditionFor_3 n 2 (nI g) (nI s) (nI k) M F L = some (o32 (fd (fun k => dti D k g s && decide (dkd D k = 0)) k m)) := by
  have C12 := w.2.2.2.1
  obtain ⟨g6, gt, gn⟩ := qW_g w hg
  intro m
  induction m with
  | zero =>
    intro n k hk hn
    obtain ⟨n, rfl⟩ : ∃ z, n = z + 1 := ⟨n - 1, by omega⟩
    rw [fMo_conditionFor_3, h.2.1, if_pos (nI_le (by omega) (by omega)), fd]; rfl
  | succ m ih =>
    intro n k hk hn'
    obtain ⟨n, rfl⟩ : ∃ z, n = z + 1 := ⟨n - 1, by omega⟩
    have hk' : k < dC D := by omega
    obtain ⟨k2, f1, fc, s1, sc, se⟩ := w.2.2.2.2 k hk'
    rw [fMo_conditionFor_3, h.2.1, if_neg (nI_ge (by omega) (by omega)), m_tied w h hk' hs g6 hn, Option.bind_some, nI_1, ih n (k + 1) (by omega) (by omega), fd]
    cases e : dti D k g s with
    | false => simp
    | true =>
      have hco : dco D k g < 4 := by
        unfold dco
        split
        · exact fc
        · rename_i z
          exact sc (fun y => z (dti_1 w hk' e y))
      simp only [if_true, Bool.true_and]
      rw [if_neg (q_m1 (by omega)), if_neg (by decide), q_ibt (qW_k w hk') (by omega), if_pos rfl, nI_clamp (by omega), (h.2.2.2.2.2 k hk').1]
      by_cases z : dkd D k = 0
      · rw [if_pos (by rw [z]; rfl)]; simp [z, o32]
      · rw [if_neg (fun y => z ((q_0 (by omega)).mp y))]; simp [z]
theorem c_condFor5 {D : qD} {M : jM} {F : jF} (w : qW D) (h : qRC D M F) {s g : Nat} (hs : s < 64) (hg : g < dG D) :
    ∀ m n k b, (∀ j, b = some j → j < dC D) → k + m = dC D → m < n → fPl_conditionFor_5 n (nI g) (nI s) (o32 b) (nI k) M F = some (o32 (match fd (fun k => dti D k g s && dix D k g) k m with | some j => some j | none => (match b with | some j => some j | none => fd (fun k => dti D k g s && decide (dkd D k = 0)) k m))) := by
  have C12 := w.2.2.2.1
  obtain ⟨g6, gt, gn⟩ := qW_g w hg
  intro m
  induction m with
  | zero =>
    intro n k b hb hk hn
    obtain ⟨n, rfl⟩ : ∃ z, n = z + 1 := ⟨n - 1, by omega⟩
    rw [fPl_conditionFor_5, h.2.1, if_pos (nI_le (by omega) (by omega)), fd, fd]
    cases b <;> rfl
  | succ m ih =>
    intro n k b hb hk hn'
    obtain ⟨n, rfl⟩ : ∃ z, n = z + 1 := ⟨n - 1, by omega⟩
    have hk' : k < dC D := by omega
    obtain ⟨k2, f1, fc, s1, sc, se⟩ := w.2.2.2.2 k hk'
    rw [fPl_conditionFor_5, h.2.1, if_neg (nI_ge (by omega) (by omega)), c_tellsValue w h hk' hs g6, Option.bind_some, b01_i0, nI_1, ih n (k + 1) b hb (by omega) (by omega), fd, fd]
    cases e : dti D k g s with
    | false => simp
    | true =>
      rw [if_pos rfl, c_tellsByIndex w h hk' hg (fun y => dti_1 w hk' e y), Option.bind_some, b01_i0]
      simp only [Bool.true_and]
      cases dix D k g with
      | true => simp [o32]
      | false =>
        simp only [Bool.false_eq_true, if_false]
        cases b with
        | some j =>
          have := hb j rfl
          rw [if_neg (show ¬ o32 (some j) = -1 from q_m1 (by omega))]
        | none =>
          rw [if_pos (show o32 none = -1 from rfl), q_ibt (qW_k w hk') (by omega), if_pos rfl, nI_clamp (by omega), (h.2.2.2.2.2.2 k hk').1]
          by_cases z : dkd D k = 0
          · rw [if_pos (by rw [z]; rfl)]
            have := ih n (k + 1) (some k) (fun j hj => by cases hj; exact hk') (by omega) (by omega)
            rw [show nI k = o32 (some k) from rfl, this]
            simp [z]
          · rw [if_neg (fun y => z ((q_0 (by omega)).mp y))]; simp [z]
theorem c_condFor {D : qD} {M : jM} {F : jF} (w : qW D) (h : qRC D M F) {s g : Nat} (hs : s < 64) (hg : g < dG D) : fPl_conditionFor (nI g) (nI s) M F = some (o32 (dcf D g s)) := by
  have C12 := w.2.2.2.1
  exact c_condFor5 w h hs hg (dC D) jfuel 0 none (fun j hj => by cases hj) (by omega) (by show _ < 4000; omega)
theorem dcf_some {D : qD} {g s k : Nat} (h : dcf D g s = some k) : k < dC D ∧ dti D k g s = true := by
  unfold dcf at h
  cases e : fd (fun k => dti D k g s && dix D k g) 0 (dC D) with
  | some j =>
    rw [e] at h
    cases h
    obtain ⟨a, b, c⟩ := fd_some e
    rw [Bool.and_eq_true] at c
    exact ⟨by omega, c.1⟩
  | none =>
    rw [e] at h
    obtain ⟨a, b, c⟩ := fd_some h
    rw [Bool.and_eq_true] at c
    exact ⟨by omega, c.1⟩
def dme (D : qD) (g s : Nat) : Nat := match fd (fun k => dti D k g s && dix D k g) 0 (dC D) with | some _ => 1 | none => (match fd (fun k => dti D k g s && decide (dkd D k = 0)) 0 (dC D) with | some _ => 2 | none => 3)
theorem dcf_ix {D : qD} {g s k : Nat} (h : dcf D g s = some k) : dix D k g = decide (dme D g s = 1) := by
  unfold dcf at h
  unfold dme
  cases e : fd (fun k => dti D k g s && dix D k g) 0 (dC D) with
  | some j =>
    rw [e] at h
    cases h
    obtain ⟨a, b, c⟩ := fd_some e
    rw [Bool.and_eq_true] at c
    simpa using c.2
  | none =>
    rw [e] at h
    obtain ⟨a, b, c⟩ := fd_some h
    have := fd_none e a b
    rw [Bool.and_eq_true] at c
    simp only at h
    rw [h]
    rw [c.1, Bool.true_and] at this
    simpa using this
theorem dcf_none {D : qD} {g s : Nat} : dcf D g s = none ↔ dme D g s = 3 := by
  unfold dcf dme
  cases fd (fun k => dti D k g s && dix D k g) 0 (dC D) with
  | some j => simp
  | none => cases fd (fun k => dti D k g s && decide (dkd D k = 0)) 0 (dC D) <;> simp
