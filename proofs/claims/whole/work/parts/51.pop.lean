/-! masks of rows, and how many they are -/
def qrm (p : Nat → Bool) : Nat → Nat
  | 0 => 0
  | n + 1 => qrm p n ||| (if p n then 2 ^ n else 0)
def qcb (p : Nat → Bool) : Nat → Nat
  | 0 => 0
  | n + 1 => qcb p n + (p n).toNat
theorem qrm_tb (p : Nat → Bool) (n r : Nat) : (qrm p n).testBit r = (decide (r < n) && p r) := by
  induction n with
  | zero => simp [qrm]
  | succ n ih =>
    unfold qrm
    rw [Nat.testBit_or, ih]
    by_cases h : p n = true
    · rw [if_pos h, Nat.testBit_two_pow]
      by_cases e : n = r
      · subst e; simp [h]
      · have e1 : (decide (r < n + 1)) = decide (r < n) := by apply decide_eq_decide.mpr; omega
        simp [e, e1]
    · rw [if_neg h]
      by_cases e : n = r
      · subst e; simp [h]
      · have e1 : (decide (r < n + 1)) = decide (r < n) := by apply decide_eq_decide.mpr; omega
        simp [e1]
theorem qrm_lt (p : Nat → Bool) (n : Nat) : qrm p n < 2 ^ n := by
  apply Nat.lt_pow_two_of_testBit
  intro i hi
  rw [qrm_tb, decide_eq_false (by omega)]; rfl
theorem qrm_and (p q : Nat → Bool) (n : Nat) : qrm p n &&& qrm q n = qrm (fun r => p r && q r) n := by
  apply Nat.eq_of_testBit_eq
  intro i
  rw [Nat.testBit_and, qrm_tb, qrm_tb, qrm_tb]
  cases decide (i < n) <;> cases p i <;> cases q i <;> rfl
theorem qrm_full (n : Nat) : 2 ^ n - 1 = qrm (fun _ => true) n := by
  apply Nat.eq_of_testBit_eq
  intro i
  rw [qrm_tb, Nat.testBit_two_pow_sub_one]; simp
theorem qrm_congr {p q : Nat → Bool} {n : Nat} (h : ∀ r, r < n → p r = q r) : qrm p n = qrm q n := by
  apply Nat.eq_of_testBit_eq
  intro i
  rw [qrm_tb, qrm_tb]
  by_cases e : i < n
  · rw [h i e]
  · simp [e]
theorem qcb_congr {p q : Nat → Bool} {n : Nat} (h : ∀ r, r < n → p r = q r) : qcb p n = qcb q n := by
  induction n with
  | zero => rfl
  | succ n ih => unfold qcb; rw [ih (fun r hr => h r (by omega)), h n (by omega)]
theorem qcb_false {p : Nat → Bool} {n m : Nat} (h : ∀ r, n ≤ r → p r = false) (hm : n ≤ m) : qcb p m = qcb p n := by
  induction m with
  | zero => have : n = 0 := by omega
            subst this; rfl
  | succ m ih =>
    rcases Nat.lt_or_ge m n with e | e
    · have : n = m + 1 := by omega
      subst this; rfl
    · show qcb p m + (p m).toNat = qcb p n
      rw [ih e, h m e]; rfl
theorem qcb_filter (p : Nat → Bool) (n : Nat) : qcb p n = ((List.range n).filter p).length := by
  induction n with
  | zero => rfl
  | succ n ih =>
    unfold qcb
    rw [List.range_succ, List.filter_append, List.length_append, ih]
    cases h : p n <;> simp [h]
theorem q_andsp {k a b c d : Nat} (hb : b < 2 ^ k) (hd : d < 2 ^ k) : (2 ^ k * a + b) &&& (2 ^ k * c + d) = 2 ^ k * (a &&& c) + (b &&& d) := by
  apply Nat.eq_of_testBit_eq
  intro i
  have he : b &&& d < 2 ^ k := Nat.and_lt_two_pow _ hd
  rw [Nat.testBit_and, Nat.testBit_two_pow_mul_add _ hb, Nat.testBit_two_pow_mul_add _ hd, Nat.testBit_two_pow_mul_add _ he]
  by_cases h : i < k
  · simp [h]
  · simp [h]
theorem q_and4 {a0 a1 a2 a3 c0 c1 c2 c3 : Nat} (h0 : a0 < 256) (h1 : a1 < 256) (h2 : a2 < 256) (h3 : a3 < 256) (e0 : c0 < 256) (e1 : c1 < 256) (e2 : c2 < 256) (e3 : c3 < 256) :
    (a0 + 256 * a1 + 65536 * a2 + 16777216 * a3) &&& (c0 + 256 * c1 + 65536 * c2 + 16777216 * c3) = (a0 &&& c0) + 256 * (a1 &&& c1) + 65536 * (a2 &&& c2) + 16777216 * (a3 &&& c3) := by
  have s : ∀ x0 x1 x2 x3 : Nat, x0 + 256 * x1 + 65536 * x2 + 16777216 * x3 = 2 ^ 8 * (2 ^ 8 * (2 ^ 8 * x3 + x2) + x1) + x0 := by intros; omega
  rw [s, s, q_andsp (k := 8) (by omega) (by omega), q_andsp (k := 8) (by omega) (by omega), q_andsp (k := 8) (by omega) (by omega), s]
def qa1 (b : Nat) : Nat := b - ((b / 2) &&& 85)
def qa2 (b : Nat) : Nat := (b &&& 51) + ((b / 4) &&& 51)
theorem q_b1 : ∀ b, b < 256 → ∀ c, c < 2 → (b / 2 + 128 * c) &&& 85 = (b / 2) &&& 85 := by decide +kernel
theorem q_b2 : ∀ b, b < 256 → (b / 2) &&& 85 ≤ b ∧ qa1 b < 256 ∧ qa2 (qa1 b) ≤ 68 ∧ qa2 (qa1 b) % 16 ≤ 4 ∧ (qa2 (qa1 b) + qa2 (qa1 b) / 16) % 16 = qcb b.testBit 8 := by decide +kernel
theorem q_b3 : ∀ b, b < 256 → ∀ c, c < 4 → (b / 4 + 64 * c) &&& 51 = (b / 4) &&& 51 := by decide +kernel
theorem q_b4 : ∀ b, b < 256 → (b &&& 51) ≤ 51 ∧ ((b / 4) &&& 51) ≤ 51 := by decide +kernel
theorem q_cb8 : ∀ b, b < 256 → qcb b.testBit 8 ≤ 8 := by decide +kernel
theorem q_us2 {a s : Nat} (ha : a < 2 ^ 32) (hs : s < 32) : jus (nI a) (nI s) = nI (a / 2 ^ s) := pk_ushrN (by omega) _ s (q_su s hs)
theorem q_c1 : (1431655765 : Int32) = nI (85 + 256 * 85 + 65536 * 85 + 16777216 * 85) := by decide +kernel
theorem q_c2 : (858993459 : Int32) = nI (51 + 256 * 51 + 65536 * 51 + 16777216 * 51) := by decide +kernel
theorem q_c3 : (252645135 : Int32) = nI (15 + 256 * 15 + 65536 * 15 + 16777216 * 15) := by decide +kernel
theorem q_e1 {b0 b1 b2 b3 : Nat} (h0 : b0 < 256) (h1 : b1 < 256) (h2 : b2 < 256) (h3 : b3 < 256) : (b0 + 256 * b1 + 65536 * b2 + 16777216 * b3) / 2 ^ 1 = (b0 / 2 + 128 * (b1 % 2)) + 256 * (b1 / 2 + 128 * (b2 % 2)) + 65536 * (b2 / 2 + 128 * (b3 % 2)) + 16777216 * (b3 / 2 + 128 * 0) := by omega
theorem q_e2 {a0 a1 a2 a3 : Nat} (h0 : a0 < 256) (h1 : a1 < 256) (h2 : a2 < 256) (h3 : a3 < 256) : (a0 + 256 * a1 + 65536 * a2 + 16777216 * a3) / 2 ^ 2 = (a0 / 4 + 64 * (a1 % 4)) + 256 * (a1 / 4 + 64 * (a2 % 4)) + 65536 * (a2 / 4 + 64 * (a3 % 4)) + 16777216 * (a3 / 4 + 64 * 0) := by omega
theorem q_e3 {a0 a1 a2 a3 : Nat} (h0 : a0 < 256) (h1 : a1 < 256) (h2 : a2 < 256) (h3 : a3 < 256) : (a0 + 256 * a1 + 65536 * a2 + 16777216 * a3) + (a0 + 256 * a1 + 65536 * a2 + 16777216 * a3) / 2 ^ 4 = (a0 + a0 / 16 + 16 * (a1 % 16)) + 256 * (a1 + a1 / 16 + 16 * (a2 % 16)) + 65536 * (a2 + a2 / 16 + 16 * (a3 % 16)) + 16777216 * (a3 + a3 / 16 + 16 * 0) := by omega
theorem q_e4 {p0 p1 p2 p3 : Nat} (h0 : p0 ≤ 8) (h1 : p1 ≤ 8) (h2 : p2 ≤ 8) (h3 : p3 ≤ 8) : (p0 + 256 * p1 + 65536 * p2 + 16777216 * p3 + (p0 + 256 * p1 + 65536 * p2 + 16777216 * p3) / 2 ^ 8 + (p0 + 256 * p1 + 65536 * p2 + 16777216 * p3 + (p0 + 256 * p1 + 65536 * p2 + 16777216 * p3) / 2 ^ 8) / 2 ^ 16) % 2 ^ 6 = p0 + p1 + p2 + p3 := by
  have e : (p0 + 256 * p1 + 65536 * p2 + 16777216 * p3) / 2 ^ 8 = p1 + 256 * p2 + 65536 * p3 := by omega
  rw [e]
  have f : (p0 + 256 * p1 + 65536 * p2 + 16777216 * p3 + (p1 + 256 * p2 + 65536 * p3)) / 2 ^ 16 = p2 + p3 + 256 * p3 := by omega
  rw [f]
  omega
theorem q_s1 {b0 b1 b2 b3 : Nat} (h0 : b0 < 256) (h1 : b1 < 256) (h2 : b2 < 256) (h3 : b3 < 256) : nI (b0 + 256 * b1 + 65536 * b2 + 16777216 * b3) - (jus (nI (b0 + 256 * b1 + 65536 * b2 + 16777216 * b3)) 1 &&& 1431655765) = nI (qa1 b0 + 256 * qa1 b1 + 65536 * qa1 b2 + 16777216 * qa1 b3) := by
  have g0 := (q_b2 b0 h0).1
  have g1 := (q_b2 b1 h1).1
  have g2 := (q_b2 b2 h2).1
  have g3 := (q_b2 b3 h3).1
  rw [q_c1, show (1 : Int32) = nI 1 from rfl, q_us2 (by omega) (by omega), q_e1 h0 h1 h2 h3, q_and, q_and4 (by omega) (by omega) (by omega) (by omega) (by omega) (by omega) (by omega) (by omega), q_b1 b0 h0 _ (by omega), q_b1 b1 h1 _ (by omega), q_b1 b2 h2 _ (by omega), q_b1 b3 h3 _ (by omega)]
  unfold qa1
  generalize b0 / 2 &&& 85 = x0 at *
  generalize b1 / 2 &&& 85 = x1 at *
  generalize b2 / 2 &&& 85 = x2 at *
  generalize b3 / 2 &&& 85 = x3 at *
  rw [pk_sub (by omega)]
  congr 1
  omega
theorem q_s2 {a0 a1 a2 a3 : Nat} (l0 : a0 < 256) (l1 : a1 < 256) (l2 : a2 < 256) (l3 : a3 < 256) : (nI (a0 + 256 * a1 + 65536 * a2 + 16777216 * a3) &&& 858993459) + (jus (nI (a0 + 256 * a1 + 65536 * a2 + 16777216 * a3)) 2 &&& 858993459) = nI (qa2 a0 + 256 * qa2 a1 + 65536 * qa2 a2 + 16777216 * qa2 a3) := by
  rw [q_c2, show (2 : Int32) = nI 2 from rfl, q_us2 (by omega) (by omega), q_e2 l0 l1 l2 l3, q_and, q_and, q_and4 (by omega) (by omega) (by omega) (by omega) (by omega) (by omega) (by omega) (by omega), q_and4 (by omega) (by omega) (by omega) (by omega) (by omega) (by omega) (by omega) (by omega), q_b3 a0 l0 _ (by omega), q_b3 a1 l1 _ (by omega), q_b3 a2 l2 _ (by omega), q_b3 a3 l3 _ (by omega), nI_add]
  unfold qa2
  congr 1
  omega
theorem q_d1 (a c : Nat) : (a + a / 16 + 16 * c) % 16 = (a + a / 16) % 16 := by omega
theorem q_s3 {a0 a1 a2 a3 : Nat} (u0 : a0 ≤ 68) (u1 : a1 ≤ 68) (u2 : a2 ≤ 68) (u3 : a3 ≤ 68) (v1 : a1 % 16 ≤ 4) (v2 : a2 % 16 ≤ 4) (v3 : a3 % 16 ≤ 4) : (nI (a0 + 256 * a1 + 65536 * a2 + 16777216 * a3) + jus (nI (a0 + 256 * a1 + 65536 * a2 + 16777216 * a3)) 4) &&& 252645135 = nI ((a0 + a0 / 16) % 16 + 256 * ((a1 + a1 / 16) % 16) + 65536 * ((a2 + a2 / 16) % 16) + 16777216 * ((a3 + a3 / 16) % 16)) := by
  have f : ∀ z : Nat, z &&& 15 = z % 16 := fun z => Nat.and_two_pow_sub_one_eq_mod z 4
  rw [q_c3, show (4 : Int32) = nI 4 from rfl, q_us2 (by omega) (by omega), nI_add, q_e3 (by omega) (by omega) (by omega) (by omega), q_and, q_and4 (by omega) (by omega) (by omega) (by omega) (by omega) (by omega) (by omega) (by omega), f, f, f, f, q_d1, q_d1, q_d1, q_d1]
theorem q_pc {b0 b1 b2 b3 : Nat} (h0 : b0 < 256) (h1 : b1 < 256) (h2 : b2 < 256) (h3 : b3 < 256) (M : jM) (F : jF) :
    fIn_bitCount (nI (b0 + 256 * b1 + 65536 * b2 + 16777216 * b3)) M F = some (nI (qcb b0.testBit 8 + qcb b1.testBit 8 + qcb b2.testBit 8 + qcb b3.testBit 8)) := by
  obtain ⟨l0, u0, v0, w0⟩ := (q_b2 b0 h0).2
  obtain ⟨l1, u1, v1, w1⟩ := (q_b2 b1 h1).2
  obtain ⟨l2, u2, v2, w2⟩ := (q_b2 b2 h2).2
  obtain ⟨l3, u3, v3, w3⟩ := (q_b2 b3 h3).2
  have k0 := q_cb8 b0 h0
  have k1 := q_cb8 b1 h1
  have k2 := q_cb8 b2 h2
  have k3 := q_cb8 b3 h3
  show fIn_bitCount_0 _ M F = _
  unfold fIn_bitCount_0
  rw [q_s1 h0 h1 h2 h3, q_s2 l0 l1 l2 l3, q_s3 u0 u1 u2 u3 v1 v2 v3, w0, w1, w2, w3, show (8 : Int32) = nI 8 from rfl, show (16 : Int32) = nI 16 from rfl, show (63 : Int32) = nI 63 from rfl]
  generalize qcb b0.testBit 8 = p0 at *
  generalize qcb b1.testBit 8 = p1 at *
  generalize qcb b2.testBit 8 = p2 at *
  generalize qcb b3.testBit 8 = p3 at *
  rw [q_us2 (by omega) (by omega), nI_add, q_us2 (by omega) (by omega), nI_add, q_and, show (63 : Nat) = 2 ^ 6 - 1 from rfl, Nat.and_two_pow_sub_one_eq_mod, q_e4 k0 k1 k2 k3]
theorem qcb_add (p : Nat → Bool) (a b : Nat) : qcb p (a + b) = qcb p a + qcb (fun r => p (a + r)) b := by
  induction b with
  | zero => simp [qcb]
  | succ b ih =>
    show qcb p (a + b) + (p (a + b)).toNat = qcb p a + (qcb (fun r => p (a + r)) b + (p (a + b)).toNat)
    rw [ih, Nat.add_assoc]
theorem q_by (m : Nat) : m % 256 + 256 * (m / 256 % 256) + 65536 * (m / 65536 % 256) + 16777216 * (m / 16777216) = m := by omega
theorem q_bc {m : Nat} (h : m < 2 ^ 32) (M : jM) (F : jF) : fIn_bitCount (nI m) M F = some (nI (qcb m.testBit 32)) := by
  have e2 : qcb m.testBit 32 = qcb (m % 256).testBit 8 + qcb (m / 256 % 256).testBit 8 + qcb (m / 65536 % 256).testBit 8 + qcb (m / 16777216).testBit 8 := by
    rw [show (32 : Nat) = 8 + 8 + 8 + 8 from rfl, qcb_add, qcb_add, qcb_add]
    have f0 : qcb m.testBit 8 = qcb (m % 256).testBit 8 := qcb_congr (fun r hr => by rw [show (256 : Nat) = 2 ^ 8 from rfl, Nat.testBit_mod_two_pow]; simp [hr])
    have f1 : qcb (fun r => m.testBit (8 + r)) 8 = qcb (m / 256 % 256).testBit 8 := qcb_congr (fun r hr => by rw [show (256 : Nat) = 2 ^ 8 from rfl, Nat.testBit_mod_two_pow, Nat.testBit_div_two_pow]; simp [hr, Nat.add_comm])
    have f2 : qcb (fun r => m.testBit (8 + 8 + r)) 8 = qcb (m / 65536 % 256).testBit 8 := qcb_congr (fun r hr => by rw [show (256 : Nat) = 2 ^ 8 from rfl, show (65536 : Nat) = 2 ^ 16 from rfl, Nat.testBit_mod_two_pow, Nat.testBit_div_two_pow]; simp [hr, Nat.add_comm])
    have f3 : qcb (fun r => m.testBit (8 + 8 + 8 + r)) 8 = qcb (m / 16777216).testBit 8 := qcb_congr (fun r hr => by rw [show (16777216 : Nat) = 2 ^ 24 from rfl, Nat.testBit_div_two_pow]; simp [hr, Nat.add_comm])
    rw [f0, f1, f2, f3]
  rw [e2]
  have := q_pc (b0 := m % 256) (b1 := m / 256 % 256) (b2 := m / 65536 % 256) (b3 := m / 16777216) (by omega) (by omega) (by omega) (by omega) M F
  rw [q_by] at this
  exact this
theorem q_bcrm {p : Nat → Bool} {n : Nat} (h : n ≤ 32) (M : jM) (F : jF) : fIn_bitCount (nI (qrm p n)) M F = some (nI (qcb p n)) := by
  have hl : qrm p n < 2 ^ 32 := Nat.lt_of_lt_of_le (qrm_lt p n) (Nat.pow_le_pow_right (by omega) h)
  rw [q_bc hl]
  congr 2
  rw [qcb_false (n := n) (fun r hr => by rw [qrm_tb, decide_eq_false (by omega)]; rfl) h]
  exact qcb_congr (fun r hr => by rw [qrm_tb]; simp [hr])
