/-! numbers of the pure side -/
theorem q_ib {i n : Nat} (h : i < 2 ^ 31) : jib (nI i) n = decide (i < n) := by
  have h1 : ¬ nI i < 0 := nI_pos h
  unfold jib
  rw [nI_clamp h, decide_eq_false h1]
  by_cases q : i < n
  · simp [q, Nat.not_le.mpr q]
  · simp [q, Nat.not_lt.mp q]
theorem q_ibt {i n : Nat} (h : i < n) (hn : n ≤ 2 ^ 31) : jib (nI i) n = true := by rw [q_ib (by omega)]; simp [h]
theorem q_or (a b : Nat) : nI a ||| nI b = nI (a ||| b) := by
  apply Int32.toBitVec_inj.1
  show BitVec.ofNat 32 a ||| BitVec.ofNat 32 b = BitVec.ofNat 32 (a ||| b)
  apply BitVec.eq_of_getLsbD_eq
  intro i hi
  simp [hi]
theorem q_and (a b : Nat) : nI a &&& nI b = nI (a &&& b) := by
  apply Int32.toBitVec_inj.1
  show BitVec.ofNat 32 a &&& BitVec.ofNat 32 b = BitVec.ofNat 32 (a &&& b)
  apply BitVec.eq_of_getLsbD_eq
  intro i hi
  simp [hi]
theorem q_sl : ∀ n, n < 32 → ((nI n &&& 31).toBitVec.smod 32).toNat = n := by decide +kernel
theorem q_su : ∀ n, n < 32 → (((nI n).toUInt32 &&& Int32.toUInt32 31).toBitVec % 32).toNat = n := by decide +kernel
theorem q_bit {g : Nat} (h : g < 32) : (1 : Int32) <<< (nI g &&& 31) = nI (2 ^ g) :=
  (by decide +kernel : ∀ g, g < 32 → (1 : Int32) <<< (nI g &&& 31) = nI (2 ^ g)) g h
theorem q_shl {a s : Nat} (hs : s < 32) (h : a * 2 ^ s < 2 ^ 32) : nI a <<< (nI s &&& 31) = nI (a * 2 ^ s) := pk_shlN _ s (q_sl s hs) h
theorem q_us {a s : Nat} (ha : a < 2 ^ 31) (hs : s < 32) : jus (nI a) (nI s) = nI (a / 2 ^ s) := pk_ushrN (by omega) _ s (q_su s hs)
theorem q_sar {a s : Nat} (ha : a < 2 ^ 31) (hs : s < 32) : nI a >>> (nI s &&& 31) = nI (a / 2 ^ s) := pk_shrN ha _ s (q_sl s hs)
theorem q_and1 (a : Nat) : nI a &&& 1 = nI (a % 2) := by
  show nI a &&& nI 1 = _
  rw [q_and, Nat.and_one_is_mod]
theorem q_and31 (a : Nat) : nI a &&& 31 = nI (a % 32) := by
  show nI a &&& nI 31 = _
  rw [q_and, show (31 : Nat) = 2 ^ 5 - 1 from rfl, Nat.and_two_pow_sub_one_eq_mod]
theorem q_m1 {n : Nat} (h : n < 2 ^ 31) : ¬ nI n = -1 := by
  intro e
  have := nI_pos h
  rw [e] at this
  exact this (by decide)
theorem q_m1' {n : Nat} (h : n < 2 ^ 31) : ¬ -1 = nI n := fun e => q_m1 h e.symm
theorem q_0 {n : Nat} (h : n < 2 ^ 31) : nI n = 0 ↔ n = 0 := by
  rw [← nI_0, nI_eq h (by omega)]
theorem q_1 {n : Nat} (h : n < 2 ^ 31) : nI n = 1 ↔ n = 1 := by
  rw [show (1 : Int32) = nI 1 from rfl, nI_eq h (by omega)]
theorem q_dec {n : Nat} (h : 0 < n) : nI n + (-1) = nI (n - 1) := by
  obtain ⟨m, rfl⟩ : ∃ m, n = m + 1 := ⟨n - 1, by omega⟩
  exact pk_m1 m
theorem q_tb (s g : Nat) : (s / 2 ^ g) % 2 = if s.testBit g then 1 else 0 := by
  rw [Nat.testBit_eq_decide_div_mod_eq]
  generalize s / 2 ^ g = z
  by_cases h : z % 2 = 1
  · simp [h]
  · simp [h]; omega
theorem q_in {s g : Nat} (hs : s < 2 ^ 31) (hg : g < 32) : (jus (nI s) (nI g) &&& 1 = 0) ↔ s.testBit g = false := by
  rw [q_us hs hg, q_and1, q_tb, q_0 (by split <;> omega)]
  cases s.testBit g <;> simp
theorem q_in2 {s g : Nat} (hs : s < 2 ^ 31) (hg : g < 32) : (nI s >>> (nI g &&& 31) &&& 1 = 1) ↔ s.testBit g = true := by
  rw [q_sar hs hg, q_and1, q_tb, q_1 (by split <;> omega)]
  cases s.testBit g <;> simp
theorem q_set {s g : Nat} (hg : g < 32) : nI s ||| (1 : Int32) <<< (nI g &&& 31) = nI (s ||| 2 ^ g) := by rw [q_bit hg, q_or]
theorem q_wi : ∀ f, f < 6 → ∀ e, e < 6 → ∀ s, s < 64 → ((nI (2 ^ f ||| 2 ^ e) &&& (nI s ^^^ (-1)) = 0) ↔ (s.testBit f && s.testBit e) = true) := by decide +kernel
theorem q_setlt : ∀ s, s < 64 → ∀ g, g < 6 → s ||| 2 ^ g < 64 := by decide +kernel
theorem q_setlt' {s g n : Nat} (hs : s < 2 ^ n) (hg : g < n) : s ||| 2 ^ g < 2 ^ n := Nat.or_lt_two_pow hs (Nat.pow_lt_pow_right (by omega) hg)
theorem q_settb (s g k : Nat) : (s ||| 2 ^ g).testBit k = (s.testBit k || decide (g = k)) := by
  rw [Nat.testBit_or, Nat.testBit_two_pow]
theorem q_full {G : Nat} (h : G < 31) : (1 : Int32) <<< (nI G &&& 31) - 1 = nI (2 ^ G - 1) := by
  rw [q_bit (by omega), show (1 : Int32) = nI 1 from rfl, pk_sub Nat.one_le_two_pow]
/-! arrays -/
theorem q_mus {M : jM} {k i : Nat} {x : Int32} : jmu M k i x k i = x := by simp [jmu, upd]
theorem q_mui {M : jM} {k i j : Nat} {x : Int32} (h : j ≠ i) : jmu M k i x k j = M k j := by simp [jmu, upd, h]
theorem q_muk {M : jM} {k i j l : Nat} {x : Int32} (h : l ≠ k) : jmu M k i x l j = M l j := by simp [jmu, h]
theorem q_mukf {M : jM} {k i l : Nat} {x : Int32} (h : l ≠ k) : jmu M k i x l = M l := by simp [jmu, h]
theorem q_mu {M : jM} {k i j l : Nat} {x : Int32} : jmu M k i x l j = if l = k ∧ j = i then x else M l j := by
  by_cases h : l = k
  · subst h
    by_cases h2 : j = i
    · subst h2; simp [q_mus]
    · simp [q_mui h2, h2]
  · simp [q_muk h, h]
theorem q_fus {F : jF} {k : Nat} {x : Int32} : jfu F k x k = x := by simp [jfu]
theorem q_fun {F : jF} {k l : Nat} {x : Int32} (h : l ≠ k) : jfu F k x l = F l := by simp [jfu, h]
