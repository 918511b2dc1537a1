/-! PURE 23: bits of the packed TYPES -/
theorem nI_and (a b : Nat) : nI a &&& nI b = nI (a &&& b) := by
  apply Int32.toBitVec_inj.mp
  unfold nI
  rw [Int32.toBitVec_and]
  apply BitVec.eq_of_toNat_eq
  rw [BitVec.toNat_and]
  show (BitVec.ofNat 32 a).toNat &&& (BitVec.ofNat 32 b).toNat = (BitVec.ofNat 32 (a &&& b)).toNat
  simp [BitVec.toNat_ofNat, Nat.and_mod_two_pow]
theorem nI_xor (a b : Nat) : nI a ^^^ nI b = nI (a ^^^ b) := by
  apply Int32.toBitVec_inj.mp
  unfold nI
  rw [Int32.toBitVec_xor]
  apply BitVec.eq_of_toNat_eq
  rw [BitVec.toNat_xor]
  show (BitVec.ofNat 32 a).toNat ^^^ (BitVec.ofNat 32 b).toNat = (BitVec.ofNat 32 (a ^^^ b)).toNat
  simp [BitVec.toNat_ofNat, Nat.xor_mod_two_pow]
theorem i_andn (x y : Int32) : x &&& (y ^^^ (-1)) = x ^^^ (x &&& y) := by
  apply Int32.toBitVec_inj.mp
  rw [Int32.toBitVec_and, Int32.toBitVec_xor, Int32.toBitVec_xor, Int32.toBitVec_and]
  have e : (-1 : Int32).toBitVec = BitVec.allOnes 32 := by decide
  rw [e]
  apply BitVec.eq_of_getLsbD_eq
  intro i hi
  simp only [BitVec.getLsbD_and, BitVec.getLsbD_xor, BitVec.getLsbD_allOnes, hi, decide_true]
  cases x.toBitVec.getLsbD i <;> cases y.toBitVec.getLsbD i <;> rfl
theorem nI_andn (a b : Nat) : nI a &&& (nI b ^^^ (-1)) = nI (a ^^^ (a &&& b)) := by rw [i_andn, nI_and, nI_xor]
theorem or_add {a b k : Nat} (h : b < 2 ^ k) : a * 2 ^ k ||| b = a * 2 ^ k + b := by
  have h1 := Nat.shiftLeft_add_eq_or_of_lt h a
  rw [Nat.shiftLeft_eq] at h1
  exact h1.symm
theorem four_pow (k : Nat) : (4 : Nat) ^ k = 2 ^ (2 * k) := by rw [Nat.pow_mul]
theorem pqk_tb {f : Nat → Nat} (h : ∀ k, f k < 4) : ∀ n i, (pqk f n).testBit i = (decide (i / 2 < n) && (f (i / 2)).testBit (i % 2))
  | 0, i => by simp [pqk]
  | n + 1, i => by
    have h1 := pqk_lt (f := f) (n := n) (fun k _ => h k)
    rw [four_pow] at h1
    rw [pqk, four_pow, Nat.add_comm, Nat.mul_comm, Nat.testBit_two_pow_mul_add _ h1, pqk_tb h n i]
    by_cases h2 : i < 2 * n
    · rw [if_pos h2, decide_eq_true (by omega : i / 2 < n), decide_eq_true (by omega : i / 2 < n + 1)]
    · rw [if_neg h2]
      by_cases h3 : i / 2 < n + 1
      · rw [decide_eq_true h3, show i / 2 = n by omega, show i - 2 * n = i % 2 by omega, Bool.true_and]
      · rw [decide_eq_false h3, Bool.false_and]
        exact Nat.testBit_lt_two_pow (Nat.lt_of_lt_of_le (h n) (by
          have : (2 : Nat) ^ 2 ≤ 2 ^ (i - 2 * n) := Nat.pow_le_pow_right (by decide) (by omega)
          omega))
theorem tb5 (i : Nat) : (5592405 : Nat).testBit i = (decide (i < 24) && decide (i % 2 = 0)) := by
  by_cases h : i < 24
  · have : ∀ i, i < 24 → (5592405 : Nat).testBit i = decide (i % 2 = 0) := by decide +kernel
    rw [this i h, decide_eq_true h, Bool.true_and]
  · rw [decide_eq_false h, Bool.false_and]
    exact Nat.testBit_lt_two_pow (Nat.lt_of_lt_of_le (by decide : 5592405 < 2 ^ 24) (Nat.pow_le_pow_right (by decide) (by omega)))
theorem tb2 {a b : Nat} (ha : a < 4) (hb : b < 4) : (((a ^^^ b).testBit 0 || (a ^^^ b).testBit 1) = false) ↔ a = b := by
  have : ∀ a, a < 4 → ∀ b, b < 4 → ((((a ^^^ b).testBit 0 || (a ^^^ b).testBit 1) = false) ↔ a = b) := by decide
  exact this a ha b hb
/-- the LOCALS of both, joined -/
theorem jn_bits {l' l : Nat → Nat} (h' : gl l') (h : gl l) : pqk l' 12 ^^^ (pqk l' 12 &&& ((((pqk l' 12 ^^^ pqk l 12) ||| (pqk l' 12 ^^^ pqk l 12) / 2) &&& 5592405) ||| (((pqk l' 12 ^^^ pqk l 12) ||| (pqk l' 12 ^^^ pqk l 12) / 2) &&& 5592405) * 2)) = pqk (jnl l' l) 12 := by
  have f' : ∀ k, l' k < 4 := fun k => by have := h' k; omega
  have f : ∀ k, l k < 4 := fun k => by have := h k; omega
  have fj : ∀ k, jnl l' l k < 4 := fun k => by have := gl_jnl (l := l) h' k; omega
  apply Nat.eq_of_testBit_eq
  intro i
  have lowt : ∀ j, (((pqk l' 12 ^^^ pqk l 12) ||| (pqk l' 12 ^^^ pqk l 12) / 2) &&& 5592405).testBit j = (decide (j < 24) && decide (j % 2 = 0) && !decide (l' (j / 2) = l (j / 2))) := by
    intro j
    rw [Nat.testBit_and, Nat.testBit_or, tb5]
    by_cases hj : j < 24 ∧ j % 2 = 0
    · have e2 : ((pqk l' 12 ^^^ pqk l 12) / 2).testBit j = (pqk l' 12 ^^^ pqk l 12).testBit (j + 1) := by
        rw [Nat.testBit_div_two]
      rw [e2, Nat.testBit_xor, Nat.testBit_xor, pqk_tb f', pqk_tb f, pqk_tb f', pqk_tb f]
      rw [show (j + 1) / 2 = j / 2 by omega, show (j + 1) % 2 = 1 by omega, hj.2, decide_eq_true (by omega : j / 2 < 12), decide_eq_true hj.1]
      simp only [Bool.true_and, Bool.and_true, decide_true]
      have t := tb2 (f' (j / 2)) (f (j / 2))
      rw [Nat.testBit_xor, Nat.testBit_xor] at t
      by_cases e : l' (j / 2) = l (j / 2)
      · rw [t.mpr e, decide_eq_true e]; rfl
      · rw [decide_eq_false e]
        cases g : ((l' (j / 2)).testBit 0 ^^ (l (j / 2)).testBit 0 || (l' (j / 2)).testBit 1 ^^ (l (j / 2)).testBit 1) with
        | true => rfl
        | false => exact absurd (t.mp g) e
    · by_cases h1 : j < 24
      · rw [decide_eq_true h1, decide_eq_false (by omega : ¬ j % 2 = 0)]; simp
      · rw [decide_eq_false h1]; simp
  generalize (((pqk l' 12 ^^^ pqk l 12) ||| (pqk l' 12 ^^^ pqk l 12) / 2) &&& 5592405) = low at lowt ⊢
  rw [Nat.testBit_xor, Nat.testBit_and, Nat.testBit_or, pqk_tb f', pqk_tb fj, lowt]
  have lo2 : (low * 2).testBit i = (decide (1 ≤ i) && low.testBit (i - 1)) := by
    have := Nat.testBit_two_pow_mul (i := 1) (a := low) (j := i)
    rw [Nat.pow_one, Nat.mul_comm] at this
    rw [this]
  rw [lo2, lowt]
  by_cases h1 : i / 2 < 12
  · rw [decide_eq_true h1, decide_eq_true (by omega : i < 24)]
    simp only [Bool.true_and]
    by_cases e : l' (i / 2) = l (i / 2)
    · have ej : jnl l' l (i / 2) = l' (i / 2) := by unfold jnl; rw [if_pos e]
      rw [ej, decide_eq_true e]
      by_cases h2 : i % 2 = 0
      · rw [decide_eq_true h2]
        by_cases h3 : 1 ≤ i
        · rw [decide_eq_false (by omega : ¬ (i - 1) % 2 = 0)]; simp
        · rw [decide_eq_false h3]; simp
      · rw [decide_eq_false h2, show (i - 1) / 2 = i / 2 by omega, decide_eq_true e]; simp
    · have ej : jnl l' l (i / 2) = 0 := by unfold jnl; rw [if_neg e]
      rw [ej, decide_eq_false e, Nat.zero_testBit]
      by_cases h2 : i % 2 = 0
      · rw [decide_eq_true h2]; simp
      · rw [decide_eq_false h2, show (i - 1) / 2 = i / 2 by omega, decide_eq_false e, decide_eq_true (by omega : 1 ≤ i), decide_eq_true (by omega : i - 1 < 24), decide_eq_true (by omega : (i - 1) % 2 = 0)]; simp
  · rw [decide_eq_false h1]; simp
/-- a LOCAL set -/
theorem st_bits {l : Nat → Nat} {n t : Nat} (h : gl l) (hn : n < 12) (ht : t < 3) : (pqk l 12 ^^^ (pqk l 12 &&& 3 * 2 ^ (2 * n))) ||| t * 2 ^ (2 * n) = pqk (upN l n t) 12 := by
  have f : ∀ k, l k < 4 := fun k => by have := h k; omega
  have fu : ∀ k, upN l n t k < 4 := fun k => by have := f k; unfold upN; split <;> omega
  apply Nat.eq_of_testBit_eq
  intro i
  have sm : ∀ v, v < 4 → (v * 2 ^ (2 * n)).testBit i = (decide (i / 2 = n) && v.testBit (i % 2)) := by
    intro v hv
    rw [Nat.mul_comm, Nat.testBit_two_pow_mul]
    by_cases h1 : i / 2 = n
    · rw [decide_eq_true (by omega : 2 * n ≤ i), decide_eq_true h1, show i - 2 * n = i % 2 by omega]
    · rw [decide_eq_false h1, Bool.false_and]
      by_cases h2 : 2 * n ≤ i
      · rw [Nat.testBit_lt_two_pow (Nat.lt_of_lt_of_le hv (by
          have : (2 : Nat) ^ 2 ≤ 2 ^ (i - 2 * n) := Nat.pow_le_pow_right (by decide) (by omega)
          omega)), Bool.and_false]
      · rw [decide_eq_false (by omega), Bool.false_and]
  rw [Nat.testBit_or, Nat.testBit_xor, Nat.testBit_and, pqk_tb f, pqk_tb fu, sm 3 (by decide), sm t (by omega)]
  have t3 : ∀ j, j < 2 → (3 : Nat).testBit j = true := by decide
  rw [t3 _ (by omega)]
  by_cases h1 : i / 2 = n
  · have e : upN l n t (i / 2) = t := by unfold upN; rw [if_pos h1]
    rw [e, decide_eq_true h1, decide_eq_true (by omega : i / 2 < 12)]
    simp
  · have e : upN l n t (i / 2) = l (i / 2) := by unfold upN; rw [if_neg h1]
    rw [e, decide_eq_false h1]
    simp
theorem l0_bits : ∀ a, a ≤ 4 → (5592405 : Int32) &&& (((1 : Int32) <<< (((2 * (nI a)) : Int32) &&& 31)) - 1) = nI (pqk (fun k => if k < a then 1 else 0) 12) := by decide +kernel
theorem q_shl {v k : Nat} (hk : k < 32) (h : v * 2 ^ k < 2 ^ 32) : nI v <<< (nI k &&& 31) = nI (v * 2 ^ k) := pk_shlN _ k (q31 k hk) h
