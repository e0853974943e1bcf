-- ===== bits =====
theorem bl_sl : ∀ n, n < 32 → ((nI n &&& 31).toBitVec.smod 32).toNat = n := by decide +kernel
theorem bl_and (a b : Nat) : nI a &&& nI b = nI (a &&& b) := by
  apply Int32.toBitVec_inj.1
  show BitVec.ofNat 32 a &&& BitVec.ofNat 32 b = BitVec.ofNat 32 (a &&& b)
  apply BitVec.eq_of_getLsbD_eq
  intro i hi
  simp [hi]
theorem bl_or (a b : Nat) : nI a ||| nI b = nI (a ||| b) := by
  apply Int32.toBitVec_inj.1
  show BitVec.ofNat 32 a ||| BitVec.ofNat 32 b = BitVec.ofNat 32 (a ||| b)
  apply BitVec.eq_of_getLsbD_eq
  intro i hi
  simp [hi]
theorem bl_sh : ∀ n, n < 10 → nI 1 <<< (nI n &&& 31) = nI (2 ^ n) := by decide +kernel
theorem bl_nsh : ∀ n, n < 10 → nI 1023 &&& ((nI 1 <<< (nI n &&& 31)) ^^^ (-1)) = nI (1023 - 2 ^ n) := by decide +kernel
theorem bl_bmk_lt (f : Nat → Bool) : ∀ k, bmk f k < 2 ^ k
  | 0 => by simp [bmk]
  | k + 1 => by
    have h := bl_bmk_lt f k
    rw [bmk, Nat.pow_succ]
    split <;> omega
theorem bl_test (f : Nat → Bool) : ∀ k j, (bmk f k).testBit j = (decide (j < k) && f j)
  | 0, j => by simp [bmk]
  | k + 1, j => by
    have h := bl_bmk_lt f k
    have ih := bl_test f k j
    have e : bmk f (k + 1) = 2 ^ k * (if f k then 1 else 0) + bmk f k := by
      rw [bmk]
      split <;> omega
    rw [e, Nat.testBit_two_pow_mul_add _ h]
    by_cases hj : j < k
    · rw [if_pos hj, ih]
      simp [hj, Nat.lt_succ_of_lt hj]
    · rw [if_neg hj]
      by_cases hk : j = k
      · subst hk
        cases f j <;> simp
      · have h1 : ¬ j < k + 1 := by omega
        obtain ⟨i, hi⟩ : ∃ i, j - k = i + 1 := ⟨j - k - 1, by omega⟩
        rw [hi]
        cases f k <;> simp [h1, Nat.testBit_succ]
theorem bm_lt (f : Nat → Bool) : bm f < 1024 := bl_bmk_lt f 10
theorem bm_test (f : Nat → Bool) (j : Nat) : (bm f).testBit j = (decide (j < 10) && f j) := bl_test f 10 j
theorem bm_congr {f g : Nat → Bool} (h : ∀ j, j < 10 → f j = g j) : bm f = bm g := by
  apply Nat.eq_of_testBit_eq
  intro j
  rw [bm_test, bm_test]
  by_cases hj : j < 10
  · simp [hj, h j hj]
  · simp [hj]
theorem bm_has (f : Nat → Bool) {r : Nat} (hr : r < 10) : ((nI (bm f) >>> (nI r &&& 31)) &&& nI 1) = 0 ↔ f r = false := by
  have hb := bm_lt f
  rw [pk_shrN (by omega) _ r (bl_sl r (by omega)), bl_and, ← nI_0, nI_eq (by exact Nat.lt_of_le_of_lt Nat.and_le_right (by decide)) (by decide)]
  have ht := bm_test f r
  rw [Nat.testBit_eq_decide_div_mod_eq] at ht
  rw [Nat.and_one_is_mod]
  simp [hr] at ht
  rw [← ht]
  simp
theorem bm_on (f : Nat → Bool) {r : Nat} (hr : r < 10) : nI (bm f) ||| (nI 1 <<< (nI r &&& 31)) = nI (bm (upB f r true)) := by
  rw [bl_sh r hr, bl_or]
  congr 1
  apply Nat.eq_of_testBit_eq
  intro j
  rw [Nat.testBit_or, bm_test, bm_test, Nat.testBit_two_pow, upB]
  by_cases hj : j = r
  · subst hj; simp [hr]
  · have : ¬ r = j := fun h => hj h.symm
    simp [hj, this]
theorem bm_off (f : Nat → Bool) {r : Nat} (hr : r < 10) : nI (bm f) &&& ((nI 1 <<< (nI r &&& 31)) ^^^ (-1)) = nI (bm (upB f r false)) := by
  have e : nI (bm f) = nI (bm f) &&& nI 1023 := by
    rw [bl_and]
    congr 1
    have := Nat.and_two_pow_sub_one_of_lt_two_pow (n := 10) (bm_lt f)
    simpa using this.symm
  rw [e, Int32.and_assoc, bl_nsh r hr, bl_and]
  congr 1
  apply Nat.eq_of_testBit_eq
  intro j
  have h2 : (1023 - 2 ^ r).testBit j = (decide (j < 10) && !(decide (j = r))) := by
    have : ∀ r, r < 10 → ∀ j, j < 10 → (1023 - 2 ^ r).testBit j = (decide (j < 10) && !(decide (j = r))) := by decide +kernel
    by_cases hj : j < 10
    · exact this r hr j hj
    · rw [Nat.testBit_lt_two_pow (Nat.lt_of_lt_of_le (show 1023 - 2 ^ r < 2 ^ 10 from Nat.lt_of_le_of_lt (Nat.sub_le _ _) (by decide)) (Nat.pow_le_pow_right (by decide) (by omega)))]
      simp [hj]
  rw [Nat.testBit_and, bm_test, bm_test, h2, upB]
  by_cases hj : j = r
  · subst hj; simp
  · simp [hj]
    intro h _
    exact h
-- ===== small words =====
theorem inR_mk {n : Nat} {x : Int32} (h1 : ¬ x < 0) (h2 : ¬ nI n ≤ x) : inR n x = true := by
  unfold inR
  rw [decide_eq_false h1, decide_eq_true (Int32.not_le.mp h2)]
  rfl
theorem inR_f1 {n : Nat} {x : Int32} (h : x < 0) : inR n x = false := by
  unfold inR
  rw [decide_eq_true h]
  rfl
theorem inR_f2 {n : Nat} {x : Int32} (h : nI n ≤ x) : inR n x = false := by
  unfold inR
  rw [decide_eq_false (Int32.not_lt.mpr h)]
  simp
theorem pB_t {x y : Nat} : pB x y = true ↔ (x / 100 < y / 100 ∨ (x / 100 = y / 100 ∧ y % 100 < x % 100)) := by simp [pB]
theorem pB_f {x y : Nat} : pB x y = false ↔ ¬ (x / 100 < y / 100 ∨ (x / 100 = y / 100 ∧ y % 100 < x % 100)) := by
  rw [← pB_t]; simp
theorem bI_t {b : Bool} (h : b = true) : bI b = nI 1 := by rw [h]; rfl
theorem bI_f {b : Bool} (h : b = false) : bI b = nI 0 := by rw [h]; rfl
theorem ro_i {x y : Int32} (h : x = y) : Outcome.returned (some (Value.int x)) = Outcome.returned (some (Value.int y)) := by rw [h]
