-- ===== more pure words =====
theorem pO_le {S : AS} (hi : iv S) {k : Nat} (hk : k < 160) : pO S k ≤ 1999909 := by
  have h := hi.2.1 k
  unfold pO
  split <;> omega
theorem pO_mod {S : AS} {r z : Nat} (hr : r < 10) (hz : z < 16) : pO S (16 * r + z) % 100 = r := by
  unfold pO
  split <;> omega
/-- what the reference's keeps answers -/
def kR (S : AS) (k : Nat) : Int32 := if pK S k then nI (sC S k) else -1
theorem kM_n {S : AS} {k : Nat} (h : ¬ kM S k = -1) : kM S k = nI (sC S k) ∧ sU S k ≠ 0 := by
  unfold kM at h ⊢
  by_cases h0 : sU S k = 0
  · rw [if_pos h0] at h; exact absurd rfl h
  · rw [if_neg h0]; exact ⟨rfl, h0⟩
theorem kM_m {S : AS} (hi : iv S) {k : Nat} (h : kM S k = -1) : pK S k = false := by
  unfold kM at h
  by_cases h0 : sU S k = 0
  · unfold pK; rw [h0]; simp
  · rw [if_neg h0] at h
    exact absurd h (nI_m1 (by have := (hi.2.2.1 k).2; omega))
theorem kR_t {S : AS} {k : Nat} (h : pK S k = true) : kR S k = nI (sC S k) := by unfold kR; rw [h]; rfl
theorem kR_f {S : AS} {k : Nat} (h : pK S k = false) : kR S k = -1 := by unfold kR; rw [h]; rfl
theorem kR_m {S : AS} (hi : iv S) {k : Nat} (h : kR S k = -1) : pK S k = false := by
  cases hk : pK S k with
  | false => rfl
  | true => rw [kR_t hk] at h; exact absurd h (nI_m1 (by have := (hi.2.2.1 k).2; omega))
theorem kR_n {S : AS} {k : Nat} (h : ¬ kR S k = -1) : pK S k = true ∧ kR S k = nI (sC S k) := by
  cases hk : pK S k with
  | false => exact absurd (kR_f hk) h
  | true => exact ⟨rfl, kR_t hk⟩
theorem sFd {S : AS} {r z : Nat} (hz : z < 16) : sF S ((16 * r + z) / 16) ((16 * r + z) % 16) = sF S r z := by
  rw [show (16 * r + z) / 16 = r by omega, show (16 * r + z) % 16 = z by omega]
def pr2 (f : Nat → Nat → Int32) (d : Int32) (x y : Int32) : Int32 := if inR 10 x && inR 16 y then f x.toNatClampNeg y.toNatClampNeg else d
theorem pr2_t {f : Nat → Nat → Int32} {d : Int32} {r z : Nat} (hr : r < 10) (hz : z < 16) : pr2 f d (nI r) (nI z) = f r z := by
  unfold pr2
  rw [inR_n (by decide) hr, inR_n (by decide) hz, nI_clamp (by omega), nI_clamp (by omega)]
  rfl
theorem pr2_f {f : Nat → Nat → Int32} {d : Int32} {x y : Int32} (h : (inR 10 x && inR 16 y) = false) : pr2 f d x y = d := by unfold pr2; rw [h]; rfl
theorem pr2_f1 {f : Nat → Nat → Int32} {d : Int32} {x y : Int32} (h : inR 10 x = false) : pr2 f d x y = d := pr2_f (by rw [h]; rfl)
theorem pr2_f2 {f : Nat → Nat → Int32} {d : Int32} {x y : Int32} (h : inR 16 y = false) : pr2 f d x y = d := pr2_f (by rw [h, Bool.and_false])
def pr1 (n : Nat) (f : Nat → Int32) (d : Int32) (x : Int32) : Int32 := if inR n x then f x.toNatClampNeg else d
theorem pr1_t {n : Nat} {f : Nat → Int32} {d : Int32} {r : Nat} (hn : n < 2147483648) (hr : r < n) : pr1 n f d (nI r) = f r := by
  unfold pr1
  rw [inR_n hn hr, nI_clamp (by omega)]
  rfl
theorem pr1_f {n : Nat} {f : Nat → Int32} {d : Int32} {x : Int32} (h : inR n x = false) : pr1 n f d x = d := by unfold pr1; rw [h]; rfl
def aLook (S : AS) (a : Nat) (x : Int32) : Int32 := if x = 0 then nI (sT S) else if x = 1 then nI (bm (fun r => !(sG S r))) else if x = 2 then nI (bm (sD S)) else if x = 3 then nI a else -1
abbrev aClaim (S : AS) (x y : Int32) : Int32 := pr2 (fun r z => nI (pO S (16 * r + z))) (-1) x y
abbrev aKept (S : AS) (x y : Int32) : Int32 := pr2 (fun r z => kR S (16 * r + z)) (-1) x y
abbrev aLost (S : AS) (x y : Int32) : Int32 := pr2 (fun r z => bI (pL S (16 * r + z))) (nI 0) x y
abbrev aSends (S : AS) (x : Int32) : Int32 := pr1 16 (fun z => nI (bm (fun r => pS S r z))) (-1) x
abbrev aSaid (S : AS) (x : Int32) : Int32 := pr1 (sN S) (fun j => nI (sR S j % 100)) (-1) x
theorem bm_step {f : Nat → Bool} {q : Nat} {b : Bool} (h : f q = b) : bm (upB (fun j => decide (j < q) && f j) q b) = bm (fun j => decide (j < q + 1) && f j) := by
  apply bm_congr
  intro j _
  unfold upB
  by_cases hj : j = q
  · subst hj; simp [h]
  · rw [if_neg hj]
    have : decide (j < q) = decide (j < q + 1) := by
      by_cases h1 : j < q
      · rw [decide_eq_true h1, decide_eq_true (by omega)]
      · rw [decide_eq_false h1, decide_eq_false (by omega)]
    show (decide (j < q) && f j) = (decide (j < q + 1) && f j)
    rw [this]
theorem bm_skip {f : Nat → Bool} {q : Nat} (h : f q = false) : bm (fun j => decide (j < q) && f j) = bm (fun j => decide (j < q + 1) && f j) := by
  rw [← bm_step h]
  apply bm_congr
  intro j _
  unfold upB
  by_cases hj : j = q
  · subst hj; simp
  · rw [if_neg hj]
theorem bm_all {f : Nat → Bool} : bm (fun j => decide (j < 10) && f j) = bm f := bm_congr (fun j hj => by simp [hj])
theorem bm_zero {f : Nat → Bool} : nI 0 = nI (bm (fun j => decide (j < 0) && f j)) := rfl
