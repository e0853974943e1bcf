-- ===== what a store makes of the world's functions =====
theorem st_n (f : Nat → Nat) (k v : Nat) : upd (fun c => nI (f c)) k (nI v) = fun c => nI (upN f k v c) := by
  funext j
  unfold upd upN
  by_cases h : j = k <;> simp [h]
theorem st_b (f : Nat → Bool) (k : Nat) (v : Bool) : upd (fun c => bI (f c)) k (bI v) = fun c => bI (upB f k v c) := by
  funext j
  unfold upd upB
  by_cases h : j = k <;> simp [h]
theorem st_fw (S : AS) (r z : Nat) (b : Bool) : upd (fun c => nI (bm (fun i => sF S i c))) z (nI (bm (upB (fun i => sF S i z) r b))) = fun c => nI (bm (fun i => upF (sF S) r z b i c)) := by
  funext j
  unfold upd
  by_cases h : j = z
  · subst h
    rw [if_pos rfl]
    exact congrArg nI (bm_congr (fun i _ => by unfold upB upF; by_cases hi : i = r <;> simp [hi]))
  · rw [if_neg h]
    exact congrArg nI (bm_congr (fun i _ => by unfold upF; rw [if_neg (fun q => h q.2)]))
theorem st_fm (S : AS) (r z : Nat) (b : Bool) (hz : z < 16) : upd (fun c => bI (sF S (c / 16) (c % 16))) (16 * r + z) (bI b) = fun c => bI (upF (sF S) r z b (c / 16) (c % 16)) := by
  funext j
  unfold upd upF
  by_cases h : j = 16 * r + z
  · rw [if_pos h, if_pos (by omega)]
  · rw [if_neg h, if_neg (by omega)]
theorem st_pl (S : AS) (r z d : Nat) (b : Bool) (hz : z < 16) : upd (fun c => nI (pO S c)) (16 * r + z) (nI ((if b then 0 else 1000000) + 100 * d + r)) = fun c => nI (pO (uI (uS S (upB (sS S) (16 * r + z) b)) (upN (sI S) (16 * r + z) d)) c) := by
  funext j
  unfold upd pO
  show _ = nI ((if upB (sS S) (16 * r + z) b j then 0 else 1000000) + 100 * upN (sI S) (16 * r + z) d j + j / 16)
  unfold upB upN
  by_cases h : j = 16 * r + z
  · rw [if_pos h, if_pos h, if_pos h, h, show (16 * r + z) / 16 = r by omega]
  · rw [if_neg h, if_neg h, if_neg h]
theorem st_th (f : Nat → Bool) (r : Nat) (b : Bool) : bm (upB (fun i => !(f i)) r b) = bm (fun i => !(upB f r (!b) i)) := by
  apply bm_congr
  intro j _
  unfold upB
  by_cases h : j = r <;> simp [h]
theorem st_row (S : AS) (k r X : Nat) (hX : X % 100 = r) : upd (fun c => nI (sR S c % 100)) k (nI r) = fun c => nI (upN (sR S) k X c % 100) := by
  funext j
  unfold upd upN
  by_cases h : j = k <;> simp [h, hX]
theorem st_km (S : AS) (k h : Nat) : upd (fun c => kM S c) k (nI h) = fun c => kM (uU (uC S (upN (sC S) k h)) (upN (sU S) k (sT S + 60))) c := by
  funext j
  unfold upd kM
  show _ = if upN (sU S) k (sT S + 60) j = 0 then -1 else nI (upN (sC S) k h j)
  unfold upN
  by_cases hj : j = k
  · rw [if_pos hj, if_pos hj, if_pos hj, if_neg (by omega)]
  · rw [if_neg hj, if_neg hj, if_neg hj]
-- ===== states by two numbers, by one =====
def ps2 (f : Nat → Nat → AS) (d : AS) (x y : Int32) : AS := if inR 10 x && inR 16 y then f x.toNatClampNeg y.toNatClampNeg else d
theorem ps2_t {f : Nat → Nat → AS} {d : AS} {r z : Nat} (hr : r < 10) (hz : z < 16) : ps2 f d (nI r) (nI z) = f r z := by
  unfold ps2
  rw [inR_n (by decide) hr, inR_n (by decide) hz, nI_clamp (by omega), nI_clamp (by omega)]
  rfl
theorem ps2_f {f : Nat → Nat → AS} {d : AS} {x y : Int32} (h : (inR 10 x && inR 16 y) = false) : ps2 f d x y = d := by unfold ps2; rw [h]; rfl
theorem ps2_f1 {f : Nat → Nat → AS} {d : AS} {x y : Int32} (h : inR 10 x = false) : ps2 f d x y = d := ps2_f (by rw [h]; rfl)
theorem ps2_f2 {f : Nat → Nat → AS} {d : AS} {x y : Int32} (h : inR 16 y = false) : ps2 f d x y = d := ps2_f (by rw [h, Bool.and_false])
def ps1 (n : Nat) (f : Nat → AS) (d : AS) (x : Int32) : AS := if inR n x then f x.toNatClampNeg else d
theorem ps1_t {n : Nat} {f : Nat → AS} {d : AS} {r : Nat} (hn : n < 2147483648) (hr : r < n) : ps1 n f d (nI r) = f r := by
  unfold ps1
  rw [inR_n hn hr, nI_clamp (by omega)]
  rfl
theorem ps1_f {n : Nat} {f : Nat → AS} {d : AS} {x : Int32} (h : inR n x = false) : ps1 n f d x = d := by unfold ps1; rw [h]; rfl
-- ===== tick, place =====
def okT (S : AS) (x : Int32) : Bool := !(decide (x < nI 1)) && (!(decide (nI 100 < x)) && decide (sT S + x.toNatClampNeg ≤ 100000))
def aTick (S : AS) (x : Int32) : Int32 := if okT S x then nI (sT S + x.toNatClampNeg) else -1
def pTick (S : AS) (x : Int32) : AS := if okT S x then uT S (sT S + x.toNatClampNeg) else S
theorem okT_1 {S : AS} {x : Int32} (h : x < nI 1) : okT S x = false := by unfold okT; rw [decide_eq_true h]; rfl
theorem okT_2 {S : AS} {x : Int32} (h : nI 100 < x) : okT S x = false := by unfold okT; rw [decide_eq_true h]; simp
theorem okT_x {x : Int32} (h1 : ¬ x < nI 1) (h2 : ¬ nI 100 < x) : ∃ k : Nat, 1 ≤ k ∧ k ≤ 100 ∧ x = nI k := by
  have h0 : ¬ x < 0 := fun h => h1 (Int32.lt_trans h (by decide))
  obtain ⟨j, hj, rfl⟩ := nI_of h0
  refine ⟨j, ?_, ?_, rfl⟩
  · exact Nat.le_of_not_lt (fun q => h1 (nI_lt q (by decide)))
  · exact Nat.le_of_not_lt (fun q => h2 (nI_lt q hj))
theorem okT_3 {S : AS} {k : Nat} (h1 : 1 ≤ k) (h2 : k ≤ 100) (h3 : sT S + k ≤ 100000) : okT S (nI k) = true := by
  unfold okT
  rw [decide_eq_false (nI_nlt h1 (by omega)), decide_eq_false (nI_nlt h2 (by decide)), nI_clamp (by omega), decide_eq_true h3]
  rfl
theorem okT_4 {S : AS} {k : Nat} (h2 : k ≤ 100) (h3 : 100000 < sT S + k) : okT S (nI k) = false := by
  unfold okT
  rw [nI_clamp (by omega), decide_eq_false (show ¬ sT S + k ≤ 100000 by omega)]
  simp
theorem aTick_t {S : AS} {k : Nat} (h2 : k ≤ 100) (h : okT S (nI k) = true) : aTick S (nI k) = nI (sT S + k) := by unfold aTick; rw [h, nI_clamp (by omega)]; rfl
theorem pTick_t {S : AS} {k : Nat} (h2 : k ≤ 100) (h : okT S (nI k) = true) : pTick S (nI k) = uT S (sT S + k) := by unfold pTick; rw [h, nI_clamp (by omega)]; rfl
theorem aTick_f {S : AS} {x : Int32} (h : okT S x = false) : aTick S x = -1 := by unfold aTick; rw [h]; rfl
theorem pTick_f {S : AS} {x : Int32} (h : okT S x = false) : pTick S x = S := by unfold pTick; rw [h]; rfl
theorem pl_t {d : Int32} (h1 : ¬ d < 0) (h2 : d ≤ nI 9999) : ∃ k : Nat, k < 10000 ∧ d = nI k := by
  obtain ⟨j, hj, rfl⟩ := nI_of h1
  exact ⟨j, Nat.lt_succ_of_le ((nI_leI hj (by decide)).mp h2), rfl⟩
theorem pl_f {d : Int32} (h2 : ¬ d ≤ nI 9999) : inR 10000 d = false := by
  by_cases h : d < 0
  · exact inR_f1 h
  · obtain ⟨j, hj, rfl⟩ := nI_of h
    exact inR_f2 ((nI_leI (by decide) hj).mpr (Nat.lt_of_not_le (fun q => h2 ((nI_leI hj (by decide)).mpr q))))
/-- place's answer and state: the pair's, if the distance is one -/
def aPl (x y d : Int32) : Int32 := if inR 10000 d then pr2 (fun _ _ => nI 1) (nI 0) x y else nI 0
def pPl (S : AS) (x y d : Int32) (b : Bool) : AS := if inR 10000 d then ps2 (fun r z => uI (uS S (upB (sS S) (16 * r + z) b)) (upN (sI S) (16 * r + z) d.toNatClampNeg)) S x y else S
theorem aPl_f {x y d : Int32} (h : inR 10000 d = false) : aPl x y d = nI 0 := by unfold aPl; rw [h]; rfl
theorem pPl_f {S : AS} {x y d : Int32} {b : Bool} (h : inR 10000 d = false) : pPl S x y d b = S := by unfold pPl; rw [h]; rfl
theorem aPl_g {x y d : Int32} (h : (inR 10 x && inR 16 y) = false) : aPl x y d = nI 0 := by
  unfold aPl
  split
  · exact pr2_f h
  · rfl
theorem pPl_g {S : AS} {x y d : Int32} {b : Bool} (h : (inR 10 x && inR 16 y) = false) : pPl S x y d b = S := by
  unfold pPl
  split
  · exact ps2_f h
  · rfl
theorem aPl_t {r z k : Nat} (hr : r < 10) (hz : z < 16) (hk : k < 10000) : aPl (nI r) (nI z) (nI k) = nI 1 := by
  unfold aPl
  rw [inR_n (by decide) hk, pr2_t hr hz]
  rfl
theorem pPl_t {S : AS} {r z k : Nat} {b : Bool} (hr : r < 10) (hz : z < 16) (hk : k < 10000) : pPl S (nI r) (nI z) (nI k) b = uI (uS S (upB (sS S) (16 * r + z) b)) (upN (sI S) (16 * r + z) k) := by
  unfold pPl
  rw [inR_n (by decide) hk, ps2_t hr hz, nI_clamp (by omega)]
  rfl
abbrev aFw (x y : Int32) : Int32 := pr2 (fun _ _ => nI 1) (nI 0) x y
abbrev pFw (S : AS) (x y : Int32) (b : Bool) : AS := ps2 (fun r z => uF S (upF (sF S) r z b)) S x y
abbrev aTh (S : AS) (x : Int32) : Int32 := pr1 10 (fun r => bI (!(sG S r))) (nI 0) x
abbrev pTh (S : AS) (x : Int32) (b : Bool) : AS := ps1 10 (fun r => uG S (upB (sG S) r (!b))) S x
abbrev aDf (S : AS) (x : Int32) : Int32 := pr1 10 (fun r => bI (sD S r)) (nI 0) x
abbrev pDf (S : AS) (x : Int32) (b : Bool) : AS := ps1 10 (fun r => uD S (upB (sD S) r b)) S x
-- ===== what stays =====
theorem pO_keep (S : AS) (k h c : Nat) : pO (pKeep S k h) c = pO S c := by unfold pKeep; split <;> rfl
theorem sN_keep (S : AS) (k h : Nat) : sN (pKeep S k h) = sN S := by unfold pKeep; split <;> rfl
theorem sR_keep (S : AS) (k h : Nat) : sR (pKeep S k h) = sR S := by unfold pKeep; split <;> rfl
theorem iv_keep {S : AS} (hi : iv S) {k h : Nat} (h1 : h % 100 < 10) (h2 : h ≤ 1999909) : iv (pKeep S k h) := by
  unfold pKeep
  split
  · obtain ⟨i1, i2, i3, i4, i5, i6⟩ := hi
    refine ⟨i1, i2, fun c => ?_, fun c => ?_, i5, i6⟩
    · show upN (sC S) k h c % 100 < 10 ∧ upN (sC S) k h c ≤ 1999909
      unfold upN
      split
      · exact ⟨h1, h2⟩
      · exact i3 c
    · show upN (sU S) k (sT S + 60) c ≤ 100060
      unfold upN
      split
      · omega
      · exact i4 c
  · exact hi
theorem iv_say {S : AS} (hi : iv S) {X : Nat} (h1 : X ≤ 1999909) (h2 : sN S < 1023) : iv (pSay S X) := by
  obtain ⟨i1, i2, i3, i4, i5, i6⟩ := hi
  refine ⟨i1, i2, i3, i4, h2, fun c => ?_⟩
  show upN (sR S) (sN S) X c ≤ 1999909
  unfold upN
  split
  · exact h1
  · exact i6 c
