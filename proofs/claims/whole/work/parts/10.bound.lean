-- ===== the row's bound: each claim weighs 2 to the number of the better ones; what is said weighs less than what was heard =====
def sw (g : Nat → Nat) : Nat → Nat
  | 0 => 0
  | n + 1 => sw g n + g n
theorem sw_congr {g g' : Nat → Nat} : ∀ n, (∀ i, i < n → g i = g' i) → sw g n = sw g' n
  | 0, _ => rfl
  | n + 1, h => by rw [sw, sw, sw_congr n (fun i hi => h i (by omega)), h n (by omega)]
theorem sw_le {g : Nat → Nat} {m : Nat} : ∀ n, m ≤ n → sw g m ≤ sw g n
  | 0, h => by rw [show m = 0 by omega]; exact Nat.le_refl _
  | n + 1, h => by
    by_cases e : m = n + 1
    · rw [e]; exact Nat.le_refl _
    · have := sw_le (g := g) n (show m ≤ n by omega)
      rw [sw]; omega
theorem sw_gr {g : Nat → Nat} (hg : ∀ i, 1 ≤ g i) {m : Nat} : ∀ n, m ≤ n → sw g m + (n - m) ≤ sw g n
  | 0, h => by rw [show m = 0 by omega]; exact Nat.le_refl _
  | n + 1, h => by
    by_cases e : m = n + 1
    · rw [e]; simp
    · have := sw_gr hg (m := m) n (by omega)
      have := hg n
      rw [sw]; omega
theorem sw_one {g : Nat → Nat} (hg : ∀ i, g i ≤ 1) : ∀ n, sw g n ≤ n
  | 0 => Nat.le_refl _
  | n + 1 => by
    have := sw_one hg n
    have := hg n
    rw [sw]; omega
theorem sw_ge {g : Nat → Nat} {q : Nat} : ∀ n, q < n → g q ≤ sw g n
  | 0, h => by omega
  | n + 1, h => by
    rw [sw]
    by_cases e : q = n
    · rw [e]; omega
    · have := sw_ge (g := g) n (show q < n by omega)
      omega
theorem sw_at {f f' : Nat → Nat} {q0 v : Nat} : ∀ n, q0 < n → (∀ q, q < n → q ≠ q0 → f' q = f q) → f' q0 = f q0 + v → sw f' n = sw f n + v
  | 0, h, _, _ => by omega
  | n + 1, h, h1, h2 => by
    rw [sw, sw]
    by_cases e : q0 = n
    · rw [sw_congr (g := f') (g' := f) n (fun i hi => h1 i (by omega) (by omega)), ← e, h2]
      omega
    · rw [sw_at n (by omega) (fun q hq hn => h1 q (by omega) hn) h2, h1 n (by omega) (fun q => e q.symm)]
      omega
def kx (X : Nat) : Nat := (X / 100) * 100 + (99 - X % 100)
theorem pB_kx (a b : Nat) : pB a b = decide (kx a < kx b) := by
  by_cases h : kx a < kx b
  · rw [decide_eq_true h]
    unfold kx at h
    exact pB_t.mpr (by omega)
  · rw [decide_eq_false h]
    unfold kx at h
    exact pB_f.mpr (by omega)
def cn (κ : Nat → Nat) (K : Nat) : Nat := sw (fun q => if κ q < K then 1 else 0) 10
theorem cn_bound (κ : Nat → Nat) (hinj : ∀ i j, i < 10 → j < 10 → κ i = κ j → i = j) : ∀ K, sw (fun q => if κ q < K then 2 ^ (cn κ (κ q)) else 0) 10 + 1 ≤ 2 ^ (cn κ K)
  | 0 => by
    rw [sw_congr (g' := fun _ => 0) 10 (fun i _ => by simp)]
    exact Nat.one_le_two_pow
  | K + 1 => by
    have ih := cn_bound κ hinj K
    by_cases h : ∃ q0, q0 < 10 ∧ κ q0 = K
    · obtain ⟨q0, hq, e⟩ := h
      have ne : ∀ q, q < 10 → q ≠ q0 → ((κ q < K + 1) ↔ (κ q < K)) := fun q h1 h2 => by
        have : κ q ≠ K := fun e2 => h2 (hinj q q0 h1 hq (by rw [e2, e]))
        omega
      have e1 : sw (fun q => if κ q < K + 1 then 2 ^ (cn κ (κ q)) else 0) 10 = sw (fun q => if κ q < K then 2 ^ (cn κ (κ q)) else 0) 10 + 2 ^ (cn κ K) := by
        refine sw_at 10 hq (fun q h1 h2 => ?_) ?_
        · simp only [ne q h1 h2]
        · rw [e]; simp
      have e2 : cn κ (K + 1) = cn κ K + 1 := by
        unfold cn
        refine sw_at 10 hq (fun q h1 h2 => ?_) ?_
        · simp only [ne q h1 h2]
        · rw [e]; simp
      rw [e1, e2, Nat.pow_succ]
      omega
    · have ne : ∀ q, q < 10 → ((κ q < K + 1) ↔ (κ q < K)) := fun q h1 => by
        have : κ q ≠ K := fun e2 => h ⟨q, h1, e2⟩
        omega
      have e1 : sw (fun q => if κ q < K + 1 then 2 ^ (cn κ (κ q)) else 0) 10 = sw (fun q => if κ q < K then 2 ^ (cn κ (κ q)) else 0) 10 := sw_congr 10 (fun q h1 => by simp only [ne q h1])
      have e2 : cn κ (K + 1) = cn κ K := sw_congr 10 (fun q h1 => by simp only [ne q h1])
      rw [e1, e2]
      exact ih
def wt (o : Nat → Nat) (X : Nat) : Nat := 2 ^ cn (fun q => kx (o q)) (kx X)
theorem wt_pos (o : Nat → Nat) (X : Nat) : 1 ≤ wt o X := Nat.one_le_two_pow
theorem kx_inj {o : Nat → Nat} (ho : ∀ q, q < 10 → o q % 100 = q) : ∀ i j, i < 10 → j < 10 → kx (o i) = kx (o j) → i = j := by
  intro i j hi hj h
  have h1 := ho i hi
  have h2 := ho j hj
  unfold kx at h
  omega
theorem wt_less {o : Nat → Nat} (ho : ∀ q, q < 10 → o q % 100 = q) (h : Nat) : sw (fun q => if pB (o q) h then wt o (o q) else 0) 10 + 1 ≤ wt o h := by
  have := cn_bound (fun q => kx (o q)) (kx_inj ho) (kx h)
  rw [sw_congr (g' := fun q => if kx (o q) < kx h then 2 ^ (cn (fun q => kx (o q)) (kx (o q))) else 0) 10 (fun q _ => by simp only [pB_kx, decide_eq_true_eq]; rfl)]
  exact this
theorem wt_all {o : Nat → Nat} (ho : ∀ q, q < 10 → o q % 100 = q) : sw (fun q => wt o (o q)) 10 ≤ 1023 := by
  have h := cn_bound (fun q => kx (o q)) (kx_inj ho) (sw (fun q => kx (o q)) 10 + 1)
  rw [sw_congr (g' := fun q => wt o (o q)) 10 (fun q hq => by
    have : kx (o q) ≤ sw (fun q => kx (o q)) 10 := sw_ge (g := fun q => kx (o q)) 10 hq
    show (if kx (o q) < sw (fun q => kx (o q)) 10 + 1 then _ else _) = _
    rw [if_pos (by omega)]
    rfl)] at h
  have h2 : cn (fun q => kx (o q)) (sw (fun q => kx (o q)) 10 + 1) ≤ 10 := sw_one (fun i => by dsimp only; split <;> omega) 10
  have h3 := Nat.pow_le_pow_right (n := 2) (by decide) h2
  omega
/-- a row's claim weighs -/
def gw (S : AS) (z : Nat) (i : Nat) : Nat := wt (fun q => pO S (16 * q + z)) (sR S i)
def rowOk (S : AS) (z : Nat) : Prop := ∀ i, i < sN S → sR S i % 100 < 10 ∧ sR S i = pO S (16 * (sR S i % 100) + z)
def DI (S : AS) (z k : Nat) : Prop := iv S ∧ k ≤ sN S ∧ rowOk S z ∧ k + sw (gw S z) (sN S) ≤ 1023 + sw (gw S z) k
theorem gw_eq {S K : AS} (h1 : ∀ c, pO K c = pO S c) (h2 : sR K = sR S) (z : Nat) : gw K z = gw S z := by
  funext i
  unfold gw
  rw [h2, show (fun q => pO K (16 * q + z)) = (fun q => pO S (16 * q + z)) from funext (fun q => h1 _)]
theorem gw_say (S : AS) (X z : Nat) {m : Nat} (hm : m ≤ sN S) : sw (gw (pSay S X) z) m = sw (gw S z) m := by
  refine sw_congr m (fun i hi => ?_)
  show wt (fun q => pO S (16 * q + z)) (upN (sR S) (sN S) X i) = _
  unfold upN
  rw [if_neg (by omega)]
  rfl
theorem gw_sayN (S : AS) (X z : Nat) : sw (gw (pSay S X) z) (sN S + 1) = sw (gw S z) (sN S) + wt (fun q => pO S (16 * q + z)) X := by
  rw [sw, gw_say S X z (Nat.le_refl _)]
  congr 1
  show wt (fun q => pO S (16 * q + z)) (upN (sR S) (sN S) X (sN S)) = _
  unfold upN
  rw [if_pos rfl]
theorem rowOk_say {S : AS} {z q : Nat} (hz : z < 16) (hq : q < 10) (h : rowOk S z) : rowOk (pSay S (pO S (16 * q + z))) z := by
  intro i hi
  have hi : i < sN S + 1 := hi
  show upN (sR S) (sN S) (pO S (16 * q + z)) i % 100 < 10 ∧ upN (sR S) (sN S) (pO S (16 * q + z)) i = pO S (16 * (upN (sR S) (sN S) (pO S (16 * q + z)) i % 100) + z)
  unfold upN
  by_cases e : i = sN S
  · rw [if_pos e, pO_mod hq hz]; exact ⟨hq, rfl⟩
  · rw [if_neg e]; exact h i (by omega)
theorem rowOk_eq {S K : AS} {z : Nat} (h1 : ∀ c, pO K c = pO S c) (h2 : sR K = sR S) (h3 : sN K = sN S) (h : rowOk S z) : rowOk K z := by
  intro i hi
  rw [h2, h1]
  exact h i (by rw [← h3]; exact hi)
theorem iv_n0 {S : AS} (hi : iv S) : iv (uN S 0) := ⟨hi.1, hi.2.1, hi.2.2.1, hi.2.2.2.1, Nat.zero_le _, hi.2.2.2.2.2⟩
/-- the first claims -/
theorem first_inv {S : AS} (hi : iv S) (h0 : sN S = 0) {r z : Nat} (hz : z < 16) : ∀ q, q ≤ 10 → iv (pFirst S r z q) ∧ (∀ c, pO (pFirst S r z q) c = pO S c) ∧ sN (pFirst S r z q) ≤ q ∧ rowOk (pFirst S r z q) z ∧ sw (gw (pFirst S r z q) z) (sN (pFirst S r z q)) ≤ sw (fun q => wt (fun q => pO S (16 * q + z)) (pO S (16 * q + z))) q
  | 0, _ => ⟨hi, fun _ => rfl, by show sN S ≤ 0; omega, fun i h => absurd (show i < sN S from h) (by omega), by show sw (gw S z) (sN S) ≤ 0; rw [h0]; exact Nat.le_refl _⟩
  | q + 1, hq => by
    obtain ⟨i1, i2, i3, i4, i5⟩ := first_inv hi h0 hz (r := r) q (by omega)
    show iv (pF1 (pFirst S r z q) r z q) ∧ _
    have hs : pFirst S r z (q + 1) = pF1 (pFirst S r z q) r z q := rfl
    rw [hs]
    generalize pFirst S r z q = K at i1 i2 i3 i4 i5 ⊢
    unfold pF1
    split
    · refine ⟨iv_say i1 (pO_le i1 (by omega)) (by omega), i2, by show sN K + 1 ≤ q + 1; omega, rowOk_say hz (by omega) i4, ?_⟩
      show sw (gw (pSay K (pO K (16 * q + z))) z) (sN K + 1) ≤ _
      rw [gw_sayN, sw, show (fun q => pO K (16 * q + z)) = (fun q => pO S (16 * q + z)) from funext (fun q => i2 _), i2]
      omega
    · refine ⟨i1, i2, by omega, i4, ?_⟩
      rw [sw]; omega
theorem first_DI {S : AS} (hi : iv S) (h0 : sN S = 0) {r z : Nat} (hz : z < 16) : DI (pFirst S r z 10) z 0 := by
  obtain ⟨i1, i2, i3, i4, i5⟩ := first_inv hi h0 hz (r := r) 10 (Nat.le_refl _)
  have h := wt_all (o := fun q => pO S (16 * q + z)) (fun q hq => pO_mod hq hz)
  exact ⟨i1, Nat.zero_le _, i4, by show 0 + _ ≤ 1023 + 0; omega⟩
/-- while a claim of the row is heard -/
def HI (S : AS) (z k q : Nat) : Prop := iv (pHear S z (sR S k) q) ∧ (∀ c, pO (pHear S z (sR S k) q) c = pO S c) ∧ k < sN (pHear S z (sR S k) q) ∧ rowOk (pHear S z (sR S k) q) z ∧ sR (pHear S z (sR S k) q) k = sR S k ∧
  (k + 1) + sw (gw (pHear S z (sR S k) q) z) (sN (pHear S z (sR S k) q)) + sw (fun q => if pB (pO S (16 * q + z)) (sR S k) then wt (fun q => pO S (16 * q + z)) (pO S (16 * q + z)) else 0) 10 ≤ 1023 + sw (gw (pHear S z (sR S k) q) z) (k + 1) + sw (fun q => if pB (pO S (16 * q + z)) (sR S k) then wt (fun q => pO S (16 * q + z)) (pO S (16 * q + z)) else 0) q
theorem HI_n {S : AS} {z k q : Nat} (h : HI S z k q) (hq : q < 10) (hb : pB (pO S (16 * q + z)) (sR S k) = true) : sN (pHear S z (sR S k) q) < 1023 := by
  obtain ⟨i1, i2, i3, i4, i5, i6⟩ := h
  generalize pHear S z (sR S k) q = K at i1 i2 i3 i4 i5 i6 ⊢
  have h1 := sw_gr (g := gw K z) (fun i => wt_pos _ _) (m := k + 1) (sN K) i3
  have h2 := sw_le (g := fun q => if pB (pO S (16 * q + z)) (sR S k) then wt (fun q => pO S (16 * q + z)) (pO S (16 * q + z)) else 0) (m := q + 1) 10 hq
  rw [sw, hb, if_pos rfl] at h2
  have h3 := wt_pos (fun q => pO S (16 * q + z)) (pO S (16 * q + z))
  omega
theorem hear_inv {S : AS} {z k : Nat} (hz : z < 16) (hD : DI S z k) (hk : k < sN S) : ∀ q, q ≤ 10 → HI S z k q
  | 0, _ => by
    obtain ⟨d1, d2, d3, d4⟩ := hD
    refine ⟨d1, fun _ => rfl, hk, d3, rfl, ?_⟩
    have h := wt_less (o := fun q => pO S (16 * q + z)) (fun q hq => pO_mod hq hz) (sR S k)
    show (k + 1) + sw (gw S z) (sN S) + _ ≤ 1023 + sw (gw S z) (k + 1) + 0
    rw [show sw (gw S z) (k + 1) = sw (gw S z) k + wt (fun q => pO S (16 * q + z)) (sR S k) from rfl]
    omega
  | q + 1, hq => by
    have hI := hear_inv hz hD hk q (by omega)
    have hn := HI_n hI (by omega)
    obtain ⟨i1, i2, i3, i4, i5, i6⟩ := hI
    have hr1 : sR S k % 100 < 10 := (hD.2.2.1 k hk).1
    have hr2 : sR S k ≤ 1999909 := hD.1.2.2.2.2.2 k
    unfold HI
    have hs : pHear S z (sR S k) (q + 1) = pH1 (pHear S z (sR S k) q) z (sR S k) q := rfl
    rw [hs]
    generalize pHear S z (sR S k) q = K at i1 i2 i3 i4 i5 i6 hn ⊢
    have hw : ∀ v, sw (fun q => if pB (pO S (16 * q + z)) (sR S k) then wt (fun q => pO S (16 * q + z)) (pO S (16 * q + z)) else 0) (q + 1) = v → sw (fun q => if pB (pO S (16 * q + z)) (sR S k) then wt (fun q => pO S (16 * q + z)) (pO S (16 * q + z)) else 0) q ≤ v := fun v hv => by rw [← hv, sw]; omega
    unfold pH1
    split
    · have j1 := iv_keep i1 (k := 16 * q + z) hr1 hr2
      have j2 : ∀ c, pO (pKeep K (16 * q + z) (sR S k)) c = pO S c := fun c => (pO_keep _ _ _ _).trans (i2 c)
      have j3 := sN_keep K (16 * q + z) (sR S k)
      have j4 := sR_keep K (16 * q + z) (sR S k)
      have j5 : rowOk (pKeep K (16 * q + z) (sR S k)) z := rowOk_eq (pO_keep _ _ _) j4 j3 i4
      have j6 := gw_eq (pO_keep K (16 * q + z) (sR S k)) j4 z
      rw [← j3] at i3 hn
      rw [← j4] at i5
      rw [← j6, ← j3] at i6
      generalize pKeep K (16 * q + z) (sR S k) = L at j1 j2 j5 i3 hn i5 i6 ⊢
      unfold pH2
      split
      · rename_i _ hc
        have hb : pB (pO S (16 * q + z)) (sR S k) = true := by
          have := ((Bool.and_eq_true _ _).mp hc).2
          rw [j2] at this
          exact this
        have hlt := hn hb
        refine ⟨iv_say j1 (pO_le j1 (by omega)) hlt, j2, by show k < sN L + 1; omega, rowOk_say hz (by omega) j5, ?_, ?_⟩
        · show upN (sR L) (sN L) _ k = _
          unfold upN
          rw [if_neg (by omega)]
          exact i5
        · show (k + 1) + sw (gw (pSay L (pO L (16 * q + z))) z) (sN L + 1) + _ ≤ 1023 + sw (gw (pSay L (pO L (16 * q + z))) z) (k + 1) + _
          rw [gw_sayN, gw_say L _ z (show k + 1 ≤ sN L from i3), show (fun q => pO L (16 * q + z)) = (fun q => pO S (16 * q + z)) from funext (fun q => j2 _), j2, sw.eq_def _ (q + 1)]
          dsimp only
          rw [hb, if_pos rfl]
          omega
      · refine ⟨j1, j2, i3, j5, i5, ?_⟩
        have := hw _ rfl
        omega
    · refine ⟨i1, i2, i3, i4, i5, ?_⟩
      have := hw _ rfl
      omega
theorem hear_DI {S : AS} {z k : Nat} (hz : z < 16) (hD : DI S z k) (hk : k < sN S) : DI (pHear S z (sR S k) 10) z (k + 1) := by
  obtain ⟨i1, i2, i3, i4, i5, i6⟩ := hear_inv hz hD hk 10 (Nat.le_refl _)
  exact ⟨i1, i3, i4, by omega⟩
theorem run_DI {z : Nat} (hz : z < 16) : ∀ (f k : Nat) (S : AS), DI S z k → ∃ k', DI (pRun z f k S) z k'
  | 0, k, S, h => ⟨k, h⟩
  | f + 1, k, S, h => by
    rw [pRun]
    split
    · exact run_DI hz f (k + 1) _ (hear_DI hz h (by assumption))
    · exact ⟨k, h⟩
theorem data_iv {S : AS} (hi : iv S) {r z : Nat} (hz : z < 16) : iv (pData S r z) := by
  obtain ⟨k', h⟩ := run_DI hz 1024 0 _ (first_DI (iv_n0 hi) rfl (r := r) hz)
  exact h.1
-- ===== the steps, by their cases =====
theorem f1_no1 {S : AS} {r z q : Nat} (h : q = r) : pF1 S r z q = S := if_neg (by rw [decide_eq_true h]; simp)
theorem f1_no2 {S : AS} {r z q : Nat} (h : pH S q = false) : pF1 S r z q = S := if_neg (by rw [h]; simp)
theorem f1_no3 {S : AS} {r z q : Nat} (h : pS S q z = false) : pF1 S r z q = S := if_neg (by rw [h]; simp)
theorem f1_go {S : AS} {r z q : Nat} (h1 : ¬ q = r) (h2 : pH S q = true) (h3 : pS S q z = true) : pF1 S r z q = pSay S (pO S (16 * q + z)) := if_pos (by rw [decide_eq_false h1, h2, h3]; rfl)
theorem h1_no1 {S : AS} {z h q : Nat} (e : q = h % 100) : pH1 S z h q = S := if_neg (by rw [decide_eq_true e]; simp)
theorem h1_no2 {S : AS} {z h q : Nat} (e : pH S q = false) : pH1 S z h q = S := if_neg (by rw [e]; simp)
theorem h1_go {S : AS} {z h q : Nat} (e1 : ¬ q = h % 100) (e2 : pH S q = true) : pH1 S z h q = pH2 (pKeep S (16 * q + z) h) z h q := if_pos (by rw [decide_eq_false e1, e2]; rfl)
theorem h2_no1 {S : AS} {z h q : Nat} (e : pS S q z = false) : pH2 S z h q = S := if_neg (by rw [e]; simp)
theorem h2_no2 {S : AS} {z h q : Nat} (e : pB (pO S (16 * q + z)) h = false) : pH2 S z h q = S := if_neg (by rw [e]; simp)
theorem h2_go {S : AS} {z h q : Nat} (e1 : pS S q z = true) (e2 : pB (pO S (16 * q + z)) h = true) : pH2 S z h q = pSay S (pO S (16 * q + z)) := if_pos (by rw [e1, e2]; rfl)
theorem pH_g {S : AS} {q : Nat} (h : sG S q = true) : pH S q = false := by unfold pH; rw [h]; rfl
theorem pH_d {S : AS} {q : Nat} (h : sD S q = true) : pH S q = false := by unfold pH; rw [h]; simp
theorem pH_t {S : AS} {q : Nat} (h1 : sG S q = false) (h2 : sD S q = false) : pH S q = true := by unfold pH; rw [h1, h2]; rfl
theorem pS_g {S : AS} {q z : Nat} (h : pS S q z = true) : sG S q = false := by
  unfold pS at h
  cases e : sG S q with
  | false => rfl
  | true => rw [e] at h; simp at h
