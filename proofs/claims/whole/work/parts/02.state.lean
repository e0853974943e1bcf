-- ===== the pure state: TIME, GONE, DEAF, FORWARDS (router, source), STRAIGHT, DISTANCE (by cell), kept claim, kept until (by cell), the row's claims, how many =====
abbrev AS : Type := Nat × (Nat → Bool) × (Nat → Bool) × (Nat → Nat → Bool) × (Nat → Bool) × (Nat → Nat) × (Nat → Nat) × (Nat → Nat) × (Nat → Nat) × Nat
def sT (S : AS) : Nat := S.1
def sG (S : AS) : Nat → Bool := S.2.1
def sD (S : AS) : Nat → Bool := S.2.2.1
def sF (S : AS) : Nat → Nat → Bool := S.2.2.2.1
def sS (S : AS) : Nat → Bool := S.2.2.2.2.1
def sI (S : AS) : Nat → Nat := S.2.2.2.2.2.1
def sC (S : AS) : Nat → Nat := S.2.2.2.2.2.2.1
def sU (S : AS) : Nat → Nat := S.2.2.2.2.2.2.2.1
def sR (S : AS) : Nat → Nat := S.2.2.2.2.2.2.2.2.1
def sN (S : AS) : Nat := S.2.2.2.2.2.2.2.2.2
def uT (S : AS) (v : Nat) : AS := (v, S.2)
def uG (S : AS) (v : Nat → Bool) : AS := (sT S, v, S.2.2)
def uD (S : AS) (v : Nat → Bool) : AS := (sT S, sG S, v, S.2.2.2)
def uF (S : AS) (v : Nat → Nat → Bool) : AS := (sT S, sG S, sD S, v, S.2.2.2.2)
def uS (S : AS) (v : Nat → Bool) : AS := (sT S, sG S, sD S, sF S, v, S.2.2.2.2.2)
def uI (S : AS) (v : Nat → Nat) : AS := (sT S, sG S, sD S, sF S, sS S, v, S.2.2.2.2.2.2)
def uC (S : AS) (v : Nat → Nat) : AS := (sT S, sG S, sD S, sF S, sS S, sI S, v, S.2.2.2.2.2.2.2)
def uU (S : AS) (v : Nat → Nat) : AS := (sT S, sG S, sD S, sF S, sS S, sI S, sC S, v, S.2.2.2.2.2.2.2.2)
def uR (S : AS) (v : Nat → Nat) : AS := (sT S, sG S, sD S, sF S, sS S, sI S, sC S, sU S, v, sN S)
def uN (S : AS) (v : Nat) : AS := (sT S, sG S, sD S, sF S, sS S, sI S, sC S, sU S, sR S, v)
def upN (f : Nat → Nat) (k v : Nat) : Nat → Nat := fun j => if j = k then v else f j
def upB (f : Nat → Bool) (k : Nat) (v : Bool) : Nat → Bool := fun j => if j = k then v else f j
def upF (f : Nat → Nat → Bool) (r s : Nat) (v : Bool) : Nat → Nat → Bool := fun i j => if i = r ∧ j = s then v else f i j
def bI (b : Bool) : Int32 := if b then 1 else 0
/-- the bits of the first k -/
def bmk (f : Nat → Bool) : Nat → Nat
  | 0 => 0
  | k + 1 => bmk f k + (if f k then 2 ^ k else 0)
def bm (f : Nat → Bool) : Nat := bmk f 10
/-- a cell's own claim -/
def pO (S : AS) (c : Nat) : Nat := (if sS S c then 0 else 1000000) + 100 * sI S c + c / 16
def pB (a b : Nat) : Bool := decide (a / 100 < b / 100) || (decide (a / 100 = b / 100) && decide (b % 100 < a % 100))
def pK (S : AS) (c : Nat) : Bool := decide (sT S < sU S c) && !(sG S (sC S c % 100))
def pL (S : AS) (c : Nat) : Bool := pK S c && pB (sC S c) (pO S c)
def pS (S : AS) (r s : Nat) : Bool := !(sG S r) && (sF S r s && !(pL S (16 * r + s)))
def pH (S : AS) (r : Nat) : Bool := !(sG S r) && !(sD S r)
def pSay (S : AS) (X : Nat) : AS := uN (uR S (upN (sR S) (sN S) X)) (sN S + 1)
def pKeep (S : AS) (c h : Nat) : AS := if (!(pK S c) || (pB h (sC S c) || decide (h % 100 = sC S c % 100))) then uU (uC S (upN (sC S) c h)) (upN (sU S) c (sT S + 60)) else S
def pF1 (S : AS) (r s q : Nat) : AS := if (!(decide (q = r)) && (pH S q && pS S q s)) then pSay S (pO S (16 * q + s)) else S
def pFirst (S : AS) (r s : Nat) : Nat → AS
  | 0 => S
  | q + 1 => pF1 (pFirst S r s q) r s q
def pH2 (S : AS) (s h q : Nat) : AS := if (pS S q s && pB (pO S (16 * q + s)) h) then pSay S (pO S (16 * q + s)) else S
def pH1 (S : AS) (s h q : Nat) : AS := if (!(decide (q = h % 100)) && pH S q) then pH2 (pKeep S (16 * q + s) h) s h q else S
def pHear (S : AS) (s h : Nat) : Nat → AS
  | 0 => S
  | q + 1 => pH1 (pHear S s h q) s h q
def pRun (s : Nat) : Nat → Nat → AS → AS
  | 0, _, S => S
  | f + 1, k, S => if k < sN S then pRun s f (k + 1) (pHear S s (sR S k) 10) else S
def pData (S : AS) (r s : Nat) : AS := pRun s 1024 0 (pFirst (uN S 0) r s 10)
/-- what holds between the calls -/
def iv (S : AS) : Prop := sT S ≤ 100000 ∧ (∀ c, sI S c ≤ 9999) ∧ (∀ c, sC S c % 100 < 10 ∧ sC S c ≤ 1999909) ∧ (∀ c, sU S c ≤ 100060) ∧ sN S ≤ 1023 ∧ (∀ k, sR S k ≤ 1999909)
-- ===== the worlds =====
abbrev wB (ad : Nat → Nat) (ck : Nat → ClassId) (S : AS) (a : Nat) : va_W := [(ad 0, .inr (0, [.int (nI (sT S)), .int (nI (bm (fun r => !(sG S r)))), .int (nI (bm (sD S))), .int (nI a), .ref (ad 1), .ref (ad 2), .ref (ad 3), .ref (ad 4), .ref (ad 5), .int (nI (sN S))])),
  (ad 1, .inl (ck 1, 16, .inl (fun c => nI (bm (fun r => sF S r c))))), (ad 2, .inl (ck 2, 160, .inl (fun c => nI (pO S c)))), (ad 3, .inl (ck 3, 160, .inl (fun c => nI (sC S c)))), (ad 4, .inl (ck 4, 160, .inl (fun c => nI (sU S c)))), (ad 5, .inl (ck 5, 1023, .inl (fun c => nI (sR S c % 100))))]
abbrev tyB (ck : Nat → ClassId) : List (ClassId × FieldType) := [(ck 1, .int), (ck 2, .int), (ck 3, .int), (ck 4, .int), (ck 5, .int)]
def aB (ad : Nat → Nat) : Nat → Prop := fun q => ∃ i, i < 6 ∧ q = ad i
/-- the reference's kept claim: -1 while none was ever kept -/
def kM (S : AS) (c : Nat) : Int32 := if sU S c = 0 then -1 else nI (sC S c)
abbrev wM (ad : Nat → Nat) (ck : Nat → ClassId) (S : AS) (a : Nat) : va_W := [(ad 0, .inr (1, [.int (nI (sT S)), .int (nI a), .ref (ad 1), .ref (ad 2), .ref (ad 3), .ref (ad 4), .ref (ad 5), .ref (ad 6), .ref (ad 7), .ref (ad 8), .int (nI (sN S))])),
  (ad 1, .inl (ck 1, 10, .inl (fun c => bI (sG S c)))), (ad 2, .inl (ck 2, 10, .inl (fun c => bI (sD S c)))), (ad 3, .inl (ck 3, 160, .inl (fun c => bI (sF S (c / 16) (c % 16))))), (ad 4, .inl (ck 4, 160, .inl (fun c => bI (sS S c)))), (ad 5, .inl (ck 5, 160, .inl (fun c => nI (sI S c)))), (ad 6, .inl (ck 6, 160, .inl (fun c => kM S c))), (ad 7, .inl (ck 7, 160, .inl (fun c => nI (sU S c)))), (ad 8, .inl (ck 8, 1024, .inl (fun c => nI (sR S c))))]
abbrev tyM (ck : Nat → ClassId) : List (ClassId × FieldType) := [(ck 1, .boolean), (ck 2, .boolean), (ck 3, .boolean), (ck 4, .boolean), (ck 5, .int), (ck 6, .int), (ck 7, .int), (ck 8, .int)]
def aM (ad : Nat → Nat) : Nat → Prop := fun q => ∃ i, i < 9 ∧ q = ad i
/-- the addresses are apart -/
def apt (n : Nat) (ad : Nat → Nat) : Prop := ∀ i j, i < n → j < n → ad i = ad j → i = j
theorem dB {ad : Nat → Nat} (h : apt 6 ad) (ck : Nat → ClassId) (S : AS) (a : Nat) : va_D (aB ad) (wB ad ck S a) := by
  have key : ∀ (k : Nat) (q : Nat × va_E), (wB ad ck S a)[k]? = some q → k < 6 ∧ q.1 = ad k := by
    intro k q hk
    match k, hk with
    | 0, hk => cases hk; exact ⟨by decide, rfl⟩
    | 1, hk => cases hk; exact ⟨by decide, rfl⟩
    | 2, hk => cases hk; exact ⟨by decide, rfl⟩
    | 3, hk => cases hk; exact ⟨by decide, rfl⟩
    | 4, hk => cases hk; exact ⟨by decide, rfl⟩
    | 5, hk => cases hk; exact ⟨by decide, rfl⟩
    | k + 6, hk => simp at hk
  refine ⟨fun i j p q hi hj e => ?_, fun k q hk => ?_⟩
  · obtain ⟨h1, e1⟩ := key i p hi
    obtain ⟨h2, e2⟩ := key j q hj
    exact h i j h1 h2 (by rw [← e1, ← e2, e])
  · obtain ⟨h1, e1⟩ := key k q hk
    exact ⟨k, h1, e1⟩
theorem dM {ad : Nat → Nat} (h : apt 9 ad) (ck : Nat → ClassId) (S : AS) (a : Nat) : va_D (aM ad) (wM ad ck S a) := by
  have key : ∀ (k : Nat) (q : Nat × va_E), (wM ad ck S a)[k]? = some q → k < 9 ∧ q.1 = ad k := by
    intro k q hk
    match k, hk with
    | 0, hk => cases hk; exact ⟨by decide, rfl⟩
    | 1, hk => cases hk; exact ⟨by decide, rfl⟩
    | 2, hk => cases hk; exact ⟨by decide, rfl⟩
    | 3, hk => cases hk; exact ⟨by decide, rfl⟩
    | 4, hk => cases hk; exact ⟨by decide, rfl⟩
    | 5, hk => cases hk; exact ⟨by decide, rfl⟩
    | 6, hk => cases hk; exact ⟨by decide, rfl⟩
    | 7, hk => cases hk; exact ⟨by decide, rfl⟩
    | 8, hk => cases hk; exact ⟨by decide, rfl⟩
    | k + 9, hk => simp at hk
  refine ⟨fun i j p q hi hj e => ?_, fun k q hk => ?_⟩
  · obtain ⟨h1, e1⟩ := key i p hi
    obtain ⟨h2, e2⟩ := key j q hj
    exact h i j h1 h2 (by rw [← e1, ← e2, e])
  · obtain ⟨h1, e1⟩ := key k q hk
    exact ⟨k, h1, e1⟩
-- ===== words on numbers =====
theorem bI_eq0 (b : Bool) : bI b = 0 ↔ b = false := by cases b <;> decide
theorem bI_nar (b : Bool) : vp_nar .boolean (bI b) = bI b := by cases b <;> decide
theorem bI_narrow (b : Bool) : narrow .boolean (.int (bI b)) = .int (bI b) := by cases b <;> decide
theorem nI_m1 {n : Nat} (h : n < 2147483648) : ¬ nI n = -1 := by
  intro e
  have h1 := nI_toInt (n := n) (by simpa using h)
  rw [e] at h1
  have h2 : ((-1 : Int32)).toInt = -1 := by decide
  omega
def inR (n : Nat) (x : Int32) : Bool := !(decide (x < 0)) && decide (x < nI n)
theorem inR_t {n : Nat} (hn : n < 2147483648) {x : Int32} (h : inR n x = true) : ∃ r : Nat, r < n ∧ x = nI r := by
  simp [inR] at h
  obtain ⟨h1, h2⟩ := h
  obtain ⟨j, hj, rfl⟩ := nI_of (Int32.not_lt.mpr h1)
  exact ⟨j, (nI_ltI hj (by simpa using hn)).mp h2, rfl⟩
theorem inR_n {n r : Nat} (hn : n < 2147483648) (h : r < n) : inR n (nI r) = true := by
  have h1 : ¬ nI r < 0 := nI_pos (by omega)
  have h2 : nI r < nI n := nI_lt h (by simpa using hn)
  simp [inR, h2]
  exact Int32.not_lt.mp h1
-- ===== rows of the walk over nI =====
section VX
variable {p : Program} {l : Launch} {e : Env} {R : Room} {s : State} {m : MethodId} {args : Array Value} {below : List Frame} {meth : Method} {c : Code} {H : Heap} {locs : List Loc} {cells slots : Nat} {Q : State → Prop}
variable {cc : ByteArray} {pc : Nat} {ls : Array Slot} {rest : List Value} {D : va_G} {cl : List vw_C} {A : Nat → Prop} {a : Nat} {tys : List (ClassId × FieldType)} {ws : va_W} {H0 : Heap}
theorem xx_add (hexec : p.tables.exec = Jvm.exec) (hb : c.code = cc) {x y : Nat} (hdg : decode cc pc = .ok (.iadd, 1)) (k : W p l e R s m args below meth c H locs cells slots Q (F0 m (pc + 1) ls (.int (nI (x + y)) :: rest))) : W p l e R s m args below meth c H locs cells slots Q (F0 m pc ls (.int (nI y) :: .int (nI x) :: rest)) := lv_iadd hexec hb hdg (by rw [nI_add]; exact k)
theorem xx_mul (hexec : p.tables.exec = Jvm.exec) (hb : c.code = cc) {x y : Nat} (hdg : decode cc pc = .ok (.imul, 1)) (k : W p l e R s m args below meth c H locs cells slots Q (F0 m (pc + 1) ls (.int (nI (x * y)) :: rest))) : W p l e R s m args below meth c H locs cells slots Q (F0 m pc ls (.int (nI y) :: .int (nI x) :: rest)) := lv_imul hexec hb hdg (by rw [pk_mul]; exact k)
theorem xx_div (hexec : p.tables.exec = Jvm.exec) (hb : c.code = cc) {x y : Nat} (hdg : decode cc pc = .ok (.idiv, 1)) (hx : x < 2147483648) (h0 : 0 < y) (hy : y < 2147483648) (k : W p l e R s m args below meth c H locs cells slots Q (F0 m (pc + 1) ls (.int (nI (x / y)) :: rest))) : W p l e R s m args below meth c H locs cells slots Q (F0 m pc ls (.int (nI y) :: .int (nI x) :: rest)) := lv_idiv hexec hb hdg (nI_ne0 h0 (by simpa using hy)) (by rw [pk_div (by simpa using hx) h0 (by simpa using hy)]; exact k)
theorem xx_rem (hexec : p.tables.exec = Jvm.exec) (hb : c.code = cc) {x y : Nat} (hdg : decode cc pc = .ok (.irem, 1)) (hx : x < 2147483648) (h0 : 0 < y) (hy : y < 2147483648) (k : W p l e R s m args below meth c H locs cells slots Q (F0 m (pc + 1) ls (.int (nI (x % y)) :: rest))) : W p l e R s m args below meth c H locs cells slots Q (F0 m pc ls (.int (nI y) :: .int (nI x) :: rest)) := lv_irem hexec hb hdg (nI_ne0 h0 (by simpa using hy)) (by rw [pk_rem (by simpa using hx) h0 (by simpa using hy)]; exact k)
theorem xx_ge (hexec : p.tables.exec = Jvm.exec) (hb : c.code = cc) {x y : Nat} {off : Int} {tgt : Nat} (hdg : decode cc pc = .ok (.if_icmp .ge off, 3)) (ht : (pc : Int) + off = (tgt : Int)) (hx : x < 2147483648) (hy : y < 2147483648)
    (kt : y ≤ x → W p l e R s m args below meth c H locs cells slots Q (F0 m tgt ls rest)) (kf : x < y → W p l e R s m args below meth c H locs cells slots Q (F0 m (pc + 3) ls rest)) : W p l e R s m args below meth c H locs cells slots Q (F0 m pc ls (.int (nI y) :: .int (nI x) :: rest)) :=
  lv_icmp_ge hexec hb hdg ht (fun h => kt ((nI_leI (by simpa using hy) (by simpa using hx)).mp h)) (fun h => kf (Nat.lt_of_not_le (fun q => h ((nI_leI (by simpa using hy) (by simpa using hx)).mpr q))))
theorem xx_le (hexec : p.tables.exec = Jvm.exec) (hb : c.code = cc) {x y : Nat} {off : Int} {tgt : Nat} (hdg : decode cc pc = .ok (.if_icmp .le off, 3)) (ht : (pc : Int) + off = (tgt : Int)) (hx : x < 2147483648) (hy : y < 2147483648)
    (kt : x ≤ y → W p l e R s m args below meth c H locs cells slots Q (F0 m tgt ls rest)) (kf : y < x → W p l e R s m args below meth c H locs cells slots Q (F0 m (pc + 3) ls rest)) : W p l e R s m args below meth c H locs cells slots Q (F0 m pc ls (.int (nI y) :: .int (nI x) :: rest)) :=
  lv_icmp_le hexec hb hdg ht (fun h => kt ((nI_leI (by simpa using hx) (by simpa using hy)).mp h)) (fun h => kf (Nat.lt_of_not_le (fun q => h ((nI_leI (by simpa using hx) (by simpa using hy)).mpr q))))
theorem xx_lt (hexec : p.tables.exec = Jvm.exec) (hb : c.code = cc) {x y : Nat} {off : Int} {tgt : Nat} (hdg : decode cc pc = .ok (.if_icmp .lt off, 3)) (ht : (pc : Int) + off = (tgt : Int)) (hx : x < 2147483648) (hy : y < 2147483648)
    (kt : x < y → W p l e R s m args below meth c H locs cells slots Q (F0 m tgt ls rest)) (kf : y ≤ x → W p l e R s m args below meth c H locs cells slots Q (F0 m (pc + 3) ls rest)) : W p l e R s m args below meth c H locs cells slots Q (F0 m pc ls (.int (nI y) :: .int (nI x) :: rest)) :=
  lv_icmp_lt hexec hb hdg ht (fun h => kt ((nI_ltI (by simpa using hx) (by simpa using hy)).mp h)) (fun h => kf (Nat.le_of_not_lt (fun q => h ((nI_ltI (by simpa using hx) (by simpa using hy)).mpr q))))
theorem xx_eq (hexec : p.tables.exec = Jvm.exec) (hb : c.code = cc) {x y : Nat} {off : Int} {tgt : Nat} (hdg : decode cc pc = .ok (.if_icmp .eq off, 3)) (ht : (pc : Int) + off = (tgt : Int)) (hx : x < 2147483648) (hy : y < 2147483648)
    (kt : x = y → W p l e R s m args below meth c H locs cells slots Q (F0 m tgt ls rest)) (kf : ¬ x = y → W p l e R s m args below meth c H locs cells slots Q (F0 m (pc + 3) ls rest)) : W p l e R s m args below meth c H locs cells slots Q (F0 m pc ls (.int (nI y) :: .int (nI x) :: rest)) :=
  lv_icmp_eq hexec hb hdg ht (fun h => kt ((nI_eq (by simpa using hx) (by simpa using hy)).mp h)) (fun h => kf (fun q => h (by rw [q])))
theorem xx_ne (hexec : p.tables.exec = Jvm.exec) (hb : c.code = cc) {x y : Nat} {off : Int} {tgt : Nat} (hdg : decode cc pc = .ok (.if_icmp .ne off, 3)) (ht : (pc : Int) + off = (tgt : Int)) (hx : x < 2147483648) (hy : y < 2147483648)
    (kt : ¬ x = y → W p l e R s m args below meth c H locs cells slots Q (F0 m tgt ls rest)) (kf : x = y → W p l e R s m args below meth c H locs cells slots Q (F0 m (pc + 3) ls rest)) : W p l e R s m args below meth c H locs cells slots Q (F0 m pc ls (.int (nI y) :: .int (nI x) :: rest)) :=
  lv_icmp_ne hexec hb hdg ht (fun h => kt (fun q => h (by rw [q]))) (fun h => kf ((nI_eq (by simpa using hx) (by simpa using hy)).mp h))
theorem xx_if0 (hexec : p.tables.exec = Jvm.exec) (hb : c.code = cc) {b : Bool} {off : Int} {tgt : Nat} (hdg : decode cc pc = .ok (.ifCond .eq off, 3)) (ht : (pc : Int) + off = (tgt : Int))
    (kt : b = false → W p l e R s m args below meth c H locs cells slots Q (F0 m tgt ls rest)) (kf : b = true → W p l e R s m args below meth c H locs cells slots Q (F0 m (pc + 3) ls rest)) : W p l e R s m args below meth c H locs cells slots Q (F0 m pc ls (.int (bI b) :: rest)) :=
  lv_if_eq hexec hb hdg ht (fun h => kt ((bI_eq0 b).mp h)) (fun h => kf (by cases b with | true => rfl | false => exact absurd rfl h))
theorem xx_if1 (hexec : p.tables.exec = Jvm.exec) (hb : c.code = cc) {b : Bool} {off : Int} {tgt : Nat} (hdg : decode cc pc = .ok (.ifCond .ne off, 3)) (ht : (pc : Int) + off = (tgt : Int))
    (kt : b = true → W p l e R s m args below meth c H locs cells slots Q (F0 m tgt ls rest)) (kf : b = false → W p l e R s m args below meth c H locs cells slots Q (F0 m (pc + 3) ls rest)) : W p l e R s m args below meth c H locs cells slots Q (F0 m pc ls (.int (bI b) :: rest)) :=
  lv_if_ne hexec hb hdg ht (fun h => kt (by cases b with | true => rfl | false => exact absurd rfl h)) (fun h => kf ((bI_eq0 b).mp h))
theorem xx_ald (hexec : p.tables.exec = Jvm.exec) (hb : c.code = cc) (hK : va_K D cl tys s) (hP : va_P D cl ws H) (q0 t0 : Nat) {cA : ClassId} {n : Nat} (f : Nat → Int32) (ha : ws[q0]? = some (a, .inl (cA, n, .inl f))) (ht : tys[t0]? = some (cA, .int)) {j : Nat} (hj : j < n) (hn : n < 2147483648) (hdg : decode cc pc = .ok (.iaload, 1))
    (kk : W p l e R s m args below meth c H locs cells slots Q (F0 m (pc + 1) ls (.int (f j) :: rest))) : W p l e R s m args below meth c H locs cells slots Q (F0 m pc ls (.int (nI j) :: .ref a :: rest)) :=
  va_iald hexec hb hK hP q0 t0 ha ht (vp_in_nI hj (by simpa using hn)) hdg (by rw [nI_clamp (by omega)]; exact kk)
theorem xx_zld (hexec : p.tables.exec = Jvm.exec) (hb : c.code = cc) (hK : va_K D cl tys s) (hP : va_P D cl ws H) (q0 t0 : Nat) {cA : ClassId} {n : Nat} (f : Nat → Int32) (ha : ws[q0]? = some (a, .inl (cA, n, .inl f))) (ht : tys[t0]? = some (cA, .boolean)) {j : Nat} (hj : j < n) (hn : n < 2147483648) (hdg : decode cc pc = .ok (.baload, 1))
    (kk : W p l e R s m args below meth c H locs cells slots Q (F0 m (pc + 1) ls (.int (f j) :: rest))) : W p l e R s m args below meth c H locs cells slots Q (F0 m pc ls (.int (nI j) :: .ref a :: rest)) :=
  va_zald hexec hb hK hP q0 t0 ha ht (vp_in_nI hj (by simpa using hn)) hdg (by rw [nI_clamp (by omega)]; exact kk)
theorem xx_ast (hexec : p.tables.exec = Jvm.exec) (hb : c.code = cc) (hK : va_K D cl tys s) (hP : va_P D cl ws H) (hD : va_D A ws) (hS : va_S A H0 H locs) (q0 t0 : Nat) {cA : ClassId} {n : Nat} {f : Nat → Int32} (ha : ws[q0]? = some (a, .inl (cA, n, .inl f))) (ht : tys[t0]? = some (cA, .int)) {j : Nat} {x : Int32} (hj : j < n) (hn : n < 2147483648) (g : Nat → Int32) (hg : upd f j x = g) (hdg : decode cc pc = .ok (.iastore, 1))
    (kk : ∀ (H1 : Heap) (locs1 : List Loc), va_P D cl (ws.set q0 (a, .inl (cA, n, .inl g))) H1 → va_S A H0 H1 locs1 → W p l e R s m args below meth c H1 locs1 cells slots Q (F0 m (pc + 1) ls rest)) : W p l e R s m args below meth c H locs cells slots Q (F0 m pc ls (.int x :: .int (nI j) :: .ref a :: rest)) := by
  refine va_iast hexec hb hK hP hD hS q0 t0 ha ht (vp_in_nI hj (by simpa using hn)) hdg (fun H1 locs1 hP1 hD1 hS1 => ?_)
  rw [nI_clamp (by omega), hg] at hP1
  exact kk H1 locs1 hP1 hS1
theorem xx_zst (hexec : p.tables.exec = Jvm.exec) (hb : c.code = cc) (hK : va_K D cl tys s) (hP : va_P D cl ws H) (hD : va_D A ws) (hS : va_S A H0 H locs) (q0 t0 : Nat) {cA : ClassId} {n : Nat} {f : Nat → Int32} (ha : ws[q0]? = some (a, .inl (cA, n, .inl f))) (ht : tys[t0]? = some (cA, .boolean)) {j : Nat} {x : Bool} (hj : j < n) (hn : n < 2147483648) (g : Nat → Int32) (hg : upd f j (bI x) = g) (hdg : decode cc pc = .ok (.bastore, 1))
    (kk : ∀ (H1 : Heap) (locs1 : List Loc), va_P D cl (ws.set q0 (a, .inl (cA, n, .inl g))) H1 → va_S A H0 H1 locs1 → W p l e R s m args below meth c H1 locs1 cells slots Q (F0 m (pc + 1) ls rest)) : W p l e R s m args below meth c H locs cells slots Q (F0 m pc ls (.int (bI x) :: .int (nI j) :: .ref a :: rest)) := by
  refine va_zast hexec hb hK hP hD hS q0 t0 ha ht (vp_in_nI hj (by simpa using hn)) hdg (fun H1 locs1 hP1 hD1 hS1 => ?_)
  rw [nI_clamp (by omega), bI_nar, hg] at hP1
  exact kk H1 locs1 hP1 hS1
/-- the top by another name -/
theorem xx_top {x : Int32} (y : Int32) (h : x = y) (k : W p l e R s m args below meth c H locs cells slots Q (F0 m pc ls (.int y :: rest))) : W p l e R s m args below meth c H locs cells slots Q (F0 m pc ls (.int x :: rest)) := by rw [h]; exact k
/-- a method that changes its world: its answer, the world behind it, the rest stays -/
def QcM (v : Option Value) (P : Heap → Prop) (A : Nat → Prop) : Array Value → State → Outcome → State → Prop := fun _ st o t => o = .returned v ∧ P t.heap ∧ va_F A st t
theorem xx_callM {v : Option Value} {P : Heap → Prop} {A1 A0 : Nat → Prop} {st0 : List Value} {av : Array Value} (hr : CallRun p l e R s m args below meth c H locs cells slots 0 0 (F0 m pc ls st0) rest (QcM v P A1 av) A1) (hS : va_S A0 H0 H locs) (hA : ∀ q, A1 q → A0 q)
    (kk : ∀ (H1 : Heap) (locs1 : List Loc), P H1 → (∀ q : Nat, q < H.size → ¬ A1 q → H1[q]? = H[q]?) → va_S A0 H0 H1 locs1 → W p l e R s m args below meth c H1 locs1 cells slots Q (F0 m (pc + 3) ls (v.toList ++ rest))) : W p l e R s m args below meth c H locs cells slots Q (F0 m pc ls st0) := by
  intro T hT X
  obtain ⟨v', st₀, t, T', L, h0, X', hL, e1, ⟨hv, hp, hz, hk⟩, st⟩ := hr T hT X
  cases hv
  rw [h0] at hz hk
  obtain ⟨t2, a1, b1⟩ := kk T'.heap (locs ++ L) (by rw [e1]; exact hp) (fun q h1 h2 => by rw [e1]; exact hk q h1 h2)
    ⟨Nat.le_trans hS.1 (by rw [e1]; exact hz), fun q h1 h2 => by rw [e1, hk q (Nat.lt_of_lt_of_le h1 hS.1) (fun z => h2 (hA q z))]; exact hS.2.1 q h1 h2, fun q hq => by
      rcases List.mem_append.mp hq with h | h
      · exact hS.2.2 q h
      · exact hA _ (hL q h)⟩ T' rfl X'
  exact ⟨t2, st t2 a1, b1⟩
end VX
/-- the start of a method over a world -/
def PW (D : va_G) (w : va_W) (ty : List (ClassId × FieldType)) (av : List Value) : Array Value → State → Prop := fun v U => v = av.toArray ∧ va_P D vwCl w U.heap ∧ va_K D vwCl ty U
theorem PW_blind (D : va_G) (w : va_W) (ty : List (ClassId × FieldType)) (av : List Value) : FrameBlind (PW D w ty av) := fun a U g mk h => ⟨h.1, h.2.1, va_K.moved (u := U) (U := U.calling g mk a) (Vm.Alike.refl U.vm) h.2.2⟩
theorem PW_pre {s : State} {H : Heap} {D : va_G} {w : va_W} {ty : List (ClassId × FieldType)} {b ci : Nat} {q : vw_C} {fs : List Value} {As : List Value} (hK : va_K D vwCl ty s) (hP : va_P D vwCl w H) (hc : vwCl[ci]? = some q) (he : w[0]? = some (b, .inr (ci, fs))) : PreV s H q.1 b (PW D w ty (.ref b :: As)) As :=
  ⟨PW_blind D w ty _, va_recv hK hP hc he, fun U hU hW => ⟨rfl, by rw [hU]; exact hP, va_K.moved hW.alike hK⟩⟩
