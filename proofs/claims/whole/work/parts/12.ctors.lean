/-- as at first -/
def S0 : AS := (0, fun _ => false, fun _ => false, fun _ _ => false, fun _ => false, fun _ => 0, fun _ => 0, fun _ => 0, fun _ => 0, 0)
theorem iv_S0 : iv S0 := ⟨by decide, fun _ => Nat.zero_le _, fun _ => ⟨(by decide : 0 % 100 < 10), Nat.zero_le _⟩, fun _ => Nat.zero_le _, Nat.zero_le _, fun _ => Nat.zero_le _⟩
def adB (a b c d e f : Nat) : Nat → Nat := fun i => match i with
  | 0 => a
  | 1 => b
  | 2 => c
  | 3 => d
  | 4 => e
  | _ => f
def ckB (b c d e f : ClassId) : Nat → ClassId := fun i => match i with
  | 1 => b
  | 2 => c
  | 3 => d
  | 4 => e
  | _ => f
def adM (a b c d e f g h k : Nat) : Nat → Nat := fun i => match i with
  | 0 => a
  | 1 => b
  | 2 => c
  | 3 => d
  | 4 => e
  | 5 => f
  | 6 => g
  | 7 => h
  | _ => k
def ckM (b c d e f g h k : ClassId) : Nat → ClassId := fun i => match i with
  | 1 => b
  | 2 => c
  | 3 => d
  | 4 => e
  | 5 => f
  | 6 => g
  | 7 => h
  | _ => k
theorem arrV_ext {cI : ClassId} {n : Nat} {f g : Nat → Value} (h : ∀ j, j < n → f j = g j) : arrV cI n f = arrV cI n g := by
  unfold arrV
  congr 1
  apply Array.ext
  · simp
  · intro i h1 h2
    simp at h1
    simp [h i h1]
theorem va_Pext {D : va_G} {cl : List vw_C} {ws : va_W} {H : Heap} (hP : va_P D cl ws H) (k : Nat) {a : Nat} {cA : ClassId} {n : Nat} {g : Nat → Int32} (g' : Nat → Int32) (hk : ws[k]? = some (a, .inl (cA, n, .inl g))) (he : ∀ j, j < n → g j = g' j) : va_P D cl (ws.set k (a, .inl (cA, n, .inl g'))) H := by
  intro i q hi
  rw [List.getElem?_set] at hi
  split at hi
  · split at hi
    · cases hi
      have h := hP k _ hk
      show H[a]? = some (vp_cell cA (n, .inl g'))
      have h2 : H[a]? = some (vp_cell cA (n, .inl g)) := h
      rw [h2]
      congr 1
      show arrV cA n (fun j => .int (g j)) = arrV cA n (fun j => .int (g' j))
      exact arrV_ext (fun j hj => by rw [he j hj])
    · cases hi
  · exact hP i q hi
theorem z_1 : bm (fun r => !(sG S0 r)) = 1023 := by decide
theorem z_2 : bm (sD S0) = 0 := by decide
theorem z_3 : (fun c => nI (bm (fun r => sF S0 r c))) = (fun _ => 0) := by
  have h : bm (fun _ => false) = 0 := by decide
  funext c
  show nI (bm (fun _ => false)) = 0
  rw [h]
  rfl
theorem wB_0 (h0 q1 q2 q3 q4 q5 : Nat) (k1 k2 k3 k4 k5 : ClassId) : wB (adB h0 q1 q2 q3 q4 q5) (ckB k1 k2 k3 k4 k5) S0 0 = [(h0, .inr (0, [.int (nI 0), .int (nI 1023), .int (nI 0), .int (nI 0), .ref q1, .ref q2, .ref q3, .ref q4, .ref q5, .int (nI 0)])), (q1, .inl (k1, 16, .inl (fun _ => 0))), (q2, .inl (k2, 160, .inl (fun c => nI (pO S0 c)))), (q3, .inl (k3, 160, .inl (fun _ => 0))), (q4, .inl (k4, 160, .inl (fun _ => 0))), (q5, .inl (k5, 1023, .inl (fun _ => 0)))] := by
  unfold wB
  rw [z_1, z_2, z_3]
  rfl
theorem wM_0 (h0 q1 q2 q3 q4 q5 q6 q7 q8 : Nat) (k1 k2 k3 k4 k5 k6 k7 k8 : ClassId) : wM (adM h0 q1 q2 q3 q4 q5 q6 q7 q8) (ckM k1 k2 k3 k4 k5 k6 k7 k8) S0 0 = [(h0, .inr (1, [.int 0, .int 0, .ref q1, .ref q2, .ref q3, .ref q4, .ref q5, .ref q6, .ref q7, .ref q8, .int 0])), (q1, .inl (k1, 10, .inl (fun _ => 0))), (q2, .inl (k2, 10, .inl (fun _ => 0))), (q3, .inl (k3, 160, .inl (fun _ => 0))), (q4, .inl (k4, 160, .inl (fun _ => 0))), (q5, .inl (k5, 160, .inl (fun _ => 0))), (q6, .inl (k6, 160, .inl (fun c => kM S0 c))), (q7, .inl (k7, 160, .inl (fun _ => 0))), (q8, .inl (k8, 1024, .inl (fun _ => 0)))] := rfl
set_option maxHeartbeats 1000000 in
set_option maxRecDepth 100000 in
theorem c0_init (l : Launch) (D : va_G) (h0 sz : Nat) : Met l yX0_init wsX0_init ({ frames := 1, cells := 5, slots := 1519, locals := 22 }) (va_Pc [.ref h0] (fun U => U.heap.size = sz ∧ va_P D vwCl [(h0, .inr (0, [.int 0, .int 0, .int 0, .int 0, .null, .null, .null, .null, .null, .int 0]))] U.heap ∧ va_K D vwCl [] U ∧ va_D (fun _ => True) [(h0, .inr (0, [.int 0, .int 0, .int 0, .int 0, .null, .null, .null, .null, .null, .int 0]))])) (va_Qv (fun _ : (Nat → Nat) × (Nat → ClassId) => True) (fun u t => u.1 0 = h0 ∧ va_P D vwCl (wB u.1 u.2 S0 0) t.heap ∧ va_K D vwCl (tyB u.2) t ∧ va_D (va_A [(h0, .inr (0, [.int 0, .int 0, .int 0, .int 0, .null, .null, .null, .null, .null, .int 0]))] sz) (wB u.1 u.2 S0 0)) (va_A [(h0, .inr (0, [.int 0, .int 0, .int 0, .int 0, .null, .null, .null, .null, .null, .int 0]))] sz)) 5 1519 (va_A [(h0, .inr (0, [.int 0, .int 0, .int 0, .int 0, .null, .null, .null, .null, .null, .int 0]))] sz) := by
  refine Met.ofW (cc := cX0_init) (maxL := 3) (ret := none) (by decide) rfl ?_
  intro p e s m args below meth c s₁ B hml hv
  obtain ⟨rfl, hsz, hP, hK, hD0⟩ := hv
  have hx := B.exec
  have hb := B.bytes
  have hr := B.returns
  have hts := atoms_spec (ws := wsX0_init) B.pre
  have hown : s.vm.findClass RX0 = some m.cls := findClass_of_methodNamed B.named
  have hlocks := B.notSynchronized
  have hin : meth.name = "<init>" := (name_of_methodNamed B.named B.method).1
  have hin0 : ∀ w ∈ wsX00, w ∈ wsX0_init := by decide +kernel
  subst hsz
  have hD := hD0.self (sz := s.heap.size)
  generalize hAe : va_A [(h0, .inr (0, [.int 0, .int 0, .int 0, .int 0, .null, .null, .null, .null, .null, .int 0]))] s.heap.size = A at hD ⊢
  have hA : ∀ q : Nat, s.heap.size ≤ q → A q := fun q h => by rw [← hAe]; exact Or.inr h
  have hS : va_S A s.heap s.heap [] := va_S.rf
  have hl := lv_entry ([.ref h0]) (n := 3) (Nat.le_of_ble_eq_true rfl)
  rw [lg_entry_eq]
  generalize (lg_sl ([.ref h0]) ++ List.replicate (3 - (lg_sl ([.ref h0])).length) Slot.unset).toArray = ls at hl ⊢
  have hl : lv_has ls 3 [(0, .ref h0)] := hl
  refine lv_aload_n hx hb dX0_init_0 rfl (lv_at hl 0 rfl) ?_
  refine W.objInit hx hb hown (hts (.methodLink RX0 1 objectInit) (by decide +kernel)) (hts (.instanceMethod objectInit) (by decide +kernel)) (hts _ (List.mem_cons_of_mem _ (List.mem_append_left _ (List.mem_of_getElem? (i := 2) rfl)))) rfl (by rw [hml]; exact hl.1) rfl dX0_init_1 (Nat.le_of_ble_eq_true rfl) (Nat.le_of_ble_eq_true rfl) ?_
  refine W.eq (g2 := F0 m 4 ls []) rfl ?_
  refine lv_aload_n hx hb dX0_init_4 rfl (lv_at hl 0 rfl) ?_
  refine lv_iconst (v := nI 0) hx hb dX0_init_5 (by decide) ?_
  refine va_put (D := D) (ci := 0) (v := .int (nI 0)) (ty := .int) (C := RX0) (T := TX0) (N := 10) hx hb hts hin0 tyX0 tyX0_ok nmX0 hown hK hP hD hS 0 rfl rfl 0 (by decide) (hts (.fieldLink RX0 7 "ClaimBench" "time" "I") (by decide +kernel)) (fun _ h9 => h9) rfl (by decide +kernel) rfl rfl (Nat.le_of_ble_eq_true rfl) dX0_init_6 (fun H locs hP hD hS => ?_)
  have hP : va_P D vwCl [(h0, .inr (0, [.int (nI 0), .int 0, .int 0, .int 0, .null, .null, .null, .null, .null, .int 0]))] H := hP
  have hD : va_D A [(h0, .inr (0, [.int (nI 0), .int 0, .int 0, .int 0, .null, .null, .null, .null, .null, .int 0]))] := hD
  refine lv_aload_n hx hb dX0_init_9 rfl (lv_at hl 0 rfl) ?_
  refine lv_sipush (v := nI 1023) hx hb dX0_init_10 (by decide) ?_
  refine va_put (D := D) (ci := 0) (v := .int (nI 1023)) (ty := .int) (C := RX0) (T := TX0) (N := 10) hx hb hts hin0 tyX0 tyX0_ok nmX0 hown hK hP hD hS 0 rfl rfl 1 (by decide) (hts (.fieldLink RX0 13 "ClaimBench" "thereBits" "I") (by decide +kernel)) (fun _ h9 => h9) rfl (by decide +kernel) rfl rfl (Nat.le_of_ble_eq_true rfl) dX0_init_13 (fun H locs hP hD hS => ?_)
  have hP : va_P D vwCl [(h0, .inr (0, [.int (nI 0), .int (nI 1023), .int 0, .int 0, .null, .null, .null, .null, .null, .int 0]))] H := hP
  have hD : va_D A [(h0, .inr (0, [.int (nI 0), .int (nI 1023), .int 0, .int 0, .null, .null, .null, .null, .null, .int 0]))] := hD
  refine lv_aload_n hx hb dX0_init_16 rfl (lv_at hl 0 rfl) ?_
  refine lv_iconst (v := nI 0) hx hb dX0_init_17 (by decide) ?_
  refine va_put (D := D) (ci := 0) (v := .int (nI 0)) (ty := .int) (C := RX0) (T := TX0) (N := 10) hx hb hts hin0 tyX0 tyX0_ok nmX0 hown hK hP hD hS 0 rfl rfl 2 (by decide) (hts (.fieldLink RX0 16 "ClaimBench" "deafBits" "I") (by decide +kernel)) (fun _ h9 => h9) rfl (by decide +kernel) rfl rfl (Nat.le_of_ble_eq_true rfl) dX0_init_18 (fun H locs hP hD hS => ?_)
  have hP : va_P D vwCl [(h0, .inr (0, [.int (nI 0), .int (nI 1023), .int (nI 0), .int 0, .null, .null, .null, .null, .null, .int 0]))] H := hP
  have hD : va_D A [(h0, .inr (0, [.int (nI 0), .int (nI 1023), .int (nI 0), .int 0, .null, .null, .null, .null, .null, .int 0]))] := hD
  refine lv_aload_n hx hb dX0_init_21 rfl (lv_at hl 0 rfl) ?_
  refine lv_iconst (v := nI 0) hx hb dX0_init_22 (by decide) ?_
  refine va_put (D := D) (ci := 0) (v := .int (nI 0)) (ty := .int) (C := RX0) (T := TX0) (N := 10) hx hb hts hin0 tyX0 tyX0_ok nmX0 hown hK hP hD hS 0 rfl rfl 3 (by decide) (hts (.fieldLink RX0 19 "ClaimBench" "saidInAll" "I") (by decide +kernel)) (fun _ h9 => h9) rfl (by decide +kernel) rfl rfl (Nat.le_of_ble_eq_true rfl) dX0_init_23 (fun H locs hP hD hS => ?_)
  have hP : va_P D vwCl [(h0, .inr (0, [.int (nI 0), .int (nI 1023), .int (nI 0), .int (nI 0), .null, .null, .null, .null, .null, .int 0]))] H := hP
  have hD : va_D A [(h0, .inr (0, [.int (nI 0), .int (nI 1023), .int (nI 0), .int (nI 0), .null, .null, .null, .null, .null, .int 0]))] := hD
  refine lv_aload_n hx hb dX0_init_26 rfl (lv_at hl 0 rfl) ?_
  refine lv_bipush (v := nI 16) hx hb dX0_init_27 (by decide) ?_
  refine va_newa (atype := .int) (n := nI 16) (a0 := (16, .inl (fun _ => 0))) (N' := 16) hx hb (hts (.arrayClass .int) (by decide +kernel)) (ty := .int) rfl hK hP hD hS hA (fun _ => rfl) (by decide) (by decide) (by decide) (show 0 + 1 ≤ 5 by omega) (show 0 + 16 ≤ 1519 by omega) dX0_init_29 (fun q1 k1 H hK hP hD hS => ?_)
  have hK : va_K D vwCl [(k1, .int)] s := hK
  have hP : va_P D vwCl [(h0, .inr (0, [.int (nI 0), .int (nI 1023), .int (nI 0), .int (nI 0), .null, .null, .null, .null, .null, .int 0])), (q1, .inl (k1, 16, .inl (fun _ => 0)))] H := hP
  have hD : va_D A [(h0, .inr (0, [.int (nI 0), .int (nI 1023), .int (nI 0), .int (nI 0), .null, .null, .null, .null, .null, .int 0])), (q1, .inl (k1, 16, .inl (fun _ => 0)))] := hD
  refine va_putF (D := D) (ci := 0) (v := .ref q1) (ty := .array .int) (C := RX0) (T := TX0) (N := 10) hx hb hts hin0 tyX0 tyX0_ok nmX0 hown hK hP hD hS 0 rfl rfl 4 (by decide) (hts (.fieldLink RX0 22 "ClaimBench" "forwardBits" "[I") (by decide +kernel)) (fun _ h9 => h9) rfl hin rfl (by decide +kernel) rfl rfl (Nat.le_of_ble_eq_true rfl) dX0_init_31 (fun H locs hP hD hS => ?_)
  have hP : va_P D vwCl [(h0, .inr (0, [.int (nI 0), .int (nI 1023), .int (nI 0), .int (nI 0), .ref q1, .null, .null, .null, .null, .int 0])), (q1, .inl (k1, 16, .inl (fun _ => 0)))] H := hP
  have hD : va_D A [(h0, .inr (0, [.int (nI 0), .int (nI 1023), .int (nI 0), .int (nI 0), .ref q1, .null, .null, .null, .null, .int 0])), (q1, .inl (k1, 16, .inl (fun _ => 0)))] := hD
  refine lv_aload_n hx hb dX0_init_34 rfl (lv_at hl 0 rfl) ?_
  refine lv_sipush (v := nI 160) hx hb dX0_init_35 (by decide) ?_
  refine va_newa (atype := .int) (n := nI 160) (a0 := (160, .inl (fun _ => 0))) (N' := 160) hx hb (hts (.arrayClass .int) (by decide +kernel)) (ty := .int) rfl hK hP hD hS hA (fun _ => rfl) (by decide) (by decide) (by decide) (show 0 + 1 + 1 ≤ 5 by omega) (show 0 + 16 + 160 ≤ 1519 by omega) dX0_init_38 (fun q2 k2 H hK hP hD hS => ?_)
  have hK : va_K D vwCl [(k1, .int), (k2, .int)] s := hK
  have hP : va_P D vwCl [(h0, .inr (0, [.int (nI 0), .int (nI 1023), .int (nI 0), .int (nI 0), .ref q1, .null, .null, .null, .null, .int 0])), (q1, .inl (k1, 16, .inl (fun _ => 0))), (q2, .inl (k2, 160, .inl (fun _ => 0)))] H := hP
  have hD : va_D A [(h0, .inr (0, [.int (nI 0), .int (nI 1023), .int (nI 0), .int (nI 0), .ref q1, .null, .null, .null, .null, .int 0])), (q1, .inl (k1, 16, .inl (fun _ => 0))), (q2, .inl (k2, 160, .inl (fun _ => 0)))] := hD
  refine va_putF (D := D) (ci := 0) (v := .ref q2) (ty := .array .int) (C := RX0) (T := TX0) (N := 10) hx hb hts hin0 tyX0 tyX0_ok nmX0 hown hK hP hD hS 0 rfl rfl 5 (by decide) (hts (.fieldLink RX0 26 "ClaimBench" "ownClaims" "[I") (by decide +kernel)) (fun _ h9 => h9) rfl hin rfl (by decide +kernel) rfl rfl (Nat.le_of_ble_eq_true rfl) dX0_init_40 (fun H locs hP hD hS => ?_)
  have hP : va_P D vwCl [(h0, .inr (0, [.int (nI 0), .int (nI 1023), .int (nI 0), .int (nI 0), .ref q1, .ref q2, .null, .null, .null, .int 0])), (q1, .inl (k1, 16, .inl (fun _ => 0))), (q2, .inl (k2, 160, .inl (fun _ => 0)))] H := hP
  have hD : va_D A [(h0, .inr (0, [.int (nI 0), .int (nI 1023), .int (nI 0), .int (nI 0), .ref q1, .ref q2, .null, .null, .null, .int 0])), (q1, .inl (k1, 16, .inl (fun _ => 0))), (q2, .inl (k2, 160, .inl (fun _ => 0)))] := hD
  refine lv_aload_n hx hb dX0_init_43 rfl (lv_at hl 0 rfl) ?_
  refine lv_sipush (v := nI 160) hx hb dX0_init_44 (by decide) ?_
  refine va_newa (atype := .int) (n := nI 160) (a0 := (160, .inl (fun _ => 0))) (N' := 160) hx hb (hts (.arrayClass .int) (by decide +kernel)) (ty := .int) rfl hK hP hD hS hA (fun _ => rfl) (by decide) (by decide) (by decide) (show 0 + 1 + 1 + 1 ≤ 5 by omega) (show 0 + 16 + 160 + 160 ≤ 1519 by omega) dX0_init_47 (fun q3 k3 H hK hP hD hS => ?_)
  have hK : va_K D vwCl [(k1, .int), (k2, .int), (k3, .int)] s := hK
  have hP : va_P D vwCl [(h0, .inr (0, [.int (nI 0), .int (nI 1023), .int (nI 0), .int (nI 0), .ref q1, .ref q2, .null, .null, .null, .int 0])), (q1, .inl (k1, 16, .inl (fun _ => 0))), (q2, .inl (k2, 160, .inl (fun _ => 0))), (q3, .inl (k3, 160, .inl (fun _ => 0)))] H := hP
  have hD : va_D A [(h0, .inr (0, [.int (nI 0), .int (nI 1023), .int (nI 0), .int (nI 0), .ref q1, .ref q2, .null, .null, .null, .int 0])), (q1, .inl (k1, 16, .inl (fun _ => 0))), (q2, .inl (k2, 160, .inl (fun _ => 0))), (q3, .inl (k3, 160, .inl (fun _ => 0)))] := hD
  refine va_putF (D := D) (ci := 0) (v := .ref q3) (ty := .array .int) (C := RX0) (T := TX0) (N := 10) hx hb hts hin0 tyX0 tyX0_ok nmX0 hown hK hP hD hS 0 rfl rfl 6 (by decide) (hts (.fieldLink RX0 29 "ClaimBench" "keptClaims" "[I") (by decide +kernel)) (fun _ h9 => h9) rfl hin rfl (by decide +kernel) rfl rfl (Nat.le_of_ble_eq_true rfl) dX0_init_49 (fun H locs hP hD hS => ?_)
  have hP : va_P D vwCl [(h0, .inr (0, [.int (nI 0), .int (nI 1023), .int (nI 0), .int (nI 0), .ref q1, .ref q2, .ref q3, .null, .null, .int 0])), (q1, .inl (k1, 16, .inl (fun _ => 0))), (q2, .inl (k2, 160, .inl (fun _ => 0))), (q3, .inl (k3, 160, .inl (fun _ => 0)))] H := hP
  have hD : va_D A [(h0, .inr (0, [.int (nI 0), .int (nI 1023), .int (nI 0), .int (nI 0), .ref q1, .ref q2, .ref q3, .null, .null, .int 0])), (q1, .inl (k1, 16, .inl (fun _ => 0))), (q2, .inl (k2, 160, .inl (fun _ => 0))), (q3, .inl (k3, 160, .inl (fun _ => 0)))] := hD
  refine lv_aload_n hx hb dX0_init_52 rfl (lv_at hl 0 rfl) ?_
  refine lv_sipush (v := nI 160) hx hb dX0_init_53 (by decide) ?_
  refine va_newa (atype := .int) (n := nI 160) (a0 := (160, .inl (fun _ => 0))) (N' := 160) hx hb (hts (.arrayClass .int) (by decide +kernel)) (ty := .int) rfl hK hP hD hS hA (fun _ => rfl) (by decide) (by decide) (by decide) (show 0 + 1 + 1 + 1 + 1 ≤ 5 by omega) (show 0 + 16 + 160 + 160 + 160 ≤ 1519 by omega) dX0_init_56 (fun q4 k4 H hK hP hD hS => ?_)
  have hK : va_K D vwCl [(k1, .int), (k2, .int), (k3, .int), (k4, .int)] s := hK
  have hP : va_P D vwCl [(h0, .inr (0, [.int (nI 0), .int (nI 1023), .int (nI 0), .int (nI 0), .ref q1, .ref q2, .ref q3, .null, .null, .int 0])), (q1, .inl (k1, 16, .inl (fun _ => 0))), (q2, .inl (k2, 160, .inl (fun _ => 0))), (q3, .inl (k3, 160, .inl (fun _ => 0))), (q4, .inl (k4, 160, .inl (fun _ => 0)))] H := hP
  have hD : va_D A [(h0, .inr (0, [.int (nI 0), .int (nI 1023), .int (nI 0), .int (nI 0), .ref q1, .ref q2, .ref q3, .null, .null, .int 0])), (q1, .inl (k1, 16, .inl (fun _ => 0))), (q2, .inl (k2, 160, .inl (fun _ => 0))), (q3, .inl (k3, 160, .inl (fun _ => 0))), (q4, .inl (k4, 160, .inl (fun _ => 0)))] := hD
  refine va_putF (D := D) (ci := 0) (v := .ref q4) (ty := .array .int) (C := RX0) (T := TX0) (N := 10) hx hb hts hin0 tyX0 tyX0_ok nmX0 hown hK hP hD hS 0 rfl rfl 7 (by decide) (hts (.fieldLink RX0 32 "ClaimBench" "keptUntil" "[I") (by decide +kernel)) (fun _ h9 => h9) rfl hin rfl (by decide +kernel) rfl rfl (Nat.le_of_ble_eq_true rfl) dX0_init_58 (fun H locs hP hD hS => ?_)
  have hP : va_P D vwCl [(h0, .inr (0, [.int (nI 0), .int (nI 1023), .int (nI 0), .int (nI 0), .ref q1, .ref q2, .ref q3, .ref q4, .null, .int 0])), (q1, .inl (k1, 16, .inl (fun _ => 0))), (q2, .inl (k2, 160, .inl (fun _ => 0))), (q3, .inl (k3, 160, .inl (fun _ => 0))), (q4, .inl (k4, 160, .inl (fun _ => 0)))] H := hP
  have hD : va_D A [(h0, .inr (0, [.int (nI 0), .int (nI 1023), .int (nI 0), .int (nI 0), .ref q1, .ref q2, .ref q3, .ref q4, .null, .int 0])), (q1, .inl (k1, 16, .inl (fun _ => 0))), (q2, .inl (k2, 160, .inl (fun _ => 0))), (q3, .inl (k3, 160, .inl (fun _ => 0))), (q4, .inl (k4, 160, .inl (fun _ => 0)))] := hD
  refine lv_aload_n hx hb dX0_init_61 rfl (lv_at hl 0 rfl) ?_
  refine lv_sipush (v := nI 1023) hx hb dX0_init_62 (by decide) ?_
  refine va_newa (atype := .int) (n := nI 1023) (a0 := (1023, .inl (fun _ => 0))) (N' := 1023) hx hb (hts (.arrayClass .int) (by decide +kernel)) (ty := .int) rfl hK hP hD hS hA (fun _ => rfl) (by decide) (by decide) (by decide) (show 0 + 1 + 1 + 1 + 1 + 1 ≤ 5 by omega) (show 0 + 16 + 160 + 160 + 160 + 1023 ≤ 1519 by omega) dX0_init_65 (fun q5 k5 H hK hP hD hS => ?_)
  have hK : va_K D vwCl [(k1, .int), (k2, .int), (k3, .int), (k4, .int), (k5, .int)] s := hK
  have hP : va_P D vwCl [(h0, .inr (0, [.int (nI 0), .int (nI 1023), .int (nI 0), .int (nI 0), .ref q1, .ref q2, .ref q3, .ref q4, .null, .int 0])), (q1, .inl (k1, 16, .inl (fun _ => 0))), (q2, .inl (k2, 160, .inl (fun _ => 0))), (q3, .inl (k3, 160, .inl (fun _ => 0))), (q4, .inl (k4, 160, .inl (fun _ => 0))), (q5, .inl (k5, 1023, .inl (fun _ => 0)))] H := hP
  have hD : va_D A [(h0, .inr (0, [.int (nI 0), .int (nI 1023), .int (nI 0), .int (nI 0), .ref q1, .ref q2, .ref q3, .ref q4, .null, .int 0])), (q1, .inl (k1, 16, .inl (fun _ => 0))), (q2, .inl (k2, 160, .inl (fun _ => 0))), (q3, .inl (k3, 160, .inl (fun _ => 0))), (q4, .inl (k4, 160, .inl (fun _ => 0))), (q5, .inl (k5, 1023, .inl (fun _ => 0)))] := hD
  refine va_putF (D := D) (ci := 0) (v := .ref q5) (ty := .array .int) (C := RX0) (T := TX0) (N := 10) hx hb hts hin0 tyX0 tyX0_ok nmX0 hown hK hP hD hS 0 rfl rfl 8 (by decide) (hts (.fieldLink RX0 35 "ClaimBench" "row" "[I") (by decide +kernel)) (fun _ h9 => h9) rfl hin rfl (by decide +kernel) rfl rfl (Nat.le_of_ble_eq_true rfl) dX0_init_67 (fun H locs hP hD hS => ?_)
  have hP : va_P D vwCl [(h0, .inr (0, [.int (nI 0), .int (nI 1023), .int (nI 0), .int (nI 0), .ref q1, .ref q2, .ref q3, .ref q4, .ref q5, .int 0])), (q1, .inl (k1, 16, .inl (fun _ => 0))), (q2, .inl (k2, 160, .inl (fun _ => 0))), (q3, .inl (k3, 160, .inl (fun _ => 0))), (q4, .inl (k4, 160, .inl (fun _ => 0))), (q5, .inl (k5, 1023, .inl (fun _ => 0)))] H := hP
  have hD : va_D A [(h0, .inr (0, [.int (nI 0), .int (nI 1023), .int (nI 0), .int (nI 0), .ref q1, .ref q2, .ref q3, .ref q4, .ref q5, .int 0])), (q1, .inl (k1, 16, .inl (fun _ => 0))), (q2, .inl (k2, 160, .inl (fun _ => 0))), (q3, .inl (k3, 160, .inl (fun _ => 0))), (q4, .inl (k4, 160, .inl (fun _ => 0))), (q5, .inl (k5, 1023, .inl (fun _ => 0)))] := hD
  refine lv_aload_n hx hb dX0_init_70 rfl (lv_at hl 0 rfl) ?_
  refine lv_iconst (v := nI 0) hx hb dX0_init_71 (by decide) ?_
  refine va_put (D := D) (ci := 0) (v := .int (nI 0)) (ty := .int) (C := RX0) (T := TX0) (N := 10) hx hb hts hin0 tyX0 tyX0_ok nmX0 hown hK hP hD hS 0 rfl rfl 9 (by decide) (hts (.fieldLink RX0 38 "ClaimBench" "rowLength" "I") (by decide +kernel)) (fun _ h9 => h9) rfl (by decide +kernel) rfl rfl (Nat.le_of_ble_eq_true rfl) dX0_init_72 (fun H locs hP hD hS => ?_)
  have hP : va_P D vwCl [(h0, .inr (0, [.int (nI 0), .int (nI 1023), .int (nI 0), .int (nI 0), .ref q1, .ref q2, .ref q3, .ref q4, .ref q5, .int (nI 0)])), (q1, .inl (k1, 16, .inl (fun _ => 0))), (q2, .inl (k2, 160, .inl (fun _ => 0))), (q3, .inl (k3, 160, .inl (fun _ => 0))), (q4, .inl (k4, 160, .inl (fun _ => 0))), (q5, .inl (k5, 1023, .inl (fun _ => 0)))] H := hP
  have hD : va_D A [(h0, .inr (0, [.int (nI 0), .int (nI 1023), .int (nI 0), .int (nI 0), .ref q1, .ref q2, .ref q3, .ref q4, .ref q5, .int (nI 0)])), (q1, .inl (k1, 16, .inl (fun _ => 0))), (q2, .inl (k2, 160, .inl (fun _ => 0))), (q3, .inl (k3, 160, .inl (fun _ => 0))), (q4, .inl (k4, 160, .inl (fun _ => 0))), (q5, .inl (k5, 1023, .inl (fun _ => 0)))] := hD
  refine W.widen (k := 5) (n := 1519) (show 0 + 1 + 1 + 1 + 1 + 1 ≤ 5 by omega) (show 0 + 16 + 160 + 160 + 160 + 1023 ≤ 1519 by omega) ?_
  have hDg : ∀ g : Nat → Int32, va_D A [(h0, .inr (0, [.int (nI 0), .int (nI 1023), .int (nI 0), .int (nI 0), .ref q1, .ref q2, .ref q3, .ref q4, .ref q5, .int (nI 0)])), (q1, .inl (k1, 16, .inl (fun _ => 0))), (q2, .inl (k2, 160, .inl g)), (q3, .inl (k3, 160, .inl (fun _ => 0))), (q4, .inl (k4, 160, .inl (fun _ => 0))), (q5, .inl (k5, 1023, .inl (fun _ => 0)))] := fun g => hD.set (p := 2) rfl
  have outer : ∀ (n r : Nat), 10 < r + n → r ≤ 10 → ∀ (g : Nat → Int32) (H : Heap) (locs : List Loc), (∀ c, c < 16 * r → g c = nI (pO S0 c)) → va_P D vwCl [(h0, .inr (0, [.int (nI 0), .int (nI 1023), .int (nI 0), .int (nI 0), .ref q1, .ref q2, .ref q3, .ref q4, .ref q5, .int (nI 0)])), (q1, .inl (k1, 16, .inl (fun _ => 0))), (q2, .inl (k2, 160, .inl g)), (q3, .inl (k3, 160, .inl (fun _ => 0))), (q4, .inl (k4, 160, .inl (fun _ => 0))), (q5, .inl (k5, 1023, .inl (fun _ => 0)))] H → va_S A s.heap H locs → ∀ (ls : Array Slot), lv_has ls 3 [(1, .int (nI r)), (0, .ref h0)] → W p l e (headSpec wsX0_init ({ frames := 1, cells := 5, slots := 1519, locals := 22 })).room s m ([.ref h0] : List Value).toArray below meth c H locs 5 1519 (MQ below (va_Qv (fun _ : (Nat → Nat) × (Nat → ClassId) => True) (fun u t => u.1 0 = h0 ∧ va_P D vwCl (wB u.1 u.2 S0 0) t.heap ∧ va_K D vwCl (tyB u.2) t ∧ va_D A (wB u.1 u.2 S0 0)) A) ([.ref h0] : List Value).toArray s 5 1519 A) (F0 m 77 ls []) := by
    intro n
    induction n with
    | zero => exact fun r h1 h2 => absurd h1 (by omega)
    | succ n ihO =>
      intro r hr1 hr2 g H locs hg hP hS ls hl
      refine lv_iload_n hx hb dX0_init_77 rfl (lv_at hl 0 rfl) ?_
      refine lv_bipush (v := nI 10) hx hb dX0_init_78 (by decide) ?_
      refine xx_ge (tgt := 119) hx hb dX0_init_80 (by decide) (by omega) (by omega) (fun hr3 => ?_) (fun hr3 => ?_)
      · exact W.vret hx hb hr (fun t ht hW => ⟨⟨(adB h0 q1 q2 q3 q4 q5, ckB k1 k2 k3 k4 k5), rfl, trivial, rfl, by rw [ht, wB_0]; exact va_Pext hP 2 (fun c => nI (pO S0 c)) rfl (fun c hc => hg c (by omega)), va_K.moved hW.alike hK, by rw [wB_0]; exact hDg _⟩, hS.F ht⟩) hS.2.2 dX0_init_119
      · refine lv_iconst (v := nI 0) hx hb dX0_init_83 (by decide) ?_
        refine lv_istore_n (lv' := [(2, .int (nI 0)), (1, .int (nI r)), (0, .ref h0)]) hx hb dX0_init_84 rfl hl (by decide) rfl (fun ls hl => ?_)
        have inner : ∀ (n z : Nat), 16 < z + n → z ≤ 16 → ∀ (g : Nat → Int32) (H : Heap) (locs : List Loc), (∀ c, c < 16 * r + z → g c = nI (pO S0 c)) → va_P D vwCl [(h0, .inr (0, [.int (nI 0), .int (nI 1023), .int (nI 0), .int (nI 0), .ref q1, .ref q2, .ref q3, .ref q4, .ref q5, .int (nI 0)])), (q1, .inl (k1, 16, .inl (fun _ => 0))), (q2, .inl (k2, 160, .inl g)), (q3, .inl (k3, 160, .inl (fun _ => 0))), (q4, .inl (k4, 160, .inl (fun _ => 0))), (q5, .inl (k5, 1023, .inl (fun _ => 0)))] H → va_S A s.heap H locs → ∀ (ls : Array Slot), lv_has ls 3 [(2, .int (nI z)), (1, .int (nI r)), (0, .ref h0)] → W p l e (headSpec wsX0_init ({ frames := 1, cells := 5, slots := 1519, locals := 22 })).room s m ([.ref h0] : List Value).toArray below meth c H locs 5 1519 (MQ below (va_Qv (fun _ : (Nat → Nat) × (Nat → ClassId) => True) (fun u t => u.1 0 = h0 ∧ va_P D vwCl (wB u.1 u.2 S0 0) t.heap ∧ va_K D vwCl (tyB u.2) t ∧ va_D A (wB u.1 u.2 S0 0)) A) ([.ref h0] : List Value).toArray s 5 1519 A) (F0 m 85 ls []) := by
          intro n
          induction n with
          | zero => exact fun z h1 h2 => absurd h1 (by omega)
          | succ n ih =>
            intro z hz1 hz2 g H locs hg hP hS ls hl
            refine lv_iload_n hx hb dX0_init_85 rfl (lv_at hl 0 rfl) ?_
            refine lv_bipush (v := nI 16) hx hb dX0_init_86 (by decide) ?_
            refine xx_ge (tgt := 113) hx hb dX0_init_88 (by decide) (by omega) (by omega) (fun hz3 => ?_) (fun hz3 => ?_)
            · refine lv_iinc (v := nI (r + 1)) (lv' := [(1, .int (nI (r + 1))), (2, .int (nI z)), (0, .ref h0)]) hx hb dX0_init_113 hl (k := 1) rfl (nI_1 _) (by decide) rfl (fun ls hl => ?_)
              refine lv_goto (tgt := 77) hx hb dX0_init_116 (by decide) ?_
              exact ihO (r + 1) (by omega) (by omega) g H locs (fun c hc => hg c (by omega)) hP hS ls (lv_sub hl [0, 2] rfl)
            · refine lv_aload_n hx hb dX0_init_91 rfl (lv_at hl 2 rfl) ?_
              refine va_get (D := D) (ci := 0) (v := .ref q2) (C := RX0) (T := TX0) (N := 10) hx hb hts hin0 hown hK hP 0 rfl rfl 5 (by decide) (hts (.fieldLink RX0 26 "ClaimBench" "ownClaims" "[I") (by decide +kernel)) (fun _ h9 => h9) rfl dX0_init_92 ?_
              refine lv_iload_n hx hb dX0_init_95 rfl (lv_at hl 1 rfl) ?_
              refine lv_iload_n hx hb dX0_init_96 rfl (lv_at hl 0 rfl) ?_
              refine W.callR (W.runS (As := [.int (nI r), .int (nI z)]) (rest := [.ref q2]) ⟨hx, hb, hml, hown, hts⟩ (c0_cellOf l r z) (va_cwS 2 hts gX0_init_X0_cellOf rfl rfl rfl (by decide +kernel) ⟨Nat.le_of_ble_eq_true rfl, Nat.le_of_ble_eq_true rfl⟩) preEq rfl rfl hl.1 rfl (lv_room (Nat.le_of_ble_eq_true rfl)) dX0_init_97 ⟨show 5 + 0 ≤ 5 by omega, show 1519 + 0 ≤ 1519 by omega⟩) ?_
              refine W.eq (g2 := F0 m 100 ls [.int (nI (16 * r + z)), .ref q2]) rfl ?_
              refine lv_iload_n hx hb dX0_init_100 rfl (lv_at hl 1 rfl) ?_
              refine lv_iconst (v := nI 0) hx hb dX0_init_101 (by decide) ?_
              refine lv_iconst (v := nI 0) hx hb dX0_init_102 (by decide) ?_
              refine W.callR (W.runS (As := [.int (nI r), .int (bI false), .int (nI 0)]) (rest := [.int (nI (16 * r + z)), .ref q2]) ⟨hx, hb, hml, hown, hts⟩ (c0_claimOf l r false 0) (va_cwS 3 hts gX0_init_X0_claimOf rfl rfl rfl (by decide +kernel) ⟨Nat.le_of_ble_eq_true rfl, Nat.le_of_ble_eq_true rfl⟩) preEq rfl rfl hl.1 rfl (lv_room (Nat.le_of_ble_eq_true rfl)) dX0_init_103 ⟨show 5 + 0 ≤ 5 by omega, show 1519 + 0 ≤ 1519 by omega⟩) ?_
              refine W.eq (g2 := F0 m 106 ls [.int (nI ((if false then 0 else 1000000) + 100 * 0 + r)), .int (nI (16 * r + z)), .ref q2]) rfl ?_
              refine xx_ast hx hb hK hP (hDg g) hS 2 1 rfl rfl (j := 16 * r + z) (by omega) (by decide) (upd g (16 * r + z) (nI ((if false then 0 else 1000000) + 100 * 0 + r))) rfl dX0_init_106 (fun H locs hP hS => ?_)
              have hP : va_P D vwCl [(h0, .inr (0, [.int (nI 0), .int (nI 1023), .int (nI 0), .int (nI 0), .ref q1, .ref q2, .ref q3, .ref q4, .ref q5, .int (nI 0)])), (q1, .inl (k1, 16, .inl (fun _ => 0))), (q2, .inl (k2, 160, .inl (upd g (16 * r + z) (nI ((if false then 0 else 1000000) + 100 * 0 + r))))), (q3, .inl (k3, 160, .inl (fun _ => 0))), (q4, .inl (k4, 160, .inl (fun _ => 0))), (q5, .inl (k5, 1023, .inl (fun _ => 0)))] H := hP
              refine lv_iinc (v := nI (z + 1)) (lv' := [(2, .int (nI (z + 1))), (1, .int (nI r)), (0, .ref h0)]) hx hb dX0_init_107 hl (k := 0) rfl (nI_1 _) (by decide) rfl (fun ls hl => ?_)
              refine lv_goto (tgt := 85) hx hb dX0_init_110 (by decide) ?_
              refine ih (z + 1) (by omega) (by omega) _ H locs (fun c hc => ?_) hP hS ls (lv_sub hl [0, 1, 2] rfl)
              unfold upd
              by_cases hc2 : c = 16 * r + z
              · rw [if_pos hc2, hc2]
                show _ = nI ((if false then 0 else 1000000) + 100 * 0 + (16 * r + z) / 16)
                rw [show (16 * r + z) / 16 = r by omega]
              · rw [if_neg hc2]; exact hg c (by omega)
        exact inner 17 0 (by omega) (by omega) g H locs (fun c hc => hg c (by omega)) hP hS ls (lv_sub hl [0, 1, 2] rfl)
  refine lv_iconst (v := nI 0) hx hb dX0_init_75 (by decide) ?_
  refine lv_istore_n (lv' := [(1, .int (nI 0)), (0, .ref h0)]) hx hb dX0_init_76 rfl hl (by decide) rfl (fun ls hl => ?_)
  exact outer 11 0 (by omega) (by omega) (fun _ => 0) H locs (fun c hc => absurd hc (by omega)) hP hS ls (lv_sub hl [0, 1] rfl)
set_option maxHeartbeats 1000000 in
set_option maxRecDepth 100000 in
theorem c1_init (l : Launch) (D : va_G) (h0 sz : Nat) : Met l yX1_init wsX1_init ({ frames := 1, cells := 8, slots := 1844, locals := 12 }) (va_Pc [.ref h0] (fun U => U.heap.size = sz ∧ va_P D vwCl [(h0, .inr (1, [.int 0, .int 0, .null, .null, .null, .null, .null, .null, .null, .null, .int 0]))] U.heap ∧ va_K D vwCl [] U ∧ va_D (fun _ => True) [(h0, .inr (1, [.int 0, .int 0, .null, .null, .null, .null, .null, .null, .null, .null, .int 0]))])) (va_Qv (fun _ : (Nat → Nat) × (Nat → ClassId) => True) (fun u t => u.1 0 = h0 ∧ va_P D vwCl (wM u.1 u.2 S0 0) t.heap ∧ va_K D vwCl (tyM u.2) t ∧ va_D (va_A [(h0, .inr (1, [.int 0, .int 0, .null, .null, .null, .null, .null, .null, .null, .null, .int 0]))] sz) (wM u.1 u.2 S0 0)) (va_A [(h0, .inr (1, [.int 0, .int 0, .null, .null, .null, .null, .null, .null, .null, .null, .int 0]))] sz)) 8 1844 (va_A [(h0, .inr (1, [.int 0, .int 0, .null, .null, .null, .null, .null, .null, .null, .null, .int 0]))] sz) := by
  refine Met.ofW (cc := cX1_init) (maxL := 2) (ret := none) (by decide) rfl ?_
  intro p e s m args below meth c s₁ B hml hv
  obtain ⟨rfl, hsz, hP, hK, hD0⟩ := hv
  have hx := B.exec
  have hb := B.bytes
  have hr := B.returns
  have hts := atoms_spec (ws := wsX1_init) B.pre
  have hown : s.vm.findClass RX1 = some m.cls := findClass_of_methodNamed B.named
  have hlocks := B.notSynchronized
  have hin : meth.name = "<init>" := (name_of_methodNamed B.named B.method).1
  have hin0 : ∀ w ∈ wsX10, w ∈ wsX1_init := by decide +kernel
  subst hsz
  have hD := hD0.self (sz := s.heap.size)
  generalize hAe : va_A [(h0, .inr (1, [.int 0, .int 0, .null, .null, .null, .null, .null, .null, .null, .null, .int 0]))] s.heap.size = A at hD ⊢
  have hA : ∀ q : Nat, s.heap.size ≤ q → A q := fun q h => by rw [← hAe]; exact Or.inr h
  have hS : va_S A s.heap s.heap [] := va_S.rf
  have hl := lv_entry ([.ref h0]) (n := 2) (Nat.le_of_ble_eq_true rfl)
  rw [lg_entry_eq]
  generalize (lg_sl ([.ref h0]) ++ List.replicate (2 - (lg_sl ([.ref h0])).length) Slot.unset).toArray = ls at hl ⊢
  have hl : lv_has ls 2 [(0, .ref h0)] := hl
  refine lv_aload_n hx hb dX1_init_0 rfl (lv_at hl 0 rfl) ?_
  refine W.objInit hx hb hown (hts (.methodLink RX1 1 objectInit) (by decide +kernel)) (hts (.instanceMethod objectInit) (by decide +kernel)) (hts _ (List.mem_cons_of_mem _ (List.mem_append_left _ (List.mem_of_getElem? (i := 2) rfl)))) rfl (by rw [hml]; exact hl.1) rfl dX1_init_1 (Nat.le_of_ble_eq_true rfl) (Nat.le_of_ble_eq_true rfl) ?_
  refine W.eq (g2 := F0 m 4 ls []) rfl ?_
  refine lv_aload_n hx hb dX1_init_4 rfl (lv_at hl 0 rfl) ?_
  refine lv_bipush (v := nI 10) hx hb dX1_init_5 (by decide) ?_
  refine va_newa (atype := .boolean) (n := nI 10) (a0 := (10, .inl (fun _ => 0))) (N' := 10) hx hb (hts (.arrayClass .boolean) (by decide +kernel)) (ty := .boolean) rfl hK hP hD hS hA (fun _ => rfl) (by decide) (by decide) (by decide) (show 0 + 1 ≤ 8 by omega) (show 0 + 10 ≤ 1844 by omega) dX1_init_7 (fun q1 k1 H hK hP hD hS => ?_)
  have hK : va_K D vwCl [(k1, .boolean)] s := hK
  have hP : va_P D vwCl [(h0, .inr (1, [.int 0, .int 0, .null, .null, .null, .null, .null, .null, .null, .null, .int 0])), (q1, .inl (k1, 10, .inl (fun _ => 0)))] H := hP
  have hD : va_D A [(h0, .inr (1, [.int 0, .int 0, .null, .null, .null, .null, .null, .null, .null, .null, .int 0])), (q1, .inl (k1, 10, .inl (fun _ => 0)))] := hD
  refine va_putF (D := D) (ci := 1) (v := .ref q1) (ty := .array .boolean) (C := RX1) (T := TX1) (N := 11) hx hb hts hin0 tyX1 tyX1_ok nmX1 hown hK hP hD hS 0 rfl rfl 2 (by decide) (hts (.fieldLink RX1 7 "ClaimBenchModel" "isGone" "[Z") (by decide +kernel)) (fun _ h9 => h9) rfl hin rfl (by decide +kernel) rfl rfl (Nat.le_of_ble_eq_true rfl) dX1_init_9 (fun H locs hP hD hS => ?_)
  have hP : va_P D vwCl [(h0, .inr (1, [.int 0, .int 0, .ref q1, .null, .null, .null, .null, .null, .null, .null, .int 0])), (q1, .inl (k1, 10, .inl (fun _ => 0)))] H := hP
  have hD : va_D A [(h0, .inr (1, [.int 0, .int 0, .ref q1, .null, .null, .null, .null, .null, .null, .null, .int 0])), (q1, .inl (k1, 10, .inl (fun _ => 0)))] := hD
  refine lv_aload_n hx hb dX1_init_12 rfl (lv_at hl 0 rfl) ?_
  refine lv_bipush (v := nI 10) hx hb dX1_init_13 (by decide) ?_
  refine va_newa (atype := .boolean) (n := nI 10) (a0 := (10, .inl (fun _ => 0))) (N' := 10) hx hb (hts (.arrayClass .boolean) (by decide +kernel)) (ty := .boolean) rfl hK hP hD hS hA (fun _ => rfl) (by decide) (by decide) (by decide) (show 0 + 1 + 1 ≤ 8 by omega) (show 0 + 10 + 10 ≤ 1844 by omega) dX1_init_15 (fun q2 k2 H hK hP hD hS => ?_)
  have hK : va_K D vwCl [(k1, .boolean), (k2, .boolean)] s := hK
  have hP : va_P D vwCl [(h0, .inr (1, [.int 0, .int 0, .ref q1, .null, .null, .null, .null, .null, .null, .null, .int 0])), (q1, .inl (k1, 10, .inl (fun _ => 0))), (q2, .inl (k2, 10, .inl (fun _ => 0)))] H := hP
  have hD : va_D A [(h0, .inr (1, [.int 0, .int 0, .ref q1, .null, .null, .null, .null, .null, .null, .null, .int 0])), (q1, .inl (k1, 10, .inl (fun _ => 0))), (q2, .inl (k2, 10, .inl (fun _ => 0)))] := hD
  refine va_putF (D := D) (ci := 1) (v := .ref q2) (ty := .array .boolean) (C := RX1) (T := TX1) (N := 11) hx hb hts hin0 tyX1 tyX1_ok nmX1 hown hK hP hD hS 0 rfl rfl 3 (by decide) (hts (.fieldLink RX1 13 "ClaimBenchModel" "isDeaf" "[Z") (by decide +kernel)) (fun _ h9 => h9) rfl hin rfl (by decide +kernel) rfl rfl (Nat.le_of_ble_eq_true rfl) dX1_init_17 (fun H locs hP hD hS => ?_)
  have hP : va_P D vwCl [(h0, .inr (1, [.int 0, .int 0, .ref q1, .ref q2, .null, .null, .null, .null, .null, .null, .int 0])), (q1, .inl (k1, 10, .inl (fun _ => 0))), (q2, .inl (k2, 10, .inl (fun _ => 0)))] H := hP
  have hD : va_D A [(h0, .inr (1, [.int 0, .int 0, .ref q1, .ref q2, .null, .null, .null, .null, .null, .null, .int 0])), (q1, .inl (k1, 10, .inl (fun _ => 0))), (q2, .inl (k2, 10, .inl (fun _ => 0)))] := hD
  refine lv_aload_n hx hb dX1_init_20 rfl (lv_at hl 0 rfl) ?_
  refine lv_sipush (v := nI 160) hx hb dX1_init_21 (by decide) ?_
  refine va_newa (atype := .boolean) (n := nI 160) (a0 := (160, .inl (fun _ => 0))) (N' := 160) hx hb (hts (.arrayClass .boolean) (by decide +kernel)) (ty := .boolean) rfl hK hP hD hS hA (fun _ => rfl) (by decide) (by decide) (by decide) (show 0 + 1 + 1 + 1 ≤ 8 by omega) (show 0 + 10 + 10 + 160 ≤ 1844 by omega) dX1_init_24 (fun q3 k3 H hK hP hD hS => ?_)
  have hK : va_K D vwCl [(k1, .boolean), (k2, .boolean), (k3, .boolean)] s := hK
  have hP : va_P D vwCl [(h0, .inr (1, [.int 0, .int 0, .ref q1, .ref q2, .null, .null, .null, .null, .null, .null, .int 0])), (q1, .inl (k1, 10, .inl (fun _ => 0))), (q2, .inl (k2, 10, .inl (fun _ => 0))), (q3, .inl (k3, 160, .inl (fun _ => 0)))] H := hP
  have hD : va_D A [(h0, .inr (1, [.int 0, .int 0, .ref q1, .ref q2, .null, .null, .null, .null, .null, .null, .int 0])), (q1, .inl (k1, 10, .inl (fun _ => 0))), (q2, .inl (k2, 10, .inl (fun _ => 0))), (q3, .inl (k3, 160, .inl (fun _ => 0)))] := hD
  refine va_putF (D := D) (ci := 1) (v := .ref q3) (ty := .array .boolean) (C := RX1) (T := TX1) (N := 11) hx hb hts hin0 tyX1 tyX1_ok nmX1 hown hK hP hD hS 0 rfl rfl 4 (by decide) (hts (.fieldLink RX1 16 "ClaimBenchModel" "forwards" "[Z") (by decide +kernel)) (fun _ h9 => h9) rfl hin rfl (by decide +kernel) rfl rfl (Nat.le_of_ble_eq_true rfl) dX1_init_26 (fun H locs hP hD hS => ?_)
  have hP : va_P D vwCl [(h0, .inr (1, [.int 0, .int 0, .ref q1, .ref q2, .ref q3, .null, .null, .null, .null, .null, .int 0])), (q1, .inl (k1, 10, .inl (fun _ => 0))), (q2, .inl (k2, 10, .inl (fun _ => 0))), (q3, .inl (k3, 160, .inl (fun _ => 0)))] H := hP
  have hD : va_D A [(h0, .inr (1, [.int 0, .int 0, .ref q1, .ref q2, .ref q3, .null, .null, .null, .null, .null, .int 0])), (q1, .inl (k1, 10, .inl (fun _ => 0))), (q2, .inl (k2, 10, .inl (fun _ => 0))), (q3, .inl (k3, 160, .inl (fun _ => 0)))] := hD
  refine lv_aload_n hx hb dX1_init_29 rfl (lv_at hl 0 rfl) ?_
  refine lv_sipush (v := nI 160) hx hb dX1_init_30 (by decide) ?_
  refine va_newa (atype := .boolean) (n := nI 160) (a0 := (160, .inl (fun _ => 0))) (N' := 160) hx hb (hts (.arrayClass .boolean) (by decide +kernel)) (ty := .boolean) rfl hK hP hD hS hA (fun _ => rfl) (by decide) (by decide) (by decide) (show 0 + 1 + 1 + 1 + 1 ≤ 8 by omega) (show 0 + 10 + 10 + 160 + 160 ≤ 1844 by omega) dX1_init_33 (fun q4 k4 H hK hP hD hS => ?_)
  have hK : va_K D vwCl [(k1, .boolean), (k2, .boolean), (k3, .boolean), (k4, .boolean)] s := hK
  have hP : va_P D vwCl [(h0, .inr (1, [.int 0, .int 0, .ref q1, .ref q2, .ref q3, .null, .null, .null, .null, .null, .int 0])), (q1, .inl (k1, 10, .inl (fun _ => 0))), (q2, .inl (k2, 10, .inl (fun _ => 0))), (q3, .inl (k3, 160, .inl (fun _ => 0))), (q4, .inl (k4, 160, .inl (fun _ => 0)))] H := hP
  have hD : va_D A [(h0, .inr (1, [.int 0, .int 0, .ref q1, .ref q2, .ref q3, .null, .null, .null, .null, .null, .int 0])), (q1, .inl (k1, 10, .inl (fun _ => 0))), (q2, .inl (k2, 10, .inl (fun _ => 0))), (q3, .inl (k3, 160, .inl (fun _ => 0))), (q4, .inl (k4, 160, .inl (fun _ => 0)))] := hD
  refine va_putF (D := D) (ci := 1) (v := .ref q4) (ty := .array .boolean) (C := RX1) (T := TX1) (N := 11) hx hb hts hin0 tyX1 tyX1_ok nmX1 hown hK hP hD hS 0 rfl rfl 5 (by decide) (hts (.fieldLink RX1 19 "ClaimBenchModel" "isStraight" "[Z") (by decide +kernel)) (fun _ h9 => h9) rfl hin rfl (by decide +kernel) rfl rfl (Nat.le_of_ble_eq_true rfl) dX1_init_35 (fun H locs hP hD hS => ?_)
  have hP : va_P D vwCl [(h0, .inr (1, [.int 0, .int 0, .ref q1, .ref q2, .ref q3, .ref q4, .null, .null, .null, .null, .int 0])), (q1, .inl (k1, 10, .inl (fun _ => 0))), (q2, .inl (k2, 10, .inl (fun _ => 0))), (q3, .inl (k3, 160, .inl (fun _ => 0))), (q4, .inl (k4, 160, .inl (fun _ => 0)))] H := hP
  have hD : va_D A [(h0, .inr (1, [.int 0, .int 0, .ref q1, .ref q2, .ref q3, .ref q4, .null, .null, .null, .null, .int 0])), (q1, .inl (k1, 10, .inl (fun _ => 0))), (q2, .inl (k2, 10, .inl (fun _ => 0))), (q3, .inl (k3, 160, .inl (fun _ => 0))), (q4, .inl (k4, 160, .inl (fun _ => 0)))] := hD
  refine lv_aload_n hx hb dX1_init_38 rfl (lv_at hl 0 rfl) ?_
  refine lv_sipush (v := nI 160) hx hb dX1_init_39 (by decide) ?_
  refine va_newa (atype := .int) (n := nI 160) (a0 := (160, .inl (fun _ => 0))) (N' := 160) hx hb (hts (.arrayClass .int) (by decide +kernel)) (ty := .int) rfl hK hP hD hS hA (fun _ => rfl) (by decide) (by decide) (by decide) (show 0 + 1 + 1 + 1 + 1 + 1 ≤ 8 by omega) (show 0 + 10 + 10 + 160 + 160 + 160 ≤ 1844 by omega) dX1_init_42 (fun q5 k5 H hK hP hD hS => ?_)
  have hK : va_K D vwCl [(k1, .boolean), (k2, .boolean), (k3, .boolean), (k4, .boolean), (k5, .int)] s := hK
  have hP : va_P D vwCl [(h0, .inr (1, [.int 0, .int 0, .ref q1, .ref q2, .ref q3, .ref q4, .null, .null, .null, .null, .int 0])), (q1, .inl (k1, 10, .inl (fun _ => 0))), (q2, .inl (k2, 10, .inl (fun _ => 0))), (q3, .inl (k3, 160, .inl (fun _ => 0))), (q4, .inl (k4, 160, .inl (fun _ => 0))), (q5, .inl (k5, 160, .inl (fun _ => 0)))] H := hP
  have hD : va_D A [(h0, .inr (1, [.int 0, .int 0, .ref q1, .ref q2, .ref q3, .ref q4, .null, .null, .null, .null, .int 0])), (q1, .inl (k1, 10, .inl (fun _ => 0))), (q2, .inl (k2, 10, .inl (fun _ => 0))), (q3, .inl (k3, 160, .inl (fun _ => 0))), (q4, .inl (k4, 160, .inl (fun _ => 0))), (q5, .inl (k5, 160, .inl (fun _ => 0)))] := hD
  refine va_putF (D := D) (ci := 1) (v := .ref q5) (ty := .array .int) (C := RX1) (T := TX1) (N := 11) hx hb hts hin0 tyX1 tyX1_ok nmX1 hown hK hP hD hS 0 rfl rfl 6 (by decide) (hts (.fieldLink RX1 22 "ClaimBenchModel" "distance" "[I") (by decide +kernel)) (fun _ h9 => h9) rfl hin rfl (by decide +kernel) rfl rfl (Nat.le_of_ble_eq_true rfl) dX1_init_44 (fun H locs hP hD hS => ?_)
  have hP : va_P D vwCl [(h0, .inr (1, [.int 0, .int 0, .ref q1, .ref q2, .ref q3, .ref q4, .ref q5, .null, .null, .null, .int 0])), (q1, .inl (k1, 10, .inl (fun _ => 0))), (q2, .inl (k2, 10, .inl (fun _ => 0))), (q3, .inl (k3, 160, .inl (fun _ => 0))), (q4, .inl (k4, 160, .inl (fun _ => 0))), (q5, .inl (k5, 160, .inl (fun _ => 0)))] H := hP
  have hD : va_D A [(h0, .inr (1, [.int 0, .int 0, .ref q1, .ref q2, .ref q3, .ref q4, .ref q5, .null, .null, .null, .int 0])), (q1, .inl (k1, 10, .inl (fun _ => 0))), (q2, .inl (k2, 10, .inl (fun _ => 0))), (q3, .inl (k3, 160, .inl (fun _ => 0))), (q4, .inl (k4, 160, .inl (fun _ => 0))), (q5, .inl (k5, 160, .inl (fun _ => 0)))] := hD
  refine lv_aload_n hx hb dX1_init_47 rfl (lv_at hl 0 rfl) ?_
  refine lv_sipush (v := nI 160) hx hb dX1_init_48 (by decide) ?_
  refine va_newa (atype := .int) (n := nI 160) (a0 := (160, .inl (fun _ => 0))) (N' := 160) hx hb (hts (.arrayClass .int) (by decide +kernel)) (ty := .int) rfl hK hP hD hS hA (fun _ => rfl) (by decide) (by decide) (by decide) (show 0 + 1 + 1 + 1 + 1 + 1 + 1 ≤ 8 by omega) (show 0 + 10 + 10 + 160 + 160 + 160 + 160 ≤ 1844 by omega) dX1_init_51 (fun q6 k6 H hK hP hD hS => ?_)
  have hK : va_K D vwCl [(k1, .boolean), (k2, .boolean), (k3, .boolean), (k4, .boolean), (k5, .int), (k6, .int)] s := hK
  have hP : va_P D vwCl [(h0, .inr (1, [.int 0, .int 0, .ref q1, .ref q2, .ref q3, .ref q4, .ref q5, .null, .null, .null, .int 0])), (q1, .inl (k1, 10, .inl (fun _ => 0))), (q2, .inl (k2, 10, .inl (fun _ => 0))), (q3, .inl (k3, 160, .inl (fun _ => 0))), (q4, .inl (k4, 160, .inl (fun _ => 0))), (q5, .inl (k5, 160, .inl (fun _ => 0))), (q6, .inl (k6, 160, .inl (fun _ => 0)))] H := hP
  have hD : va_D A [(h0, .inr (1, [.int 0, .int 0, .ref q1, .ref q2, .ref q3, .ref q4, .ref q5, .null, .null, .null, .int 0])), (q1, .inl (k1, 10, .inl (fun _ => 0))), (q2, .inl (k2, 10, .inl (fun _ => 0))), (q3, .inl (k3, 160, .inl (fun _ => 0))), (q4, .inl (k4, 160, .inl (fun _ => 0))), (q5, .inl (k5, 160, .inl (fun _ => 0))), (q6, .inl (k6, 160, .inl (fun _ => 0)))] := hD
  refine va_putF (D := D) (ci := 1) (v := .ref q6) (ty := .array .int) (C := RX1) (T := TX1) (N := 11) hx hb hts hin0 tyX1 tyX1_ok nmX1 hown hK hP hD hS 0 rfl rfl 7 (by decide) (hts (.fieldLink RX1 26 "ClaimBenchModel" "keptClaim" "[I") (by decide +kernel)) (fun _ h9 => h9) rfl hin rfl (by decide +kernel) rfl rfl (Nat.le_of_ble_eq_true rfl) dX1_init_53 (fun H locs hP hD hS => ?_)
  have hP : va_P D vwCl [(h0, .inr (1, [.int 0, .int 0, .ref q1, .ref q2, .ref q3, .ref q4, .ref q5, .ref q6, .null, .null, .int 0])), (q1, .inl (k1, 10, .inl (fun _ => 0))), (q2, .inl (k2, 10, .inl (fun _ => 0))), (q3, .inl (k3, 160, .inl (fun _ => 0))), (q4, .inl (k4, 160, .inl (fun _ => 0))), (q5, .inl (k5, 160, .inl (fun _ => 0))), (q6, .inl (k6, 160, .inl (fun _ => 0)))] H := hP
  have hD : va_D A [(h0, .inr (1, [.int 0, .int 0, .ref q1, .ref q2, .ref q3, .ref q4, .ref q5, .ref q6, .null, .null, .int 0])), (q1, .inl (k1, 10, .inl (fun _ => 0))), (q2, .inl (k2, 10, .inl (fun _ => 0))), (q3, .inl (k3, 160, .inl (fun _ => 0))), (q4, .inl (k4, 160, .inl (fun _ => 0))), (q5, .inl (k5, 160, .inl (fun _ => 0))), (q6, .inl (k6, 160, .inl (fun _ => 0)))] := hD
  refine lv_aload_n hx hb dX1_init_56 rfl (lv_at hl 0 rfl) ?_
  refine lv_sipush (v := nI 160) hx hb dX1_init_57 (by decide) ?_
  refine va_newa (atype := .int) (n := nI 160) (a0 := (160, .inl (fun _ => 0))) (N' := 160) hx hb (hts (.arrayClass .int) (by decide +kernel)) (ty := .int) rfl hK hP hD hS hA (fun _ => rfl) (by decide) (by decide) (by decide) (show 0 + 1 + 1 + 1 + 1 + 1 + 1 + 1 ≤ 8 by omega) (show 0 + 10 + 10 + 160 + 160 + 160 + 160 + 160 ≤ 1844 by omega) dX1_init_60 (fun q7 k7 H hK hP hD hS => ?_)
  have hK : va_K D vwCl [(k1, .boolean), (k2, .boolean), (k3, .boolean), (k4, .boolean), (k5, .int), (k6, .int), (k7, .int)] s := hK
  have hP : va_P D vwCl [(h0, .inr (1, [.int 0, .int 0, .ref q1, .ref q2, .ref q3, .ref q4, .ref q5, .ref q6, .null, .null, .int 0])), (q1, .inl (k1, 10, .inl (fun _ => 0))), (q2, .inl (k2, 10, .inl (fun _ => 0))), (q3, .inl (k3, 160, .inl (fun _ => 0))), (q4, .inl (k4, 160, .inl (fun _ => 0))), (q5, .inl (k5, 160, .inl (fun _ => 0))), (q6, .inl (k6, 160, .inl (fun _ => 0))), (q7, .inl (k7, 160, .inl (fun _ => 0)))] H := hP
  have hD : va_D A [(h0, .inr (1, [.int 0, .int 0, .ref q1, .ref q2, .ref q3, .ref q4, .ref q5, .ref q6, .null, .null, .int 0])), (q1, .inl (k1, 10, .inl (fun _ => 0))), (q2, .inl (k2, 10, .inl (fun _ => 0))), (q3, .inl (k3, 160, .inl (fun _ => 0))), (q4, .inl (k4, 160, .inl (fun _ => 0))), (q5, .inl (k5, 160, .inl (fun _ => 0))), (q6, .inl (k6, 160, .inl (fun _ => 0))), (q7, .inl (k7, 160, .inl (fun _ => 0)))] := hD
  refine va_putF (D := D) (ci := 1) (v := .ref q7) (ty := .array .int) (C := RX1) (T := TX1) (N := 11) hx hb hts hin0 tyX1 tyX1_ok nmX1 hown hK hP hD hS 0 rfl rfl 8 (by decide) (hts (.fieldLink RX1 29 "ClaimBenchModel" "keptTill" "[I") (by decide +kernel)) (fun _ h9 => h9) rfl hin rfl (by decide +kernel) rfl rfl (Nat.le_of_ble_eq_true rfl) dX1_init_62 (fun H locs hP hD hS => ?_)
  have hP : va_P D vwCl [(h0, .inr (1, [.int 0, .int 0, .ref q1, .ref q2, .ref q3, .ref q4, .ref q5, .ref q6, .ref q7, .null, .int 0])), (q1, .inl (k1, 10, .inl (fun _ => 0))), (q2, .inl (k2, 10, .inl (fun _ => 0))), (q3, .inl (k3, 160, .inl (fun _ => 0))), (q4, .inl (k4, 160, .inl (fun _ => 0))), (q5, .inl (k5, 160, .inl (fun _ => 0))), (q6, .inl (k6, 160, .inl (fun _ => 0))), (q7, .inl (k7, 160, .inl (fun _ => 0)))] H := hP
  have hD : va_D A [(h0, .inr (1, [.int 0, .int 0, .ref q1, .ref q2, .ref q3, .ref q4, .ref q5, .ref q6, .ref q7, .null, .int 0])), (q1, .inl (k1, 10, .inl (fun _ => 0))), (q2, .inl (k2, 10, .inl (fun _ => 0))), (q3, .inl (k3, 160, .inl (fun _ => 0))), (q4, .inl (k4, 160, .inl (fun _ => 0))), (q5, .inl (k5, 160, .inl (fun _ => 0))), (q6, .inl (k6, 160, .inl (fun _ => 0))), (q7, .inl (k7, 160, .inl (fun _ => 0)))] := hD
  refine lv_aload_n hx hb dX1_init_65 rfl (lv_at hl 0 rfl) ?_
  refine lv_sipush (v := nI 1024) hx hb dX1_init_66 (by decide) ?_
  refine va_newa (atype := .int) (n := nI 1024) (a0 := (1024, .inl (fun _ => 0))) (N' := 1024) hx hb (hts (.arrayClass .int) (by decide +kernel)) (ty := .int) rfl hK hP hD hS hA (fun _ => rfl) (by decide) (by decide) (by decide) (show 0 + 1 + 1 + 1 + 1 + 1 + 1 + 1 + 1 ≤ 8 by omega) (show 0 + 10 + 10 + 160 + 160 + 160 + 160 + 160 + 1024 ≤ 1844 by omega) dX1_init_69 (fun q8 k8 H hK hP hD hS => ?_)
  have hK : va_K D vwCl [(k1, .boolean), (k2, .boolean), (k3, .boolean), (k4, .boolean), (k5, .int), (k6, .int), (k7, .int), (k8, .int)] s := hK
  have hP : va_P D vwCl [(h0, .inr (1, [.int 0, .int 0, .ref q1, .ref q2, .ref q3, .ref q4, .ref q5, .ref q6, .ref q7, .null, .int 0])), (q1, .inl (k1, 10, .inl (fun _ => 0))), (q2, .inl (k2, 10, .inl (fun _ => 0))), (q3, .inl (k3, 160, .inl (fun _ => 0))), (q4, .inl (k4, 160, .inl (fun _ => 0))), (q5, .inl (k5, 160, .inl (fun _ => 0))), (q6, .inl (k6, 160, .inl (fun _ => 0))), (q7, .inl (k7, 160, .inl (fun _ => 0))), (q8, .inl (k8, 1024, .inl (fun _ => 0)))] H := hP
  have hD : va_D A [(h0, .inr (1, [.int 0, .int 0, .ref q1, .ref q2, .ref q3, .ref q4, .ref q5, .ref q6, .ref q7, .null, .int 0])), (q1, .inl (k1, 10, .inl (fun _ => 0))), (q2, .inl (k2, 10, .inl (fun _ => 0))), (q3, .inl (k3, 160, .inl (fun _ => 0))), (q4, .inl (k4, 160, .inl (fun _ => 0))), (q5, .inl (k5, 160, .inl (fun _ => 0))), (q6, .inl (k6, 160, .inl (fun _ => 0))), (q7, .inl (k7, 160, .inl (fun _ => 0))), (q8, .inl (k8, 1024, .inl (fun _ => 0)))] := hD
  refine va_putF (D := D) (ci := 1) (v := .ref q8) (ty := .array .int) (C := RX1) (T := TX1) (N := 11) hx hb hts hin0 tyX1 tyX1_ok nmX1 hown hK hP hD hS 0 rfl rfl 9 (by decide) (hts (.fieldLink RX1 32 "ClaimBenchModel" "row" "[I") (by decide +kernel)) (fun _ h9 => h9) rfl hin rfl (by decide +kernel) rfl rfl (Nat.le_of_ble_eq_true rfl) dX1_init_71 (fun H locs hP hD hS => ?_)
  have hP : va_P D vwCl [(h0, .inr (1, [.int 0, .int 0, .ref q1, .ref q2, .ref q3, .ref q4, .ref q5, .ref q6, .ref q7, .ref q8, .int 0])), (q1, .inl (k1, 10, .inl (fun _ => 0))), (q2, .inl (k2, 10, .inl (fun _ => 0))), (q3, .inl (k3, 160, .inl (fun _ => 0))), (q4, .inl (k4, 160, .inl (fun _ => 0))), (q5, .inl (k5, 160, .inl (fun _ => 0))), (q6, .inl (k6, 160, .inl (fun _ => 0))), (q7, .inl (k7, 160, .inl (fun _ => 0))), (q8, .inl (k8, 1024, .inl (fun _ => 0)))] H := hP
  have hD : va_D A [(h0, .inr (1, [.int 0, .int 0, .ref q1, .ref q2, .ref q3, .ref q4, .ref q5, .ref q6, .ref q7, .ref q8, .int 0])), (q1, .inl (k1, 10, .inl (fun _ => 0))), (q2, .inl (k2, 10, .inl (fun _ => 0))), (q3, .inl (k3, 160, .inl (fun _ => 0))), (q4, .inl (k4, 160, .inl (fun _ => 0))), (q5, .inl (k5, 160, .inl (fun _ => 0))), (q6, .inl (k6, 160, .inl (fun _ => 0))), (q7, .inl (k7, 160, .inl (fun _ => 0))), (q8, .inl (k8, 1024, .inl (fun _ => 0)))] := hD
  refine W.widen (k := 8) (n := 1844) (show 0 + 1 + 1 + 1 + 1 + 1 + 1 + 1 + 1 ≤ 8 by omega) (show 0 + 10 + 10 + 160 + 160 + 160 + 160 + 160 + 1024 ≤ 1844 by omega) ?_
  have hDg : ∀ g : Nat → Int32, va_D A [(h0, .inr (1, [.int 0, .int 0, .ref q1, .ref q2, .ref q3, .ref q4, .ref q5, .ref q6, .ref q7, .ref q8, .int 0])), (q1, .inl (k1, 10, .inl (fun _ => 0))), (q2, .inl (k2, 10, .inl (fun _ => 0))), (q3, .inl (k3, 160, .inl (fun _ => 0))), (q4, .inl (k4, 160, .inl (fun _ => 0))), (q5, .inl (k5, 160, .inl (fun _ => 0))), (q6, .inl (k6, 160, .inl g)), (q7, .inl (k7, 160, .inl (fun _ => 0))), (q8, .inl (k8, 1024, .inl (fun _ => 0)))] := fun g => hD.set (p := 6) rfl
  have loop : ∀ (n k : Nat), 160 < k + n → k ≤ 160 → ∀ (g : Nat → Int32) (H : Heap) (locs : List Loc), (∀ c, c < k → g c = -1) → va_P D vwCl [(h0, .inr (1, [.int 0, .int 0, .ref q1, .ref q2, .ref q3, .ref q4, .ref q5, .ref q6, .ref q7, .ref q8, .int 0])), (q1, .inl (k1, 10, .inl (fun _ => 0))), (q2, .inl (k2, 10, .inl (fun _ => 0))), (q3, .inl (k3, 160, .inl (fun _ => 0))), (q4, .inl (k4, 160, .inl (fun _ => 0))), (q5, .inl (k5, 160, .inl (fun _ => 0))), (q6, .inl (k6, 160, .inl g)), (q7, .inl (k7, 160, .inl (fun _ => 0))), (q8, .inl (k8, 1024, .inl (fun _ => 0)))] H → va_S A s.heap H locs → ∀ (ls : Array Slot), lv_has ls 2 [(1, .int (nI k)), (0, .ref h0)] → W p l e (headSpec wsX1_init ({ frames := 1, cells := 8, slots := 1844, locals := 12 })).room s m ([.ref h0] : List Value).toArray below meth c H locs 8 1844 (MQ below (va_Qv (fun _ : (Nat → Nat) × (Nat → ClassId) => True) (fun u t => u.1 0 = h0 ∧ va_P D vwCl (wM u.1 u.2 S0 0) t.heap ∧ va_K D vwCl (tyM u.2) t ∧ va_D A (wM u.1 u.2 S0 0)) A) ([.ref h0] : List Value).toArray s 8 1844 A) (F0 m 76 ls []) := by
    intro n
    induction n with
    | zero => exact fun r h1 h2 => absurd h1 (by omega)
    | succ n ih =>
      intro k hk1 hk2 g H locs hg hP hS ls hl
      refine lv_iload_n hx hb dX1_init_76 rfl (lv_at hl 0 rfl) ?_
      refine lv_sipush (v := nI 160) hx hb dX1_init_77 (by decide) ?_
      refine xx_ge (tgt := 96) hx hb dX1_init_80 (by decide) (by omega) (by omega) (fun hk3 => ?_) (fun hk3 => ?_)
      · exact W.vret hx hb hr (fun t ht hW => ⟨⟨(adM h0 q1 q2 q3 q4 q5 q6 q7 q8, ckM k1 k2 k3 k4 k5 k6 k7 k8), rfl, trivial, rfl, by rw [ht, wM_0]; exact va_Pext hP 6 (fun c => kM S0 c) rfl (fun c hc => hg c (by omega)), va_K.moved hW.alike hK, by rw [wM_0]; exact hDg _⟩, hS.F ht⟩) hS.2.2 dX1_init_96
      · refine lv_aload_n hx hb dX1_init_83 rfl (lv_at hl 1 rfl) ?_
        refine va_get (D := D) (ci := 1) (v := .ref q6) (C := RX1) (T := TX1) (N := 11) hx hb hts hin0 hown hK hP 0 rfl rfl 7 (by decide) (hts (.fieldLink RX1 26 "ClaimBenchModel" "keptClaim" "[I") (by decide +kernel)) (fun _ h9 => h9) rfl dX1_init_84 ?_
        refine lv_iload_n hx hb dX1_init_87 rfl (lv_at hl 0 rfl) ?_
        refine lv_iconst (v := -1) hx hb dX1_init_88 (by decide) ?_
        refine xx_ast hx hb hK hP (hDg g) hS 6 5 rfl rfl (j := k) (by omega) (by decide) (upd g k (-1)) rfl dX1_init_89 (fun H locs hP hS => ?_)
        have hP : va_P D vwCl [(h0, .inr (1, [.int 0, .int 0, .ref q1, .ref q2, .ref q3, .ref q4, .ref q5, .ref q6, .ref q7, .ref q8, .int 0])), (q1, .inl (k1, 10, .inl (fun _ => 0))), (q2, .inl (k2, 10, .inl (fun _ => 0))), (q3, .inl (k3, 160, .inl (fun _ => 0))), (q4, .inl (k4, 160, .inl (fun _ => 0))), (q5, .inl (k5, 160, .inl (fun _ => 0))), (q6, .inl (k6, 160, .inl (upd g k (-1)))), (q7, .inl (k7, 160, .inl (fun _ => 0))), (q8, .inl (k8, 1024, .inl (fun _ => 0)))] H := hP
        refine lv_iinc (v := nI (k + 1)) (lv' := [(1, .int (nI (k + 1))), (0, .ref h0)]) hx hb dX1_init_90 hl (k := 0) rfl (nI_1 _) (by decide) rfl (fun ls hl => ?_)
        refine lv_goto (tgt := 76) hx hb dX1_init_93 (by decide) ?_
        refine ih (k + 1) (by omega) (by omega) _ H locs (fun c hc => ?_) hP hS ls (lv_sub hl [0, 1] rfl)
        unfold upd
        by_cases hc2 : c = k
        · rw [if_pos hc2]
        · rw [if_neg hc2]; exact hg c (by omega)
  refine lv_iconst (v := nI 0) hx hb dX1_init_74 (by decide) ?_
  refine lv_istore_n (lv' := [(1, .int (nI 0)), (0, .ref h0)]) hx hb dX1_init_75 rfl hl (by decide) rfl (fun ls hl => ?_)
  exact loop 161 0 (by omega) (by omega) (fun _ => 0) H locs (fun c hc => absurd hc (by omega)) hP hS ls (lv_sub hl [0, 1] rfl)
