set_option maxHeartbeats 4000000 in
set_option maxRecDepth 100000 in
theorem c0_tick (l : Launch) (D : va_G) (ad : Nat → Nat) (hd : apt 6 ad) (ck : Nat → ClassId) (S : AS) (a : Nat) (hi : iv S) (x : Int32) : Met l yX0_tick wsX0_tick ({ frames := 0, cells := 0, slots := 0, locals := 0 }) (PW D (wB ad ck S a) (tyB ck) [.ref (ad 0), .int (x)]) (QcM (some (.int (aTick S x))) (fun H => va_P D vwCl (wB ad ck (pTick S x) a) H) (aB ad)) 0 0 (aB ad) := by
  refine Met.ofW (cc := cX0_tick) (maxL := 2) (ret := (some .int)) (by decide) rfl ?_
  intro p e s m args below meth c s₁ B hml hv
  obtain ⟨rfl, hP, hK⟩ := hv
  have hx := B.exec
  have hb := B.bytes
  have hr := B.returns
  have hts := atoms_spec (ws := wsX0_tick) B.pre
  have hown : s.vm.findClass RX0 = some m.cls := findClass_of_methodNamed B.named
  have hlocks := B.notSynchronized
  have hin0 : ∀ w ∈ wsX00, w ∈ wsX0_tick := by decide +kernel
  have hl := lv_entry ([.ref (ad 0), .int (x)]) (n := 2) (Nat.le_of_ble_eq_true rfl)
  rw [lg_entry_eq]
  generalize (lg_sl ([.ref (ad 0), .int (x)]) ++ List.replicate (2 - (lg_sl ([.ref (ad 0), .int (x)])).length) Slot.unset).toArray = ls at hl ⊢
  have hl : lv_has ls 2 [(0, .ref (ad 0)), (1, .int (x))] := hl
  have hS : va_S (aB ad) s.heap s.heap [] := va_S.rf
  have hT := hi.1
  refine lv_iload_n hx hb dX0_tick_0 rfl (lv_at hl 1 rfl) ?_
  refine lv_iconst (v := nI 1) hx hb dX0_tick_1 (by decide) ?_
  refine lv_icmp_lt (tgt := 22) hx hb dX0_tick_2 (by decide) (fun h1 => ?_) (fun h1 => ?_)
  · skip
    refine lv_iconst (v := -1) hx hb dX0_tick_22 (by decide) ?_
    exact W.iret (v := (-1)) hx hb hr (fun t ht hW => ⟨ro_i ((aTick_f (okT_1 h1)).symm), by rw [ht, pTick_f (okT_1 h1)]; exact hP, hS.F ht⟩) hS.2.2 dX0_tick_23
  · skip
    refine lv_iload_n hx hb dX0_tick_5 rfl (lv_at hl 1 rfl) ?_
    refine lv_bipush (v := nI 100) hx hb dX0_tick_6 (by decide) ?_
    refine lv_icmp_gt (tgt := 22) hx hb dX0_tick_8 (by decide) (fun h2 => ?_) (fun h2 => ?_)
    · skip
      refine lv_iconst (v := -1) hx hb dX0_tick_22 (by decide) ?_
      exact W.iret (v := (-1)) hx hb hr (fun t ht hW => ⟨ro_i ((aTick_f (okT_2 h2)).symm), by rw [ht, pTick_f (okT_2 h2)]; exact hP, hS.F ht⟩) hS.2.2 dX0_tick_23
    · skip
      obtain ⟨k, hk1, hk2, rfl⟩ := okT_x h1 h2
      refine lv_aload_n hx hb dX0_tick_11 rfl (lv_at hl 0 rfl) ?_
      refine va_get (D := D) (ci := 0) (v := .int (nI (sT S))) (C := RX0) (T := TX0) (N := 10) hx hb hts hin0 hown hK hP 0 rfl rfl 0 (by decide) (hts (.fieldLink RX0 7 "ClaimBench" "time" "I") (by decide +kernel)) (fun _ h9 => h9) rfl dX0_tick_12 ?_
      refine lv_iload_n hx hb dX0_tick_15 rfl (lv_at hl 1 rfl) ?_
      refine xx_add hx hb dX0_tick_16 ?_
      refine lv_ldc (own := RX0) (v := nI 100000) hx hb hown (hts (.constant RX0 49 (100000)) (by decide +kernel)) dX0_tick_17 ?_
      refine xx_le (tgt := 24) hx hb dX0_tick_19 (by decide) (by omega) (by omega) (fun h3 => ?_) (fun h3 => ?_)
      · skip
        refine lv_aload_n hx hb dX0_tick_24 rfl (lv_at hl 0 rfl) ?_
        refine lv_dup hx hb dX0_tick_25 rfl ?_
        refine va_get (D := D) (ci := 0) (v := .int (nI (sT S))) (C := RX0) (T := TX0) (N := 10) hx hb hts hin0 hown hK hP 0 rfl rfl 0 (by decide) (hts (.fieldLink RX0 7 "ClaimBench" "time" "I") (by decide +kernel)) (fun _ h9 => h9) rfl dX0_tick_26 ?_
        refine lv_iload_n hx hb dX0_tick_29 rfl (lv_at hl 1 rfl) ?_
        refine xx_add hx hb dX0_tick_30 ?_
        refine va_put (D := D) (ci := 0) (v := .int (nI ((sT S) + k))) (ty := .int) (C := RX0) (T := TX0) (N := 10) hx hb hts hin0 tyX0 tyX0_ok nmX0 hown hK hP (dB hd ck _ _) hS 0 rfl rfl 0 (by decide) (hts (.fieldLink RX0 7 "ClaimBench" "time" "I") (by decide +kernel)) (fun _ h9 => h9) rfl (by decide +kernel) rfl rfl (Nat.le_of_ble_eq_true rfl) dX0_tick_31 (fun H locs hP _ hS => ?_)
        have hP : va_P D vwCl (wB ad ck (uT S (sT S + k)) a) H := hP
        refine lv_aload_n hx hb dX0_tick_34 rfl (lv_at hl 0 rfl) ?_
        refine va_get (D := D) (ci := 0) (v := .int (nI (sT (uT S (sT S + k))))) (C := RX0) (T := TX0) (N := 10) hx hb hts hin0 hown hK hP 0 rfl rfl 0 (by decide) (hts (.fieldLink RX0 7 "ClaimBench" "time" "I") (by decide +kernel)) (fun _ h9 => h9) rfl dX0_tick_35 ?_
        exact W.iret (v := (nI (sT (uT S (sT S + k))))) hx hb hr (fun t ht hW => ⟨ro_i ((aTick_t hk2 (okT_3 hk1 hk2 h3)).symm), by rw [ht, pTick_t hk2 (okT_3 hk1 hk2 h3)]; exact hP, hS.F ht⟩) hS.2.2 dX0_tick_38
      · skip
        refine lv_iconst (v := -1) hx hb dX0_tick_22 (by decide) ?_
        exact W.iret (v := (-1)) hx hb hr (fun t ht hW => ⟨ro_i ((aTick_f (okT_4 hk2 h3)).symm), by rw [ht, pTick_f (okT_4 hk2 h3)]; exact hP, hS.F ht⟩) hS.2.2 dX0_tick_23
set_option maxHeartbeats 4000000 in
set_option maxRecDepth 100000 in
theorem c1_tick (l : Launch) (D : va_G) (ad : Nat → Nat) (hd : apt 9 ad) (ck : Nat → ClassId) (S : AS) (a : Nat) (hi : iv S) (x : Int32) : Met l yX1_tick wsX1_tick ({ frames := 0, cells := 0, slots := 0, locals := 0 }) (PW D (wM ad ck S a) (tyM ck) [.ref (ad 0), .int (x)]) (QcM (some (.int (aTick S x))) (fun H => va_P D vwCl (wM ad ck (pTick S x) a) H) (aM ad)) 0 0 (aM ad) := by
  refine Met.ofW (cc := cX1_tick) (maxL := 2) (ret := (some .int)) (by decide) rfl ?_
  intro p e s m args below meth c s₁ B hml hv
  obtain ⟨rfl, hP, hK⟩ := hv
  have hx := B.exec
  have hb := B.bytes
  have hr := B.returns
  have hts := atoms_spec (ws := wsX1_tick) B.pre
  have hown : s.vm.findClass RX1 = some m.cls := findClass_of_methodNamed B.named
  have hlocks := B.notSynchronized
  have hin0 : ∀ w ∈ wsX10, w ∈ wsX1_tick := by decide +kernel
  have hl := lv_entry ([.ref (ad 0), .int (x)]) (n := 2) (Nat.le_of_ble_eq_true rfl)
  rw [lg_entry_eq]
  generalize (lg_sl ([.ref (ad 0), .int (x)]) ++ List.replicate (2 - (lg_sl ([.ref (ad 0), .int (x)])).length) Slot.unset).toArray = ls at hl ⊢
  have hl : lv_has ls 2 [(0, .ref (ad 0)), (1, .int (x))] := hl
  have hS : va_S (aM ad) s.heap s.heap [] := va_S.rf
  have hT := hi.1
  refine lv_iload_n hx hb dX1_tick_0 rfl (lv_at hl 1 rfl) ?_
  refine lv_iconst (v := nI 1) hx hb dX1_tick_1 (by decide) ?_
  refine lv_icmp_lt (tgt := 22) hx hb dX1_tick_2 (by decide) (fun h1 => ?_) (fun h1 => ?_)
  · skip
    refine lv_iconst (v := -1) hx hb dX1_tick_22 (by decide) ?_
    exact W.iret (v := (-1)) hx hb hr (fun t ht hW => ⟨ro_i ((aTick_f (okT_1 h1)).symm), by rw [ht, pTick_f (okT_1 h1)]; exact hP, hS.F ht⟩) hS.2.2 dX1_tick_23
  · skip
    refine lv_iload_n hx hb dX1_tick_5 rfl (lv_at hl 1 rfl) ?_
    refine lv_bipush (v := nI 100) hx hb dX1_tick_6 (by decide) ?_
    refine lv_icmp_gt (tgt := 22) hx hb dX1_tick_8 (by decide) (fun h2 => ?_) (fun h2 => ?_)
    · skip
      refine lv_iconst (v := -1) hx hb dX1_tick_22 (by decide) ?_
      exact W.iret (v := (-1)) hx hb hr (fun t ht hW => ⟨ro_i ((aTick_f (okT_2 h2)).symm), by rw [ht, pTick_f (okT_2 h2)]; exact hP, hS.F ht⟩) hS.2.2 dX1_tick_23
    · skip
      obtain ⟨k, hk1, hk2, rfl⟩ := okT_x h1 h2
      refine lv_aload_n hx hb dX1_tick_11 rfl (lv_at hl 0 rfl) ?_
      refine va_get (D := D) (ci := 1) (v := .int (nI (sT S))) (C := RX1) (T := TX1) (N := 11) hx hb hts hin0 hown hK hP 0 rfl rfl 0 (by decide) (hts (.fieldLink RX1 39 "ClaimBenchModel" "time" "I") (by decide +kernel)) (fun _ h9 => h9) rfl dX1_tick_12 ?_
      refine lv_iload_n hx hb dX1_tick_15 rfl (lv_at hl 1 rfl) ?_
      refine xx_add hx hb dX1_tick_16 ?_
      refine lv_ldc (own := RX1) (v := nI 100000) hx hb hown (hts (.constant RX1 43 (100000)) (by decide +kernel)) dX1_tick_17 ?_
      refine xx_le (tgt := 24) hx hb dX1_tick_19 (by decide) (by omega) (by omega) (fun h3 => ?_) (fun h3 => ?_)
      · skip
        refine lv_aload_n hx hb dX1_tick_24 rfl (lv_at hl 0 rfl) ?_
        refine lv_dup hx hb dX1_tick_25 rfl ?_
        refine va_get (D := D) (ci := 1) (v := .int (nI (sT S))) (C := RX1) (T := TX1) (N := 11) hx hb hts hin0 hown hK hP 0 rfl rfl 0 (by decide) (hts (.fieldLink RX1 39 "ClaimBenchModel" "time" "I") (by decide +kernel)) (fun _ h9 => h9) rfl dX1_tick_26 ?_
        refine lv_iload_n hx hb dX1_tick_29 rfl (lv_at hl 1 rfl) ?_
        refine xx_add hx hb dX1_tick_30 ?_
        refine va_put (D := D) (ci := 1) (v := .int (nI ((sT S) + k))) (ty := .int) (C := RX1) (T := TX1) (N := 11) hx hb hts hin0 tyX1 tyX1_ok nmX1 hown hK hP (dM hd ck _ _) hS 0 rfl rfl 0 (by decide) (hts (.fieldLink RX1 39 "ClaimBenchModel" "time" "I") (by decide +kernel)) (fun _ h9 => h9) rfl (by decide +kernel) rfl rfl (Nat.le_of_ble_eq_true rfl) dX1_tick_31 (fun H locs hP _ hS => ?_)
        have hP : va_P D vwCl (wM ad ck (uT S (sT S + k)) a) H := hP
        refine lv_aload_n hx hb dX1_tick_34 rfl (lv_at hl 0 rfl) ?_
        refine va_get (D := D) (ci := 1) (v := .int (nI (sT (uT S (sT S + k))))) (C := RX1) (T := TX1) (N := 11) hx hb hts hin0 hown hK hP 0 rfl rfl 0 (by decide) (hts (.fieldLink RX1 39 "ClaimBenchModel" "time" "I") (by decide +kernel)) (fun _ h9 => h9) rfl dX1_tick_35 ?_
        exact W.iret (v := (nI (sT (uT S (sT S + k))))) hx hb hr (fun t ht hW => ⟨ro_i ((aTick_t hk2 (okT_3 hk1 hk2 h3)).symm), by rw [ht, pTick_t hk2 (okT_3 hk1 hk2 h3)]; exact hP, hS.F ht⟩) hS.2.2 dX1_tick_38
      · skip
        refine lv_iconst (v := -1) hx hb dX1_tick_22 (by decide) ?_
        exact W.iret (v := (-1)) hx hb hr (fun t ht hW => ⟨ro_i ((aTick_f (okT_4 hk2 h3)).symm), by rw [ht, pTick_f (okT_4 hk2 h3)]; exact hP, hS.F ht⟩) hS.2.2 dX1_tick_23
set_option maxHeartbeats 4000000 in
set_option maxRecDepth 100000 in
theorem c0_forward (l : Launch) (D : va_G) (ad : Nat → Nat) (hd : apt 6 ad) (ck : Nat → ClassId) (S : AS) (a : Nat) (hi : iv S) (x y : Int32) (b : Bool) : Met l yX0_forward wsX0_forward ({ frames := 1, cells := 0, slots := 0, locals := 22 }) (PW D (wB ad ck S a) (tyB ck) [.ref (ad 0), .int (x), .int (y), .int (bI (b))]) (QcM (some (.int (aFw x y))) (fun H => va_P D vwCl (wB ad ck (pFw S x y b) a) H) (aB ad)) 0 0 (aB ad) := by
  refine Met.ofW (cc := cX0_forward) (maxL := 4) (ret := (some .boolean)) (by decide) rfl ?_
  intro p e s m args below meth c s₁ B hml hv
  obtain ⟨rfl, hP, hK⟩ := hv
  have hx := B.exec
  have hb := B.bytes
  have hr := B.returns
  have hts := atoms_spec (ws := wsX0_forward) B.pre
  have hown : s.vm.findClass RX0 = some m.cls := findClass_of_methodNamed B.named
  have hlocks := B.notSynchronized
  have hin0 : ∀ w ∈ wsX00, w ∈ wsX0_forward := by decide +kernel
  have hl := lv_entry ([.ref (ad 0), .int (x), .int (y), .int (bI (b))]) (n := 4) (Nat.le_of_ble_eq_true rfl)
  rw [lg_entry_eq]
  generalize (lg_sl ([.ref (ad 0), .int (x), .int (y), .int (bI (b))]) ++ List.replicate (4 - (lg_sl ([.ref (ad 0), .int (x), .int (y), .int (bI (b))])).length) Slot.unset).toArray = ls at hl ⊢
  have hl : lv_has ls 4 [(0, .ref (ad 0)), (1, .int (x)), (2, .int (y)), (3, .int (bI (b)))] := hl
  have hS : va_S (aB ad) s.heap s.heap [] := va_S.rf
  refine lv_iload_n hx hb dX0_forward_0 rfl (lv_at hl 1 rfl) ?_
  refine W.callR (W.runS (As := [.int (x)]) (rest := []) ⟨hx, hb, hml, hown, hts⟩ (c0_isRouter l ((x))) (va_cwS 1 hts gX0_forward_X0_isRouter rfl rfl rfl (by decide +kernel) ⟨Nat.le_of_ble_eq_true rfl, Nat.le_of_ble_eq_true rfl⟩) preEq rfl rfl hl.1 rfl (lv_room (Nat.le_of_ble_eq_true rfl)) dX0_forward_1 ⟨Nat.zero_le _, Nat.zero_le _⟩) ?_
  refine W.eq (g2 := F0 m 4 ls [.int (bI (inR 10 ((x))))]) rfl ?_
  refine xx_if0 (tgt := 14) hx hb dX0_forward_4 (by decide) (fun h1 => ?_) (fun h1 => ?_)
  · skip
    refine lv_iconst (v := nI 0) hx hb dX0_forward_14 (by decide) ?_
    exact W.zret (v := (nI (0))) (ty := .boolean) hx hb hr (rfl) (fun t ht hW => ⟨ro_i ((pr2_f1 h1).symm), by rw [ht, show pFw S x y b = S from ps2_f1 h1]; exact hP, hS.F ht⟩) hS.2.2 dX0_forward_15
  · skip
    obtain ⟨r, hr10, rfl⟩ := inR_t (by decide) h1
    refine lv_iload_n hx hb dX0_forward_7 rfl (lv_at hl 2 rfl) ?_
    refine W.callR (W.runS (As := [.int (y)]) (rest := []) ⟨hx, hb, hml, hown, hts⟩ (c0_isSource l ((y))) (va_cwS 1 hts gX0_forward_X0_isSource rfl rfl rfl (by decide +kernel) ⟨Nat.le_of_ble_eq_true rfl, Nat.le_of_ble_eq_true rfl⟩) preEq rfl rfl hl.1 rfl (lv_room (Nat.le_of_ble_eq_true rfl)) dX0_forward_8 ⟨Nat.zero_le _, Nat.zero_le _⟩) ?_
    refine W.eq (g2 := F0 m 11 ls [.int (bI (inR 16 ((y))))]) rfl ?_
    refine xx_if1 (tgt := 16) hx hb dX0_forward_11 (by decide) (fun h2 => ?_) (fun h2 => ?_)
    · skip
      obtain ⟨z, hz16, rfl⟩ := inR_t (by decide) h2
      refine lv_aload_n hx hb dX0_forward_16 rfl (lv_at hl 0 rfl) ?_
      refine va_get (D := D) (ci := 0) (v := .ref (ad 1)) (C := RX0) (T := TX0) (N := 10) hx hb hts hin0 hown hK hP 0 rfl rfl 4 (by decide) (hts (.fieldLink RX0 22 "ClaimBench" "forwardBits" "[I") (by decide +kernel)) (fun _ h9 => h9) rfl dX0_forward_17 ?_
      refine lv_iload_n hx hb dX0_forward_20 rfl (lv_at hl 2 rfl) ?_
      refine lv_aload_n hx hb dX0_forward_21 rfl (lv_at hl 0 rfl) ?_
      refine va_get (D := D) (ci := 0) (v := .ref (ad 1)) (C := RX0) (T := TX0) (N := 10) hx hb hts hin0 hown hK hP 0 rfl rfl 4 (by decide) (hts (.fieldLink RX0 22 "ClaimBench" "forwardBits" "[I") (by decide +kernel)) (fun _ h9 => h9) rfl dX0_forward_22 ?_
      refine lv_iload_n hx hb dX0_forward_25 rfl (lv_at hl 2 rfl) ?_
      refine xx_ald hx hb hK hP 1 0 (fun c_ => nI (bm (fun i_ => sF S i_ c_))) rfl rfl (j := z) (by omega) (by decide) dX0_forward_26 ?_
      refine W.eq (g2 := F0 m 27 ls [.int (nI (bm (fun i_ => sF S i_ z))), .int (nI (z)), .ref (ad 1)]) rfl ?_
      refine lv_iload_n hx hb dX0_forward_27 rfl (lv_at hl 1 rfl) ?_
      refine lv_iload_n hx hb dX0_forward_28 rfl (lv_at hl 3 rfl) ?_
      refine W.callR (W.runS (As := [.int (nI (bm (fun i_ => sF S i_ z))), .int (nI (r)), .int (bI (b))]) (rest := [.int (nI (z)), .ref (ad 1)]) ⟨hx, hb, hml, hown, hts⟩ (c0_withBit l (fun i_ => sF S i_ z) r b (by omega)) (va_cwS 3 hts gX0_forward_X0_withBit rfl rfl rfl (by decide +kernel) ⟨Nat.le_of_ble_eq_true rfl, Nat.le_of_ble_eq_true rfl⟩) preEq rfl rfl hl.1 rfl (lv_room (Nat.le_of_ble_eq_true rfl)) dX0_forward_29 ⟨Nat.zero_le _, Nat.zero_le _⟩) ?_
      refine W.eq (g2 := F0 m 32 ls [.int (nI (bm (upB (fun i_ => sF S i_ z) r b))), .int (nI (z)), .ref (ad 1)]) rfl ?_
      refine xx_ast hx hb hK hP (dB hd ck _ _) hS 1 0 rfl rfl (j := z) (by omega) (by decide) (fun c_ => nI (bm (fun i_ => sF (uF S (upF (sF S) r z b)) i_ c_))) (st_fw S r z b) dX0_forward_32 (fun H locs hP hS => ?_)
      have hP : va_P D vwCl (wB ad ck (uF S (upF (sF S) r z b)) a) H := hP
      refine lv_iconst (v := nI 1) hx hb dX0_forward_33 (by decide) ?_
      exact W.zret (v := (nI (1))) (ty := .boolean) hx hb hr (rfl) (fun t ht hW => ⟨ro_i ((pr2_t (f := fun _ _ => nI 1) hr10 hz16).symm), by rw [ht, show pFw S (nI r) (nI z) b = uF S (upF (sF S) r z b) from ps2_t hr10 hz16]; exact hP, hS.F ht⟩) hS.2.2 dX0_forward_34
    · skip
      refine lv_iconst (v := nI 0) hx hb dX0_forward_14 (by decide) ?_
      exact W.zret (v := (nI (0))) (ty := .boolean) hx hb hr (rfl) (fun t ht hW => ⟨ro_i ((pr2_f2 h2).symm), by rw [ht, show pFw S (nI r) y b = S from ps2_f2 h2]; exact hP, hS.F ht⟩) hS.2.2 dX0_forward_15
set_option maxHeartbeats 4000000 in
set_option maxRecDepth 100000 in
theorem c1_forward (l : Launch) (D : va_G) (ad : Nat → Nat) (hd : apt 9 ad) (ck : Nat → ClassId) (S : AS) (a : Nat) (hi : iv S) (x y : Int32) (b : Bool) : Met l yX1_forward wsX1_forward ({ frames := 2, cells := 0, slots := 0, locals := 41 }) (PW D (wM ad ck S a) (tyM ck) [.ref (ad 0), .int (x), .int (y), .int (bI (b))]) (QcM (some (.int (aFw x y))) (fun H => va_P D vwCl (wM ad ck (pFw S x y b) a) H) (aM ad)) 0 0 (aM ad) := by
  refine Met.ofW (cc := cX1_forward) (maxL := 4) (ret := (some .boolean)) (by decide) rfl ?_
  intro p e s m args below meth c s₁ B hml hv
  obtain ⟨rfl, hP, hK⟩ := hv
  have hx := B.exec
  have hb := B.bytes
  have hr := B.returns
  have hts := atoms_spec (ws := wsX1_forward) B.pre
  have hown : s.vm.findClass RX1 = some m.cls := findClass_of_methodNamed B.named
  have hlocks := B.notSynchronized
  have hin0 : ∀ w ∈ wsX10, w ∈ wsX1_forward := by decide +kernel
  have hl := lv_entry ([.ref (ad 0), .int (x), .int (y), .int (bI (b))]) (n := 4) (Nat.le_of_ble_eq_true rfl)
  rw [lg_entry_eq]
  generalize (lg_sl ([.ref (ad 0), .int (x), .int (y), .int (bI (b))]) ++ List.replicate (4 - (lg_sl ([.ref (ad 0), .int (x), .int (y), .int (bI (b))])).length) Slot.unset).toArray = ls at hl ⊢
  have hl : lv_has ls 4 [(0, .ref (ad 0)), (1, .int (x)), (2, .int (y)), (3, .int (bI (b)))] := hl
  have hS : va_S (aM ad) s.heap s.heap [] := va_S.rf
  refine lv_iload_n hx hb dX1_forward_0 rfl (lv_at hl 1 rfl) ?_
  refine lv_iload_n hx hb dX1_forward_1 rfl (lv_at hl 2 rfl) ?_
  refine W.callR (W.runS (As := [.int (x), .int (y)]) (rest := []) ⟨hx, hb, hml, hown, hts⟩ (c1_isPair l ((x)) ((y))) (va_cwS 2 hts gX1_forward_X1_isPair rfl rfl rfl (by decide +kernel) ⟨Nat.le_of_ble_eq_true rfl, Nat.le_of_ble_eq_true rfl⟩) preEq rfl rfl hl.1 rfl (lv_room (Nat.le_of_ble_eq_true rfl)) dX1_forward_2 ⟨Nat.zero_le _, Nat.zero_le _⟩) ?_
  refine W.eq (g2 := F0 m 5 ls [.int (bI (inR 10 ((x)) && inR 16 ((y))))]) rfl ?_
  refine xx_if1 (tgt := 10) hx hb dX1_forward_5 (by decide) (fun h1 => ?_) (fun h1 => ?_)
  · skip
    obtain ⟨hp1, hp2⟩ := (Bool.and_eq_true _ _).mp h1
    obtain ⟨r, hr10, rfl⟩ := inR_t (by decide) hp1
    obtain ⟨z, hz16, rfl⟩ := inR_t (by decide) hp2
    refine lv_aload_n hx hb dX1_forward_10 rfl (lv_at hl 0 rfl) ?_
    refine va_get (D := D) (ci := 1) (v := .ref (ad 3)) (C := RX1) (T := TX1) (N := 11) hx hb hts hin0 hown hK hP 0 rfl rfl 4 (by decide) (hts (.fieldLink RX1 16 "ClaimBenchModel" "forwards" "[Z") (by decide +kernel)) (fun _ h9 => h9) rfl dX1_forward_11 ?_
    refine lv_bipush (v := nI 16) hx hb dX1_forward_14 (by decide) ?_
    refine lv_iload_n hx hb dX1_forward_16 rfl (lv_at hl 1 rfl) ?_
    refine xx_mul hx hb dX1_forward_17 ?_
    refine lv_iload_n hx hb dX1_forward_18 rfl (lv_at hl 2 rfl) ?_
    refine xx_add hx hb dX1_forward_19 ?_
    refine lv_iload_n hx hb dX1_forward_20 rfl (lv_at hl 3 rfl) ?_
    refine xx_zst hx hb hK hP (dM hd ck _ _) hS 3 2 rfl rfl (j := (16 * r) + z) (by omega) (by decide) (fun c_ => bI (sF (uF S (upF (sF S) r z b)) (c_ / 16) (c_ % 16))) (st_fm S r z b hz16) dX1_forward_21 (fun H locs hP hS => ?_)
    have hP : va_P D vwCl (wM ad ck (uF S (upF (sF S) r z b)) a) H := hP
    refine lv_iconst (v := nI 1) hx hb dX1_forward_22 (by decide) ?_
    exact W.zret (v := (nI (1))) (ty := .boolean) hx hb hr (rfl) (fun t ht hW => ⟨ro_i ((pr2_t (f := fun _ _ => nI 1) hr10 hz16).symm), by rw [ht, show pFw S (nI r) (nI z) b = uF S (upF (sF S) r z b) from ps2_t hr10 hz16]; exact hP, hS.F ht⟩) hS.2.2 dX1_forward_23
  · skip
    refine lv_iconst (v := nI 0) hx hb dX1_forward_8 (by decide) ?_
    exact W.zret (v := (nI (0))) (ty := .boolean) hx hb hr (rfl) (fun t ht hW => ⟨ro_i ((pr2_f h1).symm), by rw [ht, show pFw S x y b = S from ps2_f h1]; exact hP, hS.F ht⟩) hS.2.2 dX1_forward_9
set_option maxHeartbeats 4000000 in
set_option maxRecDepth 100000 in
theorem c0_place (l : Launch) (D : va_G) (ad : Nat → Nat) (hd : apt 6 ad) (ck : Nat → ClassId) (S : AS) (a : Nat) (hi : iv S) (x y : Int32) (b : Bool) (d : Int32) : Met l yX0_place wsX0_place ({ frames := 1, cells := 0, slots := 0, locals := 22 }) (PW D (wB ad ck S a) (tyB ck) [.ref (ad 0), .int (x), .int (y), .int (bI (b)), .int (d)]) (QcM (some (.int (aPl x y d))) (fun H => va_P D vwCl (wB ad ck (pPl S x y d b) a) H) (aB ad)) 0 0 (aB ad) := by
  refine Met.ofW (cc := cX0_place) (maxL := 5) (ret := (some .boolean)) (by decide) rfl ?_
  intro p e s m args below meth c s₁ B hml hv
  obtain ⟨rfl, hP, hK⟩ := hv
  have hx := B.exec
  have hb := B.bytes
  have hr := B.returns
  have hts := atoms_spec (ws := wsX0_place) B.pre
  have hown : s.vm.findClass RX0 = some m.cls := findClass_of_methodNamed B.named
  have hlocks := B.notSynchronized
  have hin0 : ∀ w ∈ wsX00, w ∈ wsX0_place := by decide +kernel
  have hl := lv_entry ([.ref (ad 0), .int (x), .int (y), .int (bI (b)), .int (d)]) (n := 5) (Nat.le_of_ble_eq_true rfl)
  rw [lg_entry_eq]
  generalize (lg_sl ([.ref (ad 0), .int (x), .int (y), .int (bI (b)), .int (d)]) ++ List.replicate (5 - (lg_sl ([.ref (ad 0), .int (x), .int (y), .int (bI (b)), .int (d)])).length) Slot.unset).toArray = ls at hl ⊢
  have hl : lv_has ls 5 [(0, .ref (ad 0)), (1, .int (x)), (2, .int (y)), (3, .int (bI (b))), (4, .int (d))] := hl
  have hS : va_S (aB ad) s.heap s.heap [] := va_S.rf
  refine lv_iload_n hx hb dX0_place_0 rfl (lv_at hl 1 rfl) ?_
  refine W.callR (W.runS (As := [.int (x)]) (rest := []) ⟨hx, hb, hml, hown, hts⟩ (c0_isRouter l ((x))) (va_cwS 1 hts gX0_place_X0_isRouter rfl rfl rfl (by decide +kernel) ⟨Nat.le_of_ble_eq_true rfl, Nat.le_of_ble_eq_true rfl⟩) preEq rfl rfl hl.1 rfl (lv_room (Nat.le_of_ble_eq_true rfl)) dX0_place_1 ⟨Nat.zero_le _, Nat.zero_le _⟩) ?_
  refine W.eq (g2 := F0 m 4 ls [.int (bI (inR 10 ((x))))]) rfl ?_
  refine xx_if0 (tgt := 27) hx hb dX0_place_4 (by decide) (fun h1 => ?_) (fun h1 => ?_)
  · skip
    refine lv_iconst (v := nI 0) hx hb dX0_place_27 (by decide) ?_
    exact W.zret (v := (nI (0))) (ty := .boolean) hx hb hr (rfl) (fun t ht hW => ⟨ro_i ((aPl_g (by rw [h1]; rfl)).symm), by rw [ht, pPl_g (by rw [h1]; rfl)]; exact hP, hS.F ht⟩) hS.2.2 dX0_place_28
  · skip
    obtain ⟨r, hr10, rfl⟩ := inR_t (by decide) h1
    refine lv_iload_n hx hb dX0_place_7 rfl (lv_at hl 2 rfl) ?_
    refine W.callR (W.runS (As := [.int (y)]) (rest := []) ⟨hx, hb, hml, hown, hts⟩ (c0_isSource l ((y))) (va_cwS 1 hts gX0_place_X0_isSource rfl rfl rfl (by decide +kernel) ⟨Nat.le_of_ble_eq_true rfl, Nat.le_of_ble_eq_true rfl⟩) preEq rfl rfl hl.1 rfl (lv_room (Nat.le_of_ble_eq_true rfl)) dX0_place_8 ⟨Nat.zero_le _, Nat.zero_le _⟩) ?_
    refine W.eq (g2 := F0 m 11 ls [.int (bI (inR 16 ((y))))]) rfl ?_
    refine xx_if0 (tgt := 27) hx hb dX0_place_11 (by decide) (fun h2 => ?_) (fun h2 => ?_)
    · skip
      refine lv_iconst (v := nI 0) hx hb dX0_place_27 (by decide) ?_
      exact W.zret (v := (nI (0))) (ty := .boolean) hx hb hr (rfl) (fun t ht hW => ⟨ro_i ((aPl_g (by rw [h2, Bool.and_false])).symm), by rw [ht, pPl_g (by rw [h2, Bool.and_false])]; exact hP, hS.F ht⟩) hS.2.2 dX0_place_28
    · skip
      obtain ⟨z, hz16, rfl⟩ := inR_t (by decide) h2
      refine lv_iload hx hb dX0_place_14 (lv_at hl 4 rfl) ?_
      refine lv_if_lt (tgt := 27) hx hb dX0_place_16 (by decide) (fun h3 => ?_) (fun h3 => ?_)
      · skip
        refine lv_iconst (v := nI 0) hx hb dX0_place_27 (by decide) ?_
        exact W.zret (v := (nI (0))) (ty := .boolean) hx hb hr (rfl) (fun t ht hW => ⟨ro_i ((aPl_f (inR_f1 h3)).symm), by rw [ht, pPl_f (inR_f1 h3)]; exact hP, hS.F ht⟩) hS.2.2 dX0_place_28
      · skip
        refine lv_iload hx hb dX0_place_19 (lv_at hl 4 rfl) ?_
        refine lv_sipush (v := nI 9999) hx hb dX0_place_21 (by decide) ?_
        refine lv_icmp_le (tgt := 29) hx hb dX0_place_24 (by decide) (fun h4 => ?_) (fun h4 => ?_)
        · skip
          obtain ⟨k, hk, rfl⟩ := pl_t h3 h4
          refine lv_aload_n hx hb dX0_place_29 rfl (lv_at hl 0 rfl) ?_
          refine va_get (D := D) (ci := 0) (v := .ref (ad 2)) (C := RX0) (T := TX0) (N := 10) hx hb hts hin0 hown hK hP 0 rfl rfl 5 (by decide) (hts (.fieldLink RX0 26 "ClaimBench" "ownClaims" "[I") (by decide +kernel)) (fun _ h9 => h9) rfl dX0_place_30 ?_
          refine lv_iload_n hx hb dX0_place_33 rfl (lv_at hl 1 rfl) ?_
          refine lv_iload_n hx hb dX0_place_34 rfl (lv_at hl 2 rfl) ?_
          refine W.callR (W.runS (As := [.int (nI (r)), .int (nI (z))]) (rest := [.ref (ad 2)]) ⟨hx, hb, hml, hown, hts⟩ (c0_cellOf l r z) (va_cwS 2 hts gX0_place_X0_cellOf rfl rfl rfl (by decide +kernel) ⟨Nat.le_of_ble_eq_true rfl, Nat.le_of_ble_eq_true rfl⟩) preEq rfl rfl hl.1 rfl (lv_room (Nat.le_of_ble_eq_true rfl)) dX0_place_35 ⟨Nat.zero_le _, Nat.zero_le _⟩) ?_
          refine W.eq (g2 := F0 m 38 ls [.int (nI (16 * r + z)), .ref (ad 2)]) rfl ?_
          refine lv_iload_n hx hb dX0_place_38 rfl (lv_at hl 1 rfl) ?_
          refine lv_iload_n hx hb dX0_place_39 rfl (lv_at hl 3 rfl) ?_
          refine lv_iload hx hb dX0_place_40 (lv_at hl 4 rfl) ?_
          refine W.callR (W.runS (As := [.int (nI (r)), .int (bI (b)), .int (nI (k))]) (rest := [.int (nI (16 * r + z)), .ref (ad 2)]) ⟨hx, hb, hml, hown, hts⟩ (c0_claimOf l r b k) (va_cwS 3 hts gX0_place_X0_claimOf rfl rfl rfl (by decide +kernel) ⟨Nat.le_of_ble_eq_true rfl, Nat.le_of_ble_eq_true rfl⟩) preEq rfl rfl hl.1 rfl (lv_room (Nat.le_of_ble_eq_true rfl)) dX0_place_42 ⟨Nat.zero_le _, Nat.zero_le _⟩) ?_
          refine W.eq (g2 := F0 m 45 ls [.int (nI ((if b then 0 else 1000000) + 100 * k + r)), .int (nI (16 * r + z)), .ref (ad 2)]) rfl ?_
          refine xx_ast hx hb hK hP (dB hd ck _ _) hS 2 1 rfl rfl (j := 16 * r + z) (by omega) (by decide) (fun c_ => nI (pO (uI (uS S (upB (sS S) (16 * r + z) b)) (upN (sI S) (16 * r + z) k)) c_)) (st_pl S r z k b hz16) dX0_place_45 (fun H locs hP hS => ?_)
          have hP : va_P D vwCl (wB ad ck (uI (uS S (upB (sS S) (16 * r + z) b)) (upN (sI S) (16 * r + z) k)) a) H := hP
          refine lv_iconst (v := nI 1) hx hb dX0_place_46 (by decide) ?_
          exact W.zret (v := (nI (1))) (ty := .boolean) hx hb hr (rfl) (fun t ht hW => ⟨ro_i ((aPl_t hr10 hz16 hk).symm), by rw [ht, pPl_t hr10 hz16 hk]; exact hP, hS.F ht⟩) hS.2.2 dX0_place_47
        · skip
          refine lv_iconst (v := nI 0) hx hb dX0_place_27 (by decide) ?_
          exact W.zret (v := (nI (0))) (ty := .boolean) hx hb hr (rfl) (fun t ht hW => ⟨ro_i ((aPl_f (pl_f h4)).symm), by rw [ht, pPl_f (pl_f h4)]; exact hP, hS.F ht⟩) hS.2.2 dX0_place_28
set_option maxHeartbeats 4000000 in
set_option maxRecDepth 100000 in
theorem c1_place (l : Launch) (D : va_G) (ad : Nat → Nat) (hd : apt 9 ad) (ck : Nat → ClassId) (S : AS) (a : Nat) (hi : iv S) (x y : Int32) (b : Bool) (d : Int32) : Met l yX1_place wsX1_place ({ frames := 2, cells := 0, slots := 0, locals := 41 }) (PW D (wM ad ck S a) (tyM ck) [.ref (ad 0), .int (x), .int (y), .int (bI (b)), .int (d)]) (QcM (some (.int (aPl x y d))) (fun H => va_P D vwCl (wM ad ck (pPl S x y d b) a) H) (aM ad)) 0 0 (aM ad) := by
  refine Met.ofW (cc := cX1_place) (maxL := 5) (ret := (some .boolean)) (by decide) rfl ?_
  intro p e s m args below meth c s₁ B hml hv
  obtain ⟨rfl, hP, hK⟩ := hv
  have hx := B.exec
  have hb := B.bytes
  have hr := B.returns
  have hts := atoms_spec (ws := wsX1_place) B.pre
  have hown : s.vm.findClass RX1 = some m.cls := findClass_of_methodNamed B.named
  have hlocks := B.notSynchronized
  have hin0 : ∀ w ∈ wsX10, w ∈ wsX1_place := by decide +kernel
  have hl := lv_entry ([.ref (ad 0), .int (x), .int (y), .int (bI (b)), .int (d)]) (n := 5) (Nat.le_of_ble_eq_true rfl)
  rw [lg_entry_eq]
  generalize (lg_sl ([.ref (ad 0), .int (x), .int (y), .int (bI (b)), .int (d)]) ++ List.replicate (5 - (lg_sl ([.ref (ad 0), .int (x), .int (y), .int (bI (b)), .int (d)])).length) Slot.unset).toArray = ls at hl ⊢
  have hl : lv_has ls 5 [(0, .ref (ad 0)), (1, .int (x)), (2, .int (y)), (3, .int (bI (b))), (4, .int (d))] := hl
  have hS : va_S (aM ad) s.heap s.heap [] := va_S.rf
  refine lv_iload_n hx hb dX1_place_0 rfl (lv_at hl 1 rfl) ?_
  refine lv_iload_n hx hb dX1_place_1 rfl (lv_at hl 2 rfl) ?_
  refine W.callR (W.runS (As := [.int (x), .int (y)]) (rest := []) ⟨hx, hb, hml, hown, hts⟩ (c1_isPair l ((x)) ((y))) (va_cwS 2 hts gX1_place_X1_isPair rfl rfl rfl (by decide +kernel) ⟨Nat.le_of_ble_eq_true rfl, Nat.le_of_ble_eq_true rfl⟩) preEq rfl rfl hl.1 rfl (lv_room (Nat.le_of_ble_eq_true rfl)) dX1_place_2 ⟨Nat.zero_le _, Nat.zero_le _⟩) ?_
  refine W.eq (g2 := F0 m 5 ls [.int (bI (inR 10 ((x)) && inR 16 ((y))))]) rfl ?_
  refine xx_if0 (tgt := 21) hx hb dX1_place_5 (by decide) (fun h1 => ?_) (fun h1 => ?_)
  · skip
    refine lv_iconst (v := nI 0) hx hb dX1_place_21 (by decide) ?_
    exact W.zret (v := (nI (0))) (ty := .boolean) hx hb hr (rfl) (fun t ht hW => ⟨ro_i ((aPl_g h1).symm), by rw [ht, pPl_g h1]; exact hP, hS.F ht⟩) hS.2.2 dX1_place_22
  · skip
    obtain ⟨hp1, hp2⟩ := (Bool.and_eq_true _ _).mp h1
    obtain ⟨r, hr10, rfl⟩ := inR_t (by decide) hp1
    obtain ⟨z, hz16, rfl⟩ := inR_t (by decide) hp2
    refine lv_iload hx hb dX1_place_8 (lv_at hl 4 rfl) ?_
    refine lv_if_lt (tgt := 21) hx hb dX1_place_10 (by decide) (fun h2 => ?_) (fun h2 => ?_)
    · skip
      refine lv_iconst (v := nI 0) hx hb dX1_place_21 (by decide) ?_
      exact W.zret (v := (nI (0))) (ty := .boolean) hx hb hr (rfl) (fun t ht hW => ⟨ro_i ((aPl_f (inR_f1 h2)).symm), by rw [ht, pPl_f (inR_f1 h2)]; exact hP, hS.F ht⟩) hS.2.2 dX1_place_22
    · skip
      refine lv_iload hx hb dX1_place_13 (lv_at hl 4 rfl) ?_
      refine lv_sipush (v := nI 9999) hx hb dX1_place_15 (by decide) ?_
      refine lv_icmp_le (tgt := 23) hx hb dX1_place_18 (by decide) (fun h3 => ?_) (fun h3 => ?_)
      · skip
        obtain ⟨k, hk, rfl⟩ := pl_t h2 h3
        refine lv_aload_n hx hb dX1_place_23 rfl (lv_at hl 0 rfl) ?_
        refine va_get (D := D) (ci := 1) (v := .ref (ad 4)) (C := RX1) (T := TX1) (N := 11) hx hb hts hin0 hown hK hP 0 rfl rfl 5 (by decide) (hts (.fieldLink RX1 19 "ClaimBenchModel" "isStraight" "[Z") (by decide +kernel)) (fun _ h9 => h9) rfl dX1_place_24 ?_
        refine lv_bipush (v := nI 16) hx hb dX1_place_27 (by decide) ?_
        refine lv_iload_n hx hb dX1_place_29 rfl (lv_at hl 1 rfl) ?_
        refine xx_mul hx hb dX1_place_30 ?_
        refine lv_iload_n hx hb dX1_place_31 rfl (lv_at hl 2 rfl) ?_
        refine xx_add hx hb dX1_place_32 ?_
        refine lv_iload_n hx hb dX1_place_33 rfl (lv_at hl 3 rfl) ?_
        refine xx_zst hx hb hK hP (dM hd ck _ _) hS 4 3 rfl rfl (j := (16 * r) + z) (by omega) (by decide) (fun c_ => bI (sS (uS S (upB (sS S) (16 * r + z) b)) c_)) (st_b (sS S) (16 * r + z) b) dX1_place_34 (fun H locs hP hS => ?_)
        have hP : va_P D vwCl (wM ad ck (uS S (upB (sS S) (16 * r + z) b)) a) H := hP
        refine lv_aload_n hx hb dX1_place_35 rfl (lv_at hl 0 rfl) ?_
        refine va_get (D := D) (ci := 1) (v := .ref (ad 5)) (C := RX1) (T := TX1) (N := 11) hx hb hts hin0 hown hK hP 0 rfl rfl 6 (by decide) (hts (.fieldLink RX1 22 "ClaimBenchModel" "distance" "[I") (by decide +kernel)) (fun _ h9 => h9) rfl dX1_place_36 ?_
        refine lv_bipush (v := nI 16) hx hb dX1_place_39 (by decide) ?_
        refine lv_iload_n hx hb dX1_place_41 rfl (lv_at hl 1 rfl) ?_
        refine xx_mul hx hb dX1_place_42 ?_
        refine lv_iload_n hx hb dX1_place_43 rfl (lv_at hl 2 rfl) ?_
        refine xx_add hx hb dX1_place_44 ?_
        refine lv_iload hx hb dX1_place_45 (lv_at hl 4 rfl) ?_
        refine xx_ast hx hb hK hP (dM hd ck _ _) hS 5 4 rfl rfl (j := (16 * r) + z) (by omega) (by decide) (fun c_ => nI (sI (uI (uS S (upB (sS S) (16 * r + z) b)) (upN (sI S) (16 * r + z) k)) c_)) (st_n (sI S) (16 * r + z) k) dX1_place_47 (fun H locs hP hS => ?_)
        have hP : va_P D vwCl (wM ad ck (uI (uS S (upB (sS S) (16 * r + z) b)) (upN (sI S) (16 * r + z) k)) a) H := hP
        refine lv_iconst (v := nI 1) hx hb dX1_place_48 (by decide) ?_
        exact W.zret (v := (nI (1))) (ty := .boolean) hx hb hr (rfl) (fun t ht hW => ⟨ro_i ((aPl_t hr10 hz16 hk).symm), by rw [ht, pPl_t hr10 hz16 hk]; exact hP, hS.F ht⟩) hS.2.2 dX1_place_49
      · skip
        refine lv_iconst (v := nI 0) hx hb dX1_place_21 (by decide) ?_
        exact W.zret (v := (nI (0))) (ty := .boolean) hx hb hr (rfl) (fun t ht hW => ⟨ro_i ((aPl_f (pl_f h3)).symm), by rw [ht, pPl_f (pl_f h3)]; exact hP, hS.F ht⟩) hS.2.2 dX1_place_22
set_option maxHeartbeats 4000000 in
set_option maxRecDepth 100000 in
theorem c0_there (l : Launch) (D : va_G) (ad : Nat → Nat) (hd : apt 6 ad) (ck : Nat → ClassId) (S : AS) (a : Nat) (hi : iv S) (x : Int32) (b : Bool) : Met l yX0_there wsX0_there ({ frames := 1, cells := 0, slots := 0, locals := 22 }) (PW D (wB ad ck S a) (tyB ck) [.ref (ad 0), .int (x), .int (bI (b))]) (QcM (some (.int (aTh S x))) (fun H => va_P D vwCl (wB ad ck (pTh S x b) a) H) (aB ad)) 0 0 (aB ad) := by
  refine Met.ofW (cc := cX0_there) (maxL := 4) (ret := (some .boolean)) (by decide) rfl ?_
  intro p e s m args below meth c s₁ B hml hv
  obtain ⟨rfl, hP, hK⟩ := hv
  have hx := B.exec
  have hb := B.bytes
  have hr := B.returns
  have hts := atoms_spec (ws := wsX0_there) B.pre
  have hown : s.vm.findClass RX0 = some m.cls := findClass_of_methodNamed B.named
  have hlocks := B.notSynchronized
  have hin0 : ∀ w ∈ wsX00, w ∈ wsX0_there := by decide +kernel
  have hl := lv_entry ([.ref (ad 0), .int (x), .int (bI (b))]) (n := 4) (Nat.le_of_ble_eq_true rfl)
  rw [lg_entry_eq]
  generalize (lg_sl ([.ref (ad 0), .int (x), .int (bI (b))]) ++ List.replicate (4 - (lg_sl ([.ref (ad 0), .int (x), .int (bI (b))])).length) Slot.unset).toArray = ls at hl ⊢
  have hl : lv_has ls 4 [(0, .ref (ad 0)), (1, .int (x)), (2, .int (bI (b)))] := hl
  have hS : va_S (aB ad) s.heap s.heap [] := va_S.rf
  refine lv_iload_n hx hb dX0_there_0 rfl (lv_at hl 1 rfl) ?_
  refine W.callR (W.runS (As := [.int (x)]) (rest := []) ⟨hx, hb, hml, hown, hts⟩ (c0_isRouter l ((x))) (va_cwS 1 hts gX0_there_X0_isRouter rfl rfl rfl (by decide +kernel) ⟨Nat.le_of_ble_eq_true rfl, Nat.le_of_ble_eq_true rfl⟩) preEq rfl rfl hl.1 rfl (lv_room (Nat.le_of_ble_eq_true rfl)) dX0_there_1 ⟨Nat.zero_le _, Nat.zero_le _⟩) ?_
  refine W.eq (g2 := F0 m 4 ls [.int (bI (inR 10 ((x))))]) rfl ?_
  refine xx_if1 (tgt := 9) hx hb dX0_there_4 (by decide) (fun h1 => ?_) (fun h1 => ?_)
  · skip
    obtain ⟨r, hr10, rfl⟩ := inR_t (by decide) h1
    refine lv_aload_n hx hb dX0_there_9 rfl (lv_at hl 0 rfl) ?_
    refine va_get (D := D) (ci := 0) (v := .int (nI (bm (fun i_ => !(sG S i_))))) (C := RX0) (T := TX0) (N := 10) hx hb hts hin0 hown hK hP 0 rfl rfl 1 (by decide) (hts (.fieldLink RX0 13 "ClaimBench" "thereBits" "I") (by decide +kernel)) (fun _ h9 => h9) rfl dX0_there_10 ?_
    refine lv_iload_n hx hb dX0_there_13 rfl (lv_at hl 1 rfl) ?_
    refine W.callR (W.runS (As := [.int (nI (bm (fun i_ => !(sG S i_)))), .int (nI (r))]) (rest := []) ⟨hx, hb, hml, hown, hts⟩ (c0_hasBit l (fun i_ => !(sG S i_)) r (by omega)) (va_cwS 2 hts gX0_there_X0_hasBit rfl rfl rfl (by decide +kernel) ⟨Nat.le_of_ble_eq_true rfl, Nat.le_of_ble_eq_true rfl⟩) preEq rfl rfl hl.1 rfl (lv_room (Nat.le_of_ble_eq_true rfl)) dX0_there_14 ⟨Nat.zero_le _, Nat.zero_le _⟩) ?_
    refine W.eq (g2 := F0 m 17 ls [.int (bI ((fun i_ => !(sG S i_)) r))]) rfl ?_
    refine lv_istore_n (lv' := [(3, .int (bI ((fun i_ => !(sG S i_)) r))), (0, .ref (ad 0)), (1, .int (nI (r))), (2, .int (bI (b)))]) hx hb dX0_there_17 rfl hl (by decide) rfl (fun ls hl => ?_)
    refine lv_aload_n hx hb dX0_there_18 rfl (lv_at hl 1 rfl) ?_
    refine lv_aload_n hx hb dX0_there_19 rfl (lv_at hl 1 rfl) ?_
    refine va_get (D := D) (ci := 0) (v := .int (nI (bm (fun i_ => !(sG S i_))))) (C := RX0) (T := TX0) (N := 10) hx hb hts hin0 hown hK hP 0 rfl rfl 1 (by decide) (hts (.fieldLink RX0 13 "ClaimBench" "thereBits" "I") (by decide +kernel)) (fun _ h9 => h9) rfl dX0_there_20 ?_
    refine lv_iload_n hx hb dX0_there_23 rfl (lv_at hl 2 rfl) ?_
    refine lv_iload_n hx hb dX0_there_24 rfl (lv_at hl 3 rfl) ?_
    refine W.callR (W.runS (As := [.int (nI (bm (fun i_ => !(sG S i_)))), .int (nI (r)), .int (bI (b))]) (rest := [.ref (ad 0)]) ⟨hx, hb, hml, hown, hts⟩ (c0_withBit l (fun i_ => !(sG S i_)) r b (by omega)) (va_cwS 3 hts gX0_there_X0_withBit rfl rfl rfl (by decide +kernel) ⟨Nat.le_of_ble_eq_true rfl, Nat.le_of_ble_eq_true rfl⟩) preEq rfl rfl hl.1 rfl (lv_room (Nat.le_of_ble_eq_true rfl)) dX0_there_25 ⟨Nat.zero_le _, Nat.zero_le _⟩) ?_
    refine W.eq (g2 := F0 m 28 ls [.int (nI (bm (upB (fun i_ => !(sG S i_)) r b))), .ref (ad 0)]) rfl ?_
    refine xx_top (nI (bm (fun i_ => !(upB (sG S) r (!b) i_)))) (congrArg nI (st_th (sG S) r b)) ?_
    refine va_put (D := D) (ci := 0) (v := .int (nI (bm (fun i_ => !(upB (sG S) r (!b) i_))))) (ty := .int) (C := RX0) (T := TX0) (N := 10) hx hb hts hin0 tyX0 tyX0_ok nmX0 hown hK hP (dB hd ck _ _) hS 0 rfl rfl 1 (by decide) (hts (.fieldLink RX0 13 "ClaimBench" "thereBits" "I") (by decide +kernel)) (fun _ h9 => h9) rfl (by decide +kernel) rfl rfl (Nat.le_of_ble_eq_true rfl) dX0_there_28 (fun H locs hP _ hS => ?_)
    have hP : va_P D vwCl (wB ad ck (uG S (upB (sG S) r (!b))) a) H := hP
    refine lv_iload_n hx hb dX0_there_31 rfl (lv_at hl 0 rfl) ?_
    exact W.zret (v := (bI ((fun i_ => !(sG S i_)) r))) (ty := .boolean) hx hb hr (bI_narrow _) (fun t ht hW => ⟨ro_i ((pr1_t (f := fun r => bI (!(sG S r))) (by decide) hr10).symm), by rw [ht, show pTh S (nI r) b = uG S (upB (sG S) r (!b)) from ps1_t (by decide) hr10]; exact hP, hS.F ht⟩) hS.2.2 dX0_there_32
  · skip
    refine lv_iconst (v := nI 0) hx hb dX0_there_7 (by decide) ?_
    exact W.zret (v := (nI (0))) (ty := .boolean) hx hb hr (rfl) (fun t ht hW => ⟨ro_i ((pr1_f h1).symm), by rw [ht, show pTh S x b = S from ps1_f h1]; exact hP, hS.F ht⟩) hS.2.2 dX0_there_8
set_option maxHeartbeats 4000000 in
set_option maxRecDepth 100000 in
theorem c0_deaf (l : Launch) (D : va_G) (ad : Nat → Nat) (hd : apt 6 ad) (ck : Nat → ClassId) (S : AS) (a : Nat) (hi : iv S) (x : Int32) (b : Bool) : Met l yX0_deaf wsX0_deaf ({ frames := 1, cells := 0, slots := 0, locals := 22 }) (PW D (wB ad ck S a) (tyB ck) [.ref (ad 0), .int (x), .int (bI (b))]) (QcM (some (.int (aDf S x))) (fun H => va_P D vwCl (wB ad ck (pDf S x b) a) H) (aB ad)) 0 0 (aB ad) := by
  refine Met.ofW (cc := cX0_deaf) (maxL := 4) (ret := (some .boolean)) (by decide) rfl ?_
  intro p e s m args below meth c s₁ B hml hv
  obtain ⟨rfl, hP, hK⟩ := hv
  have hx := B.exec
  have hb := B.bytes
  have hr := B.returns
  have hts := atoms_spec (ws := wsX0_deaf) B.pre
  have hown : s.vm.findClass RX0 = some m.cls := findClass_of_methodNamed B.named
  have hlocks := B.notSynchronized
  have hin0 : ∀ w ∈ wsX00, w ∈ wsX0_deaf := by decide +kernel
  have hl := lv_entry ([.ref (ad 0), .int (x), .int (bI (b))]) (n := 4) (Nat.le_of_ble_eq_true rfl)
  rw [lg_entry_eq]
  generalize (lg_sl ([.ref (ad 0), .int (x), .int (bI (b))]) ++ List.replicate (4 - (lg_sl ([.ref (ad 0), .int (x), .int (bI (b))])).length) Slot.unset).toArray = ls at hl ⊢
  have hl : lv_has ls 4 [(0, .ref (ad 0)), (1, .int (x)), (2, .int (bI (b)))] := hl
  have hS : va_S (aB ad) s.heap s.heap [] := va_S.rf
  refine lv_iload_n hx hb dX0_deaf_0 rfl (lv_at hl 1 rfl) ?_
  refine W.callR (W.runS (As := [.int (x)]) (rest := []) ⟨hx, hb, hml, hown, hts⟩ (c0_isRouter l ((x))) (va_cwS 1 hts gX0_deaf_X0_isRouter rfl rfl rfl (by decide +kernel) ⟨Nat.le_of_ble_eq_true rfl, Nat.le_of_ble_eq_true rfl⟩) preEq rfl rfl hl.1 rfl (lv_room (Nat.le_of_ble_eq_true rfl)) dX0_deaf_1 ⟨Nat.zero_le _, Nat.zero_le _⟩) ?_
  refine W.eq (g2 := F0 m 4 ls [.int (bI (inR 10 ((x))))]) rfl ?_
  refine xx_if1 (tgt := 9) hx hb dX0_deaf_4 (by decide) (fun h1 => ?_) (fun h1 => ?_)
  · skip
    obtain ⟨r, hr10, rfl⟩ := inR_t (by decide) h1
    refine lv_aload_n hx hb dX0_deaf_9 rfl (lv_at hl 0 rfl) ?_
    refine va_get (D := D) (ci := 0) (v := .int (nI (bm (sD S)))) (C := RX0) (T := TX0) (N := 10) hx hb hts hin0 hown hK hP 0 rfl rfl 2 (by decide) (hts (.fieldLink RX0 16 "ClaimBench" "deafBits" "I") (by decide +kernel)) (fun _ h9 => h9) rfl dX0_deaf_10 ?_
    refine lv_iload_n hx hb dX0_deaf_13 rfl (lv_at hl 1 rfl) ?_
    refine W.callR (W.runS (As := [.int (nI (bm (sD S))), .int (nI (r))]) (rest := []) ⟨hx, hb, hml, hown, hts⟩ (c0_hasBit l (sD S) r (by omega)) (va_cwS 2 hts gX0_deaf_X0_hasBit rfl rfl rfl (by decide +kernel) ⟨Nat.le_of_ble_eq_true rfl, Nat.le_of_ble_eq_true rfl⟩) preEq rfl rfl hl.1 rfl (lv_room (Nat.le_of_ble_eq_true rfl)) dX0_deaf_14 ⟨Nat.zero_le _, Nat.zero_le _⟩) ?_
    refine W.eq (g2 := F0 m 17 ls [.int (bI ((sD S) r))]) rfl ?_
    refine lv_istore_n (lv' := [(3, .int (bI ((sD S) r))), (0, .ref (ad 0)), (1, .int (nI (r))), (2, .int (bI (b)))]) hx hb dX0_deaf_17 rfl hl (by decide) rfl (fun ls hl => ?_)
    refine lv_aload_n hx hb dX0_deaf_18 rfl (lv_at hl 1 rfl) ?_
    refine lv_aload_n hx hb dX0_deaf_19 rfl (lv_at hl 1 rfl) ?_
    refine va_get (D := D) (ci := 0) (v := .int (nI (bm (sD S)))) (C := RX0) (T := TX0) (N := 10) hx hb hts hin0 hown hK hP 0 rfl rfl 2 (by decide) (hts (.fieldLink RX0 16 "ClaimBench" "deafBits" "I") (by decide +kernel)) (fun _ h9 => h9) rfl dX0_deaf_20 ?_
    refine lv_iload_n hx hb dX0_deaf_23 rfl (lv_at hl 2 rfl) ?_
    refine lv_iload_n hx hb dX0_deaf_24 rfl (lv_at hl 3 rfl) ?_
    refine W.callR (W.runS (As := [.int (nI (bm (sD S))), .int (nI (r)), .int (bI (b))]) (rest := [.ref (ad 0)]) ⟨hx, hb, hml, hown, hts⟩ (c0_withBit l (sD S) r b (by omega)) (va_cwS 3 hts gX0_deaf_X0_withBit rfl rfl rfl (by decide +kernel) ⟨Nat.le_of_ble_eq_true rfl, Nat.le_of_ble_eq_true rfl⟩) preEq rfl rfl hl.1 rfl (lv_room (Nat.le_of_ble_eq_true rfl)) dX0_deaf_25 ⟨Nat.zero_le _, Nat.zero_le _⟩) ?_
    refine W.eq (g2 := F0 m 28 ls [.int (nI (bm (upB (sD S) r b))), .ref (ad 0)]) rfl ?_
    refine va_put (D := D) (ci := 0) (v := .int (nI (bm (upB (sD S) r b)))) (ty := .int) (C := RX0) (T := TX0) (N := 10) hx hb hts hin0 tyX0 tyX0_ok nmX0 hown hK hP (dB hd ck _ _) hS 0 rfl rfl 2 (by decide) (hts (.fieldLink RX0 16 "ClaimBench" "deafBits" "I") (by decide +kernel)) (fun _ h9 => h9) rfl (by decide +kernel) rfl rfl (Nat.le_of_ble_eq_true rfl) dX0_deaf_28 (fun H locs hP _ hS => ?_)
    have hP : va_P D vwCl (wB ad ck (uD S (upB (sD S) r b)) a) H := hP
    refine lv_iload_n hx hb dX0_deaf_31 rfl (lv_at hl 0 rfl) ?_
    exact W.zret (v := (bI ((sD S) r))) (ty := .boolean) hx hb hr (bI_narrow _) (fun t ht hW => ⟨ro_i ((pr1_t (f := fun r => bI (sD S r)) (by decide) hr10).symm), by rw [ht, show pDf S (nI r) b = uD S (upB (sD S) r b) from ps1_t (by decide) hr10]; exact hP, hS.F ht⟩) hS.2.2 dX0_deaf_32
  · skip
    refine lv_iconst (v := nI 0) hx hb dX0_deaf_7 (by decide) ?_
    exact W.zret (v := (nI (0))) (ty := .boolean) hx hb hr (rfl) (fun t ht hW => ⟨ro_i ((pr1_f h1).symm), by rw [ht, show pDf S x b = S from ps1_f h1]; exact hP, hS.F ht⟩) hS.2.2 dX0_deaf_8
set_option maxHeartbeats 4000000 in
set_option maxRecDepth 100000 in
theorem c1_deaf (l : Launch) (D : va_G) (ad : Nat → Nat) (hd : apt 9 ad) (ck : Nat → ClassId) (S : AS) (a : Nat) (hi : iv S) (x : Int32) (b : Bool) : Met l yX1_deaf wsX1_deaf ({ frames := 1, cells := 0, slots := 0, locals := 20 }) (PW D (wM ad ck S a) (tyM ck) [.ref (ad 0), .int (x), .int (bI (b))]) (QcM (some (.int (aDf S x))) (fun H => va_P D vwCl (wM ad ck (pDf S x b) a) H) (aM ad)) 0 0 (aM ad) := by
  refine Met.ofW (cc := cX1_deaf) (maxL := 4) (ret := (some .boolean)) (by decide) rfl ?_
  intro p e s m args below meth c s₁ B hml hv
  obtain ⟨rfl, hP, hK⟩ := hv
  have hx := B.exec
  have hb := B.bytes
  have hr := B.returns
  have hts := atoms_spec (ws := wsX1_deaf) B.pre
  have hown : s.vm.findClass RX1 = some m.cls := findClass_of_methodNamed B.named
  have hlocks := B.notSynchronized
  have hin0 : ∀ w ∈ wsX10, w ∈ wsX1_deaf := by decide +kernel
  have hl := lv_entry ([.ref (ad 0), .int (x), .int (bI (b))]) (n := 4) (Nat.le_of_ble_eq_true rfl)
  rw [lg_entry_eq]
  generalize (lg_sl ([.ref (ad 0), .int (x), .int (bI (b))]) ++ List.replicate (4 - (lg_sl ([.ref (ad 0), .int (x), .int (bI (b))])).length) Slot.unset).toArray = ls at hl ⊢
  have hl : lv_has ls 4 [(0, .ref (ad 0)), (1, .int (x)), (2, .int (bI (b)))] := hl
  have hS : va_S (aM ad) s.heap s.heap [] := va_S.rf
  refine lv_iload_n hx hb dX1_deaf_0 rfl (lv_at hl 1 rfl) ?_
  refine W.callR (W.runS (As := [.int (x)]) (rest := []) ⟨hx, hb, hml, hown, hts⟩ (c1_isRouter l ((x))) (va_cwS 1 hts gX1_deaf_X1_isRouter rfl rfl rfl (by decide +kernel) ⟨Nat.le_of_ble_eq_true rfl, Nat.le_of_ble_eq_true rfl⟩) preEq rfl rfl hl.1 rfl (lv_room (Nat.le_of_ble_eq_true rfl)) dX1_deaf_1 ⟨Nat.zero_le _, Nat.zero_le _⟩) ?_
  refine W.eq (g2 := F0 m 4 ls [.int (bI (inR 10 ((x))))]) rfl ?_
  refine xx_if1 (tgt := 9) hx hb dX1_deaf_4 (by decide) (fun h1 => ?_) (fun h1 => ?_)
  · skip
    obtain ⟨r, hr10, rfl⟩ := inR_t (by decide) h1
    refine lv_aload_n hx hb dX1_deaf_9 rfl (lv_at hl 0 rfl) ?_
    refine va_get (D := D) (ci := 1) (v := .ref (ad 2)) (C := RX1) (T := TX1) (N := 11) hx hb hts hin0 hown hK hP 0 rfl rfl 3 (by decide) (hts (.fieldLink RX1 13 "ClaimBenchModel" "isDeaf" "[Z") (by decide +kernel)) (fun _ h9 => h9) rfl dX1_deaf_10 ?_
    refine lv_iload_n hx hb dX1_deaf_13 rfl (lv_at hl 1 rfl) ?_
    refine xx_zld hx hb hK hP 2 1 (fun c_ => bI (sD S c_)) rfl rfl (j := r) (by omega) (by decide) dX1_deaf_14 ?_
    refine W.eq (g2 := F0 m 15 ls [.int (bI (sD S r))]) rfl ?_
    refine lv_istore_n (lv' := [(3, .int (bI (sD S r))), (0, .ref (ad 0)), (1, .int (nI (r))), (2, .int (bI (b)))]) hx hb dX1_deaf_15 rfl hl (by decide) rfl (fun ls hl => ?_)
    refine lv_aload_n hx hb dX1_deaf_16 rfl (lv_at hl 1 rfl) ?_
    refine va_get (D := D) (ci := 1) (v := .ref (ad 2)) (C := RX1) (T := TX1) (N := 11) hx hb hts hin0 hown hK hP 0 rfl rfl 3 (by decide) (hts (.fieldLink RX1 13 "ClaimBenchModel" "isDeaf" "[Z") (by decide +kernel)) (fun _ h9 => h9) rfl dX1_deaf_17 ?_
    refine lv_iload_n hx hb dX1_deaf_20 rfl (lv_at hl 2 rfl) ?_
    refine lv_iload_n hx hb dX1_deaf_21 rfl (lv_at hl 3 rfl) ?_
    refine xx_zst hx hb hK hP (dM hd ck _ _) hS 2 1 rfl rfl (j := r) (by omega) (by decide) (fun c_ => bI (sD (uD S (upB (sD S) r b)) c_)) (st_b (sD S) r b) dX1_deaf_22 (fun H locs hP hS => ?_)
    have hP : va_P D vwCl (wM ad ck (uD S (upB (sD S) r b)) a) H := hP
    refine lv_iload_n hx hb dX1_deaf_23 rfl (lv_at hl 0 rfl) ?_
    exact W.zret (v := (bI (sD S r))) (ty := .boolean) hx hb hr (bI_narrow _) (fun t ht hW => ⟨ro_i ((pr1_t (f := fun r => bI (sD S r)) (by decide) hr10).symm), by rw [ht, show pDf S (nI r) b = uD S (upB (sD S) r b) from ps1_t (by decide) hr10]; exact hP, hS.F ht⟩) hS.2.2 dX1_deaf_24
  · skip
    refine lv_iconst (v := nI 0) hx hb dX1_deaf_7 (by decide) ?_
    exact W.zret (v := (nI (0))) (ty := .boolean) hx hb hr (rfl) (fun t ht hW => ⟨ro_i ((pr1_f h1).symm), by rw [ht, show pDf S x b = S from ps1_f h1]; exact hP, hS.F ht⟩) hS.2.2 dX1_deaf_8
set_option maxHeartbeats 4000000 in
set_option maxRecDepth 100000 in
theorem c1_there (l : Launch) (D : va_G) (ad : Nat → Nat) (hd : apt 9 ad) (ck : Nat → ClassId) (S : AS) (a : Nat) (hi : iv S) (x : Int32) (b : Bool) : Met l yX1_there wsX1_there ({ frames := 1, cells := 0, slots := 0, locals := 20 }) (PW D (wM ad ck S a) (tyM ck) [.ref (ad 0), .int (x), .int (bI (b))]) (QcM (some (.int (aTh S x))) (fun H => va_P D vwCl (wM ad ck (pTh S x b) a) H) (aM ad)) 0 0 (aM ad) := by
  refine Met.ofW (cc := cX1_there) (maxL := 4) (ret := (some .boolean)) (by decide) rfl ?_
  intro p e s m args below meth c s₁ B hml hv
  obtain ⟨rfl, hP, hK⟩ := hv
  have hx := B.exec
  have hb := B.bytes
  have hr := B.returns
  have hts := atoms_spec (ws := wsX1_there) B.pre
  have hown : s.vm.findClass RX1 = some m.cls := findClass_of_methodNamed B.named
  have hlocks := B.notSynchronized
  have hin0 : ∀ w ∈ wsX10, w ∈ wsX1_there := by decide +kernel
  have hl := lv_entry ([.ref (ad 0), .int (x), .int (bI (b))]) (n := 4) (Nat.le_of_ble_eq_true rfl)
  rw [lg_entry_eq]
  generalize (lg_sl ([.ref (ad 0), .int (x), .int (bI (b))]) ++ List.replicate (4 - (lg_sl ([.ref (ad 0), .int (x), .int (bI (b))])).length) Slot.unset).toArray = ls at hl ⊢
  have hl : lv_has ls 4 [(0, .ref (ad 0)), (1, .int (x)), (2, .int (bI (b)))] := hl
  have hS : va_S (aM ad) s.heap s.heap [] := va_S.rf
  refine lv_iload_n hx hb dX1_there_0 rfl (lv_at hl 1 rfl) ?_
  refine W.callR (W.runS (As := [.int (x)]) (rest := []) ⟨hx, hb, hml, hown, hts⟩ (c1_isRouter l ((x))) (va_cwS 1 hts gX1_there_X1_isRouter rfl rfl rfl (by decide +kernel) ⟨Nat.le_of_ble_eq_true rfl, Nat.le_of_ble_eq_true rfl⟩) preEq rfl rfl hl.1 rfl (lv_room (Nat.le_of_ble_eq_true rfl)) dX1_there_1 ⟨Nat.zero_le _, Nat.zero_le _⟩) ?_
  refine W.eq (g2 := F0 m 4 ls [.int (bI (inR 10 ((x))))]) rfl ?_
  refine xx_if1 (tgt := 9) hx hb dX1_there_4 (by decide) (fun h1 => ?_) (fun h1 => ?_)
  · skip
    obtain ⟨r, hr10, rfl⟩ := inR_t (by decide) h1
    refine lv_aload_n hx hb dX1_there_9 rfl (lv_at hl 0 rfl) ?_
    refine va_get (D := D) (ci := 1) (v := .ref (ad 1)) (C := RX1) (T := TX1) (N := 11) hx hb hts hin0 hown hK hP 0 rfl rfl 2 (by decide) (hts (.fieldLink RX1 7 "ClaimBenchModel" "isGone" "[Z") (by decide +kernel)) (fun _ h9 => h9) rfl dX1_there_10 ?_
    refine lv_iload_n hx hb dX1_there_13 rfl (lv_at hl 1 rfl) ?_
    refine xx_zld hx hb hK hP 1 0 (fun c_ => bI (sG S c_)) rfl rfl (j := r) (by omega) (by decide) dX1_there_14 ?_
    refine W.eq (g2 := F0 m 15 ls [.int (bI (sG S r))]) rfl ?_
    refine xx_if1 (tgt := 22) hx hb dX1_there_15 (by decide) (fun h2 => ?_) (fun h2 => ?_)
    · skip
      refine lv_iconst (v := nI 0) hx hb dX1_there_22 (by decide) ?_
      refine lv_istore_n (lv' := [(3, .int (nI (0))), (0, .ref (ad 0)), (1, .int (nI (r))), (2, .int (bI (b)))]) hx hb dX1_there_23 rfl hl (by decide) rfl (fun ls hl => ?_)
      refine lv_aload_n hx hb dX1_there_24 rfl (lv_at hl 1 rfl) ?_
      refine va_get (D := D) (ci := 1) (v := .ref (ad 1)) (C := RX1) (T := TX1) (N := 11) hx hb hts hin0 hown hK hP 0 rfl rfl 2 (by decide) (hts (.fieldLink RX1 7 "ClaimBenchModel" "isGone" "[Z") (by decide +kernel)) (fun _ h9 => h9) rfl dX1_there_25 ?_
      refine lv_iload_n hx hb dX1_there_28 rfl (lv_at hl 2 rfl) ?_
      refine lv_iload_n hx hb dX1_there_29 rfl (lv_at hl 3 rfl) ?_
      refine xx_if1 (tgt := 37) hx hb dX1_there_30 (by decide) (fun h3 => ?_) (fun h3 => ?_)
      · skip
        refine lv_iconst (v := nI 0) hx hb dX1_there_37 (by decide) ?_
        refine xx_top (bI false) rfl ?_
        refine xx_zst hx hb hK hP (dM hd ck _ _) hS 1 0 rfl rfl (j := r) (by omega) (by decide) (fun c_ => bI (sG (uG S (upB (sG S) r false)) c_)) (st_b (sG S) r false) dX1_there_38 (fun H locs hP hS => ?_)
        have hP : va_P D vwCl (wM ad ck (uG S (upB (sG S) r false)) a) H := hP
        refine lv_iload_n hx hb dX1_there_39 rfl (lv_at hl 0 rfl) ?_
        exact W.zret (v := (nI (0))) (ty := .boolean) hx hb hr (rfl) (fun t ht hW => ⟨ro_i ((by unfold aTh; rw [pr1_t (by decide) hr10, h2]; rfl)), by rw [ht, show pTh S (nI r) b = uG S (upB (sG S) r false) from (by unfold pTh; rw [ps1_t (by decide) hr10, h3]; rfl)]; exact hP, hS.F ht⟩) hS.2.2 dX1_there_40
      · skip
        refine lv_iconst (v := nI 1) hx hb dX1_there_33 (by decide) ?_
        refine lv_goto (tgt := 38) hx hb dX1_there_34 (by decide) ?_
        refine xx_top (bI true) rfl ?_
        refine xx_zst hx hb hK hP (dM hd ck _ _) hS 1 0 rfl rfl (j := r) (by omega) (by decide) (fun c_ => bI (sG (uG S (upB (sG S) r true)) c_)) (st_b (sG S) r true) dX1_there_38 (fun H locs hP hS => ?_)
        have hP : va_P D vwCl (wM ad ck (uG S (upB (sG S) r true)) a) H := hP
        refine lv_iload_n hx hb dX1_there_39 rfl (lv_at hl 0 rfl) ?_
        exact W.zret (v := (nI (0))) (ty := .boolean) hx hb hr (rfl) (fun t ht hW => ⟨ro_i ((by unfold aTh; rw [pr1_t (by decide) hr10, h2]; rfl)), by rw [ht, show pTh S (nI r) b = uG S (upB (sG S) r true) from (by unfold pTh; rw [ps1_t (by decide) hr10, h3]; rfl)]; exact hP, hS.F ht⟩) hS.2.2 dX1_there_40
    · skip
      refine lv_iconst (v := nI 1) hx hb dX1_there_18 (by decide) ?_
      refine lv_goto (tgt := 23) hx hb dX1_there_19 (by decide) ?_
      refine lv_istore_n (lv' := [(3, .int (nI (1))), (0, .ref (ad 0)), (1, .int (nI (r))), (2, .int (bI (b)))]) hx hb dX1_there_23 rfl hl (by decide) rfl (fun ls hl => ?_)
      refine lv_aload_n hx hb dX1_there_24 rfl (lv_at hl 1 rfl) ?_
      refine va_get (D := D) (ci := 1) (v := .ref (ad 1)) (C := RX1) (T := TX1) (N := 11) hx hb hts hin0 hown hK hP 0 rfl rfl 2 (by decide) (hts (.fieldLink RX1 7 "ClaimBenchModel" "isGone" "[Z") (by decide +kernel)) (fun _ h9 => h9) rfl dX1_there_25 ?_
      refine lv_iload_n hx hb dX1_there_28 rfl (lv_at hl 2 rfl) ?_
      refine lv_iload_n hx hb dX1_there_29 rfl (lv_at hl 3 rfl) ?_
      refine xx_if1 (tgt := 37) hx hb dX1_there_30 (by decide) (fun h4 => ?_) (fun h4 => ?_)
      · skip
        refine lv_iconst (v := nI 0) hx hb dX1_there_37 (by decide) ?_
        refine xx_top (bI false) rfl ?_
        refine xx_zst hx hb hK hP (dM hd ck _ _) hS 1 0 rfl rfl (j := r) (by omega) (by decide) (fun c_ => bI (sG (uG S (upB (sG S) r false)) c_)) (st_b (sG S) r false) dX1_there_38 (fun H locs hP hS => ?_)
        have hP : va_P D vwCl (wM ad ck (uG S (upB (sG S) r false)) a) H := hP
        refine lv_iload_n hx hb dX1_there_39 rfl (lv_at hl 0 rfl) ?_
        exact W.zret (v := (nI (1))) (ty := .boolean) hx hb hr (rfl) (fun t ht hW => ⟨ro_i ((by unfold aTh; rw [pr1_t (by decide) hr10, h2]; rfl)), by rw [ht, show pTh S (nI r) b = uG S (upB (sG S) r false) from (by unfold pTh; rw [ps1_t (by decide) hr10, h4]; rfl)]; exact hP, hS.F ht⟩) hS.2.2 dX1_there_40
      · skip
        refine lv_iconst (v := nI 1) hx hb dX1_there_33 (by decide) ?_
        refine lv_goto (tgt := 38) hx hb dX1_there_34 (by decide) ?_
        refine xx_top (bI true) rfl ?_
        refine xx_zst hx hb hK hP (dM hd ck _ _) hS 1 0 rfl rfl (j := r) (by omega) (by decide) (fun c_ => bI (sG (uG S (upB (sG S) r true)) c_)) (st_b (sG S) r true) dX1_there_38 (fun H locs hP hS => ?_)
        have hP : va_P D vwCl (wM ad ck (uG S (upB (sG S) r true)) a) H := hP
        refine lv_iload_n hx hb dX1_there_39 rfl (lv_at hl 0 rfl) ?_
        exact W.zret (v := (nI (1))) (ty := .boolean) hx hb hr (rfl) (fun t ht hW => ⟨ro_i ((by unfold aTh; rw [pr1_t (by decide) hr10, h2]; rfl)), by rw [ht, show pTh S (nI r) b = uG S (upB (sG S) r true) from (by unfold pTh; rw [ps1_t (by decide) hr10, h4]; rfl)]; exact hP, hS.F ht⟩) hS.2.2 dX1_there_40
  · skip
    refine lv_iconst (v := nI 0) hx hb dX1_there_7 (by decide) ?_
    exact W.zret (v := (nI (0))) (ty := .boolean) hx hb hr (rfl) (fun t ht hW => ⟨ro_i ((pr1_f h1).symm), by rw [ht, show pTh S x b = S from ps1_f h1]; exact hP, hS.F ht⟩) hS.2.2 dX1_there_8
set_option maxHeartbeats 4000000 in
set_option maxRecDepth 100000 in
theorem c0_sayClaim (l : Launch) (D : va_G) (ad : Nat → Nat) (hd : apt 6 ad) (ck : Nat → ClassId) (S : AS) (a : Nat) (hi : iv S) (r X : Nat) (hX : X % 100 = r) (hn : sN S < 1023) : Met l yX0_sayClaim wsX0_sayClaim ({ frames := 0, cells := 0, slots := 0, locals := 0 }) (PW D (wB ad ck S a) (tyB ck) [.ref (ad 0), .int (nI (r))]) (QcM none (fun H => va_P D vwCl (wB ad ck (pSay S X) a) H) (aB ad)) 0 0 (aB ad) := by
  refine Met.ofW (cc := cX0_sayClaim) (maxL := 2) (ret := none) (by decide) rfl ?_
  intro p e s m args below meth c s₁ B hml hv
  obtain ⟨rfl, hP, hK⟩ := hv
  have hx := B.exec
  have hb := B.bytes
  have hr := B.returns
  have hts := atoms_spec (ws := wsX0_sayClaim) B.pre
  have hown : s.vm.findClass RX0 = some m.cls := findClass_of_methodNamed B.named
  have hlocks := B.notSynchronized
  have hin0 : ∀ w ∈ wsX00, w ∈ wsX0_sayClaim := by decide +kernel
  have hl := lv_entry ([.ref (ad 0), .int (nI (r))]) (n := 2) (Nat.le_of_ble_eq_true rfl)
  rw [lg_entry_eq]
  generalize (lg_sl ([.ref (ad 0), .int (nI (r))]) ++ List.replicate (2 - (lg_sl ([.ref (ad 0), .int (nI (r))])).length) Slot.unset).toArray = ls at hl ⊢
  have hl : lv_has ls 2 [(0, .ref (ad 0)), (1, .int (nI (r)))] := hl
  have hS : va_S (aB ad) s.heap s.heap [] := va_S.rf
  refine lv_aload_n hx hb dX0_sayClaim_0 rfl (lv_at hl 0 rfl) ?_
  refine va_get (D := D) (ci := 0) (v := .int (nI (sN S))) (C := RX0) (T := TX0) (N := 10) hx hb hts hin0 hown hK hP 0 rfl rfl 9 (by decide) (hts (.fieldLink RX0 38 "ClaimBench" "rowLength" "I") (by decide +kernel)) (fun _ h9 => h9) rfl dX0_sayClaim_1 ?_
  refine lv_sipush (v := nI 1023) hx hb dX0_sayClaim_4 (by decide) ?_
  refine xx_ge (tgt := 30) hx hb dX0_sayClaim_7 (by decide) (by omega) (by omega) (fun h1 => ?_) (fun h1 => ?_)
  · skip
    exact absurd h1 (by omega)
  · skip
    refine lv_aload_n hx hb dX0_sayClaim_10 rfl (lv_at hl 0 rfl) ?_
    refine va_get (D := D) (ci := 0) (v := .ref (ad 5)) (C := RX0) (T := TX0) (N := 10) hx hb hts hin0 hown hK hP 0 rfl rfl 8 (by decide) (hts (.fieldLink RX0 35 "ClaimBench" "row" "[I") (by decide +kernel)) (fun _ h9 => h9) rfl dX0_sayClaim_11 ?_
    refine lv_aload_n hx hb dX0_sayClaim_14 rfl (lv_at hl 0 rfl) ?_
    refine va_get (D := D) (ci := 0) (v := .int (nI (sN S))) (C := RX0) (T := TX0) (N := 10) hx hb hts hin0 hown hK hP 0 rfl rfl 9 (by decide) (hts (.fieldLink RX0 38 "ClaimBench" "rowLength" "I") (by decide +kernel)) (fun _ h9 => h9) rfl dX0_sayClaim_15 ?_
    refine lv_iload_n hx hb dX0_sayClaim_18 rfl (lv_at hl 1 rfl) ?_
    refine xx_ast hx hb hK hP (dB hd ck _ _) hS 5 4 rfl rfl (j := sN S) (by omega) (by decide) (fun c_ => nI (sR (uR S (upN (sR S) (sN S) X)) c_ % 100)) (st_row S (sN S) r X hX) dX0_sayClaim_19 (fun H locs hP hS => ?_)
    have hP : va_P D vwCl (wB ad ck (uR S (upN (sR S) (sN S) X)) a) H := hP
    refine lv_aload_n hx hb dX0_sayClaim_20 rfl (lv_at hl 0 rfl) ?_
    refine lv_dup hx hb dX0_sayClaim_21 rfl ?_
    refine va_get (D := D) (ci := 0) (v := .int (nI (sN (uR S (upN (sR S) (sN S) X))))) (C := RX0) (T := TX0) (N := 10) hx hb hts hin0 hown hK hP 0 rfl rfl 9 (by decide) (hts (.fieldLink RX0 38 "ClaimBench" "rowLength" "I") (by decide +kernel)) (fun _ h9 => h9) rfl dX0_sayClaim_22 ?_
    refine lv_iconst (v := nI 1) hx hb dX0_sayClaim_25 (by decide) ?_
    refine xx_add hx hb dX0_sayClaim_26 ?_
    refine va_put (D := D) (ci := 0) (v := .int (nI ((sN (uR S (upN (sR S) (sN S) X))) + 1))) (ty := .int) (C := RX0) (T := TX0) (N := 10) hx hb hts hin0 tyX0 tyX0_ok nmX0 hown hK hP (dB hd ck _ _) hS 0 rfl rfl 9 (by decide) (hts (.fieldLink RX0 38 "ClaimBench" "rowLength" "I") (by decide +kernel)) (fun _ h9 => h9) rfl (by decide +kernel) rfl rfl (Nat.le_of_ble_eq_true rfl) dX0_sayClaim_27 (fun H locs hP _ hS => ?_)
    have hP : va_P D vwCl (wB ad ck (pSay S X) a) H := hP
    exact W.vret hx hb hr (fun t ht hW => ⟨rfl, by rw [ht]; exact hP, hS.F ht⟩) hS.2.2 dX0_sayClaim_30
set_option maxHeartbeats 4000000 in
set_option maxRecDepth 100000 in
theorem c0_keepIfDue (l : Launch) (D : va_G) (ad : Nat → Nat) (hd : apt 6 ad) (ck : Nat → ClassId) (S : AS) (a : Nat) (hi : iv S) (k h : Nat) (hk : k < 160) (hh : h ≤ 1999909) : Met l yX0_keepIfDue wsX0_keepIfDue ({ frames := 2, cells := 0, slots := 0, locals := 43 }) (PW D (wB ad ck S a) (tyB ck) [.ref (ad 0), .int (nI (k)), .int (nI (h))]) (QcM none (fun H => va_P D vwCl (wB ad ck (pKeep S k h) a) H) (aB ad)) 0 0 (aB ad) := by
  refine Met.ofW (cc := cX0_keepIfDue) (maxL := 4) (ret := none) (by decide) rfl ?_
  intro p e s m args below meth c s₁ B hml hv
  obtain ⟨rfl, hP, hK⟩ := hv
  have hx := B.exec
  have hb := B.bytes
  have hr := B.returns
  have hts := atoms_spec (ws := wsX0_keepIfDue) B.pre
  have hown : s.vm.findClass RX0 = some m.cls := findClass_of_methodNamed B.named
  have hlocks := B.notSynchronized
  have hin0 : ∀ w ∈ wsX00, w ∈ wsX0_keepIfDue := by decide +kernel
  have hl := lv_entry ([.ref (ad 0), .int (nI (k)), .int (nI (h))]) (n := 4) (Nat.le_of_ble_eq_true rfl)
  rw [lg_entry_eq]
  generalize (lg_sl ([.ref (ad 0), .int (nI (k)), .int (nI (h))]) ++ List.replicate (4 - (lg_sl ([.ref (ad 0), .int (nI (k)), .int (nI (h))])).length) Slot.unset).toArray = ls at hl ⊢
  have hl : lv_has ls 4 [(0, .ref (ad 0)), (1, .int (nI (k))), (2, .int (nI (h)))] := hl
  have hS : va_S (aB ad) s.heap s.heap [] := va_S.rf
  have hT := hi.1
  have hC := hi.2.2.1 k
  have hU := hi.2.2.2.1 k
  refine lv_aload_n hx hb dX0_keepIfDue_0 rfl (lv_at hl 0 rfl) ?_
  refine va_get (D := D) (ci := 0) (v := .ref (ad 3)) (C := RX0) (T := TX0) (N := 10) hx hb hts hin0 hown hK hP 0 rfl rfl 6 (by decide) (hts (.fieldLink RX0 29 "ClaimBench" "keptClaims" "[I") (by decide +kernel)) (fun _ h9 => h9) rfl dX0_keepIfDue_1 ?_
  refine lv_iload_n hx hb dX0_keepIfDue_4 rfl (lv_at hl 1 rfl) ?_
  refine xx_ald hx hb hK hP 3 2 (fun c_ => nI (sC S c_)) rfl rfl (j := k) (by omega) (by decide) dX0_keepIfDue_5 ?_
  refine W.eq (g2 := F0 m 6 ls [.int (nI (sC S k))]) rfl ?_
  refine lv_istore_n (lv' := [(3, .int (nI (sC S k))), (0, .ref (ad 0)), (1, .int (nI (k))), (2, .int (nI (h)))]) hx hb dX0_keepIfDue_6 rfl hl (by decide) rfl (fun ls hl => ?_)
  refine lv_aload_n hx hb dX0_keepIfDue_7 rfl (lv_at hl 1 rfl) ?_
  refine lv_iload_n hx hb dX0_keepIfDue_8 rfl (lv_at hl 2 rfl) ?_
  refine W.callR (W.runV (As := [.int (nI (k))]) (rest := []) ⟨hx, hb, hml, hown, hts⟩ (c0_keepsOne l D ad ck S a hi k (by omega)) (cwV 1 hts gX0_keepIfDue_X0_keepsOne rfl rfl rfl (by decide +kernel) ⟨Nat.le_of_ble_eq_true rfl, Nat.le_of_ble_eq_true rfl⟩) (PW_pre hK hP (ci := 0) rfl rfl) rfl rfl hl.1 rfl (lv_room (Nat.le_of_ble_eq_true rfl)) dX0_keepIfDue_9 ⟨Nat.zero_le _, Nat.zero_le _⟩) ?_
  refine W.eq (g2 := F0 m 12 ls [.int (bI (pK S k))]) rfl ?_
  refine xx_if0 (tgt := 34) hx hb dX0_keepIfDue_12 (by decide) (fun h1 => ?_) (fun h1 => ?_)
  · skip
    refine lv_aload_n hx hb dX0_keepIfDue_34 rfl (lv_at hl 1 rfl) ?_
    refine va_get (D := D) (ci := 0) (v := .ref (ad 3)) (C := RX0) (T := TX0) (N := 10) hx hb hts hin0 hown hK hP 0 rfl rfl 6 (by decide) (hts (.fieldLink RX0 29 "ClaimBench" "keptClaims" "[I") (by decide +kernel)) (fun _ h9 => h9) rfl dX0_keepIfDue_35 ?_
    refine lv_iload_n hx hb dX0_keepIfDue_38 rfl (lv_at hl 2 rfl) ?_
    refine lv_iload_n hx hb dX0_keepIfDue_39 rfl (lv_at hl 3 rfl) ?_
    refine xx_ast hx hb hK hP (dB hd ck _ _) hS 3 2 rfl rfl (j := k) (by omega) (by decide) (fun c_ => nI (sC (uC S (upN (sC S) k h)) c_)) (st_n (sC S) k h) dX0_keepIfDue_40 (fun H locs hP hS => ?_)
    have hP : va_P D vwCl (wB ad ck (uC S (upN (sC S) k h)) a) H := hP
    refine lv_aload_n hx hb dX0_keepIfDue_41 rfl (lv_at hl 1 rfl) ?_
    refine va_get (D := D) (ci := 0) (v := .ref (ad 4)) (C := RX0) (T := TX0) (N := 10) hx hb hts hin0 hown hK hP 0 rfl rfl 7 (by decide) (hts (.fieldLink RX0 32 "ClaimBench" "keptUntil" "[I") (by decide +kernel)) (fun _ h9 => h9) rfl dX0_keepIfDue_42 ?_
    refine lv_iload_n hx hb dX0_keepIfDue_45 rfl (lv_at hl 2 rfl) ?_
    refine lv_aload_n hx hb dX0_keepIfDue_46 rfl (lv_at hl 1 rfl) ?_
    refine va_get (D := D) (ci := 0) (v := .int (nI (sT (uC S (upN (sC S) k h))))) (C := RX0) (T := TX0) (N := 10) hx hb hts hin0 hown hK hP 0 rfl rfl 0 (by decide) (hts (.fieldLink RX0 7 "ClaimBench" "time" "I") (by decide +kernel)) (fun _ h9 => h9) rfl dX0_keepIfDue_47 ?_
    refine lv_bipush (v := nI 60) hx hb dX0_keepIfDue_50 (by decide) ?_
    refine xx_add hx hb dX0_keepIfDue_52 ?_
    refine xx_ast hx hb hK hP (dB hd ck _ _) hS 4 3 rfl rfl (j := k) (by omega) (by decide) (fun c_ => nI (sU (uU (uC S (upN (sC S) k h)) (upN (sU S) k (sT S + 60))) c_)) (st_n (sU S) k (sT S + 60)) dX0_keepIfDue_53 (fun H locs hP hS => ?_)
    have hP : va_P D vwCl (wB ad ck (uU (uC S (upN (sC S) k h)) (upN (sU S) k (sT S + 60))) a) H := hP
    exact W.vret hx hb hr (fun t ht hW => ⟨rfl, by rw [ht, show pKeep S k h = _ from if_pos (by rw [h1]; rfl)]; exact hP, hS.F ht⟩) hS.2.2 dX0_keepIfDue_54
  · skip
    refine lv_iload_n hx hb dX0_keepIfDue_15 rfl (lv_at hl 3 rfl) ?_
    refine lv_iload_n hx hb dX0_keepIfDue_16 rfl (lv_at hl 0 rfl) ?_
    refine W.callR (W.runS (As := [.int (nI (h)), .int (nI (sC S k))]) (rest := []) ⟨hx, hb, hml, hown, hts⟩ (c0_isBetter l h (sC S k) (by omega) (by omega)) (va_cwS 2 hts gX0_keepIfDue_X0_isBetter rfl rfl rfl (by decide +kernel) ⟨Nat.le_of_ble_eq_true rfl, Nat.le_of_ble_eq_true rfl⟩) preEq rfl rfl hl.1 rfl (lv_room (Nat.le_of_ble_eq_true rfl)) dX0_keepIfDue_17 ⟨Nat.zero_le _, Nat.zero_le _⟩) ?_
    refine W.eq (g2 := F0 m 20 ls [.int (bI (pB h (sC S k)))]) rfl ?_
    refine xx_if1 (tgt := 34) hx hb dX0_keepIfDue_20 (by decide) (fun h2 => ?_) (fun h2 => ?_)
    · skip
      refine lv_aload_n hx hb dX0_keepIfDue_34 rfl (lv_at hl 1 rfl) ?_
      refine va_get (D := D) (ci := 0) (v := .ref (ad 3)) (C := RX0) (T := TX0) (N := 10) hx hb hts hin0 hown hK hP 0 rfl rfl 6 (by decide) (hts (.fieldLink RX0 29 "ClaimBench" "keptClaims" "[I") (by decide +kernel)) (fun _ h9 => h9) rfl dX0_keepIfDue_35 ?_
      refine lv_iload_n hx hb dX0_keepIfDue_38 rfl (lv_at hl 2 rfl) ?_
      refine lv_iload_n hx hb dX0_keepIfDue_39 rfl (lv_at hl 3 rfl) ?_
      refine xx_ast hx hb hK hP (dB hd ck _ _) hS 3 2 rfl rfl (j := k) (by omega) (by decide) (fun c_ => nI (sC (uC S (upN (sC S) k h)) c_)) (st_n (sC S) k h) dX0_keepIfDue_40 (fun H locs hP hS => ?_)
      have hP : va_P D vwCl (wB ad ck (uC S (upN (sC S) k h)) a) H := hP
      refine lv_aload_n hx hb dX0_keepIfDue_41 rfl (lv_at hl 1 rfl) ?_
      refine va_get (D := D) (ci := 0) (v := .ref (ad 4)) (C := RX0) (T := TX0) (N := 10) hx hb hts hin0 hown hK hP 0 rfl rfl 7 (by decide) (hts (.fieldLink RX0 32 "ClaimBench" "keptUntil" "[I") (by decide +kernel)) (fun _ h9 => h9) rfl dX0_keepIfDue_42 ?_
      refine lv_iload_n hx hb dX0_keepIfDue_45 rfl (lv_at hl 2 rfl) ?_
      refine lv_aload_n hx hb dX0_keepIfDue_46 rfl (lv_at hl 1 rfl) ?_
      refine va_get (D := D) (ci := 0) (v := .int (nI (sT (uC S (upN (sC S) k h))))) (C := RX0) (T := TX0) (N := 10) hx hb hts hin0 hown hK hP 0 rfl rfl 0 (by decide) (hts (.fieldLink RX0 7 "ClaimBench" "time" "I") (by decide +kernel)) (fun _ h9 => h9) rfl dX0_keepIfDue_47 ?_
      refine lv_bipush (v := nI 60) hx hb dX0_keepIfDue_50 (by decide) ?_
      refine xx_add hx hb dX0_keepIfDue_52 ?_
      refine xx_ast hx hb hK hP (dB hd ck _ _) hS 4 3 rfl rfl (j := k) (by omega) (by decide) (fun c_ => nI (sU (uU (uC S (upN (sC S) k h)) (upN (sU S) k (sT S + 60))) c_)) (st_n (sU S) k (sT S + 60)) dX0_keepIfDue_53 (fun H locs hP hS => ?_)
      have hP : va_P D vwCl (wB ad ck (uU (uC S (upN (sC S) k h)) (upN (sU S) k (sT S + 60))) a) H := hP
      exact W.vret hx hb hr (fun t ht hW => ⟨rfl, by rw [ht, show pKeep S k h = _ from if_pos (by rw [h1, h2]; rfl)]; exact hP, hS.F ht⟩) hS.2.2 dX0_keepIfDue_54
    · skip
      refine lv_iload_n hx hb dX0_keepIfDue_23 rfl (lv_at hl 3 rfl) ?_
      refine W.callR (W.runS (As := [.int (nI (h))]) (rest := []) ⟨hx, hb, hml, hown, hts⟩ (c0_routerOf l h (by omega)) (va_cwS 1 hts gX0_keepIfDue_X0_routerOf rfl rfl rfl (by decide +kernel) ⟨Nat.le_of_ble_eq_true rfl, Nat.le_of_ble_eq_true rfl⟩) preEq rfl rfl hl.1 rfl (lv_room (Nat.le_of_ble_eq_true rfl)) dX0_keepIfDue_24 ⟨Nat.zero_le _, Nat.zero_le _⟩) ?_
      refine W.eq (g2 := F0 m 27 ls [.int (nI (h % 100))]) rfl ?_
      refine lv_iload_n hx hb dX0_keepIfDue_27 rfl (lv_at hl 0 rfl) ?_
      refine W.callR (W.runS (As := [.int (nI (sC S k))]) (rest := [.int (nI (h % 100))]) ⟨hx, hb, hml, hown, hts⟩ (c0_routerOf l (sC S k) (by omega)) (va_cwS 1 hts gX0_keepIfDue_X0_routerOf rfl rfl rfl (by decide +kernel) ⟨Nat.le_of_ble_eq_true rfl, Nat.le_of_ble_eq_true rfl⟩) preEq rfl rfl hl.1 rfl (lv_room (Nat.le_of_ble_eq_true rfl)) dX0_keepIfDue_28 ⟨Nat.zero_le _, Nat.zero_le _⟩) ?_
      refine W.eq (g2 := F0 m 31 ls [.int (nI ((sC S k) % 100)), .int (nI (h % 100))]) rfl ?_
      refine xx_ne (tgt := 54) hx hb dX0_keepIfDue_31 (by decide) (by omega) (by omega) (fun h3 => ?_) (fun h3 => ?_)
      · skip
        exact W.vret hx hb hr (fun t ht hW => ⟨rfl, by rw [ht, show pKeep S k h = _ from if_neg (by rw [h1, h2, decide_eq_false h3]; decide)]; exact hP, hS.F ht⟩) hS.2.2 dX0_keepIfDue_54
      · skip
        refine lv_aload_n hx hb dX0_keepIfDue_34 rfl (lv_at hl 1 rfl) ?_
        refine va_get (D := D) (ci := 0) (v := .ref (ad 3)) (C := RX0) (T := TX0) (N := 10) hx hb hts hin0 hown hK hP 0 rfl rfl 6 (by decide) (hts (.fieldLink RX0 29 "ClaimBench" "keptClaims" "[I") (by decide +kernel)) (fun _ h9 => h9) rfl dX0_keepIfDue_35 ?_
        refine lv_iload_n hx hb dX0_keepIfDue_38 rfl (lv_at hl 2 rfl) ?_
        refine lv_iload_n hx hb dX0_keepIfDue_39 rfl (lv_at hl 3 rfl) ?_
        refine xx_ast hx hb hK hP (dB hd ck _ _) hS 3 2 rfl rfl (j := k) (by omega) (by decide) (fun c_ => nI (sC (uC S (upN (sC S) k h)) c_)) (st_n (sC S) k h) dX0_keepIfDue_40 (fun H locs hP hS => ?_)
        have hP : va_P D vwCl (wB ad ck (uC S (upN (sC S) k h)) a) H := hP
        refine lv_aload_n hx hb dX0_keepIfDue_41 rfl (lv_at hl 1 rfl) ?_
        refine va_get (D := D) (ci := 0) (v := .ref (ad 4)) (C := RX0) (T := TX0) (N := 10) hx hb hts hin0 hown hK hP 0 rfl rfl 7 (by decide) (hts (.fieldLink RX0 32 "ClaimBench" "keptUntil" "[I") (by decide +kernel)) (fun _ h9 => h9) rfl dX0_keepIfDue_42 ?_
        refine lv_iload_n hx hb dX0_keepIfDue_45 rfl (lv_at hl 2 rfl) ?_
        refine lv_aload_n hx hb dX0_keepIfDue_46 rfl (lv_at hl 1 rfl) ?_
        refine va_get (D := D) (ci := 0) (v := .int (nI (sT (uC S (upN (sC S) k h))))) (C := RX0) (T := TX0) (N := 10) hx hb hts hin0 hown hK hP 0 rfl rfl 0 (by decide) (hts (.fieldLink RX0 7 "ClaimBench" "time" "I") (by decide +kernel)) (fun _ h9 => h9) rfl dX0_keepIfDue_47 ?_
        refine lv_bipush (v := nI 60) hx hb dX0_keepIfDue_50 (by decide) ?_
        refine xx_add hx hb dX0_keepIfDue_52 ?_
        refine xx_ast hx hb hK hP (dB hd ck _ _) hS 4 3 rfl rfl (j := k) (by omega) (by decide) (fun c_ => nI (sU (uU (uC S (upN (sC S) k h)) (upN (sU S) k (sT S + 60))) c_)) (st_n (sU S) k (sT S + 60)) dX0_keepIfDue_53 (fun H locs hP hS => ?_)
        have hP : va_P D vwCl (wB ad ck (uU (uC S (upN (sC S) k h)) (upN (sU S) k (sT S + 60))) a) H := hP
        exact W.vret hx hb hr (fun t ht hW => ⟨rfl, by rw [ht, show pKeep S k h = _ from if_pos (by rw [h1, h2, decide_eq_true h3]; rfl)]; exact hP, hS.F ht⟩) hS.2.2 dX0_keepIfDue_54
set_option maxHeartbeats 4000000 in
set_option maxRecDepth 100000 in
theorem c1_say (l : Launch) (D : va_G) (ad : Nat → Nat) (hd : apt 9 ad) (ck : Nat → ClassId) (S : AS) (a : Nat) (hi : iv S) (r z : Nat) (hr10 : r < 10) (hz16 : z < 16) (hn : sN S < 1023) : Met l yX1_say wsX1_say ({ frames := 1, cells := 0, slots := 0, locals := 22 }) (PW D (wM ad ck S a) (tyM ck) [.ref (ad 0), .int (nI (r)), .int (nI (z))]) (QcM none (fun H => va_P D vwCl (wM ad ck (pSay S (pO S (16 * r + z))) (a + 1)) H) (aM ad)) 0 0 (aM ad) := by
  refine Met.ofW (cc := cX1_say) (maxL := 3) (ret := none) (by decide) rfl ?_
  intro p e s m args below meth c s₁ B hml hv
  obtain ⟨rfl, hP, hK⟩ := hv
  have hx := B.exec
  have hb := B.bytes
  have hr := B.returns
  have hts := atoms_spec (ws := wsX1_say) B.pre
  have hown : s.vm.findClass RX1 = some m.cls := findClass_of_methodNamed B.named
  have hlocks := B.notSynchronized
  have hin0 : ∀ w ∈ wsX10, w ∈ wsX1_say := by decide +kernel
  have hl := lv_entry ([.ref (ad 0), .int (nI (r)), .int (nI (z))]) (n := 3) (Nat.le_of_ble_eq_true rfl)
  rw [lg_entry_eq]
  generalize (lg_sl ([.ref (ad 0), .int (nI (r)), .int (nI (z))]) ++ List.replicate (3 - (lg_sl ([.ref (ad 0), .int (nI (r)), .int (nI (z))])).length) Slot.unset).toArray = ls at hl ⊢
  have hl : lv_has ls 3 [(0, .ref (ad 0)), (1, .int (nI (r))), (2, .int (nI (z)))] := hl
  have hS : va_S (aM ad) s.heap s.heap [] := va_S.rf
  refine lv_aload_n hx hb dX1_say_0 rfl (lv_at hl 0 rfl) ?_
  refine va_get (D := D) (ci := 1) (v := .int (nI (sN S))) (C := RX1) (T := TX1) (N := 11) hx hb hts hin0 hown hK hP 0 rfl rfl 10 (by decide) (hts (.fieldLink RX1 62 "ClaimBenchModel" "many" "I") (by decide +kernel)) (fun _ h9 => h9) rfl dX1_say_1 ?_
  refine lv_sipush (v := nI 1024) hx hb dX1_say_4 (by decide) ?_
  refine xx_ne (tgt := 11) hx hb dX1_say_7 (by decide) (by omega) (by omega) (fun h1 => ?_) (fun h1 => ?_)
  · skip
    refine lv_aload_n hx hb dX1_say_11 rfl (lv_at hl 0 rfl) ?_
    refine va_get (D := D) (ci := 1) (v := .ref (ad 8)) (C := RX1) (T := TX1) (N := 11) hx hb hts hin0 hown hK hP 0 rfl rfl 9 (by decide) (hts (.fieldLink RX1 32 "ClaimBenchModel" "row" "[I") (by decide +kernel)) (fun _ h9 => h9) rfl dX1_say_12 ?_
    refine lv_aload_n hx hb dX1_say_15 rfl (lv_at hl 0 rfl) ?_
    refine va_get (D := D) (ci := 1) (v := .int (nI (sN S))) (C := RX1) (T := TX1) (N := 11) hx hb hts hin0 hown hK hP 0 rfl rfl 10 (by decide) (hts (.fieldLink RX1 62 "ClaimBenchModel" "many" "I") (by decide +kernel)) (fun _ h9 => h9) rfl dX1_say_16 ?_
    refine lv_aload_n hx hb dX1_say_19 rfl (lv_at hl 0 rfl) ?_
    refine lv_iload_n hx hb dX1_say_20 rfl (lv_at hl 1 rfl) ?_
    refine lv_iload_n hx hb dX1_say_21 rfl (lv_at hl 2 rfl) ?_
    refine W.callR (W.runV (As := [.int (nI (r)), .int (nI (z))]) (rest := [.int (nI (sN S)), .ref (ad 8)]) ⟨hx, hb, hml, hown, hts⟩ (c1_own l D ad ck S a hi r z (by omega) (by omega)) (cwV 2 hts gX1_say_X1_own rfl rfl rfl (by decide +kernel) ⟨Nat.le_of_ble_eq_true rfl, Nat.le_of_ble_eq_true rfl⟩) (PW_pre hK hP (ci := 1) rfl rfl) rfl rfl hl.1 rfl (lv_room (Nat.le_of_ble_eq_true rfl)) dX1_say_22 ⟨Nat.zero_le _, Nat.zero_le _⟩) ?_
    refine W.eq (g2 := F0 m 25 ls [.int (nI (pO S (16 * r + z))), .int (nI (sN S)), .ref (ad 8)]) rfl ?_
    refine xx_ast hx hb hK hP (dM hd ck _ _) hS 8 7 rfl rfl (j := sN S) (by omega) (by decide) (fun c_ => nI (sR (uR S (upN (sR S) (sN S) (pO S (16 * r + z)))) c_)) (st_n (sR S) (sN S) (pO S (16 * r + z))) dX1_say_25 (fun H locs hP hS => ?_)
    have hP : va_P D vwCl (wM ad ck (uR S (upN (sR S) (sN S) (pO S (16 * r + z)))) a) H := hP
    refine lv_aload_n hx hb dX1_say_26 rfl (lv_at hl 0 rfl) ?_
    refine lv_dup hx hb dX1_say_27 rfl ?_
    refine va_get (D := D) (ci := 1) (v := .int (nI (sN (uR S (upN (sR S) (sN S) (pO S (16 * r + z))))))) (C := RX1) (T := TX1) (N := 11) hx hb hts hin0 hown hK hP 0 rfl rfl 10 (by decide) (hts (.fieldLink RX1 62 "ClaimBenchModel" "many" "I") (by decide +kernel)) (fun _ h9 => h9) rfl dX1_say_28 ?_
    refine lv_iconst (v := nI 1) hx hb dX1_say_31 (by decide) ?_
    refine xx_add hx hb dX1_say_32 ?_
    refine va_put (D := D) (ci := 1) (v := .int (nI ((sN (uR S (upN (sR S) (sN S) (pO S (16 * r + z))))) + 1))) (ty := .int) (C := RX1) (T := TX1) (N := 11) hx hb hts hin0 tyX1 tyX1_ok nmX1 hown hK hP (dM hd ck _ _) hS 0 rfl rfl 10 (by decide) (hts (.fieldLink RX1 62 "ClaimBenchModel" "many" "I") (by decide +kernel)) (fun _ h9 => h9) rfl (by decide +kernel) rfl rfl (Nat.le_of_ble_eq_true rfl) dX1_say_33 (fun H locs hP _ hS => ?_)
    have hP : va_P D vwCl (wM ad ck (pSay S (pO S (16 * r + z))) a) H := hP
    refine lv_aload_n hx hb dX1_say_36 rfl (lv_at hl 0 rfl) ?_
    refine lv_dup hx hb dX1_say_37 rfl ?_
    refine va_get (D := D) (ci := 1) (v := .int (nI (a))) (C := RX1) (T := TX1) (N := 11) hx hb hts hin0 hown hK hP 0 rfl rfl 1 (by decide) (hts (.fieldLink RX1 65 "ClaimBenchModel" "all" "I") (by decide +kernel)) (fun _ h9 => h9) rfl dX1_say_38 ?_
    refine lv_iconst (v := nI 1) hx hb dX1_say_41 (by decide) ?_
    refine xx_add hx hb dX1_say_42 ?_
    refine va_put (D := D) (ci := 1) (v := .int (nI (a + 1))) (ty := .int) (C := RX1) (T := TX1) (N := 11) hx hb hts hin0 tyX1 tyX1_ok nmX1 hown hK hP (dM hd ck _ _) hS 0 rfl rfl 1 (by decide) (hts (.fieldLink RX1 65 "ClaimBenchModel" "all" "I") (by decide +kernel)) (fun _ h9 => h9) rfl (by decide +kernel) rfl rfl (Nat.le_of_ble_eq_true rfl) dX1_say_43 (fun H locs hP _ hS => ?_)
    have hP : va_P D vwCl (wM ad ck (pSay S (pO S (16 * r + z))) (a + 1)) H := hP
    exact W.vret hx hb hr (fun t ht hW => ⟨rfl, by rw [ht]; exact hP, hS.F ht⟩) hS.2.2 dX1_say_46
  · skip
    exact absurd h1 (by omega)
