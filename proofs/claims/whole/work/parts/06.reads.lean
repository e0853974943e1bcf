set_option maxHeartbeats 4000000 in
set_option maxRecDepth 100000 in
theorem c0_isListener (l : Launch) (D : va_G) (ad : Nat → Nat) (ck : Nat → ClassId) (S : AS) (a : Nat) (hi : iv S) (r : Nat) (hr10 : r < 10) : Met l yX0_isListener wsX0_isListener ({ frames := 1, cells := 0, slots := 0, locals := 21 }) (PW D (wB ad ck S a) (tyB ck) [.ref (ad 0), .int (nI (r))]) (QcRead (bI (pH S r))) 0 0 (fun _ => False) := by
  refine Met.ofW (cc := cX0_isListener) (maxL := 2) (ret := (some .boolean)) (by decide) rfl ?_
  intro p e s m args below meth c s₁ B hml hv
  obtain ⟨rfl, hP, hK⟩ := hv
  have hx := B.exec
  have hb := B.bytes
  have hr := B.returns
  have hts := atoms_spec (ws := wsX0_isListener) B.pre
  have hown : s.vm.findClass RX0 = some m.cls := findClass_of_methodNamed B.named
  have hlocks := B.notSynchronized
  have hin0 : ∀ w ∈ wsX00, w ∈ wsX0_isListener := by decide +kernel
  have hl := lv_entry ([.ref (ad 0), .int (nI (r))]) (n := 2) (Nat.le_of_ble_eq_true rfl)
  rw [lg_entry_eq]
  generalize (lg_sl ([.ref (ad 0), .int (nI (r))]) ++ List.replicate (2 - (lg_sl ([.ref (ad 0), .int (nI (r))])).length) Slot.unset).toArray = ls at hl ⊢
  have hl : lv_has ls 2 [(0, .ref (ad 0)), (1, .int (nI (r)))] := hl
  refine lv_aload_n hx hb dX0_isListener_0 rfl (lv_at hl 0 rfl) ?_
  refine va_get (D := D) (ci := 0) (v := .int (nI (bm (fun i_ => !(sG S i_))))) (C := RX0) (T := TX0) (N := 10) hx hb hts hin0 hown hK hP 0 rfl rfl 1 (by decide) (hts (.fieldLink RX0 13 "ClaimBench" "thereBits" "I") (by decide +kernel)) (fun _ h9 => h9) rfl dX0_isListener_1 ?_
  refine lv_iload_n hx hb dX0_isListener_4 rfl (lv_at hl 1 rfl) ?_
  refine W.callR (W.runS (As := [.int (nI (bm (fun i_ => !(sG S i_)))), .int (nI (r))]) (rest := []) ⟨hx, hb, hml, hown, hts⟩ (c0_hasBit l (fun i_ => !(sG S i_)) r (by omega)) (va_cwS 2 hts gX0_isListener_X0_hasBit rfl rfl rfl (by decide +kernel) ⟨Nat.le_of_ble_eq_true rfl, Nat.le_of_ble_eq_true rfl⟩) preEq rfl rfl hl.1 rfl (lv_room (Nat.le_of_ble_eq_true rfl)) dX0_isListener_5 ⟨Nat.zero_le _, Nat.zero_le _⟩) ?_
  refine W.eq (g2 := F0 m 8 ls [.int (bI ((fun i_ => !(sG S i_)) r))]) rfl ?_
  refine xx_if0 (tgt := 26) hx hb dX0_isListener_8 (by decide) (fun h1 => ?_) (fun h1 => ?_)
  · skip
    refine lv_iconst (v := nI 0) hx hb dX0_isListener_26 (by decide) ?_
    exact W.zret (v := (nI (0))) (ty := .boolean) hx hb hr (rfl) (fun t ht hW => ⟨ro_i (bI_f (by unfold pH; rw [show (!(sG S r)) = false from h1]; rfl)).symm, ht⟩) (fun _ h => absurd h List.not_mem_nil) dX0_isListener_27
  · skip
    refine lv_aload_n hx hb dX0_isListener_11 rfl (lv_at hl 0 rfl) ?_
    refine va_get (D := D) (ci := 0) (v := .int (nI (bm (sD S)))) (C := RX0) (T := TX0) (N := 10) hx hb hts hin0 hown hK hP 0 rfl rfl 2 (by decide) (hts (.fieldLink RX0 16 "ClaimBench" "deafBits" "I") (by decide +kernel)) (fun _ h9 => h9) rfl dX0_isListener_12 ?_
    refine lv_iload_n hx hb dX0_isListener_15 rfl (lv_at hl 1 rfl) ?_
    refine W.callR (W.runS (As := [.int (nI (bm (sD S))), .int (nI (r))]) (rest := []) ⟨hx, hb, hml, hown, hts⟩ (c0_hasBit l (sD S) r (by omega)) (va_cwS 2 hts gX0_isListener_X0_hasBit rfl rfl rfl (by decide +kernel) ⟨Nat.le_of_ble_eq_true rfl, Nat.le_of_ble_eq_true rfl⟩) preEq rfl rfl hl.1 rfl (lv_room (Nat.le_of_ble_eq_true rfl)) dX0_isListener_16 ⟨Nat.zero_le _, Nat.zero_le _⟩) ?_
    refine W.eq (g2 := F0 m 19 ls [.int (bI ((sD S) r))]) rfl ?_
    refine xx_if1 (tgt := 26) hx hb dX0_isListener_19 (by decide) (fun h2 => ?_) (fun h2 => ?_)
    · skip
      refine lv_iconst (v := nI 0) hx hb dX0_isListener_26 (by decide) ?_
      exact W.zret (v := (nI (0))) (ty := .boolean) hx hb hr (rfl) (fun t ht hW => ⟨ro_i (bI_f (by unfold pH; rw [show (!(sG S r)) = true from h1, show sD S r = true from h2]; rfl)).symm, ht⟩) (fun _ h => absurd h List.not_mem_nil) dX0_isListener_27
    · skip
      refine lv_iconst (v := nI 1) hx hb dX0_isListener_22 (by decide) ?_
      refine lv_goto (tgt := 27) hx hb dX0_isListener_23 (by decide) ?_
      exact W.zret (v := (nI (1))) (ty := .boolean) hx hb hr (rfl) (fun t ht hW => ⟨ro_i (bI_t (by unfold pH; rw [show (!(sG S r)) = true from h1, show sD S r = false from h2]; rfl)).symm, ht⟩) (fun _ h => absurd h List.not_mem_nil) dX0_isListener_27
set_option maxHeartbeats 4000000 in
set_option maxRecDepth 100000 in
theorem c0_keepsOne (l : Launch) (D : va_G) (ad : Nat → Nat) (ck : Nat → ClassId) (S : AS) (a : Nat) (hi : iv S) (k : Nat) (hk : k < 160) : Met l yX0_keepsOne wsX0_keepsOne ({ frames := 1, cells := 0, slots := 0, locals := 21 }) (PW D (wB ad ck S a) (tyB ck) [.ref (ad 0), .int (nI (k))]) (QcRead (bI (pK S k))) 0 0 (fun _ => False) := by
  refine Met.ofW (cc := cX0_keepsOne) (maxL := 2) (ret := (some .boolean)) (by decide) rfl ?_
  intro p e s m args below meth c s₁ B hml hv
  obtain ⟨rfl, hP, hK⟩ := hv
  have hx := B.exec
  have hb := B.bytes
  have hr := B.returns
  have hts := atoms_spec (ws := wsX0_keepsOne) B.pre
  have hown : s.vm.findClass RX0 = some m.cls := findClass_of_methodNamed B.named
  have hlocks := B.notSynchronized
  have hin0 : ∀ w ∈ wsX00, w ∈ wsX0_keepsOne := by decide +kernel
  have hl := lv_entry ([.ref (ad 0), .int (nI (k))]) (n := 2) (Nat.le_of_ble_eq_true rfl)
  rw [lg_entry_eq]
  generalize (lg_sl ([.ref (ad 0), .int (nI (k))]) ++ List.replicate (2 - (lg_sl ([.ref (ad 0), .int (nI (k))])).length) Slot.unset).toArray = ls at hl ⊢
  have hl : lv_has ls 2 [(0, .ref (ad 0)), (1, .int (nI (k)))] := hl
  have hT := hi.1
  have hC := hi.2.2.1 k
  have hU := hi.2.2.2.1 k
  refine lv_aload_n hx hb dX0_keepsOne_0 rfl (lv_at hl 0 rfl) ?_
  refine va_get (D := D) (ci := 0) (v := .int (nI (sT S))) (C := RX0) (T := TX0) (N := 10) hx hb hts hin0 hown hK hP 0 rfl rfl 0 (by decide) (hts (.fieldLink RX0 7 "ClaimBench" "time" "I") (by decide +kernel)) (fun _ h9 => h9) rfl dX0_keepsOne_1 ?_
  refine lv_aload_n hx hb dX0_keepsOne_4 rfl (lv_at hl 0 rfl) ?_
  refine va_get (D := D) (ci := 0) (v := .ref (ad 4)) (C := RX0) (T := TX0) (N := 10) hx hb hts hin0 hown hK hP 0 rfl rfl 7 (by decide) (hts (.fieldLink RX0 32 "ClaimBench" "keptUntil" "[I") (by decide +kernel)) (fun _ h9 => h9) rfl dX0_keepsOne_5 ?_
  refine lv_iload_n hx hb dX0_keepsOne_8 rfl (lv_at hl 1 rfl) ?_
  refine xx_ald hx hb hK hP 4 3 (fun c_ => nI (sU S c_)) rfl rfl (j := k) (by omega) (by decide) dX0_keepsOne_9 ?_
  refine W.eq (g2 := F0 m 10 ls [.int (nI (sU S k)), .int (nI (sT S))]) rfl ?_
  refine xx_ge (tgt := 36) hx hb dX0_keepsOne_10 (by decide) (by omega) (by omega) (fun h1 => ?_) (fun h1 => ?_)
  · skip
    refine lv_iconst (v := nI 0) hx hb dX0_keepsOne_36 (by decide) ?_
    exact W.zret (v := (nI (0))) (ty := .boolean) hx hb hr (rfl) (fun t ht hW => ⟨ro_i (bI_f (by unfold pK; rw [decide_eq_false (Nat.not_lt.mpr h1)]; rfl)).symm, ht⟩) (fun _ h => absurd h List.not_mem_nil) dX0_keepsOne_37
  · skip
    refine lv_aload_n hx hb dX0_keepsOne_13 rfl (lv_at hl 0 rfl) ?_
    refine va_get (D := D) (ci := 0) (v := .int (nI (bm (fun i_ => !(sG S i_))))) (C := RX0) (T := TX0) (N := 10) hx hb hts hin0 hown hK hP 0 rfl rfl 1 (by decide) (hts (.fieldLink RX0 13 "ClaimBench" "thereBits" "I") (by decide +kernel)) (fun _ h9 => h9) rfl dX0_keepsOne_14 ?_
    refine lv_aload_n hx hb dX0_keepsOne_17 rfl (lv_at hl 0 rfl) ?_
    refine va_get (D := D) (ci := 0) (v := .ref (ad 3)) (C := RX0) (T := TX0) (N := 10) hx hb hts hin0 hown hK hP 0 rfl rfl 6 (by decide) (hts (.fieldLink RX0 29 "ClaimBench" "keptClaims" "[I") (by decide +kernel)) (fun _ h9 => h9) rfl dX0_keepsOne_18 ?_
    refine lv_iload_n hx hb dX0_keepsOne_21 rfl (lv_at hl 1 rfl) ?_
    refine xx_ald hx hb hK hP 3 2 (fun c_ => nI (sC S c_)) rfl rfl (j := k) (by omega) (by decide) dX0_keepsOne_22 ?_
    refine W.eq (g2 := F0 m 23 ls [.int (nI (sC S k)), .int (nI (bm (fun i_ => !(sG S i_))))]) rfl ?_
    refine W.callR (W.runS (As := [.int (nI (sC S k))]) (rest := [.int (nI (bm (fun i_ => !(sG S i_))))]) ⟨hx, hb, hml, hown, hts⟩ (c0_routerOf l (sC S k) (by omega)) (va_cwS 1 hts gX0_keepsOne_X0_routerOf rfl rfl rfl (by decide +kernel) ⟨Nat.le_of_ble_eq_true rfl, Nat.le_of_ble_eq_true rfl⟩) preEq rfl rfl hl.1 rfl (lv_room (Nat.le_of_ble_eq_true rfl)) dX0_keepsOne_23 ⟨Nat.zero_le _, Nat.zero_le _⟩) ?_
    refine W.eq (g2 := F0 m 26 ls [.int (nI ((sC S k) % 100)), .int (nI (bm (fun i_ => !(sG S i_))))]) rfl ?_
    refine W.callR (W.runS (As := [.int (nI (bm (fun i_ => !(sG S i_)))), .int (nI ((sC S k) % 100))]) (rest := []) ⟨hx, hb, hml, hown, hts⟩ (c0_hasBit l (fun i_ => !(sG S i_)) ((sC S k) % 100) (by omega)) (va_cwS 2 hts gX0_keepsOne_X0_hasBit rfl rfl rfl (by decide +kernel) ⟨Nat.le_of_ble_eq_true rfl, Nat.le_of_ble_eq_true rfl⟩) preEq rfl rfl hl.1 rfl (lv_room (Nat.le_of_ble_eq_true rfl)) dX0_keepsOne_26 ⟨Nat.zero_le _, Nat.zero_le _⟩) ?_
    refine W.eq (g2 := F0 m 29 ls [.int (bI ((fun i_ => !(sG S i_)) ((sC S k) % 100)))]) rfl ?_
    refine xx_if0 (tgt := 36) hx hb dX0_keepsOne_29 (by decide) (fun h2 => ?_) (fun h2 => ?_)
    · skip
      refine lv_iconst (v := nI 0) hx hb dX0_keepsOne_36 (by decide) ?_
      exact W.zret (v := (nI (0))) (ty := .boolean) hx hb hr (rfl) (fun t ht hW => ⟨ro_i (bI_f (by unfold pK; rw [decide_eq_true h1, Bool.true_and]; exact h2)).symm, ht⟩) (fun _ h => absurd h List.not_mem_nil) dX0_keepsOne_37
    · skip
      refine lv_iconst (v := nI 1) hx hb dX0_keepsOne_32 (by decide) ?_
      refine lv_goto (tgt := 37) hx hb dX0_keepsOne_33 (by decide) ?_
      exact W.zret (v := (nI (1))) (ty := .boolean) hx hb hr (rfl) (fun t ht hW => ⟨ro_i (bI_t (by unfold pK; rw [decide_eq_true h1, Bool.true_and]; exact h2)).symm, ht⟩) (fun _ h => absurd h List.not_mem_nil) dX0_keepsOne_37
set_option maxHeartbeats 4000000 in
set_option maxRecDepth 100000 in
theorem c0_isLost (l : Launch) (D : va_G) (ad : Nat → Nat) (ck : Nat → ClassId) (S : AS) (a : Nat) (hi : iv S) (k : Nat) (hk : k < 160) : Met l yX0_isLost wsX0_isLost ({ frames := 2, cells := 0, slots := 0, locals := 43 }) (PW D (wB ad ck S a) (tyB ck) [.ref (ad 0), .int (nI (k))]) (QcRead (bI (pL S k))) 0 0 (fun _ => False) := by
  refine Met.ofW (cc := cX0_isLost) (maxL := 2) (ret := (some .boolean)) (by decide) rfl ?_
  intro p e s m args below meth c s₁ B hml hv
  obtain ⟨rfl, hP, hK⟩ := hv
  have hx := B.exec
  have hb := B.bytes
  have hr := B.returns
  have hts := atoms_spec (ws := wsX0_isLost) B.pre
  have hown : s.vm.findClass RX0 = some m.cls := findClass_of_methodNamed B.named
  have hlocks := B.notSynchronized
  have hin0 : ∀ w ∈ wsX00, w ∈ wsX0_isLost := by decide +kernel
  have hl := lv_entry ([.ref (ad 0), .int (nI (k))]) (n := 2) (Nat.le_of_ble_eq_true rfl)
  rw [lg_entry_eq]
  generalize (lg_sl ([.ref (ad 0), .int (nI (k))]) ++ List.replicate (2 - (lg_sl ([.ref (ad 0), .int (nI (k))])).length) Slot.unset).toArray = ls at hl ⊢
  have hl : lv_has ls 2 [(0, .ref (ad 0)), (1, .int (nI (k)))] := hl
  have hT := hi.1
  have hC := hi.2.2.1 k
  have hU := hi.2.2.2.1 k
  have hO := pO_le hi hk
  refine lv_aload_n hx hb dX0_isLost_0 rfl (lv_at hl 0 rfl) ?_
  refine lv_iload_n hx hb dX0_isLost_1 rfl (lv_at hl 1 rfl) ?_
  refine W.callR (W.runV (As := [.int (nI (k))]) (rest := []) ⟨hx, hb, hml, hown, hts⟩ (c0_keepsOne l D ad ck S a hi k (by omega)) (cwV 1 hts gX0_isLost_X0_keepsOne rfl rfl rfl (by decide +kernel) ⟨Nat.le_of_ble_eq_true rfl, Nat.le_of_ble_eq_true rfl⟩) (PW_pre hK hP (ci := 0) rfl rfl) rfl rfl hl.1 rfl (lv_room (Nat.le_of_ble_eq_true rfl)) dX0_isLost_2 ⟨Nat.zero_le _, Nat.zero_le _⟩) ?_
  refine W.eq (g2 := F0 m 5 ls [.int (bI (pK S k))]) rfl ?_
  refine xx_if0 (tgt := 30) hx hb dX0_isLost_5 (by decide) (fun h1 => ?_) (fun h1 => ?_)
  · skip
    refine lv_iconst (v := nI 0) hx hb dX0_isLost_30 (by decide) ?_
    exact W.zret (v := (nI (0))) (ty := .boolean) hx hb hr (rfl) (fun t ht hW => ⟨ro_i (bI_f (by unfold pL; rw [h1]; rfl)).symm, ht⟩) (fun _ h => absurd h List.not_mem_nil) dX0_isLost_31
  · skip
    refine lv_aload_n hx hb dX0_isLost_8 rfl (lv_at hl 0 rfl) ?_
    refine va_get (D := D) (ci := 0) (v := .ref (ad 3)) (C := RX0) (T := TX0) (N := 10) hx hb hts hin0 hown hK hP 0 rfl rfl 6 (by decide) (hts (.fieldLink RX0 29 "ClaimBench" "keptClaims" "[I") (by decide +kernel)) (fun _ h9 => h9) rfl dX0_isLost_9 ?_
    refine lv_iload_n hx hb dX0_isLost_12 rfl (lv_at hl 1 rfl) ?_
    refine xx_ald hx hb hK hP 3 2 (fun c_ => nI (sC S c_)) rfl rfl (j := k) (by omega) (by decide) dX0_isLost_13 ?_
    refine W.eq (g2 := F0 m 14 ls [.int (nI (sC S k))]) rfl ?_
    refine lv_aload_n hx hb dX0_isLost_14 rfl (lv_at hl 0 rfl) ?_
    refine va_get (D := D) (ci := 0) (v := .ref (ad 2)) (C := RX0) (T := TX0) (N := 10) hx hb hts hin0 hown hK hP 0 rfl rfl 5 (by decide) (hts (.fieldLink RX0 26 "ClaimBench" "ownClaims" "[I") (by decide +kernel)) (fun _ h9 => h9) rfl dX0_isLost_15 ?_
    refine lv_iload_n hx hb dX0_isLost_18 rfl (lv_at hl 1 rfl) ?_
    refine xx_ald hx hb hK hP 2 1 (fun c_ => nI (pO S c_)) rfl rfl (j := k) (by omega) (by decide) dX0_isLost_19 ?_
    refine W.eq (g2 := F0 m 20 ls [.int (nI (pO S k)), .int (nI (sC S k))]) rfl ?_
    refine W.callR (W.runS (As := [.int (nI (sC S k)), .int (nI (pO S k))]) (rest := []) ⟨hx, hb, hml, hown, hts⟩ (c0_isBetter l (sC S k) (pO S k) (by omega) (by omega)) (va_cwS 2 hts gX0_isLost_X0_isBetter rfl rfl rfl (by decide +kernel) ⟨Nat.le_of_ble_eq_true rfl, Nat.le_of_ble_eq_true rfl⟩) preEq rfl rfl hl.1 rfl (lv_room (Nat.le_of_ble_eq_true rfl)) dX0_isLost_20 ⟨Nat.zero_le _, Nat.zero_le _⟩) ?_
    refine W.eq (g2 := F0 m 23 ls [.int (bI (pB (sC S k) (pO S k)))]) rfl ?_
    refine xx_if0 (tgt := 30) hx hb dX0_isLost_23 (by decide) (fun h2 => ?_) (fun h2 => ?_)
    · skip
      refine lv_iconst (v := nI 0) hx hb dX0_isLost_30 (by decide) ?_
      exact W.zret (v := (nI (0))) (ty := .boolean) hx hb hr (rfl) (fun t ht hW => ⟨ro_i (bI_f (by unfold pL; rw [h1, Bool.true_and]; exact h2)).symm, ht⟩) (fun _ h => absurd h List.not_mem_nil) dX0_isLost_31
    · skip
      refine lv_iconst (v := nI 1) hx hb dX0_isLost_26 (by decide) ?_
      refine lv_goto (tgt := 31) hx hb dX0_isLost_27 (by decide) ?_
      exact W.zret (v := (nI (1))) (ty := .boolean) hx hb hr (rfl) (fun t ht hW => ⟨ro_i (bI_t (by unfold pL; rw [h1, Bool.true_and]; exact h2)).symm, ht⟩) (fun _ h => absurd h List.not_mem_nil) dX0_isLost_31
set_option maxHeartbeats 4000000 in
set_option maxRecDepth 100000 in
theorem c0_isSender (l : Launch) (D : va_G) (ad : Nat → Nat) (ck : Nat → ClassId) (S : AS) (a : Nat) (hi : iv S) (r z : Nat) (hr10 : r < 10) (hz16 : z < 16) : Met l yX0_isSender wsX0_isSender ({ frames := 3, cells := 0, slots := 0, locals := 64 }) (PW D (wB ad ck S a) (tyB ck) [.ref (ad 0), .int (nI (r)), .int (nI (z))]) (QcRead (bI (pS S r z))) 0 0 (fun _ => False) := by
  refine Met.ofW (cc := cX0_isSender) (maxL := 3) (ret := (some .boolean)) (by decide) rfl ?_
  intro p e s m args below meth c s₁ B hml hv
  obtain ⟨rfl, hP, hK⟩ := hv
  have hx := B.exec
  have hb := B.bytes
  have hr := B.returns
  have hts := atoms_spec (ws := wsX0_isSender) B.pre
  have hown : s.vm.findClass RX0 = some m.cls := findClass_of_methodNamed B.named
  have hlocks := B.notSynchronized
  have hin0 : ∀ w ∈ wsX00, w ∈ wsX0_isSender := by decide +kernel
  have hl := lv_entry ([.ref (ad 0), .int (nI (r)), .int (nI (z))]) (n := 3) (Nat.le_of_ble_eq_true rfl)
  rw [lg_entry_eq]
  generalize (lg_sl ([.ref (ad 0), .int (nI (r)), .int (nI (z))]) ++ List.replicate (3 - (lg_sl ([.ref (ad 0), .int (nI (r)), .int (nI (z))])).length) Slot.unset).toArray = ls at hl ⊢
  have hl : lv_has ls 3 [(0, .ref (ad 0)), (1, .int (nI (r))), (2, .int (nI (z)))] := hl
  refine lv_aload_n hx hb dX0_isSender_0 rfl (lv_at hl 0 rfl) ?_
  refine va_get (D := D) (ci := 0) (v := .int (nI (bm (fun i_ => !(sG S i_))))) (C := RX0) (T := TX0) (N := 10) hx hb hts hin0 hown hK hP 0 rfl rfl 1 (by decide) (hts (.fieldLink RX0 13 "ClaimBench" "thereBits" "I") (by decide +kernel)) (fun _ h9 => h9) rfl dX0_isSender_1 ?_
  refine lv_iload_n hx hb dX0_isSender_4 rfl (lv_at hl 1 rfl) ?_
  refine W.callR (W.runS (As := [.int (nI (bm (fun i_ => !(sG S i_)))), .int (nI (r))]) (rest := []) ⟨hx, hb, hml, hown, hts⟩ (c0_hasBit l (fun i_ => !(sG S i_)) r (by omega)) (va_cwS 2 hts gX0_isSender_X0_hasBit rfl rfl rfl (by decide +kernel) ⟨Nat.le_of_ble_eq_true rfl, Nat.le_of_ble_eq_true rfl⟩) preEq rfl rfl hl.1 rfl (lv_room (Nat.le_of_ble_eq_true rfl)) dX0_isSender_5 ⟨Nat.zero_le _, Nat.zero_le _⟩) ?_
  refine W.eq (g2 := F0 m 8 ls [.int (bI ((fun i_ => !(sG S i_)) r))]) rfl ?_
  refine xx_if0 (tgt := 40) hx hb dX0_isSender_8 (by decide) (fun h1 => ?_) (fun h1 => ?_)
  · skip
    refine lv_iconst (v := nI 0) hx hb dX0_isSender_40 (by decide) ?_
    exact W.zret (v := (nI (0))) (ty := .boolean) hx hb hr (rfl) (fun t ht hW => ⟨ro_i (bI_f (by unfold pS; rw [show (!(sG S r)) = false from h1]; rfl)).symm, ht⟩) (fun _ h => absurd h List.not_mem_nil) dX0_isSender_41
  · skip
    refine lv_aload_n hx hb dX0_isSender_11 rfl (lv_at hl 0 rfl) ?_
    refine va_get (D := D) (ci := 0) (v := .ref (ad 1)) (C := RX0) (T := TX0) (N := 10) hx hb hts hin0 hown hK hP 0 rfl rfl 4 (by decide) (hts (.fieldLink RX0 22 "ClaimBench" "forwardBits" "[I") (by decide +kernel)) (fun _ h9 => h9) rfl dX0_isSender_12 ?_
    refine lv_iload_n hx hb dX0_isSender_15 rfl (lv_at hl 2 rfl) ?_
    refine xx_ald hx hb hK hP 1 0 (fun c_ => nI (bm (fun i_ => sF S i_ c_))) rfl rfl (j := z) (by omega) (by decide) dX0_isSender_16 ?_
    refine W.eq (g2 := F0 m 17 ls [.int (nI (bm (fun i_ => sF S i_ z)))]) rfl ?_
    refine lv_iload_n hx hb dX0_isSender_17 rfl (lv_at hl 1 rfl) ?_
    refine W.callR (W.runS (As := [.int (nI (bm (fun i_ => sF S i_ z))), .int (nI (r))]) (rest := []) ⟨hx, hb, hml, hown, hts⟩ (c0_hasBit l (fun i_ => sF S i_ z) r (by omega)) (va_cwS 2 hts gX0_isSender_X0_hasBit rfl rfl rfl (by decide +kernel) ⟨Nat.le_of_ble_eq_true rfl, Nat.le_of_ble_eq_true rfl⟩) preEq rfl rfl hl.1 rfl (lv_room (Nat.le_of_ble_eq_true rfl)) dX0_isSender_18 ⟨Nat.zero_le _, Nat.zero_le _⟩) ?_
    refine W.eq (g2 := F0 m 21 ls [.int (bI ((fun i_ => sF S i_ z) r))]) rfl ?_
    refine xx_if0 (tgt := 40) hx hb dX0_isSender_21 (by decide) (fun h2 => ?_) (fun h2 => ?_)
    · skip
      refine lv_iconst (v := nI 0) hx hb dX0_isSender_40 (by decide) ?_
      exact W.zret (v := (nI (0))) (ty := .boolean) hx hb hr (rfl) (fun t ht hW => ⟨ro_i (bI_f (by unfold pS; rw [show (!(sG S r)) = true from h1, show sF S r z = false from h2]; rfl)).symm, ht⟩) (fun _ h => absurd h List.not_mem_nil) dX0_isSender_41
    · skip
      refine lv_aload_n hx hb dX0_isSender_24 rfl (lv_at hl 0 rfl) ?_
      refine lv_iload_n hx hb dX0_isSender_25 rfl (lv_at hl 1 rfl) ?_
      refine lv_iload_n hx hb dX0_isSender_26 rfl (lv_at hl 2 rfl) ?_
      refine W.callR (W.runS (As := [.int (nI (r)), .int (nI (z))]) (rest := [.ref (ad 0)]) ⟨hx, hb, hml, hown, hts⟩ (c0_cellOf l r z) (va_cwS 2 hts gX0_isSender_X0_cellOf rfl rfl rfl (by decide +kernel) ⟨Nat.le_of_ble_eq_true rfl, Nat.le_of_ble_eq_true rfl⟩) preEq rfl rfl hl.1 rfl (lv_room (Nat.le_of_ble_eq_true rfl)) dX0_isSender_27 ⟨Nat.zero_le _, Nat.zero_le _⟩) ?_
      refine W.eq (g2 := F0 m 30 ls [.int (nI (16 * r + z)), .ref (ad 0)]) rfl ?_
      refine W.callR (W.runV (As := [.int (nI (16 * r + z))]) (rest := []) ⟨hx, hb, hml, hown, hts⟩ (c0_isLost l D ad ck S a hi (16 * r + z) (by omega)) (cwV 1 hts gX0_isSender_X0_isLost rfl rfl rfl (by decide +kernel) ⟨Nat.le_of_ble_eq_true rfl, Nat.le_of_ble_eq_true rfl⟩) (PW_pre hK hP (ci := 0) rfl rfl) rfl rfl hl.1 rfl (lv_room (Nat.le_of_ble_eq_true rfl)) dX0_isSender_30 ⟨Nat.zero_le _, Nat.zero_le _⟩) ?_
      refine W.eq (g2 := F0 m 33 ls [.int (bI (pL S (16 * r + z)))]) rfl ?_
      refine xx_if1 (tgt := 40) hx hb dX0_isSender_33 (by decide) (fun h3 => ?_) (fun h3 => ?_)
      · skip
        refine lv_iconst (v := nI 0) hx hb dX0_isSender_40 (by decide) ?_
        exact W.zret (v := (nI (0))) (ty := .boolean) hx hb hr (rfl) (fun t ht hW => ⟨ro_i (bI_f (by unfold pS; rw [show (!(sG S r)) = true from h1, show sF S r z = true from h2, h3]; rfl)).symm, ht⟩) (fun _ h => absurd h List.not_mem_nil) dX0_isSender_41
      · skip
        refine lv_iconst (v := nI 1) hx hb dX0_isSender_36 (by decide) ?_
        refine lv_goto (tgt := 41) hx hb dX0_isSender_37 (by decide) ?_
        exact W.zret (v := (nI (1))) (ty := .boolean) hx hb hr (rfl) (fun t ht hW => ⟨ro_i (bI_t (by unfold pS; rw [show (!(sG S r)) = true from h1, show sF S r z = true from h2, h3]; rfl)).symm, ht⟩) (fun _ h => absurd h List.not_mem_nil) dX0_isSender_41
set_option maxHeartbeats 4000000 in
set_option maxRecDepth 100000 in
theorem c0_claim (l : Launch) (D : va_G) (ad : Nat → Nat) (ck : Nat → ClassId) (S : AS) (a : Nat) (hi : iv S) (x y : Int32) : Met l yX0_claim wsX0_claim ({ frames := 1, cells := 0, slots := 0, locals := 21 }) (PW D (wB ad ck S a) (tyB ck) [.ref (ad 0), .int (x), .int (y)]) (QcRead (aClaim S x y)) 0 0 (fun _ => False) := by
  refine Met.ofW (cc := cX0_claim) (maxL := 3) (ret := (some .int)) (by decide) rfl ?_
  intro p e s m args below meth c s₁ B hml hv
  obtain ⟨rfl, hP, hK⟩ := hv
  have hx := B.exec
  have hb := B.bytes
  have hr := B.returns
  have hts := atoms_spec (ws := wsX0_claim) B.pre
  have hown : s.vm.findClass RX0 = some m.cls := findClass_of_methodNamed B.named
  have hlocks := B.notSynchronized
  have hin0 : ∀ w ∈ wsX00, w ∈ wsX0_claim := by decide +kernel
  have hl := lv_entry ([.ref (ad 0), .int (x), .int (y)]) (n := 3) (Nat.le_of_ble_eq_true rfl)
  rw [lg_entry_eq]
  generalize (lg_sl ([.ref (ad 0), .int (x), .int (y)]) ++ List.replicate (3 - (lg_sl ([.ref (ad 0), .int (x), .int (y)])).length) Slot.unset).toArray = ls at hl ⊢
  have hl : lv_has ls 3 [(0, .ref (ad 0)), (1, .int (x)), (2, .int (y))] := hl
  refine lv_iload_n hx hb dX0_claim_0 rfl (lv_at hl 1 rfl) ?_
  refine W.callR (W.runS (As := [.int (x)]) (rest := []) ⟨hx, hb, hml, hown, hts⟩ (c0_isRouter l ((x))) (va_cwS 1 hts gX0_claim_X0_isRouter rfl rfl rfl (by decide +kernel) ⟨Nat.le_of_ble_eq_true rfl, Nat.le_of_ble_eq_true rfl⟩) preEq rfl rfl hl.1 rfl (lv_room (Nat.le_of_ble_eq_true rfl)) dX0_claim_1 ⟨Nat.zero_le _, Nat.zero_le _⟩) ?_
  refine W.eq (g2 := F0 m 4 ls [.int (bI (inR 10 ((x))))]) rfl ?_
  refine xx_if0 (tgt := 14) hx hb dX0_claim_4 (by decide) (fun h1 => ?_) (fun h1 => ?_)
  · skip
    refine lv_iconst (v := -1) hx hb dX0_claim_14 (by decide) ?_
    exact W.iret (v := (-1)) hx hb hr (fun t ht hW => ⟨ro_i ((pr2_f1 h1).symm), ht⟩) (fun _ h => absurd h List.not_mem_nil) dX0_claim_15
  · skip
    obtain ⟨r, hr10, rfl⟩ := inR_t (by decide) h1
    refine lv_iload_n hx hb dX0_claim_7 rfl (lv_at hl 2 rfl) ?_
    refine W.callR (W.runS (As := [.int (y)]) (rest := []) ⟨hx, hb, hml, hown, hts⟩ (c0_isSource l ((y))) (va_cwS 1 hts gX0_claim_X0_isSource rfl rfl rfl (by decide +kernel) ⟨Nat.le_of_ble_eq_true rfl, Nat.le_of_ble_eq_true rfl⟩) preEq rfl rfl hl.1 rfl (lv_room (Nat.le_of_ble_eq_true rfl)) dX0_claim_8 ⟨Nat.zero_le _, Nat.zero_le _⟩) ?_
    refine W.eq (g2 := F0 m 11 ls [.int (bI (inR 16 ((y))))]) rfl ?_
    refine xx_if1 (tgt := 16) hx hb dX0_claim_11 (by decide) (fun h2 => ?_) (fun h2 => ?_)
    · skip
      obtain ⟨z, hz16, rfl⟩ := inR_t (by decide) h2
      refine lv_aload_n hx hb dX0_claim_16 rfl (lv_at hl 0 rfl) ?_
      refine va_get (D := D) (ci := 0) (v := .ref (ad 2)) (C := RX0) (T := TX0) (N := 10) hx hb hts hin0 hown hK hP 0 rfl rfl 5 (by decide) (hts (.fieldLink RX0 26 "ClaimBench" "ownClaims" "[I") (by decide +kernel)) (fun _ h9 => h9) rfl dX0_claim_17 ?_
      refine lv_iload_n hx hb dX0_claim_20 rfl (lv_at hl 1 rfl) ?_
      refine lv_iload_n hx hb dX0_claim_21 rfl (lv_at hl 2 rfl) ?_
      refine W.callR (W.runS (As := [.int (nI (r)), .int (nI (z))]) (rest := [.ref (ad 2)]) ⟨hx, hb, hml, hown, hts⟩ (c0_cellOf l r z) (va_cwS 2 hts gX0_claim_X0_cellOf rfl rfl rfl (by decide +kernel) ⟨Nat.le_of_ble_eq_true rfl, Nat.le_of_ble_eq_true rfl⟩) preEq rfl rfl hl.1 rfl (lv_room (Nat.le_of_ble_eq_true rfl)) dX0_claim_22 ⟨Nat.zero_le _, Nat.zero_le _⟩) ?_
      refine W.eq (g2 := F0 m 25 ls [.int (nI (16 * r + z)), .ref (ad 2)]) rfl ?_
      refine xx_ald hx hb hK hP 2 1 (fun c_ => nI (pO S c_)) rfl rfl (j := 16 * r + z) (by omega) (by decide) dX0_claim_25 ?_
      refine W.eq (g2 := F0 m 26 ls [.int (nI (pO S (16 * r + z)))]) rfl ?_
      exact W.iret (v := (nI (pO S (16 * r + z)))) hx hb hr (fun t ht hW => ⟨ro_i (by unfold aClaim; rw [pr2_t hr10 hz16]), ht⟩) (fun _ h => absurd h List.not_mem_nil) dX0_claim_26
    · skip
      refine lv_iconst (v := -1) hx hb dX0_claim_14 (by decide) ?_
      exact W.iret (v := (-1)) hx hb hr (fun t ht hW => ⟨ro_i ((pr2_f2 h2).symm), ht⟩) (fun _ h => absurd h List.not_mem_nil) dX0_claim_15
set_option maxHeartbeats 4000000 in
set_option maxRecDepth 100000 in
theorem c0_kept (l : Launch) (D : va_G) (ad : Nat → Nat) (ck : Nat → ClassId) (S : AS) (a : Nat) (hi : iv S) (x y : Int32) : Met l yX0_kept wsX0_kept ({ frames := 2, cells := 0, slots := 0, locals := 42 }) (PW D (wB ad ck S a) (tyB ck) [.ref (ad 0), .int (x), .int (y)]) (QcRead (aKept S x y)) 0 0 (fun _ => False) := by
  refine Met.ofW (cc := cX0_kept) (maxL := 3) (ret := (some .int)) (by decide) rfl ?_
  intro p e s m args below meth c s₁ B hml hv
  obtain ⟨rfl, hP, hK⟩ := hv
  have hx := B.exec
  have hb := B.bytes
  have hr := B.returns
  have hts := atoms_spec (ws := wsX0_kept) B.pre
  have hown : s.vm.findClass RX0 = some m.cls := findClass_of_methodNamed B.named
  have hlocks := B.notSynchronized
  have hin0 : ∀ w ∈ wsX00, w ∈ wsX0_kept := by decide +kernel
  have hl := lv_entry ([.ref (ad 0), .int (x), .int (y)]) (n := 3) (Nat.le_of_ble_eq_true rfl)
  rw [lg_entry_eq]
  generalize (lg_sl ([.ref (ad 0), .int (x), .int (y)]) ++ List.replicate (3 - (lg_sl ([.ref (ad 0), .int (x), .int (y)])).length) Slot.unset).toArray = ls at hl ⊢
  have hl : lv_has ls 3 [(0, .ref (ad 0)), (1, .int (x)), (2, .int (y))] := hl
  refine lv_iload_n hx hb dX0_kept_0 rfl (lv_at hl 1 rfl) ?_
  refine W.callR (W.runS (As := [.int (x)]) (rest := []) ⟨hx, hb, hml, hown, hts⟩ (c0_isRouter l ((x))) (va_cwS 1 hts gX0_kept_X0_isRouter rfl rfl rfl (by decide +kernel) ⟨Nat.le_of_ble_eq_true rfl, Nat.le_of_ble_eq_true rfl⟩) preEq rfl rfl hl.1 rfl (lv_room (Nat.le_of_ble_eq_true rfl)) dX0_kept_1 ⟨Nat.zero_le _, Nat.zero_le _⟩) ?_
  refine W.eq (g2 := F0 m 4 ls [.int (bI (inR 10 ((x))))]) rfl ?_
  refine xx_if0 (tgt := 26) hx hb dX0_kept_4 (by decide) (fun h1 => ?_) (fun h1 => ?_)
  · skip
    refine lv_iconst (v := -1) hx hb dX0_kept_26 (by decide) ?_
    exact W.iret (v := (-1)) hx hb hr (fun t ht hW => ⟨ro_i ((pr2_f1 h1).symm), ht⟩) (fun _ h => absurd h List.not_mem_nil) dX0_kept_27
  · skip
    obtain ⟨r, hr10, rfl⟩ := inR_t (by decide) h1
    refine lv_iload_n hx hb dX0_kept_7 rfl (lv_at hl 2 rfl) ?_
    refine W.callR (W.runS (As := [.int (y)]) (rest := []) ⟨hx, hb, hml, hown, hts⟩ (c0_isSource l ((y))) (va_cwS 1 hts gX0_kept_X0_isSource rfl rfl rfl (by decide +kernel) ⟨Nat.le_of_ble_eq_true rfl, Nat.le_of_ble_eq_true rfl⟩) preEq rfl rfl hl.1 rfl (lv_room (Nat.le_of_ble_eq_true rfl)) dX0_kept_8 ⟨Nat.zero_le _, Nat.zero_le _⟩) ?_
    refine W.eq (g2 := F0 m 11 ls [.int (bI (inR 16 ((y))))]) rfl ?_
    refine xx_if0 (tgt := 26) hx hb dX0_kept_11 (by decide) (fun h2 => ?_) (fun h2 => ?_)
    · skip
      refine lv_iconst (v := -1) hx hb dX0_kept_26 (by decide) ?_
      exact W.iret (v := (-1)) hx hb hr (fun t ht hW => ⟨ro_i ((pr2_f2 h2).symm), ht⟩) (fun _ h => absurd h List.not_mem_nil) dX0_kept_27
    · skip
      obtain ⟨z, hz16, rfl⟩ := inR_t (by decide) h2
      refine lv_aload_n hx hb dX0_kept_14 rfl (lv_at hl 0 rfl) ?_
      refine lv_iload_n hx hb dX0_kept_15 rfl (lv_at hl 1 rfl) ?_
      refine lv_iload_n hx hb dX0_kept_16 rfl (lv_at hl 2 rfl) ?_
      refine W.callR (W.runS (As := [.int (nI (r)), .int (nI (z))]) (rest := [.ref (ad 0)]) ⟨hx, hb, hml, hown, hts⟩ (c0_cellOf l r z) (va_cwS 2 hts gX0_kept_X0_cellOf rfl rfl rfl (by decide +kernel) ⟨Nat.le_of_ble_eq_true rfl, Nat.le_of_ble_eq_true rfl⟩) preEq rfl rfl hl.1 rfl (lv_room (Nat.le_of_ble_eq_true rfl)) dX0_kept_17 ⟨Nat.zero_le _, Nat.zero_le _⟩) ?_
      refine W.eq (g2 := F0 m 20 ls [.int (nI (16 * r + z)), .ref (ad 0)]) rfl ?_
      refine W.callR (W.runV (As := [.int (nI (16 * r + z))]) (rest := []) ⟨hx, hb, hml, hown, hts⟩ (c0_keepsOne l D ad ck S a hi (16 * r + z) (by omega)) (cwV 1 hts gX0_kept_X0_keepsOne rfl rfl rfl (by decide +kernel) ⟨Nat.le_of_ble_eq_true rfl, Nat.le_of_ble_eq_true rfl⟩) (PW_pre hK hP (ci := 0) rfl rfl) rfl rfl hl.1 rfl (lv_room (Nat.le_of_ble_eq_true rfl)) dX0_kept_20 ⟨Nat.zero_le _, Nat.zero_le _⟩) ?_
      refine W.eq (g2 := F0 m 23 ls [.int (bI (pK S (16 * r + z)))]) rfl ?_
      refine xx_if1 (tgt := 28) hx hb dX0_kept_23 (by decide) (fun h3 => ?_) (fun h3 => ?_)
      · skip
        refine lv_aload_n hx hb dX0_kept_28 rfl (lv_at hl 0 rfl) ?_
        refine va_get (D := D) (ci := 0) (v := .ref (ad 3)) (C := RX0) (T := TX0) (N := 10) hx hb hts hin0 hown hK hP 0 rfl rfl 6 (by decide) (hts (.fieldLink RX0 29 "ClaimBench" "keptClaims" "[I") (by decide +kernel)) (fun _ h9 => h9) rfl dX0_kept_29 ?_
        refine lv_iload_n hx hb dX0_kept_32 rfl (lv_at hl 1 rfl) ?_
        refine lv_iload_n hx hb dX0_kept_33 rfl (lv_at hl 2 rfl) ?_
        refine W.callR (W.runS (As := [.int (nI (r)), .int (nI (z))]) (rest := [.ref (ad 3)]) ⟨hx, hb, hml, hown, hts⟩ (c0_cellOf l r z) (va_cwS 2 hts gX0_kept_X0_cellOf rfl rfl rfl (by decide +kernel) ⟨Nat.le_of_ble_eq_true rfl, Nat.le_of_ble_eq_true rfl⟩) preEq rfl rfl hl.1 rfl (lv_room (Nat.le_of_ble_eq_true rfl)) dX0_kept_34 ⟨Nat.zero_le _, Nat.zero_le _⟩) ?_
        refine W.eq (g2 := F0 m 37 ls [.int (nI (16 * r + z)), .ref (ad 3)]) rfl ?_
        refine xx_ald hx hb hK hP 3 2 (fun c_ => nI (sC S c_)) rfl rfl (j := 16 * r + z) (by omega) (by decide) dX0_kept_37 ?_
        refine W.eq (g2 := F0 m 38 ls [.int (nI (sC S (16 * r + z)))]) rfl ?_
        exact W.iret (v := (nI (sC S (16 * r + z)))) hx hb hr (fun t ht hW => ⟨ro_i (((pr2_t hr10 hz16).trans (kR_t h3)).symm), ht⟩) (fun _ h => absurd h List.not_mem_nil) dX0_kept_38
      · skip
        refine lv_iconst (v := -1) hx hb dX0_kept_26 (by decide) ?_
        exact W.iret (v := (-1)) hx hb hr (fun t ht hW => ⟨ro_i (((pr2_t hr10 hz16).trans (kR_f h3)).symm), ht⟩) (fun _ h => absurd h List.not_mem_nil) dX0_kept_27
set_option maxHeartbeats 4000000 in
set_option maxRecDepth 100000 in
theorem c0_lost (l : Launch) (D : va_G) (ad : Nat → Nat) (ck : Nat → ClassId) (S : AS) (a : Nat) (hi : iv S) (x y : Int32) : Met l yX0_lost wsX0_lost ({ frames := 3, cells := 0, slots := 0, locals := 64 }) (PW D (wB ad ck S a) (tyB ck) [.ref (ad 0), .int (x), .int (y)]) (QcRead (aLost S x y)) 0 0 (fun _ => False) := by
  refine Met.ofW (cc := cX0_lost) (maxL := 3) (ret := (some .boolean)) (by decide) rfl ?_
  intro p e s m args below meth c s₁ B hml hv
  obtain ⟨rfl, hP, hK⟩ := hv
  have hx := B.exec
  have hb := B.bytes
  have hr := B.returns
  have hts := atoms_spec (ws := wsX0_lost) B.pre
  have hown : s.vm.findClass RX0 = some m.cls := findClass_of_methodNamed B.named
  have hlocks := B.notSynchronized
  have hin0 : ∀ w ∈ wsX00, w ∈ wsX0_lost := by decide +kernel
  have hl := lv_entry ([.ref (ad 0), .int (x), .int (y)]) (n := 3) (Nat.le_of_ble_eq_true rfl)
  rw [lg_entry_eq]
  generalize (lg_sl ([.ref (ad 0), .int (x), .int (y)]) ++ List.replicate (3 - (lg_sl ([.ref (ad 0), .int (x), .int (y)])).length) Slot.unset).toArray = ls at hl ⊢
  have hl : lv_has ls 3 [(0, .ref (ad 0)), (1, .int (x)), (2, .int (y))] := hl
  refine lv_iload_n hx hb dX0_lost_0 rfl (lv_at hl 1 rfl) ?_
  refine W.callR (W.runS (As := [.int (x)]) (rest := []) ⟨hx, hb, hml, hown, hts⟩ (c0_isRouter l ((x))) (va_cwS 1 hts gX0_lost_X0_isRouter rfl rfl rfl (by decide +kernel) ⟨Nat.le_of_ble_eq_true rfl, Nat.le_of_ble_eq_true rfl⟩) preEq rfl rfl hl.1 rfl (lv_room (Nat.le_of_ble_eq_true rfl)) dX0_lost_1 ⟨Nat.zero_le _, Nat.zero_le _⟩) ?_
  refine W.eq (g2 := F0 m 4 ls [.int (bI (inR 10 ((x))))]) rfl ?_
  refine xx_if0 (tgt := 30) hx hb dX0_lost_4 (by decide) (fun h1 => ?_) (fun h1 => ?_)
  · skip
    refine lv_iconst (v := nI 0) hx hb dX0_lost_30 (by decide) ?_
    exact W.zret (v := (nI (0))) (ty := .boolean) hx hb hr (rfl) (fun t ht hW => ⟨ro_i ((pr2_f1 h1).symm), ht⟩) (fun _ h => absurd h List.not_mem_nil) dX0_lost_31
  · skip
    obtain ⟨r, hr10, rfl⟩ := inR_t (by decide) h1
    refine lv_iload_n hx hb dX0_lost_7 rfl (lv_at hl 2 rfl) ?_
    refine W.callR (W.runS (As := [.int (y)]) (rest := []) ⟨hx, hb, hml, hown, hts⟩ (c0_isSource l ((y))) (va_cwS 1 hts gX0_lost_X0_isSource rfl rfl rfl (by decide +kernel) ⟨Nat.le_of_ble_eq_true rfl, Nat.le_of_ble_eq_true rfl⟩) preEq rfl rfl hl.1 rfl (lv_room (Nat.le_of_ble_eq_true rfl)) dX0_lost_8 ⟨Nat.zero_le _, Nat.zero_le _⟩) ?_
    refine W.eq (g2 := F0 m 11 ls [.int (bI (inR 16 ((y))))]) rfl ?_
    refine xx_if0 (tgt := 30) hx hb dX0_lost_11 (by decide) (fun h2 => ?_) (fun h2 => ?_)
    · skip
      refine lv_iconst (v := nI 0) hx hb dX0_lost_30 (by decide) ?_
      exact W.zret (v := (nI (0))) (ty := .boolean) hx hb hr (rfl) (fun t ht hW => ⟨ro_i ((pr2_f2 h2).symm), ht⟩) (fun _ h => absurd h List.not_mem_nil) dX0_lost_31
    · skip
      obtain ⟨z, hz16, rfl⟩ := inR_t (by decide) h2
      refine lv_aload_n hx hb dX0_lost_14 rfl (lv_at hl 0 rfl) ?_
      refine lv_iload_n hx hb dX0_lost_15 rfl (lv_at hl 1 rfl) ?_
      refine lv_iload_n hx hb dX0_lost_16 rfl (lv_at hl 2 rfl) ?_
      refine W.callR (W.runS (As := [.int (nI (r)), .int (nI (z))]) (rest := [.ref (ad 0)]) ⟨hx, hb, hml, hown, hts⟩ (c0_cellOf l r z) (va_cwS 2 hts gX0_lost_X0_cellOf rfl rfl rfl (by decide +kernel) ⟨Nat.le_of_ble_eq_true rfl, Nat.le_of_ble_eq_true rfl⟩) preEq rfl rfl hl.1 rfl (lv_room (Nat.le_of_ble_eq_true rfl)) dX0_lost_17 ⟨Nat.zero_le _, Nat.zero_le _⟩) ?_
      refine W.eq (g2 := F0 m 20 ls [.int (nI (16 * r + z)), .ref (ad 0)]) rfl ?_
      refine W.callR (W.runV (As := [.int (nI (16 * r + z))]) (rest := []) ⟨hx, hb, hml, hown, hts⟩ (c0_isLost l D ad ck S a hi (16 * r + z) (by omega)) (cwV 1 hts gX0_lost_X0_isLost rfl rfl rfl (by decide +kernel) ⟨Nat.le_of_ble_eq_true rfl, Nat.le_of_ble_eq_true rfl⟩) (PW_pre hK hP (ci := 0) rfl rfl) rfl rfl hl.1 rfl (lv_room (Nat.le_of_ble_eq_true rfl)) dX0_lost_20 ⟨Nat.zero_le _, Nat.zero_le _⟩) ?_
      refine W.eq (g2 := F0 m 23 ls [.int (bI (pL S (16 * r + z)))]) rfl ?_
      refine xx_if0 (tgt := 30) hx hb dX0_lost_23 (by decide) (fun h3 => ?_) (fun h3 => ?_)
      · skip
        refine lv_iconst (v := nI 0) hx hb dX0_lost_30 (by decide) ?_
        exact W.zret (v := (nI (0))) (ty := .boolean) hx hb hr (rfl) (fun t ht hW => ⟨ro_i (((pr2_t hr10 hz16).trans (bI_f h3)).symm), ht⟩) (fun _ h => absurd h List.not_mem_nil) dX0_lost_31
      · skip
        refine lv_iconst (v := nI 1) hx hb dX0_lost_26 (by decide) ?_
        refine lv_goto (tgt := 31) hx hb dX0_lost_27 (by decide) ?_
        exact W.zret (v := (nI (1))) (ty := .boolean) hx hb hr (rfl) (fun t ht hW => ⟨ro_i (((pr2_t hr10 hz16).trans (bI_t h3)).symm), ht⟩) (fun _ h => absurd h List.not_mem_nil) dX0_lost_31
set_option maxHeartbeats 4000000 in
set_option maxRecDepth 100000 in
theorem c0_said (l : Launch) (D : va_G) (ad : Nat → Nat) (ck : Nat → ClassId) (S : AS) (a : Nat) (hi : iv S) (x : Int32) : Met l yX0_said wsX0_said ({ frames := 0, cells := 0, slots := 0, locals := 0 }) (PW D (wB ad ck S a) (tyB ck) [.ref (ad 0), .int (x)]) (QcRead (aSaid S x)) 0 0 (fun _ => False) := by
  refine Met.ofW (cc := cX0_said) (maxL := 2) (ret := (some .int)) (by decide) rfl ?_
  intro p e s m args below meth c s₁ B hml hv
  obtain ⟨rfl, hP, hK⟩ := hv
  have hx := B.exec
  have hb := B.bytes
  have hr := B.returns
  have hts := atoms_spec (ws := wsX0_said) B.pre
  have hown : s.vm.findClass RX0 = some m.cls := findClass_of_methodNamed B.named
  have hlocks := B.notSynchronized
  have hin0 : ∀ w ∈ wsX00, w ∈ wsX0_said := by decide +kernel
  have hl := lv_entry ([.ref (ad 0), .int (x)]) (n := 2) (Nat.le_of_ble_eq_true rfl)
  rw [lg_entry_eq]
  generalize (lg_sl ([.ref (ad 0), .int (x)]) ++ List.replicate (2 - (lg_sl ([.ref (ad 0), .int (x)])).length) Slot.unset).toArray = ls at hl ⊢
  have hl : lv_has ls 2 [(0, .ref (ad 0)), (1, .int (x))] := hl
  have hN := hi.2.2.2.2.1
  refine lv_iload_n hx hb dX0_said_0 rfl (lv_at hl 1 rfl) ?_
  refine lv_if_lt (tgt := 19) hx hb dX0_said_1 (by decide) (fun h1 => ?_) (fun h1 => ?_)
  · skip
    refine lv_iconst (v := -1) hx hb dX0_said_19 (by decide) ?_
    exact W.iret (v := (-1)) hx hb hr (fun t ht hW => ⟨ro_i ((pr1_f (inR_f1 h1)).symm), ht⟩) (fun _ h => absurd h List.not_mem_nil) dX0_said_20
  · skip
    refine lv_iload_n hx hb dX0_said_4 rfl (lv_at hl 1 rfl) ?_
    refine lv_aload_n hx hb dX0_said_5 rfl (lv_at hl 0 rfl) ?_
    refine va_get (D := D) (ci := 0) (v := .int (nI (sN S))) (C := RX0) (T := TX0) (N := 10) hx hb hts hin0 hown hK hP 0 rfl rfl 9 (by decide) (hts (.fieldLink RX0 38 "ClaimBench" "rowLength" "I") (by decide +kernel)) (fun _ h9 => h9) rfl dX0_said_6 ?_
    refine lv_icmp_ge (tgt := 19) hx hb dX0_said_9 (by decide) (fun h2 => ?_) (fun h2 => ?_)
    · skip
      refine lv_iconst (v := -1) hx hb dX0_said_19 (by decide) ?_
      exact W.iret (v := (-1)) hx hb hr (fun t ht hW => ⟨ro_i ((pr1_f (inR_f2 h2)).symm), ht⟩) (fun _ h => absurd h List.not_mem_nil) dX0_said_20
    · skip
      obtain ⟨j, hj, rfl⟩ := inR_t (by omega) (inR_mk h1 h2)
      refine lv_iload_n hx hb dX0_said_12 rfl (lv_at hl 1 rfl) ?_
      refine lv_sipush (v := nI 1023) hx hb dX0_said_13 (by decide) ?_
      refine xx_lt (tgt := 21) hx hb dX0_said_16 (by decide) (by omega) (by omega) (fun h3 => ?_) (fun h3 => ?_)
      · skip
        refine lv_aload_n hx hb dX0_said_21 rfl (lv_at hl 0 rfl) ?_
        refine va_get (D := D) (ci := 0) (v := .ref (ad 5)) (C := RX0) (T := TX0) (N := 10) hx hb hts hin0 hown hK hP 0 rfl rfl 8 (by decide) (hts (.fieldLink RX0 35 "ClaimBench" "row" "[I") (by decide +kernel)) (fun _ h9 => h9) rfl dX0_said_22 ?_
        refine lv_iload_n hx hb dX0_said_25 rfl (lv_at hl 1 rfl) ?_
        refine xx_ald hx hb hK hP 5 4 (fun c_ => nI (sR S c_ % 100)) rfl rfl (j := j) (by omega) (by decide) dX0_said_26 ?_
        refine W.eq (g2 := F0 m 27 ls [.int (nI (sR S j % 100))]) rfl ?_
        exact W.iret (v := (nI (sR S j % 100))) hx hb hr (fun t ht hW => ⟨ro_i (by unfold aSaid; rw [pr1_t (by omega) hj]), ht⟩) (fun _ h => absurd h List.not_mem_nil) dX0_said_27
      · skip
        exact absurd h3 (by omega)
set_option maxHeartbeats 4000000 in
set_option maxRecDepth 100000 in
theorem c1_own (l : Launch) (D : va_G) (ad : Nat → Nat) (ck : Nat → ClassId) (S : AS) (a : Nat) (hi : iv S) (r z : Nat) (hr10 : r < 10) (hz16 : z < 16) : Met l yX1_own wsX1_own ({ frames := 0, cells := 0, slots := 0, locals := 0 }) (PW D (wM ad ck S a) (tyM ck) [.ref (ad 0), .int (nI (r)), .int (nI (z))]) (QcRead (nI (pO S (16 * r + z)))) 0 0 (fun _ => False) := by
  refine Met.ofW (cc := cX1_own) (maxL := 3) (ret := (some .int)) (by decide) rfl ?_
  intro p e s m args below meth c s₁ B hml hv
  obtain ⟨rfl, hP, hK⟩ := hv
  have hx := B.exec
  have hb := B.bytes
  have hr := B.returns
  have hts := atoms_spec (ws := wsX1_own) B.pre
  have hown : s.vm.findClass RX1 = some m.cls := findClass_of_methodNamed B.named
  have hlocks := B.notSynchronized
  have hin0 : ∀ w ∈ wsX10, w ∈ wsX1_own := by decide +kernel
  have hl := lv_entry ([.ref (ad 0), .int (nI (r)), .int (nI (z))]) (n := 3) (Nat.le_of_ble_eq_true rfl)
  rw [lg_entry_eq]
  generalize (lg_sl ([.ref (ad 0), .int (nI (r)), .int (nI (z))]) ++ List.replicate (3 - (lg_sl ([.ref (ad 0), .int (nI (r)), .int (nI (z))])).length) Slot.unset).toArray = ls at hl ⊢
  have hl : lv_has ls 3 [(0, .ref (ad 0)), (1, .int (nI (r))), (2, .int (nI (z)))] := hl
  refine lv_aload_n hx hb dX1_own_0 rfl (lv_at hl 0 rfl) ?_
  refine va_get (D := D) (ci := 1) (v := .ref (ad 4)) (C := RX1) (T := TX1) (N := 11) hx hb hts hin0 hown hK hP 0 rfl rfl 5 (by decide) (hts (.fieldLink RX1 19 "ClaimBenchModel" "isStraight" "[Z") (by decide +kernel)) (fun _ h9 => h9) rfl dX1_own_1 ?_
  refine lv_bipush (v := nI 16) hx hb dX1_own_4 (by decide) ?_
  refine lv_iload_n hx hb dX1_own_6 rfl (lv_at hl 1 rfl) ?_
  refine xx_mul hx hb dX1_own_7 ?_
  refine lv_iload_n hx hb dX1_own_8 rfl (lv_at hl 2 rfl) ?_
  refine xx_add hx hb dX1_own_9 ?_
  refine xx_zld hx hb hK hP 4 3 (fun c_ => bI (sS S c_)) rfl rfl (j := (16 * r) + z) (by omega) (by decide) dX1_own_10 ?_
  refine W.eq (g2 := F0 m 11 ls [.int (bI (sS S ((16 * r) + z)))]) rfl ?_
  refine xx_if0 (tgt := 18) hx hb dX1_own_11 (by decide) (fun h1 => ?_) (fun h1 => ?_)
  · skip
    refine lv_ldc (own := RX1) (v := nI 1000000) hx hb hown (hts (.constant RX1 48 (1000000)) (by decide +kernel)) dX1_own_18 ?_
    refine lv_bipush (v := nI 100) hx hb dX1_own_20 (by decide) ?_
    refine lv_aload_n hx hb dX1_own_22 rfl (lv_at hl 0 rfl) ?_
    refine va_get (D := D) (ci := 1) (v := .ref (ad 5)) (C := RX1) (T := TX1) (N := 11) hx hb hts hin0 hown hK hP 0 rfl rfl 6 (by decide) (hts (.fieldLink RX1 22 "ClaimBenchModel" "distance" "[I") (by decide +kernel)) (fun _ h9 => h9) rfl dX1_own_23 ?_
    refine lv_bipush (v := nI 16) hx hb dX1_own_26 (by decide) ?_
    refine lv_iload_n hx hb dX1_own_28 rfl (lv_at hl 1 rfl) ?_
    refine xx_mul hx hb dX1_own_29 ?_
    refine lv_iload_n hx hb dX1_own_30 rfl (lv_at hl 2 rfl) ?_
    refine xx_add hx hb dX1_own_31 ?_
    refine xx_ald hx hb hK hP 5 4 (fun c_ => nI (sI S c_)) rfl rfl (j := (16 * r) + z) (by omega) (by decide) dX1_own_32 ?_
    refine W.eq (g2 := F0 m 33 ls [.int (nI (sI S ((16 * r) + z))), .int (nI (100)), .int (nI (1000000))]) rfl ?_
    refine xx_mul hx hb dX1_own_33 ?_
    refine xx_add hx hb dX1_own_34 ?_
    refine lv_iload_n hx hb dX1_own_35 rfl (lv_at hl 1 rfl) ?_
    refine xx_add hx hb dX1_own_36 ?_
    exact W.iret (v := (nI ((1000000 + (100 * (sI S ((16 * r) + z)))) + r))) hx hb hr (fun t ht hW => ⟨ro_i (congrArg nI (by unfold pO; rw [h1, if_neg (by decide)]; omega)), ht⟩) (fun _ h => absurd h List.not_mem_nil) dX1_own_37
  · skip
    refine lv_iconst (v := nI 0) hx hb dX1_own_14 (by decide) ?_
    refine lv_goto (tgt := 20) hx hb dX1_own_15 (by decide) ?_
    refine lv_bipush (v := nI 100) hx hb dX1_own_20 (by decide) ?_
    refine lv_aload_n hx hb dX1_own_22 rfl (lv_at hl 0 rfl) ?_
    refine va_get (D := D) (ci := 1) (v := .ref (ad 5)) (C := RX1) (T := TX1) (N := 11) hx hb hts hin0 hown hK hP 0 rfl rfl 6 (by decide) (hts (.fieldLink RX1 22 "ClaimBenchModel" "distance" "[I") (by decide +kernel)) (fun _ h9 => h9) rfl dX1_own_23 ?_
    refine lv_bipush (v := nI 16) hx hb dX1_own_26 (by decide) ?_
    refine lv_iload_n hx hb dX1_own_28 rfl (lv_at hl 1 rfl) ?_
    refine xx_mul hx hb dX1_own_29 ?_
    refine lv_iload_n hx hb dX1_own_30 rfl (lv_at hl 2 rfl) ?_
    refine xx_add hx hb dX1_own_31 ?_
    refine xx_ald hx hb hK hP 5 4 (fun c_ => nI (sI S c_)) rfl rfl (j := (16 * r) + z) (by omega) (by decide) dX1_own_32 ?_
    refine W.eq (g2 := F0 m 33 ls [.int (nI (sI S ((16 * r) + z))), .int (nI (100)), .int (nI (0))]) rfl ?_
    refine xx_mul hx hb dX1_own_33 ?_
    refine xx_add hx hb dX1_own_34 ?_
    refine lv_iload_n hx hb dX1_own_35 rfl (lv_at hl 1 rfl) ?_
    refine xx_add hx hb dX1_own_36 ?_
    exact W.iret (v := (nI ((0 + (100 * (sI S ((16 * r) + z)))) + r))) hx hb hr (fun t ht hW => ⟨ro_i (congrArg nI (by unfold pO; rw [h1, if_pos rfl]; omega)), ht⟩) (fun _ h => absurd h List.not_mem_nil) dX1_own_37
set_option maxHeartbeats 4000000 in
set_option maxRecDepth 100000 in
theorem c1_keeps (l : Launch) (D : va_G) (ad : Nat → Nat) (ck : Nat → ClassId) (S : AS) (a : Nat) (hi : iv S) (r z : Nat) (hr10 : r < 10) (hz16 : z < 16) : Met l yX1_keeps wsX1_keeps ({ frames := 0, cells := 0, slots := 0, locals := 0 }) (PW D (wM ad ck S a) (tyM ck) [.ref (ad 0), .int (nI (r)), .int (nI (z))]) (QcRead (kR S (16 * r + z))) 0 0 (fun _ => False) := by
  refine Met.ofW (cc := cX1_keeps) (maxL := 4) (ret := (some .int)) (by decide) rfl ?_
  intro p e s m args below meth c s₁ B hml hv
  obtain ⟨rfl, hP, hK⟩ := hv
  have hx := B.exec
  have hb := B.bytes
  have hr := B.returns
  have hts := atoms_spec (ws := wsX1_keeps) B.pre
  have hown : s.vm.findClass RX1 = some m.cls := findClass_of_methodNamed B.named
  have hlocks := B.notSynchronized
  have hin0 : ∀ w ∈ wsX10, w ∈ wsX1_keeps := by decide +kernel
  have hl := lv_entry ([.ref (ad 0), .int (nI (r)), .int (nI (z))]) (n := 4) (Nat.le_of_ble_eq_true rfl)
  rw [lg_entry_eq]
  generalize (lg_sl ([.ref (ad 0), .int (nI (r)), .int (nI (z))]) ++ List.replicate (4 - (lg_sl ([.ref (ad 0), .int (nI (r)), .int (nI (z))])).length) Slot.unset).toArray = ls at hl ⊢
  have hl : lv_has ls 4 [(0, .ref (ad 0)), (1, .int (nI (r))), (2, .int (nI (z)))] := hl
  have hT := hi.1
  have hC := hi.2.2.1 (16 * r + z)
  have hU := hi.2.2.2.1 (16 * r + z)
  have hI := hi.2.1 (16 * r + z)
  have hO := pO_le hi (k := 16 * r + z) (by omega)
  refine lv_aload_n hx hb dX1_keeps_0 rfl (lv_at hl 0 rfl) ?_
  refine va_get (D := D) (ci := 1) (v := .ref (ad 6)) (C := RX1) (T := TX1) (N := 11) hx hb hts hin0 hown hK hP 0 rfl rfl 7 (by decide) (hts (.fieldLink RX1 26 "ClaimBenchModel" "keptClaim" "[I") (by decide +kernel)) (fun _ h9 => h9) rfl dX1_keeps_1 ?_
  refine lv_bipush (v := nI 16) hx hb dX1_keeps_4 (by decide) ?_
  refine lv_iload_n hx hb dX1_keeps_6 rfl (lv_at hl 1 rfl) ?_
  refine xx_mul hx hb dX1_keeps_7 ?_
  refine lv_iload_n hx hb dX1_keeps_8 rfl (lv_at hl 2 rfl) ?_
  refine xx_add hx hb dX1_keeps_9 ?_
  refine xx_ald hx hb hK hP 6 5 (fun c_ => kM S c_) rfl rfl (j := (16 * r) + z) (by omega) (by decide) dX1_keeps_10 ?_
  refine W.eq (g2 := F0 m 11 ls [.int (kM S ((16 * r) + z))]) rfl ?_
  refine lv_istore_n (lv' := [(3, .int (kM S ((16 * r) + z))), (0, .ref (ad 0)), (1, .int (nI (r))), (2, .int (nI (z)))]) hx hb dX1_keeps_11 rfl hl (by decide) rfl (fun ls hl => ?_)
  refine lv_iload_n hx hb dX1_keeps_12 rfl (lv_at hl 0 rfl) ?_
  refine lv_iconst (v := -1) hx hb dX1_keeps_13 (by decide) ?_
  refine lv_icmp_eq (tgt := 51) hx hb dX1_keeps_14 (by decide) (fun h1 => ?_) (fun h1 => ?_)
  · skip
    refine lv_iconst (v := -1) hx hb dX1_keeps_51 (by decide) ?_
    exact W.iret (v := (-1)) hx hb hr (fun t ht hW => ⟨ro_i ((kR_f (kM_m hi h1)).symm), ht⟩) (fun _ h => absurd h List.not_mem_nil) dX1_keeps_52
  · skip
    obtain ⟨hc, hu0⟩ := kM_n h1
    rw [hc] at hl
    refine lv_aload_n hx hb dX1_keeps_17 rfl (lv_at hl 1 rfl) ?_
    refine va_get (D := D) (ci := 1) (v := .int (nI (sT S))) (C := RX1) (T := TX1) (N := 11) hx hb hts hin0 hown hK hP 0 rfl rfl 0 (by decide) (hts (.fieldLink RX1 39 "ClaimBenchModel" "time" "I") (by decide +kernel)) (fun _ h9 => h9) rfl dX1_keeps_18 ?_
    refine lv_aload_n hx hb dX1_keeps_21 rfl (lv_at hl 1 rfl) ?_
    refine va_get (D := D) (ci := 1) (v := .ref (ad 7)) (C := RX1) (T := TX1) (N := 11) hx hb hts hin0 hown hK hP 0 rfl rfl 8 (by decide) (hts (.fieldLink RX1 29 "ClaimBenchModel" "keptTill" "[I") (by decide +kernel)) (fun _ h9 => h9) rfl dX1_keeps_22 ?_
    refine lv_bipush (v := nI 16) hx hb dX1_keeps_25 (by decide) ?_
    refine lv_iload_n hx hb dX1_keeps_27 rfl (lv_at hl 2 rfl) ?_
    refine xx_mul hx hb dX1_keeps_28 ?_
    refine lv_iload_n hx hb dX1_keeps_29 rfl (lv_at hl 3 rfl) ?_
    refine xx_add hx hb dX1_keeps_30 ?_
    refine xx_ald hx hb hK hP 7 6 (fun c_ => nI (sU S c_)) rfl rfl (j := (16 * r) + z) (by omega) (by decide) dX1_keeps_31 ?_
    refine W.eq (g2 := F0 m 32 ls [.int (nI (sU S ((16 * r) + z))), .int (nI (sT S))]) rfl ?_
    refine xx_ge (tgt := 51) hx hb dX1_keeps_32 (by decide) (by omega) (by omega) (fun h2 => ?_) (fun h2 => ?_)
    · skip
      refine lv_iconst (v := -1) hx hb dX1_keeps_51 (by decide) ?_
      exact W.iret (v := (-1)) hx hb hr (fun t ht hW => ⟨ro_i ((kR_f (by unfold pK; rw [decide_eq_false (Nat.not_lt.mpr h2)]; rfl)).symm), ht⟩) (fun _ h => absurd h List.not_mem_nil) dX1_keeps_52
    · skip
      refine lv_aload_n hx hb dX1_keeps_35 rfl (lv_at hl 1 rfl) ?_
      refine va_get (D := D) (ci := 1) (v := .ref (ad 1)) (C := RX1) (T := TX1) (N := 11) hx hb hts hin0 hown hK hP 0 rfl rfl 2 (by decide) (hts (.fieldLink RX1 7 "ClaimBenchModel" "isGone" "[Z") (by decide +kernel)) (fun _ h9 => h9) rfl dX1_keeps_36 ?_
      refine lv_iload_n hx hb dX1_keeps_39 rfl (lv_at hl 0 rfl) ?_
      refine lv_bipush (v := nI 100) hx hb dX1_keeps_40 (by decide) ?_
      refine xx_rem hx hb dX1_keeps_42 (by omega) (by decide) (by decide) ?_
      refine xx_zld hx hb hK hP 1 0 (fun c_ => bI (sG S c_)) rfl rfl (j := (sC S (16 * r + z)) % 100) (by omega) (by decide) dX1_keeps_43 ?_
      refine W.eq (g2 := F0 m 44 ls [.int (bI (sG S ((sC S (16 * r + z)) % 100)))]) rfl ?_
      refine xx_if1 (tgt := 51) hx hb dX1_keeps_44 (by decide) (fun h3 => ?_) (fun h3 => ?_)
      · skip
        refine lv_iconst (v := -1) hx hb dX1_keeps_51 (by decide) ?_
        exact W.iret (v := (-1)) hx hb hr (fun t ht hW => ⟨ro_i ((kR_f (by unfold pK; rw [decide_eq_true h2, h3]; rfl)).symm), ht⟩) (fun _ h => absurd h List.not_mem_nil) dX1_keeps_52
      · skip
        refine lv_iload_n hx hb dX1_keeps_47 rfl (lv_at hl 0 rfl) ?_
        refine lv_goto (tgt := 52) hx hb dX1_keeps_48 (by decide) ?_
        exact W.iret (v := (nI (sC S (16 * r + z)))) hx hb hr (fun t ht hW => ⟨ro_i ((kR_t (by unfold pK; rw [decide_eq_true h2, h3]; rfl)).symm), ht⟩) (fun _ h => absurd h List.not_mem_nil) dX1_keeps_52
set_option maxHeartbeats 4000000 in
set_option maxRecDepth 100000 in
theorem c1_isLost (l : Launch) (D : va_G) (ad : Nat → Nat) (ck : Nat → ClassId) (S : AS) (a : Nat) (hi : iv S) (r z : Nat) (hr10 : r < 10) (hz16 : z < 16) : Met l yX1_isLost wsX1_isLost ({ frames := 1, cells := 0, slots := 0, locals := 23 }) (PW D (wM ad ck S a) (tyM ck) [.ref (ad 0), .int (nI (r)), .int (nI (z))]) (QcRead (bI (pL S (16 * r + z)))) 0 0 (fun _ => False) := by
  refine Met.ofW (cc := cX1_isLost) (maxL := 4) (ret := (some .boolean)) (by decide) rfl ?_
  intro p e s m args below meth c s₁ B hml hv
  obtain ⟨rfl, hP, hK⟩ := hv
  have hx := B.exec
  have hb := B.bytes
  have hr := B.returns
  have hts := atoms_spec (ws := wsX1_isLost) B.pre
  have hown : s.vm.findClass RX1 = some m.cls := findClass_of_methodNamed B.named
  have hlocks := B.notSynchronized
  have hin0 : ∀ w ∈ wsX10, w ∈ wsX1_isLost := by decide +kernel
  have hl := lv_entry ([.ref (ad 0), .int (nI (r)), .int (nI (z))]) (n := 4) (Nat.le_of_ble_eq_true rfl)
  rw [lg_entry_eq]
  generalize (lg_sl ([.ref (ad 0), .int (nI (r)), .int (nI (z))]) ++ List.replicate (4 - (lg_sl ([.ref (ad 0), .int (nI (r)), .int (nI (z))])).length) Slot.unset).toArray = ls at hl ⊢
  have hl : lv_has ls 4 [(0, .ref (ad 0)), (1, .int (nI (r))), (2, .int (nI (z)))] := hl
  have hT := hi.1
  have hC := hi.2.2.1 (16 * r + z)
  have hU := hi.2.2.2.1 (16 * r + z)
  have hI := hi.2.1 (16 * r + z)
  have hO := pO_le hi (k := 16 * r + z) (by omega)
  refine lv_aload_n hx hb dX1_isLost_0 rfl (lv_at hl 0 rfl) ?_
  refine lv_iload_n hx hb dX1_isLost_1 rfl (lv_at hl 1 rfl) ?_
  refine lv_iload_n hx hb dX1_isLost_2 rfl (lv_at hl 2 rfl) ?_
  refine W.callR (W.runV (As := [.int (nI (r)), .int (nI (z))]) (rest := []) ⟨hx, hb, hml, hown, hts⟩ (c1_keeps l D ad ck S a hi r z (by omega) (by omega)) (cwV 2 hts gX1_isLost_X1_keeps rfl rfl rfl (by decide +kernel) ⟨Nat.le_of_ble_eq_true rfl, Nat.le_of_ble_eq_true rfl⟩) (PW_pre hK hP (ci := 1) rfl rfl) rfl rfl hl.1 rfl (lv_room (Nat.le_of_ble_eq_true rfl)) dX1_isLost_3 ⟨Nat.zero_le _, Nat.zero_le _⟩) ?_
  refine W.eq (g2 := F0 m 6 ls [.int (kR S (16 * r + z))]) rfl ?_
  refine lv_istore_n (lv' := [(3, .int (kR S (16 * r + z))), (0, .ref (ad 0)), (1, .int (nI (r))), (2, .int (nI (z)))]) hx hb dX1_isLost_6 rfl hl (by decide) rfl (fun ls hl => ?_)
  refine lv_iload_n hx hb dX1_isLost_7 rfl (lv_at hl 0 rfl) ?_
  refine lv_iconst (v := -1) hx hb dX1_isLost_8 (by decide) ?_
  refine lv_icmp_eq (tgt := 29) hx hb dX1_isLost_9 (by decide) (fun h1 => ?_) (fun h1 => ?_)
  · skip
    refine lv_iconst (v := nI 0) hx hb dX1_isLost_29 (by decide) ?_
    exact W.zret (v := (nI (0))) (ty := .boolean) hx hb hr (rfl) (fun t ht hW => ⟨ro_i (bI_f (by unfold pL; rw [kR_m hi h1]; rfl)).symm, ht⟩) (fun _ h => absurd h List.not_mem_nil) dX1_isLost_30
  · skip
    obtain ⟨hk1, hc⟩ := kR_n h1
    rw [hc] at hl
    refine lv_iload_n hx hb dX1_isLost_12 rfl (lv_at hl 0 rfl) ?_
    refine lv_aload_n hx hb dX1_isLost_13 rfl (lv_at hl 1 rfl) ?_
    refine lv_iload_n hx hb dX1_isLost_14 rfl (lv_at hl 2 rfl) ?_
    refine lv_iload_n hx hb dX1_isLost_15 rfl (lv_at hl 3 rfl) ?_
    refine W.callR (W.runV (As := [.int (nI (r)), .int (nI (z))]) (rest := [.int (nI (sC S (16 * r + z)))]) ⟨hx, hb, hml, hown, hts⟩ (c1_own l D ad ck S a hi r z (by omega) (by omega)) (cwV 2 hts gX1_isLost_X1_own rfl rfl rfl (by decide +kernel) ⟨Nat.le_of_ble_eq_true rfl, Nat.le_of_ble_eq_true rfl⟩) (PW_pre hK hP (ci := 1) rfl rfl) rfl rfl hl.1 rfl (lv_room (Nat.le_of_ble_eq_true rfl)) dX1_isLost_16 ⟨Nat.zero_le _, Nat.zero_le _⟩) ?_
    refine W.eq (g2 := F0 m 19 ls [.int (nI (pO S (16 * r + z))), .int (nI (sC S (16 * r + z)))]) rfl ?_
    refine W.callR (W.runS (As := [.int (nI (sC S (16 * r + z))), .int (nI (pO S (16 * r + z)))]) (rest := []) ⟨hx, hb, hml, hown, hts⟩ (c1_isBetter l (sC S (16 * r + z)) (pO S (16 * r + z)) (by omega) (by omega)) (va_cwS 2 hts gX1_isLost_X1_isBetter rfl rfl rfl (by decide +kernel) ⟨Nat.le_of_ble_eq_true rfl, Nat.le_of_ble_eq_true rfl⟩) preEq rfl rfl hl.1 rfl (lv_room (Nat.le_of_ble_eq_true rfl)) dX1_isLost_19 ⟨Nat.zero_le _, Nat.zero_le _⟩) ?_
    refine W.eq (g2 := F0 m 22 ls [.int (bI (pB (sC S (16 * r + z)) (pO S (16 * r + z))))]) rfl ?_
    refine xx_if0 (tgt := 29) hx hb dX1_isLost_22 (by decide) (fun h2 => ?_) (fun h2 => ?_)
    · skip
      refine lv_iconst (v := nI 0) hx hb dX1_isLost_29 (by decide) ?_
      exact W.zret (v := (nI (0))) (ty := .boolean) hx hb hr (rfl) (fun t ht hW => ⟨ro_i (bI_f (by unfold pL; rw [hk1, h2]; rfl)).symm, ht⟩) (fun _ h => absurd h List.not_mem_nil) dX1_isLost_30
    · skip
      refine lv_iconst (v := nI 1) hx hb dX1_isLost_25 (by decide) ?_
      refine lv_goto (tgt := 30) hx hb dX1_isLost_26 (by decide) ?_
      exact W.zret (v := (nI (1))) (ty := .boolean) hx hb hr (rfl) (fun t ht hW => ⟨ro_i (bI_t (by unfold pL; rw [hk1, h2]; rfl)).symm, ht⟩) (fun _ h => absurd h List.not_mem_nil) dX1_isLost_30
set_option maxHeartbeats 4000000 in
set_option maxRecDepth 100000 in
theorem c1_isSending (l : Launch) (D : va_G) (ad : Nat → Nat) (ck : Nat → ClassId) (S : AS) (a : Nat) (hi : iv S) (r z : Nat) (hr10 : r < 10) (hz16 : z < 16) : Met l yX1_isSending wsX1_isSending ({ frames := 2, cells := 0, slots := 0, locals := 46 }) (PW D (wM ad ck S a) (tyM ck) [.ref (ad 0), .int (nI (r)), .int (nI (z))]) (QcRead (bI (pS S r z))) 0 0 (fun _ => False) := by
  refine Met.ofW (cc := cX1_isSending) (maxL := 3) (ret := (some .boolean)) (by decide) rfl ?_
  intro p e s m args below meth c s₁ B hml hv
  obtain ⟨rfl, hP, hK⟩ := hv
  have hx := B.exec
  have hb := B.bytes
  have hr := B.returns
  have hts := atoms_spec (ws := wsX1_isSending) B.pre
  have hown : s.vm.findClass RX1 = some m.cls := findClass_of_methodNamed B.named
  have hlocks := B.notSynchronized
  have hin0 : ∀ w ∈ wsX10, w ∈ wsX1_isSending := by decide +kernel
  have hl := lv_entry ([.ref (ad 0), .int (nI (r)), .int (nI (z))]) (n := 3) (Nat.le_of_ble_eq_true rfl)
  rw [lg_entry_eq]
  generalize (lg_sl ([.ref (ad 0), .int (nI (r)), .int (nI (z))]) ++ List.replicate (3 - (lg_sl ([.ref (ad 0), .int (nI (r)), .int (nI (z))])).length) Slot.unset).toArray = ls at hl ⊢
  have hl : lv_has ls 3 [(0, .ref (ad 0)), (1, .int (nI (r))), (2, .int (nI (z)))] := hl
  refine lv_aload_n hx hb dX1_isSending_0 rfl (lv_at hl 0 rfl) ?_
  refine va_get (D := D) (ci := 1) (v := .ref (ad 1)) (C := RX1) (T := TX1) (N := 11) hx hb hts hin0 hown hK hP 0 rfl rfl 2 (by decide) (hts (.fieldLink RX1 7 "ClaimBenchModel" "isGone" "[Z") (by decide +kernel)) (fun _ h9 => h9) rfl dX1_isSending_1 ?_
  refine lv_iload_n hx hb dX1_isSending_4 rfl (lv_at hl 1 rfl) ?_
  refine xx_zld hx hb hK hP 1 0 (fun c_ => bI (sG S c_)) rfl rfl (j := r) (by omega) (by decide) dX1_isSending_5 ?_
  refine W.eq (g2 := F0 m 6 ls [.int (bI (sG S r))]) rfl ?_
  refine xx_if1 (tgt := 36) hx hb dX1_isSending_6 (by decide) (fun h1 => ?_) (fun h1 => ?_)
  · skip
    refine lv_iconst (v := nI 0) hx hb dX1_isSending_36 (by decide) ?_
    exact W.zret (v := (nI (0))) (ty := .boolean) hx hb hr (rfl) (fun t ht hW => ⟨ro_i (bI_f (by unfold pS; rw [h1]; rfl)).symm, ht⟩) (fun _ h => absurd h List.not_mem_nil) dX1_isSending_37
  · skip
    refine lv_aload_n hx hb dX1_isSending_9 rfl (lv_at hl 0 rfl) ?_
    refine va_get (D := D) (ci := 1) (v := .ref (ad 3)) (C := RX1) (T := TX1) (N := 11) hx hb hts hin0 hown hK hP 0 rfl rfl 4 (by decide) (hts (.fieldLink RX1 16 "ClaimBenchModel" "forwards" "[Z") (by decide +kernel)) (fun _ h9 => h9) rfl dX1_isSending_10 ?_
    refine lv_bipush (v := nI 16) hx hb dX1_isSending_13 (by decide) ?_
    refine lv_iload_n hx hb dX1_isSending_15 rfl (lv_at hl 1 rfl) ?_
    refine xx_mul hx hb dX1_isSending_16 ?_
    refine lv_iload_n hx hb dX1_isSending_17 rfl (lv_at hl 2 rfl) ?_
    refine xx_add hx hb dX1_isSending_18 ?_
    refine xx_zld hx hb hK hP 3 2 (fun c_ => bI (sF S (c_ / 16) (c_ % 16))) rfl rfl (j := (16 * r) + z) (by omega) (by decide) dX1_isSending_19 ?_
    refine W.eq (g2 := F0 m 20 ls [.int (bI (sF S (((16 * r) + z) / 16) (((16 * r) + z) % 16)))]) rfl ?_
    refine xx_if0 (tgt := 36) hx hb dX1_isSending_20 (by decide) (fun h2 => ?_) (fun h2 => ?_)
    · skip
      refine lv_iconst (v := nI 0) hx hb dX1_isSending_36 (by decide) ?_
      exact W.zret (v := (nI (0))) (ty := .boolean) hx hb hr (rfl) (fun t ht hW => ⟨ro_i (bI_f (by unfold pS; rw [h1, show sF S r z = false from (sFd hz16).symm.trans h2]; rfl)).symm, ht⟩) (fun _ h => absurd h List.not_mem_nil) dX1_isSending_37
    · skip
      refine lv_aload_n hx hb dX1_isSending_23 rfl (lv_at hl 0 rfl) ?_
      refine lv_iload_n hx hb dX1_isSending_24 rfl (lv_at hl 1 rfl) ?_
      refine lv_iload_n hx hb dX1_isSending_25 rfl (lv_at hl 2 rfl) ?_
      refine W.callR (W.runV (As := [.int (nI (r)), .int (nI (z))]) (rest := []) ⟨hx, hb, hml, hown, hts⟩ (c1_isLost l D ad ck S a hi r z (by omega) (by omega)) (cwV 2 hts gX1_isSending_X1_isLost rfl rfl rfl (by decide +kernel) ⟨Nat.le_of_ble_eq_true rfl, Nat.le_of_ble_eq_true rfl⟩) (PW_pre hK hP (ci := 1) rfl rfl) rfl rfl hl.1 rfl (lv_room (Nat.le_of_ble_eq_true rfl)) dX1_isSending_26 ⟨Nat.zero_le _, Nat.zero_le _⟩) ?_
      refine W.eq (g2 := F0 m 29 ls [.int (bI (pL S (16 * r + z)))]) rfl ?_
      refine xx_if1 (tgt := 36) hx hb dX1_isSending_29 (by decide) (fun h3 => ?_) (fun h3 => ?_)
      · skip
        refine lv_iconst (v := nI 0) hx hb dX1_isSending_36 (by decide) ?_
        exact W.zret (v := (nI (0))) (ty := .boolean) hx hb hr (rfl) (fun t ht hW => ⟨ro_i (bI_f (by unfold pS; rw [h1, show sF S r z = true from (sFd hz16).symm.trans h2, h3]; rfl)).symm, ht⟩) (fun _ h => absurd h List.not_mem_nil) dX1_isSending_37
      · skip
        refine lv_iconst (v := nI 1) hx hb dX1_isSending_32 (by decide) ?_
        refine lv_goto (tgt := 37) hx hb dX1_isSending_33 (by decide) ?_
        exact W.zret (v := (nI (1))) (ty := .boolean) hx hb hr (rfl) (fun t ht hW => ⟨ro_i (bI_t (by unfold pS; rw [h1, show sF S r z = true from (sFd hz16).symm.trans h2, h3]; rfl)).symm, ht⟩) (fun _ h => absurd h List.not_mem_nil) dX1_isSending_37
set_option maxHeartbeats 4000000 in
set_option maxRecDepth 100000 in
theorem c1_claim (l : Launch) (D : va_G) (ad : Nat → Nat) (ck : Nat → ClassId) (S : AS) (a : Nat) (hi : iv S) (x y : Int32) : Met l yX1_claim wsX1_claim ({ frames := 2, cells := 0, slots := 0, locals := 41 }) (PW D (wM ad ck S a) (tyM ck) [.ref (ad 0), .int (x), .int (y)]) (QcRead (aClaim S x y)) 0 0 (fun _ => False) := by
  refine Met.ofW (cc := cX1_claim) (maxL := 3) (ret := (some .int)) (by decide) rfl ?_
  intro p e s m args below meth c s₁ B hml hv
  obtain ⟨rfl, hP, hK⟩ := hv
  have hx := B.exec
  have hb := B.bytes
  have hr := B.returns
  have hts := atoms_spec (ws := wsX1_claim) B.pre
  have hown : s.vm.findClass RX1 = some m.cls := findClass_of_methodNamed B.named
  have hlocks := B.notSynchronized
  have hin0 : ∀ w ∈ wsX10, w ∈ wsX1_claim := by decide +kernel
  have hl := lv_entry ([.ref (ad 0), .int (x), .int (y)]) (n := 3) (Nat.le_of_ble_eq_true rfl)
  rw [lg_entry_eq]
  generalize (lg_sl ([.ref (ad 0), .int (x), .int (y)]) ++ List.replicate (3 - (lg_sl ([.ref (ad 0), .int (x), .int (y)])).length) Slot.unset).toArray = ls at hl ⊢
  have hl : lv_has ls 3 [(0, .ref (ad 0)), (1, .int (x)), (2, .int (y))] := hl
  refine lv_iload_n hx hb dX1_claim_0 rfl (lv_at hl 1 rfl) ?_
  refine lv_iload_n hx hb dX1_claim_1 rfl (lv_at hl 2 rfl) ?_
  refine W.callR (W.runS (As := [.int (x), .int (y)]) (rest := []) ⟨hx, hb, hml, hown, hts⟩ (c1_isPair l ((x)) ((y))) (va_cwS 2 hts gX1_claim_X1_isPair rfl rfl rfl (by decide +kernel) ⟨Nat.le_of_ble_eq_true rfl, Nat.le_of_ble_eq_true rfl⟩) preEq rfl rfl hl.1 rfl (lv_room (Nat.le_of_ble_eq_true rfl)) dX1_claim_2 ⟨Nat.zero_le _, Nat.zero_le _⟩) ?_
  refine W.eq (g2 := F0 m 5 ls [.int (bI (inR 10 ((x)) && inR 16 ((y))))]) rfl ?_
  refine xx_if0 (tgt := 17) hx hb dX1_claim_5 (by decide) (fun h1 => ?_) (fun h1 => ?_)
  · skip
    refine lv_iconst (v := -1) hx hb dX1_claim_17 (by decide) ?_
    exact W.iret (v := (-1)) hx hb hr (fun t ht hW => ⟨ro_i ((pr2_f h1).symm), ht⟩) (fun _ h => absurd h List.not_mem_nil) dX1_claim_18
  · skip
    obtain ⟨hp1, hp2⟩ := (Bool.and_eq_true _ _).mp h1
    obtain ⟨r, hr10, rfl⟩ := inR_t (by decide) hp1
    obtain ⟨z, hz16, rfl⟩ := inR_t (by decide) hp2
    refine lv_aload_n hx hb dX1_claim_8 rfl (lv_at hl 0 rfl) ?_
    refine lv_iload_n hx hb dX1_claim_9 rfl (lv_at hl 1 rfl) ?_
    refine lv_iload_n hx hb dX1_claim_10 rfl (lv_at hl 2 rfl) ?_
    refine W.callR (W.runV (As := [.int (nI (r)), .int (nI (z))]) (rest := []) ⟨hx, hb, hml, hown, hts⟩ (c1_own l D ad ck S a hi r z (by omega) (by omega)) (cwV 2 hts gX1_claim_X1_own rfl rfl rfl (by decide +kernel) ⟨Nat.le_of_ble_eq_true rfl, Nat.le_of_ble_eq_true rfl⟩) (PW_pre hK hP (ci := 1) rfl rfl) rfl rfl hl.1 rfl (lv_room (Nat.le_of_ble_eq_true rfl)) dX1_claim_11 ⟨Nat.zero_le _, Nat.zero_le _⟩) ?_
    refine W.eq (g2 := F0 m 14 ls [.int (nI (pO S (16 * r + z)))]) rfl ?_
    refine lv_goto (tgt := 18) hx hb dX1_claim_14 (by decide) ?_
    exact W.iret (v := (nI (pO S (16 * r + z)))) hx hb hr (fun t ht hW => ⟨ro_i (by unfold aClaim; rw [pr2_t hr10 hz16]), ht⟩) (fun _ h => absurd h List.not_mem_nil) dX1_claim_18
set_option maxHeartbeats 4000000 in
set_option maxRecDepth 100000 in
theorem c1_kept (l : Launch) (D : va_G) (ad : Nat → Nat) (ck : Nat → ClassId) (S : AS) (a : Nat) (hi : iv S) (x y : Int32) : Met l yX1_kept wsX1_kept ({ frames := 2, cells := 0, slots := 0, locals := 41 }) (PW D (wM ad ck S a) (tyM ck) [.ref (ad 0), .int (x), .int (y)]) (QcRead (aKept S x y)) 0 0 (fun _ => False) := by
  refine Met.ofW (cc := cX1_kept) (maxL := 3) (ret := (some .int)) (by decide) rfl ?_
  intro p e s m args below meth c s₁ B hml hv
  obtain ⟨rfl, hP, hK⟩ := hv
  have hx := B.exec
  have hb := B.bytes
  have hr := B.returns
  have hts := atoms_spec (ws := wsX1_kept) B.pre
  have hown : s.vm.findClass RX1 = some m.cls := findClass_of_methodNamed B.named
  have hlocks := B.notSynchronized
  have hin0 : ∀ w ∈ wsX10, w ∈ wsX1_kept := by decide +kernel
  have hl := lv_entry ([.ref (ad 0), .int (x), .int (y)]) (n := 3) (Nat.le_of_ble_eq_true rfl)
  rw [lg_entry_eq]
  generalize (lg_sl ([.ref (ad 0), .int (x), .int (y)]) ++ List.replicate (3 - (lg_sl ([.ref (ad 0), .int (x), .int (y)])).length) Slot.unset).toArray = ls at hl ⊢
  have hl : lv_has ls 3 [(0, .ref (ad 0)), (1, .int (x)), (2, .int (y))] := hl
  refine lv_iload_n hx hb dX1_kept_0 rfl (lv_at hl 1 rfl) ?_
  refine lv_iload_n hx hb dX1_kept_1 rfl (lv_at hl 2 rfl) ?_
  refine W.callR (W.runS (As := [.int (x), .int (y)]) (rest := []) ⟨hx, hb, hml, hown, hts⟩ (c1_isPair l ((x)) ((y))) (va_cwS 2 hts gX1_kept_X1_isPair rfl rfl rfl (by decide +kernel) ⟨Nat.le_of_ble_eq_true rfl, Nat.le_of_ble_eq_true rfl⟩) preEq rfl rfl hl.1 rfl (lv_room (Nat.le_of_ble_eq_true rfl)) dX1_kept_2 ⟨Nat.zero_le _, Nat.zero_le _⟩) ?_
  refine W.eq (g2 := F0 m 5 ls [.int (bI (inR 10 ((x)) && inR 16 ((y))))]) rfl ?_
  refine xx_if0 (tgt := 17) hx hb dX1_kept_5 (by decide) (fun h1 => ?_) (fun h1 => ?_)
  · skip
    refine lv_iconst (v := -1) hx hb dX1_kept_17 (by decide) ?_
    exact W.iret (v := (-1)) hx hb hr (fun t ht hW => ⟨ro_i ((pr2_f h1).symm), ht⟩) (fun _ h => absurd h List.not_mem_nil) dX1_kept_18
  · skip
    obtain ⟨hp1, hp2⟩ := (Bool.and_eq_true _ _).mp h1
    obtain ⟨r, hr10, rfl⟩ := inR_t (by decide) hp1
    obtain ⟨z, hz16, rfl⟩ := inR_t (by decide) hp2
    refine lv_aload_n hx hb dX1_kept_8 rfl (lv_at hl 0 rfl) ?_
    refine lv_iload_n hx hb dX1_kept_9 rfl (lv_at hl 1 rfl) ?_
    refine lv_iload_n hx hb dX1_kept_10 rfl (lv_at hl 2 rfl) ?_
    refine W.callR (W.runV (As := [.int (nI (r)), .int (nI (z))]) (rest := []) ⟨hx, hb, hml, hown, hts⟩ (c1_keeps l D ad ck S a hi r z (by omega) (by omega)) (cwV 2 hts gX1_kept_X1_keeps rfl rfl rfl (by decide +kernel) ⟨Nat.le_of_ble_eq_true rfl, Nat.le_of_ble_eq_true rfl⟩) (PW_pre hK hP (ci := 1) rfl rfl) rfl rfl hl.1 rfl (lv_room (Nat.le_of_ble_eq_true rfl)) dX1_kept_11 ⟨Nat.zero_le _, Nat.zero_le _⟩) ?_
    refine W.eq (g2 := F0 m 14 ls [.int (kR S (16 * r + z))]) rfl ?_
    refine lv_goto (tgt := 18) hx hb dX1_kept_14 (by decide) ?_
    exact W.iret (v := (kR S (16 * r + z))) hx hb hr (fun t ht hW => ⟨ro_i (by unfold aKept; rw [pr2_t hr10 hz16]), ht⟩) (fun _ h => absurd h List.not_mem_nil) dX1_kept_18
set_option maxHeartbeats 4000000 in
set_option maxRecDepth 100000 in
theorem c1_lost (l : Launch) (D : va_G) (ad : Nat → Nat) (ck : Nat → ClassId) (S : AS) (a : Nat) (hi : iv S) (x y : Int32) : Met l yX1_lost wsX1_lost ({ frames := 2, cells := 0, slots := 0, locals := 46 }) (PW D (wM ad ck S a) (tyM ck) [.ref (ad 0), .int (x), .int (y)]) (QcRead (aLost S x y)) 0 0 (fun _ => False) := by
  refine Met.ofW (cc := cX1_lost) (maxL := 3) (ret := (some .boolean)) (by decide) rfl ?_
  intro p e s m args below meth c s₁ B hml hv
  obtain ⟨rfl, hP, hK⟩ := hv
  have hx := B.exec
  have hb := B.bytes
  have hr := B.returns
  have hts := atoms_spec (ws := wsX1_lost) B.pre
  have hown : s.vm.findClass RX1 = some m.cls := findClass_of_methodNamed B.named
  have hlocks := B.notSynchronized
  have hin0 : ∀ w ∈ wsX10, w ∈ wsX1_lost := by decide +kernel
  have hl := lv_entry ([.ref (ad 0), .int (x), .int (y)]) (n := 3) (Nat.le_of_ble_eq_true rfl)
  rw [lg_entry_eq]
  generalize (lg_sl ([.ref (ad 0), .int (x), .int (y)]) ++ List.replicate (3 - (lg_sl ([.ref (ad 0), .int (x), .int (y)])).length) Slot.unset).toArray = ls at hl ⊢
  have hl : lv_has ls 3 [(0, .ref (ad 0)), (1, .int (x)), (2, .int (y))] := hl
  refine lv_iload_n hx hb dX1_lost_0 rfl (lv_at hl 1 rfl) ?_
  refine lv_iload_n hx hb dX1_lost_1 rfl (lv_at hl 2 rfl) ?_
  refine W.callR (W.runS (As := [.int (x), .int (y)]) (rest := []) ⟨hx, hb, hml, hown, hts⟩ (c1_isPair l ((x)) ((y))) (va_cwS 2 hts gX1_lost_X1_isPair rfl rfl rfl (by decide +kernel) ⟨Nat.le_of_ble_eq_true rfl, Nat.le_of_ble_eq_true rfl⟩) preEq rfl rfl hl.1 rfl (lv_room (Nat.le_of_ble_eq_true rfl)) dX1_lost_2 ⟨Nat.zero_le _, Nat.zero_le _⟩) ?_
  refine W.eq (g2 := F0 m 5 ls [.int (bI (inR 10 ((x)) && inR 16 ((y))))]) rfl ?_
  refine xx_if0 (tgt := 21) hx hb dX1_lost_5 (by decide) (fun h1 => ?_) (fun h1 => ?_)
  · skip
    refine lv_iconst (v := nI 0) hx hb dX1_lost_21 (by decide) ?_
    exact W.zret (v := (nI (0))) (ty := .boolean) hx hb hr (rfl) (fun t ht hW => ⟨ro_i ((pr2_f h1).symm), ht⟩) (fun _ h => absurd h List.not_mem_nil) dX1_lost_22
  · skip
    obtain ⟨hp1, hp2⟩ := (Bool.and_eq_true _ _).mp h1
    obtain ⟨r, hr10, rfl⟩ := inR_t (by decide) hp1
    obtain ⟨z, hz16, rfl⟩ := inR_t (by decide) hp2
    refine lv_aload_n hx hb dX1_lost_8 rfl (lv_at hl 0 rfl) ?_
    refine lv_iload_n hx hb dX1_lost_9 rfl (lv_at hl 1 rfl) ?_
    refine lv_iload_n hx hb dX1_lost_10 rfl (lv_at hl 2 rfl) ?_
    refine W.callR (W.runV (As := [.int (nI (r)), .int (nI (z))]) (rest := []) ⟨hx, hb, hml, hown, hts⟩ (c1_isLost l D ad ck S a hi r z (by omega) (by omega)) (cwV 2 hts gX1_lost_X1_isLost rfl rfl rfl (by decide +kernel) ⟨Nat.le_of_ble_eq_true rfl, Nat.le_of_ble_eq_true rfl⟩) (PW_pre hK hP (ci := 1) rfl rfl) rfl rfl hl.1 rfl (lv_room (Nat.le_of_ble_eq_true rfl)) dX1_lost_11 ⟨Nat.zero_le _, Nat.zero_le _⟩) ?_
    refine W.eq (g2 := F0 m 14 ls [.int (bI (pL S (16 * r + z)))]) rfl ?_
    refine xx_if0 (tgt := 21) hx hb dX1_lost_14 (by decide) (fun h2 => ?_) (fun h2 => ?_)
    · skip
      refine lv_iconst (v := nI 0) hx hb dX1_lost_21 (by decide) ?_
      exact W.zret (v := (nI (0))) (ty := .boolean) hx hb hr (rfl) (fun t ht hW => ⟨ro_i (((pr2_t hr10 hz16).trans (bI_f h2)).symm), ht⟩) (fun _ h => absurd h List.not_mem_nil) dX1_lost_22
    · skip
      refine lv_iconst (v := nI 1) hx hb dX1_lost_17 (by decide) ?_
      refine lv_goto (tgt := 22) hx hb dX1_lost_18 (by decide) ?_
      exact W.zret (v := (nI (1))) (ty := .boolean) hx hb hr (rfl) (fun t ht hW => ⟨ro_i (((pr2_t hr10 hz16).trans (bI_t h2)).symm), ht⟩) (fun _ h => absurd h List.not_mem_nil) dX1_lost_22
set_option maxHeartbeats 4000000 in
set_option maxRecDepth 100000 in
theorem c1_said (l : Launch) (D : va_G) (ad : Nat → Nat) (ck : Nat → ClassId) (S : AS) (a : Nat) (hi : iv S) (x : Int32) : Met l yX1_said wsX1_said ({ frames := 0, cells := 0, slots := 0, locals := 0 }) (PW D (wM ad ck S a) (tyM ck) [.ref (ad 0), .int (x)]) (QcRead (aSaid S x)) 0 0 (fun _ => False) := by
  refine Met.ofW (cc := cX1_said) (maxL := 2) (ret := (some .int)) (by decide) rfl ?_
  intro p e s m args below meth c s₁ B hml hv
  obtain ⟨rfl, hP, hK⟩ := hv
  have hx := B.exec
  have hb := B.bytes
  have hr := B.returns
  have hts := atoms_spec (ws := wsX1_said) B.pre
  have hown : s.vm.findClass RX1 = some m.cls := findClass_of_methodNamed B.named
  have hlocks := B.notSynchronized
  have hin0 : ∀ w ∈ wsX10, w ∈ wsX1_said := by decide +kernel
  have hl := lv_entry ([.ref (ad 0), .int (x)]) (n := 2) (Nat.le_of_ble_eq_true rfl)
  rw [lg_entry_eq]
  generalize (lg_sl ([.ref (ad 0), .int (x)]) ++ List.replicate (2 - (lg_sl ([.ref (ad 0), .int (x)])).length) Slot.unset).toArray = ls at hl ⊢
  have hl : lv_has ls 2 [(0, .ref (ad 0)), (1, .int (x))] := hl
  have hN := hi.2.2.2.2.1
  refine lv_iload_n hx hb dX1_said_0 rfl (lv_at hl 1 rfl) ?_
  refine lv_if_lt (tgt := 24) hx hb dX1_said_1 (by decide) (fun h1 => ?_) (fun h1 => ?_)
  · skip
    refine lv_iconst (v := -1) hx hb dX1_said_24 (by decide) ?_
    exact W.iret (v := (-1)) hx hb hr (fun t ht hW => ⟨ro_i ((pr1_f (inR_f1 h1)).symm), ht⟩) (fun _ h => absurd h List.not_mem_nil) dX1_said_25
  · skip
    refine lv_iload_n hx hb dX1_said_4 rfl (lv_at hl 1 rfl) ?_
    refine lv_aload_n hx hb dX1_said_5 rfl (lv_at hl 0 rfl) ?_
    refine va_get (D := D) (ci := 1) (v := .int (nI (sN S))) (C := RX1) (T := TX1) (N := 11) hx hb hts hin0 hown hK hP 0 rfl rfl 10 (by decide) (hts (.fieldLink RX1 62 "ClaimBenchModel" "many" "I") (by decide +kernel)) (fun _ h9 => h9) rfl dX1_said_6 ?_
    refine lv_icmp_ge (tgt := 24) hx hb dX1_said_9 (by decide) (fun h2 => ?_) (fun h2 => ?_)
    · skip
      refine lv_iconst (v := -1) hx hb dX1_said_24 (by decide) ?_
      exact W.iret (v := (-1)) hx hb hr (fun t ht hW => ⟨ro_i ((pr1_f (inR_f2 h2)).symm), ht⟩) (fun _ h => absurd h List.not_mem_nil) dX1_said_25
    · skip
      obtain ⟨j, hj, rfl⟩ := inR_t (by omega) (inR_mk h1 h2)
      have hRj := hi.2.2.2.2.2 j
      refine lv_aload_n hx hb dX1_said_12 rfl (lv_at hl 0 rfl) ?_
      refine va_get (D := D) (ci := 1) (v := .ref (ad 8)) (C := RX1) (T := TX1) (N := 11) hx hb hts hin0 hown hK hP 0 rfl rfl 9 (by decide) (hts (.fieldLink RX1 32 "ClaimBenchModel" "row" "[I") (by decide +kernel)) (fun _ h9 => h9) rfl dX1_said_13 ?_
      refine lv_iload_n hx hb dX1_said_16 rfl (lv_at hl 1 rfl) ?_
      refine xx_ald hx hb hK hP 8 7 (fun c_ => nI (sR S c_)) rfl rfl (j := j) (by omega) (by decide) dX1_said_17 ?_
      refine W.eq (g2 := F0 m 18 ls [.int (nI (sR S j))]) rfl ?_
      refine lv_bipush (v := nI 100) hx hb dX1_said_18 (by decide) ?_
      refine xx_rem hx hb dX1_said_20 (by omega) (by decide) (by decide) ?_
      refine lv_goto (tgt := 25) hx hb dX1_said_21 (by decide) ?_
      exact W.iret (v := (nI ((sR S j) % 100))) hx hb hr (fun t ht hW => ⟨ro_i (by unfold aSaid; rw [pr1_t (by omega) hj]), ht⟩) (fun _ h => absurd h List.not_mem_nil) dX1_said_25
