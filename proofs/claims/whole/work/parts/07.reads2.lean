theorem sw_4 {x : Int32} (h0 : ¬ x = 0) (h1 : ¬ x = 1) (h2 : ¬ x = 2) (h3 : ¬ x = 3) : x.toInt < 0 ∨ 3 < x.toInt := by
  have g : ∀ y : Int32, ¬ x = y → x.toInt ≠ y.toInt := fun y h e => h (Int32.toInt_inj.mp e)
  have e0 := g 0 h0
  have e1 := g 1 h1
  have e2 := g 2 h2
  have e3 := g 3 h3
  have f0 : (0 : Int32).toInt = 0 := by decide
  have f1 : (1 : Int32).toInt = 1 := by decide
  have f2 : (2 : Int32).toInt = 2 := by decide
  have f3 : (3 : Int32).toInt = 3 := by decide
  omega
set_option maxHeartbeats 4000000 in
set_option maxRecDepth 100000 in
theorem c0_sends (l : Launch) (D : va_G) (ad : Nat → Nat) (ck : Nat → ClassId) (S : AS) (a : Nat) (hi : iv S) (x : Int32) : Met l yX0_sends wsX0_sends ({ frames := 4, cells := 0, slots := 0, locals := 86 }) (PW D (wB ad ck S a) (tyB ck) [.ref (ad 0), .int (x)]) (QcRead (aSends S x)) 0 0 (fun _ => False) := by
  refine Met.ofW (cc := cX0_sends) (maxL := 4) (ret := (some .int)) (by decide) rfl ?_
  intro p e s m args below meth c s₁ B hml hv
  obtain ⟨rfl, hP, hK⟩ := hv
  have hx := B.exec
  have hb := B.bytes
  have hr := B.returns
  have hts := atoms_spec (ws := wsX0_sends) B.pre
  have hown : s.vm.findClass RX0 = some m.cls := findClass_of_methodNamed B.named
  have hlocks := B.notSynchronized
  have hin0 : ∀ w ∈ wsX00, w ∈ wsX0_sends := by decide +kernel
  have hl := lv_entry ([.ref (ad 0), .int (x)]) (n := 4) (Nat.le_of_ble_eq_true rfl)
  rw [lg_entry_eq]
  generalize (lg_sl ([.ref (ad 0), .int (x)]) ++ List.replicate (4 - (lg_sl ([.ref (ad 0), .int (x)])).length) Slot.unset).toArray = ls at hl ⊢
  have hl : lv_has ls 4 [(0, .ref (ad 0)), (1, .int (x))] := hl
  refine lv_iload_n hx hb dX0_sends_0 rfl (lv_at hl 1 rfl) ?_
  refine W.callR (W.runS (As := [.int (x)]) (rest := []) ⟨hx, hb, hml, hown, hts⟩ (c0_isSource l ((x))) (va_cwS 1 hts gX0_sends_X0_isSource rfl rfl rfl (by decide +kernel) ⟨Nat.le_of_ble_eq_true rfl, Nat.le_of_ble_eq_true rfl⟩) preEq rfl rfl hl.1 rfl (lv_room (Nat.le_of_ble_eq_true rfl)) dX0_sends_1 ⟨Nat.zero_le _, Nat.zero_le _⟩) ?_
  refine W.eq (g2 := F0 m 4 ls [.int (bI (inR 16 ((x))))]) rfl ?_
  refine xx_if1 (tgt := 9) hx hb dX0_sends_4 (by decide) (fun h1 => ?_) (fun h1 => ?_)
  · skip
    obtain ⟨z, hz16, rfl⟩ := inR_t (by decide) h1
    refine lv_iconst (v := nI 0) hx hb dX0_sends_9 (by decide) ?_
    refine lv_istore_n (lv' := [(2, .int (nI (0))), (0, .ref (ad 0)), (1, .int (nI (z)))]) hx hb dX0_sends_10 rfl hl (by decide) rfl (fun ls hl => ?_)
    refine lv_iconst (v := nI 0) hx hb dX0_sends_11 (by decide) ?_
    refine lv_istore_n (lv' := [(3, .int (nI (0))), (2, .int (nI (0))), (0, .ref (ad 0)), (1, .int (nI (z)))]) hx hb dX0_sends_12 rfl hl (by decide) rfl (fun ls hl => ?_)
    have loop : ∀ (n q : Nat), 10 < q + n → q ≤ 10 → ∀ (ls : Array Slot), lv_has ls 4 [(3, .int (nI (q))), (2, .int (nI (bm (fun j => decide (j < q) && pS S j z)))), (0, .ref (ad 0)), (1, .int (nI (z)))] → W p l e (headSpec wsX0_sends ({ frames := 4, cells := 0, slots := 0, locals := 86 })).room s m ([.ref (ad 0), .int (nI (z))] : List Value).toArray below meth c s.heap [] 0 0 (MQ below (QcRead (aSends S (nI z))) ([.ref (ad 0), .int (nI (z))] : List Value).toArray s 0 0 (fun _ => False)) (F0 m 13 ls []) := by
      intro n
      induction n with
      | zero => exact fun q h1 h2 => absurd h1 (by omega)
      | succ n ih =>
        intro q hq1 hq2 ls hl
        refine lv_iload_n hx hb dX0_sends_13 rfl (lv_at hl 0 rfl) ?_
        refine lv_bipush (v := nI 10) hx hb dX0_sends_14 (by decide) ?_
        refine xx_ge (tgt := 37) hx hb dX0_sends_16 (by decide) (by omega) (by omega) (fun h2 => ?_) (fun h2 => ?_)
        · skip
          refine lv_iload_n hx hb dX0_sends_37 rfl (lv_at hl 1 rfl) ?_
          exact W.iret (v := (nI (bm (fun j => decide (j < q) && pS S j z)))) hx hb hr (fun t ht hW => ⟨ro_i (by obtain rfl : q = 10 := (by omega); unfold aSends; rw [pr1_t (by decide) hz16, bm_all]), ht⟩) (fun _ h => absurd h List.not_mem_nil) dX0_sends_38
        · skip
          refine lv_iload_n hx hb dX0_sends_19 rfl (lv_at hl 1 rfl) ?_
          refine lv_iload_n hx hb dX0_sends_20 rfl (lv_at hl 0 rfl) ?_
          refine lv_aload_n hx hb dX0_sends_21 rfl (lv_at hl 2 rfl) ?_
          refine lv_iload_n hx hb dX0_sends_22 rfl (lv_at hl 0 rfl) ?_
          refine lv_iload_n hx hb dX0_sends_23 rfl (lv_at hl 3 rfl) ?_
          refine W.callR (W.runV (As := [.int (nI (q)), .int (nI (z))]) (rest := [.int (nI (q)), .int (nI (bm (fun j => decide (j < q) && pS S j z)))]) ⟨hx, hb, hml, hown, hts⟩ (c0_isSender l D ad ck S a hi q z (by omega) (by omega)) (cwV 2 hts gX0_sends_X0_isSender rfl rfl rfl (by decide +kernel) ⟨Nat.le_of_ble_eq_true rfl, Nat.le_of_ble_eq_true rfl⟩) (PW_pre hK hP (ci := 0) rfl rfl) rfl rfl hl.1 rfl (lv_room (Nat.le_of_ble_eq_true rfl)) dX0_sends_24 ⟨Nat.zero_le _, Nat.zero_le _⟩) ?_
          refine W.eq (g2 := F0 m 27 ls [.int (bI (pS S q z)), .int (nI (q)), .int (nI (bm (fun j => decide (j < q) && pS S j z)))]) rfl ?_
          refine W.callR (W.runS (As := [.int (nI (bm (fun j => decide (j < q) && pS S j z))), .int (nI (q)), .int (bI (pS S q z))]) (rest := []) ⟨hx, hb, hml, hown, hts⟩ (c0_withBit l (fun j => decide (j < q) && pS S j z) q (pS S q z) (by omega)) (va_cwS 3 hts gX0_sends_X0_withBit rfl rfl rfl (by decide +kernel) ⟨Nat.le_of_ble_eq_true rfl, Nat.le_of_ble_eq_true rfl⟩) preEq rfl rfl hl.1 rfl (lv_room (Nat.le_of_ble_eq_true rfl)) dX0_sends_27 ⟨Nat.zero_le _, Nat.zero_le _⟩) ?_
          refine W.eq (g2 := F0 m 30 ls [.int (nI (bm (upB (fun j => decide (j < q) && pS S j z) q (pS S q z))))]) rfl ?_
          refine lv_istore_n (lv' := [(2, .int (nI (bm (upB (fun j => decide (j < q) && pS S j z) q (pS S q z))))), (3, .int (nI (q))), (0, .ref (ad 0)), (1, .int (nI (z)))]) hx hb dX0_sends_30 rfl hl (by decide) rfl (fun ls hl => ?_)
          refine lv_iinc (v := nI (q + 1)) (lv' := [(3, .int (nI (q + 1))), (2, .int (nI (bm (upB (fun j => decide (j < q) && pS S j z) q (pS S q z))))), (0, .ref (ad 0)), (1, .int (nI (z)))]) hx hb dX0_sends_31 hl (k := 1) rfl (nI_1 _) (by decide) rfl (fun ls hl => ?_)
          refine lv_goto (tgt := 13) hx hb dX0_sends_34 (by decide) ?_
          have e9 : bm (upB (fun j => decide (j < q) && pS S j z) q (pS S q z)) = bm (fun j => decide (j < q + 1) && pS S j z) := bm_step (f := fun j => pS S j z) rfl
          rw [e9] at hl
          exact ih (q + 1) (by omega) (by omega) ls (lv_sub hl [0, 1, 2, 3] rfl)
    exact loop 11 0 (by omega) (by omega) ls (lv_sub hl [0, 1, 2, 3] rfl)
  · skip
    refine lv_iconst (v := -1) hx hb dX0_sends_7 (by decide) ?_
    exact W.iret (v := (-1)) hx hb hr (fun t ht hW => ⟨ro_i ((pr1_f h1).symm), ht⟩) (fun _ h => absurd h List.not_mem_nil) dX0_sends_8
set_option maxHeartbeats 4000000 in
set_option maxRecDepth 100000 in
theorem c1_sends (l : Launch) (D : va_G) (ad : Nat → Nat) (ck : Nat → ClassId) (S : AS) (a : Nat) (hi : iv S) (x : Int32) : Met l yX1_sends wsX1_sends ({ frames := 3, cells := 0, slots := 0, locals := 68 }) (PW D (wM ad ck S a) (tyM ck) [.ref (ad 0), .int (x)]) (QcRead (aSends S x)) 0 0 (fun _ => False) := by
  refine Met.ofW (cc := cX1_sends) (maxL := 4) (ret := (some .int)) (by decide) rfl ?_
  intro p e s m args below meth c s₁ B hml hv
  obtain ⟨rfl, hP, hK⟩ := hv
  have hx := B.exec
  have hb := B.bytes
  have hr := B.returns
  have hts := atoms_spec (ws := wsX1_sends) B.pre
  have hown : s.vm.findClass RX1 = some m.cls := findClass_of_methodNamed B.named
  have hlocks := B.notSynchronized
  have hin0 : ∀ w ∈ wsX10, w ∈ wsX1_sends := by decide +kernel
  have hl := lv_entry ([.ref (ad 0), .int (x)]) (n := 4) (Nat.le_of_ble_eq_true rfl)
  rw [lg_entry_eq]
  generalize (lg_sl ([.ref (ad 0), .int (x)]) ++ List.replicate (4 - (lg_sl ([.ref (ad 0), .int (x)])).length) Slot.unset).toArray = ls at hl ⊢
  have hl : lv_has ls 4 [(0, .ref (ad 0)), (1, .int (x))] := hl
  refine lv_iconst (v := nI 0) hx hb dX1_sends_0 (by decide) ?_
  refine lv_iload_n hx hb dX1_sends_1 rfl (lv_at hl 1 rfl) ?_
  refine W.callR (W.runS (As := [.int (nI (0)), .int (x)]) (rest := []) ⟨hx, hb, hml, hown, hts⟩ (c1_isPair l ((nI (0))) ((x))) (va_cwS 2 hts gX1_sends_X1_isPair rfl rfl rfl (by decide +kernel) ⟨Nat.le_of_ble_eq_true rfl, Nat.le_of_ble_eq_true rfl⟩) preEq rfl rfl hl.1 rfl (lv_room (Nat.le_of_ble_eq_true rfl)) dX1_sends_2 ⟨Nat.zero_le _, Nat.zero_le _⟩) ?_
  refine W.eq (g2 := F0 m 5 ls [.int (bI (inR 10 ((nI (0))) && inR 16 ((x))))]) rfl ?_
  refine xx_if1 (tgt := 10) hx hb dX1_sends_5 (by decide) (fun h1 => ?_) (fun h1 => ?_)
  · skip
    have hp2 := ((Bool.and_eq_true _ _).mp h1).2
    obtain ⟨z, hz16, rfl⟩ := inR_t (by decide) hp2
    refine lv_iconst (v := nI 0) hx hb dX1_sends_10 (by decide) ?_
    refine lv_istore_n (lv' := [(2, .int (nI (0))), (0, .ref (ad 0)), (1, .int (nI (z)))]) hx hb dX1_sends_11 rfl hl (by decide) rfl (fun ls hl => ?_)
    refine lv_iconst (v := nI 0) hx hb dX1_sends_12 (by decide) ?_
    refine lv_istore_n (lv' := [(3, .int (nI (0))), (2, .int (nI (0))), (0, .ref (ad 0)), (1, .int (nI (z)))]) hx hb dX1_sends_13 rfl hl (by decide) rfl (fun ls hl => ?_)
    have loop : ∀ (n q : Nat), 10 < q + n → q ≤ 10 → ∀ (ls : Array Slot), lv_has ls 4 [(3, .int (nI (q))), (2, .int (nI (bm (fun j => decide (j < q) && pS S j z)))), (0, .ref (ad 0)), (1, .int (nI (z)))] → W p l e (headSpec wsX1_sends ({ frames := 3, cells := 0, slots := 0, locals := 68 })).room s m ([.ref (ad 0), .int (nI (z))] : List Value).toArray below meth c s.heap [] 0 0 (MQ below (QcRead (aSends S (nI z))) ([.ref (ad 0), .int (nI (z))] : List Value).toArray s 0 0 (fun _ => False)) (F0 m 14 ls []) := by
      intro n
      induction n with
      | zero => exact fun q h1 h2 => absurd h1 (by omega)
      | succ n ih =>
        intro q hq1 hq2 ls hl
        refine lv_iload_n hx hb dX1_sends_14 rfl (lv_at hl 0 rfl) ?_
        refine lv_bipush (v := nI 10) hx hb dX1_sends_15 (by decide) ?_
        refine xx_ge (tgt := 41) hx hb dX1_sends_17 (by decide) (by omega) (by omega) (fun h2 => ?_) (fun h2 => ?_)
        · skip
          refine lv_iload_n hx hb dX1_sends_41 rfl (lv_at hl 1 rfl) ?_
          exact W.iret (v := (nI (bm (fun j => decide (j < q) && pS S j z)))) hx hb hr (fun t ht hW => ⟨ro_i (by obtain rfl : q = 10 := (by omega); unfold aSends; rw [pr1_t (by decide) hz16, bm_all]), ht⟩) (fun _ h => absurd h List.not_mem_nil) dX1_sends_42
        · skip
          refine lv_aload_n hx hb dX1_sends_20 rfl (lv_at hl 2 rfl) ?_
          refine lv_iload_n hx hb dX1_sends_21 rfl (lv_at hl 0 rfl) ?_
          refine lv_iload_n hx hb dX1_sends_22 rfl (lv_at hl 3 rfl) ?_
          refine W.callR (W.runV (As := [.int (nI (q)), .int (nI (z))]) (rest := []) ⟨hx, hb, hml, hown, hts⟩ (c1_isSending l D ad ck S a hi q z (by omega) (by omega)) (cwV 2 hts gX1_sends_X1_isSending rfl rfl rfl (by decide +kernel) ⟨Nat.le_of_ble_eq_true rfl, Nat.le_of_ble_eq_true rfl⟩) (PW_pre hK hP (ci := 1) rfl rfl) rfl rfl hl.1 rfl (lv_room (Nat.le_of_ble_eq_true rfl)) dX1_sends_23 ⟨Nat.zero_le _, Nat.zero_le _⟩) ?_
          refine W.eq (g2 := F0 m 26 ls [.int (bI (pS S q z))]) rfl ?_
          refine xx_if0 (tgt := 35) hx hb dX1_sends_26 (by decide) (fun h3 => ?_) (fun h3 => ?_)
          · skip
            refine lv_iinc (v := nI (q + 1)) (lv' := [(3, .int (nI (q + 1))), (2, .int (nI (bm (fun j => decide (j < q) && pS S j z)))), (0, .ref (ad 0)), (1, .int (nI (z)))]) hx hb dX1_sends_35 hl (k := 0) rfl (nI_1 _) (by decide) rfl (fun ls hl => ?_)
            refine lv_goto (tgt := 14) hx hb dX1_sends_38 (by decide) ?_
            have e9 : bm (fun j => decide (j < q) && pS S j z) = bm (fun j => decide (j < q + 1) && pS S j z) := bm_skip (f := fun j => pS S j z) h3
            rw [e9] at hl
            exact ih (q + 1) (by omega) (by omega) ls (lv_sub hl [0, 1, 2, 3] rfl)
          · skip
            refine lv_iload_n hx hb dX1_sends_29 rfl (lv_at hl 1 rfl) ?_
            refine lv_iconst (v := nI 1) hx hb dX1_sends_30 (by decide) ?_
            refine lv_iload_n hx hb dX1_sends_31 rfl (lv_at hl 0 rfl) ?_
            refine lv_ishl hx hb dX1_sends_32 ?_
            refine lv_ior hx hb dX1_sends_33 ?_
            refine lv_istore_n (lv' := [(2, .int (nI (bm (fun j => decide (j < q) && pS S j z)) ||| (nI (1) <<< (nI (q) &&& 31)))), (3, .int (nI (q))), (0, .ref (ad 0)), (1, .int (nI (z)))]) hx hb dX1_sends_34 rfl hl (by decide) rfl (fun ls hl => ?_)
            refine lv_iinc (v := nI (q + 1)) (lv' := [(3, .int (nI (q + 1))), (2, .int (nI (bm (fun j => decide (j < q) && pS S j z)) ||| (nI (1) <<< (nI (q) &&& 31)))), (0, .ref (ad 0)), (1, .int (nI (z)))]) hx hb dX1_sends_35 hl (k := 1) rfl (nI_1 _) (by decide) rfl (fun ls hl => ?_)
            refine lv_goto (tgt := 14) hx hb dX1_sends_38 (by decide) ?_
            have e9 : nI (bm (fun j => decide (j < q) && pS S j z)) ||| (nI (1) <<< (nI (q) &&& 31)) = nI (bm (fun j => decide (j < q + 1) && pS S j z)) := (bm_on _ (by omega)).trans (congrArg nI (bm_step (f := fun j => pS S j z) h3))
            rw [e9] at hl
            exact ih (q + 1) (by omega) (by omega) ls (lv_sub hl [0, 1, 2, 3] rfl)
    exact loop 11 0 (by omega) (by omega) ls (lv_sub hl [0, 1, 2, 3] rfl)
  · skip
    rw [inR_n (by decide) (by decide), Bool.true_and] at h1
    refine lv_iconst (v := -1) hx hb dX1_sends_8 (by decide) ?_
    exact W.iret (v := (-1)) hx hb hr (fun t ht hW => ⟨ro_i ((pr1_f h1).symm), ht⟩) (fun _ h => absurd h List.not_mem_nil) dX1_sends_9
set_option maxHeartbeats 4000000 in
set_option maxRecDepth 100000 in
theorem c1_look (l : Launch) (D : va_G) (ad : Nat → Nat) (ck : Nat → ClassId) (S : AS) (a : Nat) (hi : iv S) (x : Int32) : Met l yX1_look wsX1_look ({ frames := 0, cells := 0, slots := 0, locals := 0 }) (PW D (wM ad ck S a) (tyM ck) [.ref (ad 0), .int (x)]) (QcRead (aLook S a x)) 0 0 (fun _ => False) := by
  refine Met.ofW (cc := cX1_look) (maxL := 5) (ret := (some .int)) (by decide) rfl ?_
  intro p e s m args below meth c s₁ B hml hv
  obtain ⟨rfl, hP, hK⟩ := hv
  have hx := B.exec
  have hb := B.bytes
  have hr := B.returns
  have hts := atoms_spec (ws := wsX1_look) B.pre
  have hown : s.vm.findClass RX1 = some m.cls := findClass_of_methodNamed B.named
  have hlocks := B.notSynchronized
  have hin0 : ∀ w ∈ wsX10, w ∈ wsX1_look := by decide +kernel
  have hl := lv_entry ([.ref (ad 0), .int (x)]) (n := 5) (Nat.le_of_ble_eq_true rfl)
  rw [lg_entry_eq]
  generalize (lg_sl ([.ref (ad 0), .int (x)]) ++ List.replicate (5 - (lg_sl ([.ref (ad 0), .int (x)])).length) Slot.unset).toArray = ls at hl ⊢
  have hl : lv_has ls 5 [(0, .ref (ad 0)), (1, .int (x))] := hl
  refine lv_iload_n hx hb dX1_look_0 rfl (lv_at hl 1 rfl) ?_
  refine lv_if_ne (tgt := 9) hx hb dX1_look_1 (by decide) (fun h1 => ?_) (fun h1 => ?_)
  · skip
    refine lv_iload_n hx hb dX1_look_9 rfl (lv_at hl 1 rfl) ?_
    refine lv_iconst (v := nI 3) hx hb dX1_look_10 (by decide) ?_
    refine lv_icmp_ne (tgt := 19) hx hb dX1_look_11 (by decide) (fun h2 => ?_) (fun h2 => ?_)
    · skip
      refine lv_iload_n hx hb dX1_look_19 rfl (lv_at hl 1 rfl) ?_
      refine lv_iconst (v := nI 1) hx hb dX1_look_20 (by decide) ?_
      refine lv_icmp_eq (tgt := 31) hx hb dX1_look_21 (by decide) (fun h3 => ?_) (fun h3 => ?_)
      · skip
        subst h3
        refine lv_iconst (v := nI 0) hx hb dX1_look_31 (by decide) ?_
        refine lv_istore_n (lv' := [(2, .int (nI (0))), (0, .ref (ad 0)), (1, .int (nI (1)))]) hx hb dX1_look_32 rfl hl (by decide) rfl (fun ls hl => ?_)
        refine lv_iconst (v := nI 0) hx hb dX1_look_33 (by decide) ?_
        refine lv_istore_n (lv' := [(3, .int (nI (0))), (2, .int (nI (0))), (0, .ref (ad 0)), (1, .int (nI (1)))]) hx hb dX1_look_34 rfl hl (by decide) rfl (fun ls hl => ?_)
        have loop : ∀ (n q : Nat), 10 < q + n → q ≤ 10 → ∀ (ls : Array Slot), lv_has ls 5 [(3, .int (nI (q))), (2, .int (nI (bm (fun j => decide (j < q) && !(sG S j))))), (0, .ref (ad 0)), (1, .int (nI (1)))] → W p l e (headSpec wsX1_look ({ frames := 0, cells := 0, slots := 0, locals := 0 })).room s m ([.ref (ad 0), .int (nI (1))] : List Value).toArray below meth c s.heap [] 0 0 (MQ below (QcRead (aLook S a (nI 1))) ([.ref (ad 0), .int (nI (1))] : List Value).toArray s 0 0 (fun _ => False)) (F0 m 35 ls []) := by
          intro n
          induction n with
          | zero => exact fun q h1 h2 => absurd h1 (by omega)
          | succ n ih =>
            intro q hq1 hq2 ls hl
            refine lv_iload_n hx hb dX1_look_35 rfl (lv_at hl 0 rfl) ?_
            refine lv_bipush (v := nI 10) hx hb dX1_look_36 (by decide) ?_
            refine xx_ge (tgt := 88) hx hb dX1_look_38 (by decide) (by omega) (by omega) (fun h4 => ?_) (fun h4 => ?_)
            · skip
              refine lv_iload_n hx hb dX1_look_88 rfl (lv_at hl 1 rfl) ?_
              exact W.iret (v := (nI (bm (fun j => decide (j < q) && !(sG S j))))) hx hb hr (fun t ht hW => ⟨ro_i (by obtain rfl : q = 10 := (by omega); unfold aLook; rw [if_neg (by decide), if_pos (by decide), bm_all]), ht⟩) (fun _ h => absurd h List.not_mem_nil) dX1_look_89
            · skip
              refine lv_iload_n hx hb dX1_look_41 rfl (lv_at hl 3 rfl) ?_
              refine lv_iconst (v := nI 1) hx hb dX1_look_42 (by decide) ?_
              refine lv_icmp_ne (tgt := 63) hx hb dX1_look_43 (by decide) (fun h => absurd h (by decide)) (fun _ => ?_)
              refine lv_aload_n hx hb dX1_look_46 rfl (lv_at hl 2 rfl) ?_
              refine va_get (D := D) (ci := 1) (v := .ref (ad 1)) (C := RX1) (T := TX1) (N := 11) hx hb hts hin0 hown hK hP 0 rfl rfl 2 (by decide) (hts (.fieldLink RX1 7 "ClaimBenchModel" "isGone" "[Z") (by decide +kernel)) (fun _ h9 => h9) rfl dX1_look_47 ?_
              refine lv_iload_n hx hb dX1_look_50 rfl (lv_at hl 0 rfl) ?_
              refine xx_zld hx hb hK hP 1 0 (fun c_ => bI (sG S c_)) rfl rfl (j := q) (by omega) (by decide) dX1_look_51 ?_
              refine W.eq (g2 := F0 m 52 ls [.int (bI (sG S q))]) rfl ?_
              refine xx_if1 (tgt := 59) hx hb dX1_look_52 (by decide) (fun h5 => ?_) (fun h5 => ?_)
              · skip
                refine lv_iconst (v := nI 0) hx hb dX1_look_59 (by decide) ?_
                refine lv_goto (tgt := 69) hx hb dX1_look_60 (by decide) ?_
                refine lv_istore (lv' := [(4, .int (nI (0))), (3, .int (nI (q))), (2, .int (nI (bm (fun j => decide (j < q) && !(sG S j))))), (0, .ref (ad 0)), (1, .int (nI (1)))]) hx hb dX1_look_69 hl (by decide) rfl (fun ls hl => ?_)
                refine lv_iload hx hb dX1_look_71 (lv_at hl 0 rfl) ?_
                refine lv_if_eq (tgt := 82) hx hb dX1_look_73 (by decide) (fun _ => ?_) (fun h => absurd h (by decide))
                refine lv_iinc (v := nI (q + 1)) (lv' := [(3, .int (nI (q + 1))), (4, .int (nI (0))), (2, .int (nI (bm (fun j => decide (j < q) && !(sG S j))))), (0, .ref (ad 0)), (1, .int (nI (1)))]) hx hb dX1_look_82 hl (k := 1) rfl (nI_1 _) (by decide) rfl (fun ls hl => ?_)
                refine lv_goto (tgt := 35) hx hb dX1_look_85 (by decide) ?_
                have e9 : bm (fun j => decide (j < q) && !(sG S j)) = bm (fun j => decide (j < q + 1) && !(sG S j)) := bm_skip (f := fun j => !(sG S j)) (by show (!(sG S q)) = _; rw [h5]; rfl)
                rw [e9] at hl
                exact ih (q + 1) (by omega) (by omega) ls (lv_sub hl [0, 2, 3, 4] rfl)
              · skip
                refine lv_iconst (v := nI 1) hx hb dX1_look_55 (by decide) ?_
                refine lv_goto (tgt := 69) hx hb dX1_look_56 (by decide) ?_
                refine lv_istore (lv' := [(4, .int (nI (1))), (3, .int (nI (q))), (2, .int (nI (bm (fun j => decide (j < q) && !(sG S j))))), (0, .ref (ad 0)), (1, .int (nI (1)))]) hx hb dX1_look_69 hl (by decide) rfl (fun ls hl => ?_)
                refine lv_iload hx hb dX1_look_71 (lv_at hl 0 rfl) ?_
                refine lv_if_eq (tgt := 82) hx hb dX1_look_73 (by decide) (fun h => absurd h (by decide)) (fun _ => ?_)
                refine lv_iload_n hx hb dX1_look_76 rfl (lv_at hl 2 rfl) ?_
                refine lv_iconst (v := nI 1) hx hb dX1_look_77 (by decide) ?_
                refine lv_iload_n hx hb dX1_look_78 rfl (lv_at hl 1 rfl) ?_
                refine lv_ishl hx hb dX1_look_79 ?_
                refine lv_ior hx hb dX1_look_80 ?_
                refine lv_istore_n (lv' := [(2, .int (nI (bm (fun j => decide (j < q) && !(sG S j))) ||| (nI (1) <<< (nI (q) &&& 31)))), (4, .int (nI (1))), (3, .int (nI (q))), (0, .ref (ad 0)), (1, .int (nI (1)))]) hx hb dX1_look_81 rfl hl (by decide) rfl (fun ls hl => ?_)
                refine lv_iinc (v := nI (q + 1)) (lv' := [(3, .int (nI (q + 1))), (2, .int (nI (bm (fun j => decide (j < q) && !(sG S j))) ||| (nI (1) <<< (nI (q) &&& 31)))), (4, .int (nI (1))), (0, .ref (ad 0)), (1, .int (nI (1)))]) hx hb dX1_look_82 hl (k := 2) rfl (nI_1 _) (by decide) rfl (fun ls hl => ?_)
                refine lv_goto (tgt := 35) hx hb dX1_look_85 (by decide) ?_
                have e9 : nI (bm (fun j => decide (j < q) && !(sG S j))) ||| (nI (1) <<< (nI (q) &&& 31)) = nI (bm (fun j => decide (j < q + 1) && !(sG S j))) := (bm_on _ (by omega)).trans (congrArg nI (bm_step (f := fun j => !(sG S j)) (by show (!(sG S q)) = _; rw [h5]; rfl)))
                rw [e9] at hl
                exact ih (q + 1) (by omega) (by omega) ls (lv_sub hl [0, 1, 3, 4] rfl)
        exact loop 11 0 (by omega) (by omega) ls (lv_sub hl [0, 1, 2, 3] rfl)
      · skip
        refine lv_iload_n hx hb dX1_look_24 rfl (lv_at hl 1 rfl) ?_
        refine lv_iconst (v := nI 2) hx hb dX1_look_25 (by decide) ?_
        refine lv_icmp_eq (tgt := 31) hx hb dX1_look_26 (by decide) (fun h6 => ?_) (fun h6 => ?_)
        · skip
          subst h6
          refine lv_iconst (v := nI 0) hx hb dX1_look_31 (by decide) ?_
          refine lv_istore_n (lv' := [(2, .int (nI (0))), (0, .ref (ad 0)), (1, .int (nI (2)))]) hx hb dX1_look_32 rfl hl (by decide) rfl (fun ls hl => ?_)
          refine lv_iconst (v := nI 0) hx hb dX1_look_33 (by decide) ?_
          refine lv_istore_n (lv' := [(3, .int (nI (0))), (2, .int (nI (0))), (0, .ref (ad 0)), (1, .int (nI (2)))]) hx hb dX1_look_34 rfl hl (by decide) rfl (fun ls hl => ?_)
          have loop : ∀ (n q : Nat), 10 < q + n → q ≤ 10 → ∀ (ls : Array Slot), lv_has ls 5 [(3, .int (nI (q))), (2, .int (nI (bm (fun j => decide (j < q) && sD S j)))), (0, .ref (ad 0)), (1, .int (nI (2)))] → W p l e (headSpec wsX1_look ({ frames := 0, cells := 0, slots := 0, locals := 0 })).room s m ([.ref (ad 0), .int (nI (2))] : List Value).toArray below meth c s.heap [] 0 0 (MQ below (QcRead (aLook S a (nI 2))) ([.ref (ad 0), .int (nI (2))] : List Value).toArray s 0 0 (fun _ => False)) (F0 m 35 ls []) := by
            intro n
            induction n with
            | zero => exact fun q h1 h2 => absurd h1 (by omega)
            | succ n ih =>
              intro q hq1 hq2 ls hl
              refine lv_iload_n hx hb dX1_look_35 rfl (lv_at hl 0 rfl) ?_
              refine lv_bipush (v := nI 10) hx hb dX1_look_36 (by decide) ?_
              refine xx_ge (tgt := 88) hx hb dX1_look_38 (by decide) (by omega) (by omega) (fun h7 => ?_) (fun h7 => ?_)
              · skip
                refine lv_iload_n hx hb dX1_look_88 rfl (lv_at hl 1 rfl) ?_
                exact W.iret (v := (nI (bm (fun j => decide (j < q) && sD S j)))) hx hb hr (fun t ht hW => ⟨ro_i (by obtain rfl : q = 10 := (by omega); unfold aLook; rw [if_neg (by decide), if_neg (by decide), if_pos (by decide), bm_all]), ht⟩) (fun _ h => absurd h List.not_mem_nil) dX1_look_89
              · skip
                refine lv_iload_n hx hb dX1_look_41 rfl (lv_at hl 3 rfl) ?_
                refine lv_iconst (v := nI 1) hx hb dX1_look_42 (by decide) ?_
                refine lv_icmp_ne (tgt := 63) hx hb dX1_look_43 (by decide) (fun _ => ?_) (fun h => absurd h (by decide))
                refine lv_aload_n hx hb dX1_look_63 rfl (lv_at hl 2 rfl) ?_
                refine va_get (D := D) (ci := 1) (v := .ref (ad 2)) (C := RX1) (T := TX1) (N := 11) hx hb hts hin0 hown hK hP 0 rfl rfl 3 (by decide) (hts (.fieldLink RX1 13 "ClaimBenchModel" "isDeaf" "[Z") (by decide +kernel)) (fun _ h9 => h9) rfl dX1_look_64 ?_
                refine lv_iload_n hx hb dX1_look_67 rfl (lv_at hl 0 rfl) ?_
                refine xx_zld hx hb hK hP 2 1 (fun c_ => bI (sD S c_)) rfl rfl (j := q) (by omega) (by decide) dX1_look_68 ?_
                refine W.eq (g2 := F0 m 69 ls [.int (bI (sD S q))]) rfl ?_
                refine lv_istore (lv' := [(4, .int (bI (sD S q))), (3, .int (nI (q))), (2, .int (nI (bm (fun j => decide (j < q) && sD S j)))), (0, .ref (ad 0)), (1, .int (nI (2)))]) hx hb dX1_look_69 hl (by decide) rfl (fun ls hl => ?_)
                refine lv_iload hx hb dX1_look_71 (lv_at hl 0 rfl) ?_
                refine xx_if0 (tgt := 82) hx hb dX1_look_73 (by decide) (fun h8 => ?_) (fun h8 => ?_)
                · skip
                  refine lv_iinc (v := nI (q + 1)) (lv' := [(3, .int (nI (q + 1))), (4, .int (bI (sD S q))), (2, .int (nI (bm (fun j => decide (j < q) && sD S j)))), (0, .ref (ad 0)), (1, .int (nI (2)))]) hx hb dX1_look_82 hl (k := 1) rfl (nI_1 _) (by decide) rfl (fun ls hl => ?_)
                  refine lv_goto (tgt := 35) hx hb dX1_look_85 (by decide) ?_
                  have e9 : bm (fun j => decide (j < q) && sD S j) = bm (fun j => decide (j < q + 1) && sD S j) := bm_skip (f := fun j => sD S j) h8
                  rw [e9] at hl
                  exact ih (q + 1) (by omega) (by omega) ls (lv_sub hl [0, 2, 3, 4] rfl)
                · skip
                  refine lv_iload_n hx hb dX1_look_76 rfl (lv_at hl 2 rfl) ?_
                  refine lv_iconst (v := nI 1) hx hb dX1_look_77 (by decide) ?_
                  refine lv_iload_n hx hb dX1_look_78 rfl (lv_at hl 1 rfl) ?_
                  refine lv_ishl hx hb dX1_look_79 ?_
                  refine lv_ior hx hb dX1_look_80 ?_
                  refine lv_istore_n (lv' := [(2, .int (nI (bm (fun j => decide (j < q) && sD S j)) ||| (nI (1) <<< (nI (q) &&& 31)))), (4, .int (bI (sD S q))), (3, .int (nI (q))), (0, .ref (ad 0)), (1, .int (nI (2)))]) hx hb dX1_look_81 rfl hl (by decide) rfl (fun ls hl => ?_)
                  refine lv_iinc (v := nI (q + 1)) (lv' := [(3, .int (nI (q + 1))), (2, .int (nI (bm (fun j => decide (j < q) && sD S j)) ||| (nI (1) <<< (nI (q) &&& 31)))), (4, .int (bI (sD S q))), (0, .ref (ad 0)), (1, .int (nI (2)))]) hx hb dX1_look_82 hl (k := 2) rfl (nI_1 _) (by decide) rfl (fun ls hl => ?_)
                  refine lv_goto (tgt := 35) hx hb dX1_look_85 (by decide) ?_
                  have e9 : nI (bm (fun j => decide (j < q) && sD S j)) ||| (nI (1) <<< (nI (q) &&& 31)) = nI (bm (fun j => decide (j < q + 1) && sD S j)) := (bm_on _ (by omega)).trans (congrArg nI (bm_step (f := fun j => sD S j) h8))
                  rw [e9] at hl
                  exact ih (q + 1) (by omega) (by omega) ls (lv_sub hl [0, 1, 3, 4] rfl)
          exact loop 11 0 (by omega) (by omega) ls (lv_sub hl [0, 1, 2, 3] rfl)
        · skip
          refine lv_iconst (v := -1) hx hb dX1_look_29 (by decide) ?_
          exact W.iret (v := (-1)) hx hb hr (fun t ht hW => ⟨ro_i (by unfold aLook; rw [if_neg h1, if_neg (show ¬ x = 1 from h3), if_neg (show ¬ x = 2 from h6), if_neg (show ¬ x = 3 from h2)]), ht⟩) (fun _ h => absurd h List.not_mem_nil) dX1_look_30
    · skip
      subst h2
      refine lv_aload_n hx hb dX1_look_14 rfl (lv_at hl 0 rfl) ?_
      refine va_get (D := D) (ci := 1) (v := .int (nI (a))) (C := RX1) (T := TX1) (N := 11) hx hb hts hin0 hown hK hP 0 rfl rfl 1 (by decide) (hts (.fieldLink RX1 65 "ClaimBenchModel" "all" "I") (by decide +kernel)) (fun _ h9 => h9) rfl dX1_look_15 ?_
      exact W.iret (v := (nI (a))) hx hb hr (fun t ht hW => ⟨ro_i (by unfold aLook; rw [if_neg (by decide), if_neg (by decide), if_neg (by decide), if_pos (by decide)]), ht⟩) (fun _ h => absurd h List.not_mem_nil) dX1_look_18
  · skip
    subst h1
    refine lv_aload_n hx hb dX1_look_4 rfl (lv_at hl 0 rfl) ?_
    refine va_get (D := D) (ci := 1) (v := .int (nI (sT S))) (C := RX1) (T := TX1) (N := 11) hx hb hts hin0 hown hK hP 0 rfl rfl 0 (by decide) (hts (.fieldLink RX1 39 "ClaimBenchModel" "time" "I") (by decide +kernel)) (fun _ h9 => h9) rfl dX1_look_5 ?_
    exact W.iret (v := (nI (sT S))) hx hb hr (fun t ht hW => ⟨ro_i (by unfold aLook; rw [if_pos rfl]), ht⟩) (fun _ h => absurd h List.not_mem_nil) dX1_look_8
set_option maxHeartbeats 4000000 in
set_option maxRecDepth 100000 in
theorem c0_look (l : Launch) (D : va_G) (ad : Nat → Nat) (ck : Nat → ClassId) (S : AS) (a : Nat) (hi : iv S) (x : Int32) : Met l yX0_look wsX0_look ({ frames := 0, cells := 0, slots := 0, locals := 0 }) (PW D (wB ad ck S a) (tyB ck) [.ref (ad 0), .int (x)]) (QcRead (aLook S a x)) 0 0 (fun _ => False) := by
  refine Met.ofW (cc := cX0_look) (maxL := 2) (ret := (some .int)) (by decide) rfl ?_
  intro p e s m args below meth c s₁ B hml hv
  obtain ⟨rfl, hP, hK⟩ := hv
  have hx := B.exec
  have hb := B.bytes
  have hr := B.returns
  have hts := atoms_spec (ws := wsX0_look) B.pre
  have hown : s.vm.findClass RX0 = some m.cls := findClass_of_methodNamed B.named
  have hlocks := B.notSynchronized
  have hin0 : ∀ w ∈ wsX00, w ∈ wsX0_look := by decide +kernel
  have hl := lv_entry ([.ref (ad 0), .int (x)]) (n := 2) (Nat.le_of_ble_eq_true rfl)
  rw [lg_entry_eq]
  generalize (lg_sl ([.ref (ad 0), .int (x)]) ++ List.replicate (2 - (lg_sl ([.ref (ad 0), .int (x)])).length) Slot.unset).toArray = ls at hl ⊢
  have hl : lv_has ls 2 [(0, .ref (ad 0)), (1, .int (x))] := hl
  refine lv_iload_n hx hb dX0_look_0 rfl (lv_at hl 1 rfl) ?_
  by_cases e0 : x = 0
  · subst e0
    refine lv_tableIn (off := 31) (tgt := 32) hx hb dX0_look_1 (by decide) (by decide) (by decide) (by decide) ?_
    refine lv_aload_n hx hb dX0_look_32 rfl (lv_at hl 0 rfl) ?_
    refine va_get (D := D) (ci := 0) (v := .int (nI (sT S))) (C := RX0) (T := TX0) (N := 10) hx hb hts hin0 hown hK hP 0 rfl rfl 0 (by decide) (hts (.fieldLink RX0 7 "ClaimBench" "time" "I") (by decide +kernel)) (fun _ h9 => h9) rfl dX0_look_33 ?_
    exact W.iret (v := (nI (sT S))) hx hb hr (fun t ht hW => ⟨ro_i (by unfold aLook; rw [if_pos rfl]), ht⟩) (fun _ h => absurd h List.not_mem_nil) dX0_look_36
  by_cases e1 : x = 1
  · subst e1
    refine lv_tableIn (off := 36) (tgt := 37) hx hb dX0_look_1 (by decide) (by decide) (by decide) (by decide) ?_
    refine lv_aload_n hx hb dX0_look_37 rfl (lv_at hl 0 rfl) ?_
    refine va_get (D := D) (ci := 0) (v := .int (nI (bm (fun i_ => !(sG S i_))))) (C := RX0) (T := TX0) (N := 10) hx hb hts hin0 hown hK hP 0 rfl rfl 1 (by decide) (hts (.fieldLink RX0 13 "ClaimBench" "thereBits" "I") (by decide +kernel)) (fun _ h9 => h9) rfl dX0_look_38 ?_
    exact W.iret (v := (nI (bm (fun i_ => !(sG S i_))))) hx hb hr (fun t ht hW => ⟨ro_i (by unfold aLook; rw [if_neg (by decide), if_pos rfl]), ht⟩) (fun _ h => absurd h List.not_mem_nil) dX0_look_41
  by_cases e2 : x = 2
  · subst e2
    refine lv_tableIn (off := 41) (tgt := 42) hx hb dX0_look_1 (by decide) (by decide) (by decide) (by decide) ?_
    refine lv_aload_n hx hb dX0_look_42 rfl (lv_at hl 0 rfl) ?_
    refine va_get (D := D) (ci := 0) (v := .int (nI (bm (sD S)))) (C := RX0) (T := TX0) (N := 10) hx hb hts hin0 hown hK hP 0 rfl rfl 2 (by decide) (hts (.fieldLink RX0 16 "ClaimBench" "deafBits" "I") (by decide +kernel)) (fun _ h9 => h9) rfl dX0_look_43 ?_
    exact W.iret (v := (nI (bm (sD S)))) hx hb hr (fun t ht hW => ⟨ro_i (by unfold aLook; rw [if_neg (by decide), if_neg (by decide), if_pos rfl]), ht⟩) (fun _ h => absurd h List.not_mem_nil) dX0_look_46
  by_cases e3 : x = 3
  · subst e3
    refine lv_tableIn (off := 46) (tgt := 47) hx hb dX0_look_1 (by decide) (by decide) (by decide) (by decide) ?_
    refine lv_aload_n hx hb dX0_look_47 rfl (lv_at hl 0 rfl) ?_
    refine va_get (D := D) (ci := 0) (v := .int (nI (a))) (C := RX0) (T := TX0) (N := 10) hx hb hts hin0 hown hK hP 0 rfl rfl 3 (by decide) (hts (.fieldLink RX0 19 "ClaimBench" "saidInAll" "I") (by decide +kernel)) (fun _ h9 => h9) rfl dX0_look_48 ?_
    exact W.iret (v := (nI (a))) hx hb hr (fun t ht hW => ⟨ro_i (by unfold aLook; rw [if_neg (by decide), if_neg (by decide), if_neg (by decide), if_pos rfl]), ht⟩) (fun _ h => absurd h List.not_mem_nil) dX0_look_51
  refine lv_tableOut (tgt := 52) hx hb dX0_look_1 (sw_4 e0 e1 e2 e3) (by decide) ?_
  refine lv_iconst (v := -1) hx hb dX0_look_52 (by decide) ?_
  exact W.iret (v := (-1)) hx hb hr (fun t ht hW => ⟨ro_i (by unfold aLook; rw [if_neg e0, if_neg e1, if_neg e2, if_neg e3]), ht⟩) (fun _ h => absurd h List.not_mem_nil) dX0_look_53
