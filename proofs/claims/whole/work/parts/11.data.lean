def aData (S : AS) (x y : Int32) : Int32 := pr2 (fun r z => if sG S r then -1 else nI (sN (pData S r z))) (-1) x y
def pDt (S : AS) (x y : Int32) : AS := ps2 (fun r z => if sG S r then S else pData S r z) S x y
def nDt (S : AS) (a : Nat) (x y : Int32) : Nat := if inR 10 x && inR 16 y then (if sG S x.toNatClampNeg then a else a + sN (pData S x.toNatClampNeg y.toNatClampNeg)) else a
theorem dt_f {S : AS} {a : Nat} {x y : Int32} (h : (inR 10 x && inR 16 y) = false) : aData S x y = -1 ∧ pDt S x y = S ∧ nDt S a x y = a := ⟨pr2_f h, ps2_f h, by unfold nDt; rw [h]; rfl⟩
theorem dt_g {S : AS} {a : Nat} {r z : Nat} (hr : r < 10) (hz : z < 16) (h : sG S r = true) : aData S (nI r) (nI z) = -1 ∧ pDt S (nI r) (nI z) = S ∧ nDt S a (nI r) (nI z) = a := by
  refine ⟨?_, ?_, ?_⟩
  · unfold aData; rw [pr2_t hr hz, h]; rfl
  · unfold pDt; rw [ps2_t hr hz, h]; rfl
  · unfold nDt; rw [inR_n (by decide) hr, inR_n (by decide) hz, nI_clamp (by omega), h]; rfl
theorem dt_t {S : AS} {a : Nat} {r z : Nat} (hr : r < 10) (hz : z < 16) (h : sG S r = false) {S' : AS} (e : pData S r z = S') : aData S (nI r) (nI z) = nI (sN S') ∧ pDt S (nI r) (nI z) = S' ∧ nDt S a (nI r) (nI z) = a + sN S' := by
  subst e
  refine ⟨?_, ?_, ?_⟩
  · unfold aData; rw [pr2_t hr hz, h]; rfl
  · unfold pDt; rw [ps2_t hr hz, h]; rfl
  · unfold nDt; rw [inR_n (by decide) hr, inR_n (by decide) hz, nI_clamp (by omega), nI_clamp (by omega), h]; rfl
set_option maxHeartbeats 4000000 in
set_option maxRecDepth 100000 in
theorem c1_hear (l : Launch) (D : va_G) (ad : Nat → Nat) (hd : apt 9 ad) (ck : Nat → ClassId) (S : AS) (a : Nat) (hi : iv S) (r z h : Nat) (hr10 : r < 10) (hz16 : z < 16) (hh : h ≤ 1999909) (hh10 : h % 100 < 10) (hn : pB (pO S (16 * r + z)) h = true → sN S < 1023) : Met l yX1_hear wsX1_hear ({ frames := 3, cells := 0, slots := 0, locals := 68 }) (PW D (wM ad ck S (a + sN S)) (tyM ck) [.ref (ad 0), .int (nI (r)), .int (nI (z)), .int (nI (h))]) (QcM none (fun H => va_P D vwCl (wM ad ck (pH2 (pKeep S (16 * r + z) h) z h r) (a + sN (pH2 (pKeep S (16 * r + z) h) z h r))) H) (aM ad)) 0 0 (aM ad) := by
  refine Met.ofW (cc := cX1_hear) (maxL := 5) (ret := none) (by decide) rfl ?_
  intro p e s m args below meth c s₁ B hml hv
  obtain ⟨rfl, hP, hK⟩ := hv
  have hx := B.exec
  have hb := B.bytes
  have hr := B.returns
  have hts := atoms_spec (ws := wsX1_hear) B.pre
  have hown : s.vm.findClass RX1 = some m.cls := findClass_of_methodNamed B.named
  have hlocks := B.notSynchronized
  have hin0 : ∀ w ∈ wsX10, w ∈ wsX1_hear := by decide +kernel
  have hl := lv_entry ([.ref (ad 0), .int (nI (r)), .int (nI (z)), .int (nI (h))]) (n := 5) (Nat.le_of_ble_eq_true rfl)
  rw [lg_entry_eq]
  generalize (lg_sl ([.ref (ad 0), .int (nI (r)), .int (nI (z)), .int (nI (h))]) ++ List.replicate (5 - (lg_sl ([.ref (ad 0), .int (nI (r)), .int (nI (z)), .int (nI (h))])).length) Slot.unset).toArray = ls at hl ⊢
  have hl : lv_has ls 5 [(0, .ref (ad 0)), (1, .int (nI (r))), (2, .int (nI (z))), (3, .int (nI (h)))] := hl
  have hS : va_S (aM ad) s.heap s.heap [] := va_S.rf
  have hT := hi.1
  have hC := hi.2.2.1 (16 * r + z)
  have hU := hi.2.2.2.1 (16 * r + z)
  have hiK := iv_keep (k := 16 * r + z) hi hh10 hh
  have hOK := pO_le hiK (k := 16 * r + z) (by omega)
  refine lv_aload_n hx hb dX1_hear_0 rfl (lv_at hl 0 rfl) ?_
  refine lv_iload_n hx hb dX1_hear_1 rfl (lv_at hl 1 rfl) ?_
  refine lv_iload_n hx hb dX1_hear_2 rfl (lv_at hl 2 rfl) ?_
  refine W.callR (W.runV (As := [.int (nI (r)), .int (nI (z))]) (rest := []) ⟨hx, hb, hml, hown, hts⟩ (c1_keeps l D ad ck S (a + sN S) hi r z (by omega) (by omega)) (cwV 2 hts gX1_hear_X1_keeps rfl rfl rfl (by decide +kernel) ⟨Nat.le_of_ble_eq_true rfl, Nat.le_of_ble_eq_true rfl⟩) (PW_pre hK hP (ci := 1) rfl rfl) rfl rfl hl.1 rfl (lv_room (Nat.le_of_ble_eq_true rfl)) dX1_hear_3 ⟨Nat.zero_le _, Nat.zero_le _⟩) ?_
  refine W.eq (g2 := F0 m 6 ls [.int (kR S (16 * r + z))]) rfl ?_
  refine lv_istore (lv' := [(4, .int (kR S (16 * r + z))), (0, .ref (ad 0)), (1, .int (nI (r))), (2, .int (nI (z))), (3, .int (nI (h)))]) hx hb dX1_hear_6 hl (by decide) rfl (fun ls hl => ?_)
  refine lv_iload hx hb dX1_hear_8 (lv_at hl 0 rfl) ?_
  refine lv_iconst (v := -1) hx hb dX1_hear_10 (by decide) ?_
  refine lv_icmp_eq (tgt := 35) hx hb dX1_hear_11 (by decide) (fun h1 => ?_) (fun h1 => ?_)
  · skip
    refine lv_aload_n hx hb dX1_hear_35 rfl (lv_at hl 1 rfl) ?_
    refine va_get (D := D) (ci := 1) (v := .ref (ad 6)) (C := RX1) (T := TX1) (N := 11) hx hb hts hin0 hown hK hP 0 rfl rfl 7 (by decide) (hts (.fieldLink RX1 26 "ClaimBenchModel" "keptClaim" "[I") (by decide +kernel)) (fun _ h9 => h9) rfl dX1_hear_36 ?_
    refine lv_bipush (v := nI 16) hx hb dX1_hear_39 (by decide) ?_
    refine lv_iload_n hx hb dX1_hear_41 rfl (lv_at hl 2 rfl) ?_
    refine xx_mul hx hb dX1_hear_42 ?_
    refine lv_iload_n hx hb dX1_hear_43 rfl (lv_at hl 3 rfl) ?_
    refine xx_add hx hb dX1_hear_44 ?_
    refine lv_iload_n hx hb dX1_hear_45 rfl (lv_at hl 4 rfl) ?_
    refine xx_ast hx hb hK hP (dM hd ck _ _) hS 6 5 rfl rfl (j := (16 * r) + z) (by omega) (by decide) (fun c_ => kM (uU (uC S (upN (sC S) (16 * r + z) h)) (upN (sU S) (16 * r + z) (sT S + 60))) c_) (st_km S (16 * r + z) h) dX1_hear_46 (fun H locs hP hS => ?_)
    have hP : va_P D vwCl ((wM ad ck S (a + sN S)).set 6 (ad 6, .inl (ck 6, 160, .inl (fun c_ => kM (uU (uC S (upN (sC S) (16 * r + z) h)) (upN (sU S) (16 * r + z) (sT S + 60))) c_)))) H := hP
    refine lv_aload_n hx hb dX1_hear_47 rfl (lv_at hl 1 rfl) ?_
    refine va_get (D := D) (ci := 1) (v := .ref (ad 7)) (C := RX1) (T := TX1) (N := 11) hx hb hts hin0 hown hK hP 0 rfl rfl 8 (by decide) (hts (.fieldLink RX1 29 "ClaimBenchModel" "keptTill" "[I") (by decide +kernel)) (fun _ h9 => h9) rfl dX1_hear_48 ?_
    refine lv_bipush (v := nI 16) hx hb dX1_hear_51 (by decide) ?_
    refine lv_iload_n hx hb dX1_hear_53 rfl (lv_at hl 2 rfl) ?_
    refine xx_mul hx hb dX1_hear_54 ?_
    refine lv_iload_n hx hb dX1_hear_55 rfl (lv_at hl 3 rfl) ?_
    refine xx_add hx hb dX1_hear_56 ?_
    refine lv_aload_n hx hb dX1_hear_57 rfl (lv_at hl 1 rfl) ?_
    refine va_get (D := D) (ci := 1) (v := .int (nI (sT S))) (C := RX1) (T := TX1) (N := 11) hx hb hts hin0 hown hK hP 0 rfl rfl 0 (by decide) (hts (.fieldLink RX1 39 "ClaimBenchModel" "time" "I") (by decide +kernel)) (fun _ h9 => h9) rfl dX1_hear_58 ?_
    refine lv_bipush (v := nI 60) hx hb dX1_hear_61 (by decide) ?_
    refine xx_add hx hb dX1_hear_63 ?_
    refine xx_ast hx hb hK hP ((dM hd ck S (a + sN S)).set (p := 6) rfl) hS 7 6 rfl rfl (j := (16 * r) + z) (by omega) (by decide) (fun c_ => nI (sU (uU (uC S (upN (sC S) (16 * r + z) h)) (upN (sU S) (16 * r + z) (sT S + 60))) c_)) (st_n (sU S) (16 * r + z) (sT S + 60)) dX1_hear_64 (fun H locs hP hS => ?_)
    have hP : va_P D vwCl (wM ad ck (uU (uC S (upN (sC S) (16 * r + z) h)) (upN (sU S) (16 * r + z) (sT S + 60))) (a + sN S)) H := hP
    have hP : va_P D vwCl (wM ad ck (pKeep S (16 * r + z) h) (a + sN (pKeep S (16 * r + z) h))) H := by rw [show pKeep S (16 * r + z) h = uU (uC S (upN (sC S) (16 * r + z) h)) (upN (sU S) (16 * r + z) (sT S + 60)) from if_pos (by rw [kR_m hi h1]; rfl)]; exact hP
    refine lv_aload_n hx hb dX1_hear_65 rfl (lv_at hl 1 rfl) ?_
    refine lv_iload_n hx hb dX1_hear_66 rfl (lv_at hl 2 rfl) ?_
    refine lv_iload_n hx hb dX1_hear_67 rfl (lv_at hl 3 rfl) ?_
    refine W.callR (W.runV (As := [.int (nI (r)), .int (nI (z))]) (rest := []) ⟨hx, hb, hml, hown, hts⟩ (c1_isSending l D ad ck (pKeep S (16 * r + z) h) (a + sN (pKeep S (16 * r + z) h)) hiK r z (by omega) (by omega)) (cwV 2 hts gX1_hear_X1_isSending rfl rfl rfl (by decide +kernel) ⟨Nat.le_of_ble_eq_true rfl, Nat.le_of_ble_eq_true rfl⟩) (PW_pre hK hP (ci := 1) rfl rfl) rfl rfl hl.1 rfl (lv_room (Nat.le_of_ble_eq_true rfl)) dX1_hear_68 ⟨Nat.zero_le _, Nat.zero_le _⟩) ?_
    refine W.eq (g2 := F0 m 71 ls [.int (bI (pS (pKeep S (16 * r + z) h) r z))]) rfl ?_
    refine xx_if0 (tgt := 93) hx hb dX1_hear_71 (by decide) (fun h2 => ?_) (fun h2 => ?_)
    · skip
      exact W.vret hx hb hr (fun t ht hW => ⟨rfl, by rw [ht, h2_no1 h2]; exact hP, hS.F ht⟩) hS.2.2 dX1_hear_93
    · skip
      refine lv_aload_n hx hb dX1_hear_74 rfl (lv_at hl 1 rfl) ?_
      refine lv_iload_n hx hb dX1_hear_75 rfl (lv_at hl 2 rfl) ?_
      refine lv_iload_n hx hb dX1_hear_76 rfl (lv_at hl 3 rfl) ?_
      refine W.callR (W.runV (As := [.int (nI (r)), .int (nI (z))]) (rest := []) ⟨hx, hb, hml, hown, hts⟩ (c1_own l D ad ck (pKeep S (16 * r + z) h) (a + sN (pKeep S (16 * r + z) h)) hiK r z (by omega) (by omega)) (cwV 2 hts gX1_hear_X1_own rfl rfl rfl (by decide +kernel) ⟨Nat.le_of_ble_eq_true rfl, Nat.le_of_ble_eq_true rfl⟩) (PW_pre hK hP (ci := 1) rfl rfl) rfl rfl hl.1 rfl (lv_room (Nat.le_of_ble_eq_true rfl)) dX1_hear_77 ⟨Nat.zero_le _, Nat.zero_le _⟩) ?_
      refine W.eq (g2 := F0 m 80 ls [.int (nI (pO (pKeep S (16 * r + z) h) (16 * r + z)))]) rfl ?_
      refine lv_iload_n hx hb dX1_hear_80 rfl (lv_at hl 4 rfl) ?_
      refine W.callR (W.runS (As := [.int (nI (pO (pKeep S (16 * r + z) h) (16 * r + z))), .int (nI (h))]) (rest := []) ⟨hx, hb, hml, hown, hts⟩ (c1_isBetter l (pO (pKeep S (16 * r + z) h) (16 * r + z)) h (by omega) (by omega)) (va_cwS 2 hts gX1_hear_X1_isBetter rfl rfl rfl (by decide +kernel) ⟨Nat.le_of_ble_eq_true rfl, Nat.le_of_ble_eq_true rfl⟩) preEq rfl rfl hl.1 rfl (lv_room (Nat.le_of_ble_eq_true rfl)) dX1_hear_81 ⟨Nat.zero_le _, Nat.zero_le _⟩) ?_
      refine W.eq (g2 := F0 m 84 ls [.int (bI (pB (pO (pKeep S (16 * r + z) h) (16 * r + z)) h))]) rfl ?_
      refine xx_if0 (tgt := 93) hx hb dX1_hear_84 (by decide) (fun h3 => ?_) (fun h3 => ?_)
      · skip
        exact W.vret hx hb hr (fun t ht hW => ⟨rfl, by rw [ht, h2_no2 h3]; exact hP, hS.F ht⟩) hS.2.2 dX1_hear_93
      · skip
        refine lv_aload_n hx hb dX1_hear_87 rfl (lv_at hl 1 rfl) ?_
        refine lv_iload_n hx hb dX1_hear_88 rfl (lv_at hl 2 rfl) ?_
        refine lv_iload_n hx hb dX1_hear_89 rfl (lv_at hl 3 rfl) ?_
        refine xx_callM (W.runV (As := [.int (nI (r)), .int (nI (z))]) (rest := []) ⟨hx, hb, hml, hown, hts⟩ (c1_say l D ad hd ck (pKeep S (16 * r + z) h) (a + sN (pKeep S (16 * r + z) h)) hiK r z (by omega) (by omega) (by rw [sN_keep]; exact hn (by rw [← pO_keep S (16 * r + z) h (16 * r + z)]; exact h3))) (cwV 2 hts gX1_hear_X1_say rfl rfl rfl (by decide +kernel) ⟨Nat.le_of_ble_eq_true rfl, Nat.le_of_ble_eq_true rfl⟩) (PW_pre hK hP (ci := 1) rfl rfl) rfl rfl hl.1 rfl (lv_room (Nat.le_of_ble_eq_true rfl)) dX1_hear_90 ⟨Nat.zero_le _, Nat.zero_le _⟩) hS (fun _ h => h) (fun H locs hP _ hS => ?_)
        have hP : va_P D vwCl (wM ad ck (pSay (pKeep S (16 * r + z) h) (pO (pKeep S (16 * r + z) h) (16 * r + z))) ((a + sN (pKeep S (16 * r + z) h)) + 1)) H := hP
        refine W.eq (g2 := F0 m 93 ls []) rfl ?_
        exact W.vret hx hb hr (fun t ht hW => ⟨rfl, by rw [ht, h2_go h2 h3]; exact hP, hS.F ht⟩) hS.2.2 dX1_hear_93
  · skip
    obtain ⟨hk1, hc⟩ := kR_n h1
    rw [hc] at hl
    refine lv_iload_n hx hb dX1_hear_14 rfl (lv_at hl 4 rfl) ?_
    refine lv_iload hx hb dX1_hear_15 (lv_at hl 0 rfl) ?_
    refine W.callR (W.runS (As := [.int (nI (h)), .int (nI (sC S (16 * r + z)))]) (rest := []) ⟨hx, hb, hml, hown, hts⟩ (c1_isBetter l h (sC S (16 * r + z)) (by omega) (by omega)) (va_cwS 2 hts gX1_hear_X1_isBetter rfl rfl rfl (by decide +kernel) ⟨Nat.le_of_ble_eq_true rfl, Nat.le_of_ble_eq_true rfl⟩) preEq rfl rfl hl.1 rfl (lv_room (Nat.le_of_ble_eq_true rfl)) dX1_hear_17 ⟨Nat.zero_le _, Nat.zero_le _⟩) ?_
    refine W.eq (g2 := F0 m 20 ls [.int (bI (pB h (sC S (16 * r + z))))]) rfl ?_
    refine xx_if1 (tgt := 35) hx hb dX1_hear_20 (by decide) (fun h4 => ?_) (fun h4 => ?_)
    · skip
      refine lv_aload_n hx hb dX1_hear_35 rfl (lv_at hl 1 rfl) ?_
      refine va_get (D := D) (ci := 1) (v := .ref (ad 6)) (C := RX1) (T := TX1) (N := 11) hx hb hts hin0 hown hK hP 0 rfl rfl 7 (by decide) (hts (.fieldLink RX1 26 "ClaimBenchModel" "keptClaim" "[I") (by decide +kernel)) (fun _ h9 => h9) rfl dX1_hear_36 ?_
      refine lv_bipush (v := nI 16) hx hb dX1_hear_39 (by decide) ?_
      refine lv_iload_n hx hb dX1_hear_41 rfl (lv_at hl 2 rfl) ?_
      refine xx_mul hx hb dX1_hear_42 ?_
      refine lv_iload_n hx hb dX1_hear_43 rfl (lv_at hl 3 rfl) ?_
      refine xx_add hx hb dX1_hear_44 ?_
      refine lv_iload_n hx hb dX1_hear_45 rfl (lv_at hl 4 rfl) ?_
      refine xx_ast hx hb hK hP (dM hd ck _ _) hS 6 5 rfl rfl (j := (16 * r) + z) (by omega) (by decide) (fun c_ => kM (uU (uC S (upN (sC S) (16 * r + z) h)) (upN (sU S) (16 * r + z) (sT S + 60))) c_) (st_km S (16 * r + z) h) dX1_hear_46 (fun H locs hP hS => ?_)
      have hP : va_P D vwCl ((wM ad ck S (a + sN S)).set 6 (ad 6, .inl (ck 6, 160, .inl (fun c_ => kM (uU (uC S (upN (sC S) (16 * r + z) h)) (upN (sU S) (16 * r + z) (sT S + 60))) c_)))) H := hP
      refine lv_aload_n hx hb dX1_hear_47 rfl (lv_at hl 1 rfl) ?_
      refine va_get (D := D) (ci := 1) (v := .ref (ad 7)) (C := RX1) (T := TX1) (N := 11) hx hb hts hin0 hown hK hP 0 rfl rfl 8 (by decide) (hts (.fieldLink RX1 29 "ClaimBenchModel" "keptTill" "[I") (by decide +kernel)) (fun _ h9 => h9) rfl dX1_hear_48 ?_
      refine lv_bipush (v := nI 16) hx hb dX1_hear_51 (by decide) ?_
      refine lv_iload_n hx hb dX1_hear_53 rfl (lv_at hl 2 rfl) ?_
      refine xx_mul hx hb dX1_hear_54 ?_
      refine lv_iload_n hx hb dX1_hear_55 rfl (lv_at hl 3 rfl) ?_
      refine xx_add hx hb dX1_hear_56 ?_
      refine lv_aload_n hx hb dX1_hear_57 rfl (lv_at hl 1 rfl) ?_
      refine va_get (D := D) (ci := 1) (v := .int (nI (sT S))) (C := RX1) (T := TX1) (N := 11) hx hb hts hin0 hown hK hP 0 rfl rfl 0 (by decide) (hts (.fieldLink RX1 39 "ClaimBenchModel" "time" "I") (by decide +kernel)) (fun _ h9 => h9) rfl dX1_hear_58 ?_
      refine lv_bipush (v := nI 60) hx hb dX1_hear_61 (by decide) ?_
      refine xx_add hx hb dX1_hear_63 ?_
      refine xx_ast hx hb hK hP ((dM hd ck S (a + sN S)).set (p := 6) rfl) hS 7 6 rfl rfl (j := (16 * r) + z) (by omega) (by decide) (fun c_ => nI (sU (uU (uC S (upN (sC S) (16 * r + z) h)) (upN (sU S) (16 * r + z) (sT S + 60))) c_)) (st_n (sU S) (16 * r + z) (sT S + 60)) dX1_hear_64 (fun H locs hP hS => ?_)
      have hP : va_P D vwCl (wM ad ck (uU (uC S (upN (sC S) (16 * r + z) h)) (upN (sU S) (16 * r + z) (sT S + 60))) (a + sN S)) H := hP
      have hP : va_P D vwCl (wM ad ck (pKeep S (16 * r + z) h) (a + sN (pKeep S (16 * r + z) h))) H := by rw [show pKeep S (16 * r + z) h = uU (uC S (upN (sC S) (16 * r + z) h)) (upN (sU S) (16 * r + z) (sT S + 60)) from if_pos (by rw [hk1, h4]; rfl)]; exact hP
      refine lv_aload_n hx hb dX1_hear_65 rfl (lv_at hl 1 rfl) ?_
      refine lv_iload_n hx hb dX1_hear_66 rfl (lv_at hl 2 rfl) ?_
      refine lv_iload_n hx hb dX1_hear_67 rfl (lv_at hl 3 rfl) ?_
      refine W.callR (W.runV (As := [.int (nI (r)), .int (nI (z))]) (rest := []) ⟨hx, hb, hml, hown, hts⟩ (c1_isSending l D ad ck (pKeep S (16 * r + z) h) (a + sN (pKeep S (16 * r + z) h)) hiK r z (by omega) (by omega)) (cwV 2 hts gX1_hear_X1_isSending rfl rfl rfl (by decide +kernel) ⟨Nat.le_of_ble_eq_true rfl, Nat.le_of_ble_eq_true rfl⟩) (PW_pre hK hP (ci := 1) rfl rfl) rfl rfl hl.1 rfl (lv_room (Nat.le_of_ble_eq_true rfl)) dX1_hear_68 ⟨Nat.zero_le _, Nat.zero_le _⟩) ?_
      refine W.eq (g2 := F0 m 71 ls [.int (bI (pS (pKeep S (16 * r + z) h) r z))]) rfl ?_
      refine xx_if0 (tgt := 93) hx hb dX1_hear_71 (by decide) (fun h5 => ?_) (fun h5 => ?_)
      · skip
        exact W.vret hx hb hr (fun t ht hW => ⟨rfl, by rw [ht, h2_no1 h5]; exact hP, hS.F ht⟩) hS.2.2 dX1_hear_93
      · skip
        refine lv_aload_n hx hb dX1_hear_74 rfl (lv_at hl 1 rfl) ?_
        refine lv_iload_n hx hb dX1_hear_75 rfl (lv_at hl 2 rfl) ?_
        refine lv_iload_n hx hb dX1_hear_76 rfl (lv_at hl 3 rfl) ?_
        refine W.callR (W.runV (As := [.int (nI (r)), .int (nI (z))]) (rest := []) ⟨hx, hb, hml, hown, hts⟩ (c1_own l D ad ck (pKeep S (16 * r + z) h) (a + sN (pKeep S (16 * r + z) h)) hiK r z (by omega) (by omega)) (cwV 2 hts gX1_hear_X1_own rfl rfl rfl (by decide +kernel) ⟨Nat.le_of_ble_eq_true rfl, Nat.le_of_ble_eq_true rfl⟩) (PW_pre hK hP (ci := 1) rfl rfl) rfl rfl hl.1 rfl (lv_room (Nat.le_of_ble_eq_true rfl)) dX1_hear_77 ⟨Nat.zero_le _, Nat.zero_le _⟩) ?_
        refine W.eq (g2 := F0 m 80 ls [.int (nI (pO (pKeep S (16 * r + z) h) (16 * r + z)))]) rfl ?_
        refine lv_iload_n hx hb dX1_hear_80 rfl (lv_at hl 4 rfl) ?_
        refine W.callR (W.runS (As := [.int (nI (pO (pKeep S (16 * r + z) h) (16 * r + z))), .int (nI (h))]) (rest := []) ⟨hx, hb, hml, hown, hts⟩ (c1_isBetter l (pO (pKeep S (16 * r + z) h) (16 * r + z)) h (by omega) (by omega)) (va_cwS 2 hts gX1_hear_X1_isBetter rfl rfl rfl (by decide +kernel) ⟨Nat.le_of_ble_eq_true rfl, Nat.le_of_ble_eq_true rfl⟩) preEq rfl rfl hl.1 rfl (lv_room (Nat.le_of_ble_eq_true rfl)) dX1_hear_81 ⟨Nat.zero_le _, Nat.zero_le _⟩) ?_
        refine W.eq (g2 := F0 m 84 ls [.int (bI (pB (pO (pKeep S (16 * r + z) h) (16 * r + z)) h))]) rfl ?_
        refine xx_if0 (tgt := 93) hx hb dX1_hear_84 (by decide) (fun h6 => ?_) (fun h6 => ?_)
        · skip
          exact W.vret hx hb hr (fun t ht hW => ⟨rfl, by rw [ht, h2_no2 h6]; exact hP, hS.F ht⟩) hS.2.2 dX1_hear_93
        · skip
          refine lv_aload_n hx hb dX1_hear_87 rfl (lv_at hl 1 rfl) ?_
          refine lv_iload_n hx hb dX1_hear_88 rfl (lv_at hl 2 rfl) ?_
          refine lv_iload_n hx hb dX1_hear_89 rfl (lv_at hl 3 rfl) ?_
          refine xx_callM (W.runV (As := [.int (nI (r)), .int (nI (z))]) (rest := []) ⟨hx, hb, hml, hown, hts⟩ (c1_say l D ad hd ck (pKeep S (16 * r + z) h) (a + sN (pKeep S (16 * r + z) h)) hiK r z (by omega) (by omega) (by rw [sN_keep]; exact hn (by rw [← pO_keep S (16 * r + z) h (16 * r + z)]; exact h6))) (cwV 2 hts gX1_hear_X1_say rfl rfl rfl (by decide +kernel) ⟨Nat.le_of_ble_eq_true rfl, Nat.le_of_ble_eq_true rfl⟩) (PW_pre hK hP (ci := 1) rfl rfl) rfl rfl hl.1 rfl (lv_room (Nat.le_of_ble_eq_true rfl)) dX1_hear_90 ⟨Nat.zero_le _, Nat.zero_le _⟩) hS (fun _ h => h) (fun H locs hP _ hS => ?_)
          have hP : va_P D vwCl (wM ad ck (pSay (pKeep S (16 * r + z) h) (pO (pKeep S (16 * r + z) h) (16 * r + z))) ((a + sN (pKeep S (16 * r + z) h)) + 1)) H := hP
          refine W.eq (g2 := F0 m 93 ls []) rfl ?_
          exact W.vret hx hb hr (fun t ht hW => ⟨rfl, by rw [ht, h2_go h5 h6]; exact hP, hS.F ht⟩) hS.2.2 dX1_hear_93
    · skip
      refine lv_iload hx hb dX1_hear_23 (lv_at hl 0 rfl) ?_
      refine lv_bipush (v := nI 100) hx hb dX1_hear_25 (by decide) ?_
      refine xx_rem hx hb dX1_hear_27 (by omega) (by decide) (by decide) ?_
      refine lv_iload_n hx hb dX1_hear_28 rfl (lv_at hl 4 rfl) ?_
      refine lv_bipush (v := nI 100) hx hb dX1_hear_29 (by decide) ?_
      refine xx_rem hx hb dX1_hear_31 (by omega) (by decide) (by decide) ?_
      refine xx_ne (tgt := 65) hx hb dX1_hear_32 (by decide) (by omega) (by omega) (fun h7 => ?_) (fun h7 => ?_)
      · skip
        have hP : va_P D vwCl (wM ad ck (pKeep S (16 * r + z) h) (a + sN (pKeep S (16 * r + z) h))) s.heap := by rw [show pKeep S (16 * r + z) h = S from if_neg (by rw [hk1, h4, decide_eq_false (fun q => h7 q.symm)]; decide)]; exact hP
        refine lv_aload_n hx hb dX1_hear_65 rfl (lv_at hl 1 rfl) ?_
        refine lv_iload_n hx hb dX1_hear_66 rfl (lv_at hl 2 rfl) ?_
        refine lv_iload_n hx hb dX1_hear_67 rfl (lv_at hl 3 rfl) ?_
        refine W.callR (W.runV (As := [.int (nI (r)), .int (nI (z))]) (rest := []) ⟨hx, hb, hml, hown, hts⟩ (c1_isSending l D ad ck (pKeep S (16 * r + z) h) (a + sN (pKeep S (16 * r + z) h)) hiK r z (by omega) (by omega)) (cwV 2 hts gX1_hear_X1_isSending rfl rfl rfl (by decide +kernel) ⟨Nat.le_of_ble_eq_true rfl, Nat.le_of_ble_eq_true rfl⟩) (PW_pre hK hP (ci := 1) rfl rfl) rfl rfl hl.1 rfl (lv_room (Nat.le_of_ble_eq_true rfl)) dX1_hear_68 ⟨Nat.zero_le _, Nat.zero_le _⟩) ?_
        refine W.eq (g2 := F0 m 71 ls [.int (bI (pS (pKeep S (16 * r + z) h) r z))]) rfl ?_
        refine xx_if0 (tgt := 93) hx hb dX1_hear_71 (by decide) (fun h8 => ?_) (fun h8 => ?_)
        · skip
          exact W.vret hx hb hr (fun t ht hW => ⟨rfl, by rw [ht, h2_no1 h8]; exact hP, hS.F ht⟩) hS.2.2 dX1_hear_93
        · skip
          refine lv_aload_n hx hb dX1_hear_74 rfl (lv_at hl 1 rfl) ?_
          refine lv_iload_n hx hb dX1_hear_75 rfl (lv_at hl 2 rfl) ?_
          refine lv_iload_n hx hb dX1_hear_76 rfl (lv_at hl 3 rfl) ?_
          refine W.callR (W.runV (As := [.int (nI (r)), .int (nI (z))]) (rest := []) ⟨hx, hb, hml, hown, hts⟩ (c1_own l D ad ck (pKeep S (16 * r + z) h) (a + sN (pKeep S (16 * r + z) h)) hiK r z (by omega) (by omega)) (cwV 2 hts gX1_hear_X1_own rfl rfl rfl (by decide +kernel) ⟨Nat.le_of_ble_eq_true rfl, Nat.le_of_ble_eq_true rfl⟩) (PW_pre hK hP (ci := 1) rfl rfl) rfl rfl hl.1 rfl (lv_room (Nat.le_of_ble_eq_true rfl)) dX1_hear_77 ⟨Nat.zero_le _, Nat.zero_le _⟩) ?_
          refine W.eq (g2 := F0 m 80 ls [.int (nI (pO (pKeep S (16 * r + z) h) (16 * r + z)))]) rfl ?_
          refine lv_iload_n hx hb dX1_hear_80 rfl (lv_at hl 4 rfl) ?_
          refine W.callR (W.runS (As := [.int (nI (pO (pKeep S (16 * r + z) h) (16 * r + z))), .int (nI (h))]) (rest := []) ⟨hx, hb, hml, hown, hts⟩ (c1_isBetter l (pO (pKeep S (16 * r + z) h) (16 * r + z)) h (by omega) (by omega)) (va_cwS 2 hts gX1_hear_X1_isBetter rfl rfl rfl (by decide +kernel) ⟨Nat.le_of_ble_eq_true rfl, Nat.le_of_ble_eq_true rfl⟩) preEq rfl rfl hl.1 rfl (lv_room (Nat.le_of_ble_eq_true rfl)) dX1_hear_81 ⟨Nat.zero_le _, Nat.zero_le _⟩) ?_
          refine W.eq (g2 := F0 m 84 ls [.int (bI (pB (pO (pKeep S (16 * r + z) h) (16 * r + z)) h))]) rfl ?_
          refine xx_if0 (tgt := 93) hx hb dX1_hear_84 (by decide) (fun h9 => ?_) (fun h9 => ?_)
          · skip
            exact W.vret hx hb hr (fun t ht hW => ⟨rfl, by rw [ht, h2_no2 h9]; exact hP, hS.F ht⟩) hS.2.2 dX1_hear_93
          · skip
            refine lv_aload_n hx hb dX1_hear_87 rfl (lv_at hl 1 rfl) ?_
            refine lv_iload_n hx hb dX1_hear_88 rfl (lv_at hl 2 rfl) ?_
            refine lv_iload_n hx hb dX1_hear_89 rfl (lv_at hl 3 rfl) ?_
            refine xx_callM (W.runV (As := [.int (nI (r)), .int (nI (z))]) (rest := []) ⟨hx, hb, hml, hown, hts⟩ (c1_say l D ad hd ck (pKeep S (16 * r + z) h) (a + sN (pKeep S (16 * r + z) h)) hiK r z (by omega) (by omega) (by rw [sN_keep]; exact hn (by rw [← pO_keep S (16 * r + z) h (16 * r + z)]; exact h9))) (cwV 2 hts gX1_hear_X1_say rfl rfl rfl (by decide +kernel) ⟨Nat.le_of_ble_eq_true rfl, Nat.le_of_ble_eq_true rfl⟩) (PW_pre hK hP (ci := 1) rfl rfl) rfl rfl hl.1 rfl (lv_room (Nat.le_of_ble_eq_true rfl)) dX1_hear_90 ⟨Nat.zero_le _, Nat.zero_le _⟩) hS (fun _ h => h) (fun H locs hP _ hS => ?_)
            have hP : va_P D vwCl (wM ad ck (pSay (pKeep S (16 * r + z) h) (pO (pKeep S (16 * r + z) h) (16 * r + z))) ((a + sN (pKeep S (16 * r + z) h)) + 1)) H := hP
            refine W.eq (g2 := F0 m 93 ls []) rfl ?_
            exact W.vret hx hb hr (fun t ht hW => ⟨rfl, by rw [ht, h2_go h8 h9]; exact hP, hS.F ht⟩) hS.2.2 dX1_hear_93
      · skip
        refine lv_aload_n hx hb dX1_hear_35 rfl (lv_at hl 1 rfl) ?_
        refine va_get (D := D) (ci := 1) (v := .ref (ad 6)) (C := RX1) (T := TX1) (N := 11) hx hb hts hin0 hown hK hP 0 rfl rfl 7 (by decide) (hts (.fieldLink RX1 26 "ClaimBenchModel" "keptClaim" "[I") (by decide +kernel)) (fun _ h9 => h9) rfl dX1_hear_36 ?_
        refine lv_bipush (v := nI 16) hx hb dX1_hear_39 (by decide) ?_
        refine lv_iload_n hx hb dX1_hear_41 rfl (lv_at hl 2 rfl) ?_
        refine xx_mul hx hb dX1_hear_42 ?_
        refine lv_iload_n hx hb dX1_hear_43 rfl (lv_at hl 3 rfl) ?_
        refine xx_add hx hb dX1_hear_44 ?_
        refine lv_iload_n hx hb dX1_hear_45 rfl (lv_at hl 4 rfl) ?_
        refine xx_ast hx hb hK hP (dM hd ck _ _) hS 6 5 rfl rfl (j := (16 * r) + z) (by omega) (by decide) (fun c_ => kM (uU (uC S (upN (sC S) (16 * r + z) h)) (upN (sU S) (16 * r + z) (sT S + 60))) c_) (st_km S (16 * r + z) h) dX1_hear_46 (fun H locs hP hS => ?_)
        have hP : va_P D vwCl ((wM ad ck S (a + sN S)).set 6 (ad 6, .inl (ck 6, 160, .inl (fun c_ => kM (uU (uC S (upN (sC S) (16 * r + z) h)) (upN (sU S) (16 * r + z) (sT S + 60))) c_)))) H := hP
        refine lv_aload_n hx hb dX1_hear_47 rfl (lv_at hl 1 rfl) ?_
        refine va_get (D := D) (ci := 1) (v := .ref (ad 7)) (C := RX1) (T := TX1) (N := 11) hx hb hts hin0 hown hK hP 0 rfl rfl 8 (by decide) (hts (.fieldLink RX1 29 "ClaimBenchModel" "keptTill" "[I") (by decide +kernel)) (fun _ h9 => h9) rfl dX1_hear_48 ?_
        refine lv_bipush (v := nI 16) hx hb dX1_hear_51 (by decide) ?_
        refine lv_iload_n hx hb dX1_hear_53 rfl (lv_at hl 2 rfl) ?_
        refine xx_mul hx hb dX1_hear_54 ?_
        refine lv_iload_n hx hb dX1_hear_55 rfl (lv_at hl 3 rfl) ?_
        refine xx_add hx hb dX1_hear_56 ?_
        refine lv_aload_n hx hb dX1_hear_57 rfl (lv_at hl 1 rfl) ?_
        refine va_get (D := D) (ci := 1) (v := .int (nI (sT S))) (C := RX1) (T := TX1) (N := 11) hx hb hts hin0 hown hK hP 0 rfl rfl 0 (by decide) (hts (.fieldLink RX1 39 "ClaimBenchModel" "time" "I") (by decide +kernel)) (fun _ h9 => h9) rfl dX1_hear_58 ?_
        refine lv_bipush (v := nI 60) hx hb dX1_hear_61 (by decide) ?_
        refine xx_add hx hb dX1_hear_63 ?_
        refine xx_ast hx hb hK hP ((dM hd ck S (a + sN S)).set (p := 6) rfl) hS 7 6 rfl rfl (j := (16 * r) + z) (by omega) (by decide) (fun c_ => nI (sU (uU (uC S (upN (sC S) (16 * r + z) h)) (upN (sU S) (16 * r + z) (sT S + 60))) c_)) (st_n (sU S) (16 * r + z) (sT S + 60)) dX1_hear_64 (fun H locs hP hS => ?_)
        have hP : va_P D vwCl (wM ad ck (uU (uC S (upN (sC S) (16 * r + z) h)) (upN (sU S) (16 * r + z) (sT S + 60))) (a + sN S)) H := hP
        have hP : va_P D vwCl (wM ad ck (pKeep S (16 * r + z) h) (a + sN (pKeep S (16 * r + z) h))) H := by rw [show pKeep S (16 * r + z) h = uU (uC S (upN (sC S) (16 * r + z) h)) (upN (sU S) (16 * r + z) (sT S + 60)) from if_pos (by rw [hk1, h4, decide_eq_true h7.symm]; rfl)]; exact hP
        refine lv_aload_n hx hb dX1_hear_65 rfl (lv_at hl 1 rfl) ?_
        refine lv_iload_n hx hb dX1_hear_66 rfl (lv_at hl 2 rfl) ?_
        refine lv_iload_n hx hb dX1_hear_67 rfl (lv_at hl 3 rfl) ?_
        refine W.callR (W.runV (As := [.int (nI (r)), .int (nI (z))]) (rest := []) ⟨hx, hb, hml, hown, hts⟩ (c1_isSending l D ad ck (pKeep S (16 * r + z) h) (a + sN (pKeep S (16 * r + z) h)) hiK r z (by omega) (by omega)) (cwV 2 hts gX1_hear_X1_isSending rfl rfl rfl (by decide +kernel) ⟨Nat.le_of_ble_eq_true rfl, Nat.le_of_ble_eq_true rfl⟩) (PW_pre hK hP (ci := 1) rfl rfl) rfl rfl hl.1 rfl (lv_room (Nat.le_of_ble_eq_true rfl)) dX1_hear_68 ⟨Nat.zero_le _, Nat.zero_le _⟩) ?_
        refine W.eq (g2 := F0 m 71 ls [.int (bI (pS (pKeep S (16 * r + z) h) r z))]) rfl ?_
        refine xx_if0 (tgt := 93) hx hb dX1_hear_71 (by decide) (fun h10 => ?_) (fun h10 => ?_)
        · skip
          exact W.vret hx hb hr (fun t ht hW => ⟨rfl, by rw [ht, h2_no1 h10]; exact hP, hS.F ht⟩) hS.2.2 dX1_hear_93
        · skip
          refine lv_aload_n hx hb dX1_hear_74 rfl (lv_at hl 1 rfl) ?_
          refine lv_iload_n hx hb dX1_hear_75 rfl (lv_at hl 2 rfl) ?_
          refine lv_iload_n hx hb dX1_hear_76 rfl (lv_at hl 3 rfl) ?_
          refine W.callR (W.runV (As := [.int (nI (r)), .int (nI (z))]) (rest := []) ⟨hx, hb, hml, hown, hts⟩ (c1_own l D ad ck (pKeep S (16 * r + z) h) (a + sN (pKeep S (16 * r + z) h)) hiK r z (by omega) (by omega)) (cwV 2 hts gX1_hear_X1_own rfl rfl rfl (by decide +kernel) ⟨Nat.le_of_ble_eq_true rfl, Nat.le_of_ble_eq_true rfl⟩) (PW_pre hK hP (ci := 1) rfl rfl) rfl rfl hl.1 rfl (lv_room (Nat.le_of_ble_eq_true rfl)) dX1_hear_77 ⟨Nat.zero_le _, Nat.zero_le _⟩) ?_
          refine W.eq (g2 := F0 m 80 ls [.int (nI (pO (pKeep S (16 * r + z) h) (16 * r + z)))]) rfl ?_
          refine lv_iload_n hx hb dX1_hear_80 rfl (lv_at hl 4 rfl) ?_
          refine W.callR (W.runS (As := [.int (nI (pO (pKeep S (16 * r + z) h) (16 * r + z))), .int (nI (h))]) (rest := []) ⟨hx, hb, hml, hown, hts⟩ (c1_isBetter l (pO (pKeep S (16 * r + z) h) (16 * r + z)) h (by omega) (by omega)) (va_cwS 2 hts gX1_hear_X1_isBetter rfl rfl rfl (by decide +kernel) ⟨Nat.le_of_ble_eq_true rfl, Nat.le_of_ble_eq_true rfl⟩) preEq rfl rfl hl.1 rfl (lv_room (Nat.le_of_ble_eq_true rfl)) dX1_hear_81 ⟨Nat.zero_le _, Nat.zero_le _⟩) ?_
          refine W.eq (g2 := F0 m 84 ls [.int (bI (pB (pO (pKeep S (16 * r + z) h) (16 * r + z)) h))]) rfl ?_
          refine xx_if0 (tgt := 93) hx hb dX1_hear_84 (by decide) (fun h11 => ?_) (fun h11 => ?_)
          · skip
            exact W.vret hx hb hr (fun t ht hW => ⟨rfl, by rw [ht, h2_no2 h11]; exact hP, hS.F ht⟩) hS.2.2 dX1_hear_93
          · skip
            refine lv_aload_n hx hb dX1_hear_87 rfl (lv_at hl 1 rfl) ?_
            refine lv_iload_n hx hb dX1_hear_88 rfl (lv_at hl 2 rfl) ?_
            refine lv_iload_n hx hb dX1_hear_89 rfl (lv_at hl 3 rfl) ?_
            refine xx_callM (W.runV (As := [.int (nI (r)), .int (nI (z))]) (rest := []) ⟨hx, hb, hml, hown, hts⟩ (c1_say l D ad hd ck (pKeep S (16 * r + z) h) (a + sN (pKeep S (16 * r + z) h)) hiK r z (by omega) (by omega) (by rw [sN_keep]; exact hn (by rw [← pO_keep S (16 * r + z) h (16 * r + z)]; exact h11))) (cwV 2 hts gX1_hear_X1_say rfl rfl rfl (by decide +kernel) ⟨Nat.le_of_ble_eq_true rfl, Nat.le_of_ble_eq_true rfl⟩) (PW_pre hK hP (ci := 1) rfl rfl) rfl rfl hl.1 rfl (lv_room (Nat.le_of_ble_eq_true rfl)) dX1_hear_90 ⟨Nat.zero_le _, Nat.zero_le _⟩) hS (fun _ h => h) (fun H locs hP _ hS => ?_)
            have hP : va_P D vwCl (wM ad ck (pSay (pKeep S (16 * r + z) h) (pO (pKeep S (16 * r + z) h) (16 * r + z))) ((a + sN (pKeep S (16 * r + z) h)) + 1)) H := hP
            refine W.eq (g2 := F0 m 93 ls []) rfl ?_
            exact W.vret hx hb hr (fun t ht hW => ⟨rfl, by rw [ht, h2_go h10 h11]; exact hP, hS.F ht⟩) hS.2.2 dX1_hear_93
set_option maxHeartbeats 4000000 in
set_option maxRecDepth 100000 in
theorem c0_sayFirstClaims (l : Launch) (D : va_G) (ad : Nat → Nat) (hd : apt 6 ad) (ck : Nat → ClassId) (S : AS) (a : Nat) (hi : iv S) (r z : Nat) (hr10 : r < 10) (hz16 : z < 16) (h0 : sN S = 0) : Met l yX0_sayFirstClaims wsX0_sayFirstClaims ({ frames := 4, cells := 0, slots := 0, locals := 86 }) (PW D (wB ad ck S a) (tyB ck) [.ref (ad 0), .int (nI (r)), .int (nI (z))]) (QcM none (fun H => va_P D vwCl (wB ad ck (pFirst S r z 10) a) H) (aB ad)) 0 0 (aB ad) := by
  refine Met.ofW (cc := cX0_sayFirstClaims) (maxL := 4) (ret := none) (by decide) rfl ?_
  intro p e s m args below meth c s₁ B hml hv
  obtain ⟨rfl, hP, hK⟩ := hv
  have hx := B.exec
  have hb := B.bytes
  have hr := B.returns
  have hts := atoms_spec (ws := wsX0_sayFirstClaims) B.pre
  have hown : s.vm.findClass RX0 = some m.cls := findClass_of_methodNamed B.named
  have hlocks := B.notSynchronized
  have hin0 : ∀ w ∈ wsX00, w ∈ wsX0_sayFirstClaims := by decide +kernel
  have hl := lv_entry ([.ref (ad 0), .int (nI (r)), .int (nI (z))]) (n := 4) (Nat.le_of_ble_eq_true rfl)
  rw [lg_entry_eq]
  generalize (lg_sl ([.ref (ad 0), .int (nI (r)), .int (nI (z))]) ++ List.replicate (4 - (lg_sl ([.ref (ad 0), .int (nI (r)), .int (nI (z))])).length) Slot.unset).toArray = ls at hl ⊢
  have hl : lv_has ls 4 [(0, .ref (ad 0)), (1, .int (nI (r))), (2, .int (nI (z)))] := hl
  have hS : va_S (aB ad) s.heap s.heap [] := va_S.rf
  have hF := first_inv hi h0 (r := r) hz16
  refine lv_iconst (v := nI 0) hx hb dX0_sayFirstClaims_0 (by decide) ?_
  refine lv_istore_n (lv' := [(3, .int (nI (0))), (0, .ref (ad 0)), (1, .int (nI (r))), (2, .int (nI (z)))]) hx hb dX0_sayFirstClaims_1 rfl hl (by decide) rfl (fun ls hl => ?_)
  have loop : ∀ (n q : Nat), 10 < q + n → q ≤ 10 → ∀ (H : Heap) (locs : List Loc), va_P D vwCl (wB ad ck (pFirst S r z q) a) H → va_S (aB ad) s.heap H locs → ∀ (ls : Array Slot), lv_has ls 4 [(3, .int (nI (q))), (0, .ref (ad 0)), (1, .int (nI (r))), (2, .int (nI (z)))] → W p l e (headSpec wsX0_sayFirstClaims ({ frames := 4, cells := 0, slots := 0, locals := 86 })).room s m ([.ref (ad 0), .int (nI (r)), .int (nI (z))] : List Value).toArray below meth c H locs 0 0 (MQ below (QcM none (fun H => va_P D vwCl (wB ad ck (pFirst S r z 10) a) H) (aB ad)) ([.ref (ad 0), .int (nI (r)), .int (nI (z))] : List Value).toArray s 0 0 (aB ad)) (F0 m 2 ls []) := by
    intro n
    induction n with
    | zero => exact fun q h1 h2 => absurd h1 (by omega)
    | succ n ih =>
      intro q hq1 hq2 H locs hP hS ls hl
      refine lv_iload_n hx hb dX0_sayFirstClaims_2 rfl (lv_at hl 0 rfl) ?_
      refine lv_bipush (v := nI 10) hx hb dX0_sayFirstClaims_3 (by decide) ?_
      refine xx_ge (tgt := 41) hx hb dX0_sayFirstClaims_5 (by decide) (by omega) (by omega) (fun h1 => ?_) (fun h1 => ?_)
      · skip
        exact W.vret hx hb hr (fun t ht hW => ⟨rfl, by rw [ht]; obtain rfl : q = 10 := (by omega); exact hP, hS.F ht⟩) hS.2.2 dX0_sayFirstClaims_41
      · skip
        refine lv_iload_n hx hb dX0_sayFirstClaims_8 rfl (lv_at hl 0 rfl) ?_
        refine lv_iload_n hx hb dX0_sayFirstClaims_9 rfl (lv_at hl 2 rfl) ?_
        refine xx_eq (tgt := 35) hx hb dX0_sayFirstClaims_10 (by decide) (by omega) (by omega) (fun h2 => ?_) (fun h2 => ?_)
        · skip
          refine lv_iinc (v := nI (q + 1)) (lv' := [(3, .int (nI (q + 1))), (0, .ref (ad 0)), (1, .int (nI (r))), (2, .int (nI (z)))]) hx hb dX0_sayFirstClaims_35 hl (k := 0) rfl (nI_1 _) (by decide) rfl (fun ls hl => ?_)
          refine lv_goto (tgt := 2) hx hb dX0_sayFirstClaims_38 (by decide) ?_
          have hP : va_P D vwCl (wB ad ck (pFirst S r z (q + 1)) a) H := by rw [pFirst, f1_no1 h2]; exact hP
          exact ih (q + 1) (by omega) (by omega) H locs hP hS ls (lv_sub hl [0, 1, 2, 3] rfl)
        · skip
          refine lv_aload_n hx hb dX0_sayFirstClaims_13 rfl (lv_at hl 1 rfl) ?_
          refine lv_iload_n hx hb dX0_sayFirstClaims_14 rfl (lv_at hl 0 rfl) ?_
          refine W.callR (W.runV (As := [.int (nI (q))]) (rest := []) ⟨hx, hb, hml, hown, hts⟩ (c0_isListener l D ad ck (pFirst S r z q) a (hF q hq2).1 q (by omega)) (cwV 1 hts gX0_sayFirstClaims_X0_isListener rfl rfl rfl (by decide +kernel) ⟨Nat.le_of_ble_eq_true rfl, Nat.le_of_ble_eq_true rfl⟩) (PW_pre hK hP (ci := 0) rfl rfl) rfl rfl hl.1 rfl (lv_room (Nat.le_of_ble_eq_true rfl)) dX0_sayFirstClaims_15 ⟨Nat.zero_le _, Nat.zero_le _⟩) ?_
          refine W.eq (g2 := F0 m 18 ls [.int (bI (pH (pFirst S r z q) q))]) rfl ?_
          refine xx_if0 (tgt := 35) hx hb dX0_sayFirstClaims_18 (by decide) (fun h3 => ?_) (fun h3 => ?_)
          · skip
            refine lv_iinc (v := nI (q + 1)) (lv' := [(3, .int (nI (q + 1))), (0, .ref (ad 0)), (1, .int (nI (r))), (2, .int (nI (z)))]) hx hb dX0_sayFirstClaims_35 hl (k := 0) rfl (nI_1 _) (by decide) rfl (fun ls hl => ?_)
            refine lv_goto (tgt := 2) hx hb dX0_sayFirstClaims_38 (by decide) ?_
            have hP : va_P D vwCl (wB ad ck (pFirst S r z (q + 1)) a) H := by rw [pFirst, f1_no2 h3]; exact hP
            exact ih (q + 1) (by omega) (by omega) H locs hP hS ls (lv_sub hl [0, 1, 2, 3] rfl)
          · skip
            refine lv_aload_n hx hb dX0_sayFirstClaims_21 rfl (lv_at hl 1 rfl) ?_
            refine lv_iload_n hx hb dX0_sayFirstClaims_22 rfl (lv_at hl 0 rfl) ?_
            refine lv_iload_n hx hb dX0_sayFirstClaims_23 rfl (lv_at hl 3 rfl) ?_
            refine W.callR (W.runV (As := [.int (nI (q)), .int (nI (z))]) (rest := []) ⟨hx, hb, hml, hown, hts⟩ (c0_isSender l D ad ck (pFirst S r z q) a (hF q hq2).1 q z (by omega) (by omega)) (cwV 2 hts gX0_sayFirstClaims_X0_isSender rfl rfl rfl (by decide +kernel) ⟨Nat.le_of_ble_eq_true rfl, Nat.le_of_ble_eq_true rfl⟩) (PW_pre hK hP (ci := 0) rfl rfl) rfl rfl hl.1 rfl (lv_room (Nat.le_of_ble_eq_true rfl)) dX0_sayFirstClaims_24 ⟨Nat.zero_le _, Nat.zero_le _⟩) ?_
            refine W.eq (g2 := F0 m 27 ls [.int (bI (pS (pFirst S r z q) q z))]) rfl ?_
            refine xx_if0 (tgt := 35) hx hb dX0_sayFirstClaims_27 (by decide) (fun h4 => ?_) (fun h4 => ?_)
            · skip
              refine lv_iinc (v := nI (q + 1)) (lv' := [(3, .int (nI (q + 1))), (0, .ref (ad 0)), (1, .int (nI (r))), (2, .int (nI (z)))]) hx hb dX0_sayFirstClaims_35 hl (k := 0) rfl (nI_1 _) (by decide) rfl (fun ls hl => ?_)
              refine lv_goto (tgt := 2) hx hb dX0_sayFirstClaims_38 (by decide) ?_
              have hP : va_P D vwCl (wB ad ck (pFirst S r z (q + 1)) a) H := by rw [pFirst, f1_no3 h4]; exact hP
              exact ih (q + 1) (by omega) (by omega) H locs hP hS ls (lv_sub hl [0, 1, 2, 3] rfl)
            · skip
              refine lv_aload_n hx hb dX0_sayFirstClaims_30 rfl (lv_at hl 1 rfl) ?_
              refine lv_iload_n hx hb dX0_sayFirstClaims_31 rfl (lv_at hl 0 rfl) ?_
              refine xx_callM (W.runV (As := [.int (nI (q))]) (rest := []) ⟨hx, hb, hml, hown, hts⟩ (c0_sayClaim l D ad hd ck (pFirst S r z q) a (hF q hq2).1 q (pO (pFirst S r z q) (16 * q + z)) (pO_mod (by omega) hz16) (by have := (hF q hq2).2.2.1; omega)) (cwV 1 hts gX0_sayFirstClaims_X0_sayClaim rfl rfl rfl (by decide +kernel) ⟨Nat.le_of_ble_eq_true rfl, Nat.le_of_ble_eq_true rfl⟩) (PW_pre hK hP (ci := 0) rfl rfl) rfl rfl hl.1 rfl (lv_room (Nat.le_of_ble_eq_true rfl)) dX0_sayFirstClaims_32 ⟨Nat.zero_le _, Nat.zero_le _⟩) hS (fun _ h => h) (fun H locs hP _ hS => ?_)
              have hP : va_P D vwCl (wB ad ck (pSay (pFirst S r z q) (pO (pFirst S r z q) (16 * q + z))) a) H := hP
              refine W.eq (g2 := F0 m 35 ls []) rfl ?_
              refine lv_iinc (v := nI (q + 1)) (lv' := [(3, .int (nI (q + 1))), (0, .ref (ad 0)), (1, .int (nI (r))), (2, .int (nI (z)))]) hx hb dX0_sayFirstClaims_35 hl (k := 0) rfl (nI_1 _) (by decide) rfl (fun ls hl => ?_)
              refine lv_goto (tgt := 2) hx hb dX0_sayFirstClaims_38 (by decide) ?_
              have hP : va_P D vwCl (wB ad ck (pFirst S r z (q + 1)) a) H := by rw [pFirst, f1_go h2 h3 h4]; exact hP
              exact ih (q + 1) (by omega) (by omega) H locs hP hS ls (lv_sub hl [0, 1, 2, 3] rfl)
  exact loop 11 0 (by omega) (by omega) s.heap [] hP hS ls (lv_sub hl [0, 1, 2, 3] rfl)
set_option maxHeartbeats 4000000 in
set_option maxRecDepth 100000 in
theorem c0_hearClaim (l : Launch) (D : va_G) (ad : Nat → Nat) (hd : apt 6 ad) (ck : Nat → ClassId) (S : AS) (a : Nat) (hi : iv S) (y z h : Nat) (hy10 : y < 10) (hz16 : z < 16) (hph : pO S (16 * y + z) = h) (hhy : h % 100 = y) (hh : h ≤ 1999909) (hJ : ∀ q, q ≤ 10 → iv (pHear S z h q) ∧ (∀ c, pO (pHear S z h q) c = pO S c) ∧ (q < 10 → pB (pO S (16 * q + z)) h = true → sN (pHear S z h q) < 1023)) : Met l yX0_hearClaim wsX0_hearClaim ({ frames := 4, cells := 0, slots := 0, locals := 86 }) (PW D (wB ad ck S a) (tyB ck) [.ref (ad 0), .int (nI (y)), .int (nI (z))]) (QcM none (fun H => va_P D vwCl (wB ad ck (pHear S z h 10) a) H) (aB ad)) 0 0 (aB ad) := by
  refine Met.ofW (cc := cX0_hearClaim) (maxL := 5) (ret := none) (by decide) rfl ?_
  intro p e s m args below meth c s₁ B hml hv
  obtain ⟨rfl, hP, hK⟩ := hv
  have hx := B.exec
  have hb := B.bytes
  have hr := B.returns
  have hts := atoms_spec (ws := wsX0_hearClaim) B.pre
  have hown : s.vm.findClass RX0 = some m.cls := findClass_of_methodNamed B.named
  have hlocks := B.notSynchronized
  have hin0 : ∀ w ∈ wsX00, w ∈ wsX0_hearClaim := by decide +kernel
  have hl := lv_entry ([.ref (ad 0), .int (nI (y)), .int (nI (z))]) (n := 5) (Nat.le_of_ble_eq_true rfl)
  rw [lg_entry_eq]
  generalize (lg_sl ([.ref (ad 0), .int (nI (y)), .int (nI (z))]) ++ List.replicate (5 - (lg_sl ([.ref (ad 0), .int (nI (y)), .int (nI (z))])).length) Slot.unset).toArray = ls at hl ⊢
  have hl : lv_has ls 5 [(0, .ref (ad 0)), (1, .int (nI (y))), (2, .int (nI (z)))] := hl
  have hS : va_S (aB ad) s.heap s.heap [] := va_S.rf
  refine lv_aload_n hx hb dX0_hearClaim_0 rfl (lv_at hl 0 rfl) ?_
  refine va_get (D := D) (ci := 0) (v := .ref (ad 2)) (C := RX0) (T := TX0) (N := 10) hx hb hts hin0 hown hK hP 0 rfl rfl 5 (by decide) (hts (.fieldLink RX0 26 "ClaimBench" "ownClaims" "[I") (by decide +kernel)) (fun _ h9 => h9) rfl dX0_hearClaim_1 ?_
  refine lv_iload_n hx hb dX0_hearClaim_4 rfl (lv_at hl 1 rfl) ?_
  refine lv_iload_n hx hb dX0_hearClaim_5 rfl (lv_at hl 2 rfl) ?_
  refine W.callR (W.runS (As := [.int (nI (y)), .int (nI (z))]) (rest := [.ref (ad 2)]) ⟨hx, hb, hml, hown, hts⟩ (c0_cellOf l y z) (va_cwS 2 hts gX0_hearClaim_X0_cellOf rfl rfl rfl (by decide +kernel) ⟨Nat.le_of_ble_eq_true rfl, Nat.le_of_ble_eq_true rfl⟩) preEq rfl rfl hl.1 rfl (lv_room (Nat.le_of_ble_eq_true rfl)) dX0_hearClaim_6 ⟨Nat.zero_le _, Nat.zero_le _⟩) ?_
  refine W.eq (g2 := F0 m 9 ls [.int (nI (16 * y + z)), .ref (ad 2)]) rfl ?_
  refine xx_ald hx hb hK hP 2 1 (fun c_ => nI (pO S c_)) rfl rfl (j := 16 * y + z) (by omega) (by decide) dX0_hearClaim_9 ?_
  refine W.eq (g2 := F0 m 10 ls [.int (nI (pO S (16 * y + z)))]) rfl ?_
  refine xx_top (nI h) (congrArg nI hph) ?_
  refine lv_istore_n (lv' := [(3, .int (nI (h))), (0, .ref (ad 0)), (1, .int (nI (y))), (2, .int (nI (z)))]) hx hb dX0_hearClaim_10 rfl hl (by decide) rfl (fun ls hl => ?_)
  refine lv_iconst (v := nI 0) hx hb dX0_hearClaim_11 (by decide) ?_
  refine lv_istore (lv' := [(4, .int (nI (0))), (3, .int (nI (h))), (0, .ref (ad 0)), (1, .int (nI (y))), (2, .int (nI (z)))]) hx hb dX0_hearClaim_12 hl (by decide) rfl (fun ls hl => ?_)
  have loop : ∀ (n q : Nat), 10 < q + n → q ≤ 10 → ∀ (H : Heap) (locs : List Loc), va_P D vwCl (wB ad ck (pHear S z h q) a) H → va_S (aB ad) s.heap H locs → ∀ (ls : Array Slot), lv_has ls 5 [(4, .int (nI (q))), (3, .int (nI (h))), (0, .ref (ad 0)), (1, .int (nI (y))), (2, .int (nI (z)))] → W p l e (headSpec wsX0_hearClaim ({ frames := 4, cells := 0, slots := 0, locals := 86 })).room s m ([.ref (ad 0), .int (nI (y)), .int (nI (z))] : List Value).toArray below meth c H locs 0 0 (MQ below (QcM none (fun H => va_P D vwCl (wB ad ck (pHear S z h 10) a) H) (aB ad)) ([.ref (ad 0), .int (nI (y)), .int (nI (z))] : List Value).toArray s 0 0 (aB ad)) (F0 m 14 ls []) := by
    intro n
    induction n with
    | zero => exact fun q h1 h2 => absurd h1 (by omega)
    | succ n ih =>
      intro q hq1 hq2 H locs hP hS ls hl
      refine lv_iload hx hb dX0_hearClaim_14 (lv_at hl 0 rfl) ?_
      refine lv_bipush (v := nI 10) hx hb dX0_hearClaim_16 (by decide) ?_
      refine xx_ge (tgt := 87) hx hb dX0_hearClaim_18 (by decide) (by omega) (by omega) (fun h1 => ?_) (fun h1 => ?_)
      · skip
        exact W.vret hx hb hr (fun t ht hW => ⟨rfl, by rw [ht]; obtain rfl : q = 10 := (by omega); exact hP, hS.F ht⟩) hS.2.2 dX0_hearClaim_87
      · skip
        refine lv_iload hx hb dX0_hearClaim_21 (lv_at hl 0 rfl) ?_
        refine lv_iload_n hx hb dX0_hearClaim_23 rfl (lv_at hl 3 rfl) ?_
        refine xx_eq (tgt := 81) hx hb dX0_hearClaim_24 (by decide) (by omega) (by omega) (fun h2 => ?_) (fun h2 => ?_)
        · skip
          refine lv_iinc (v := nI (q + 1)) (lv' := [(4, .int (nI (q + 1))), (3, .int (nI (h))), (0, .ref (ad 0)), (1, .int (nI (y))), (2, .int (nI (z)))]) hx hb dX0_hearClaim_81 hl (k := 0) rfl (nI_1 _) (by decide) rfl (fun ls hl => ?_)
          refine lv_goto (tgt := 14) hx hb dX0_hearClaim_84 (by decide) ?_
          have hP : va_P D vwCl (wB ad ck (pHear S z h (q + 1)) a) H := by rw [pHear, h1_no1 (by omega)]; exact hP
          exact ih (q + 1) (by omega) (by omega) H locs hP hS ls (lv_sub hl [0, 1, 2, 3, 4] rfl)
        · skip
          refine lv_aload_n hx hb dX0_hearClaim_27 rfl (lv_at hl 2 rfl) ?_
          refine lv_iload hx hb dX0_hearClaim_28 (lv_at hl 0 rfl) ?_
          refine W.callR (W.runV (As := [.int (nI (q))]) (rest := []) ⟨hx, hb, hml, hown, hts⟩ (c0_isListener l D ad ck (pHear S z h q) a (hJ q hq2).1 q (by omega)) (cwV 1 hts gX0_hearClaim_X0_isListener rfl rfl rfl (by decide +kernel) ⟨Nat.le_of_ble_eq_true rfl, Nat.le_of_ble_eq_true rfl⟩) (PW_pre hK hP (ci := 0) rfl rfl) rfl rfl hl.1 rfl (lv_room (Nat.le_of_ble_eq_true rfl)) dX0_hearClaim_30 ⟨Nat.zero_le _, Nat.zero_le _⟩) ?_
          refine W.eq (g2 := F0 m 33 ls [.int (bI (pH (pHear S z h q) q))]) rfl ?_
          refine xx_if0 (tgt := 81) hx hb dX0_hearClaim_33 (by decide) (fun h3 => ?_) (fun h3 => ?_)
          · skip
            refine lv_iinc (v := nI (q + 1)) (lv' := [(4, .int (nI (q + 1))), (3, .int (nI (h))), (0, .ref (ad 0)), (1, .int (nI (y))), (2, .int (nI (z)))]) hx hb dX0_hearClaim_81 hl (k := 0) rfl (nI_1 _) (by decide) rfl (fun ls hl => ?_)
            refine lv_goto (tgt := 14) hx hb dX0_hearClaim_84 (by decide) ?_
            have hP : va_P D vwCl (wB ad ck (pHear S z h (q + 1)) a) H := by rw [pHear, h1_no2 h3]; exact hP
            exact ih (q + 1) (by omega) (by omega) H locs hP hS ls (lv_sub hl [0, 1, 2, 3, 4] rfl)
          · skip
            refine lv_aload_n hx hb dX0_hearClaim_36 rfl (lv_at hl 2 rfl) ?_
            refine lv_iload hx hb dX0_hearClaim_37 (lv_at hl 0 rfl) ?_
            refine lv_iload_n hx hb dX0_hearClaim_39 rfl (lv_at hl 4 rfl) ?_
            refine W.callR (W.runS (As := [.int (nI (q)), .int (nI (z))]) (rest := [.ref (ad 0)]) ⟨hx, hb, hml, hown, hts⟩ (c0_cellOf l q z) (va_cwS 2 hts gX0_hearClaim_X0_cellOf rfl rfl rfl (by decide +kernel) ⟨Nat.le_of_ble_eq_true rfl, Nat.le_of_ble_eq_true rfl⟩) preEq rfl rfl hl.1 rfl (lv_room (Nat.le_of_ble_eq_true rfl)) dX0_hearClaim_40 ⟨Nat.zero_le _, Nat.zero_le _⟩) ?_
            refine W.eq (g2 := F0 m 43 ls [.int (nI (16 * q + z)), .ref (ad 0)]) rfl ?_
            refine lv_iload_n hx hb dX0_hearClaim_43 rfl (lv_at hl 1 rfl) ?_
            refine xx_callM (W.runV (As := [.int (nI (16 * q + z)), .int (nI (h))]) (rest := []) ⟨hx, hb, hml, hown, hts⟩ (c0_keepIfDue l D ad hd ck (pHear S z h q) a (hJ q hq2).1 (16 * q + z) h (by omega) (by omega)) (cwV 2 hts gX0_hearClaim_X0_keepIfDue rfl rfl rfl (by decide +kernel) ⟨Nat.le_of_ble_eq_true rfl, Nat.le_of_ble_eq_true rfl⟩) (PW_pre hK hP (ci := 0) rfl rfl) rfl rfl hl.1 rfl (lv_room (Nat.le_of_ble_eq_true rfl)) dX0_hearClaim_44 ⟨Nat.zero_le _, Nat.zero_le _⟩) hS (fun _ h => h) (fun H locs hP _ hS => ?_)
            have hP : va_P D vwCl (wB ad ck (pKeep (pHear S z h q) (16 * q + z) h) a) H := hP
            have hiK := iv_keep (k := (16 * q + z)) (hJ q hq2).1 (show h % 100 < 10 by omega) (show h ≤ 1999909 by omega)
            have hOK := pO_le hiK (k := (16 * q + z)) (by omega)
            refine W.eq (g2 := F0 m 47 ls []) rfl ?_
            refine lv_aload_n hx hb dX0_hearClaim_47 rfl (lv_at hl 2 rfl) ?_
            refine lv_iload hx hb dX0_hearClaim_48 (lv_at hl 0 rfl) ?_
            refine lv_iload_n hx hb dX0_hearClaim_50 rfl (lv_at hl 4 rfl) ?_
            refine W.callR (W.runV (As := [.int (nI (q)), .int (nI (z))]) (rest := []) ⟨hx, hb, hml, hown, hts⟩ (c0_isSender l D ad ck (pKeep (pHear S z h q) (16 * q + z) h) a hiK q z (by omega) (by omega)) (cwV 2 hts gX0_hearClaim_X0_isSender rfl rfl rfl (by decide +kernel) ⟨Nat.le_of_ble_eq_true rfl, Nat.le_of_ble_eq_true rfl⟩) (PW_pre hK hP (ci := 0) rfl rfl) rfl rfl hl.1 rfl (lv_room (Nat.le_of_ble_eq_true rfl)) dX0_hearClaim_51 ⟨Nat.zero_le _, Nat.zero_le _⟩) ?_
            refine W.eq (g2 := F0 m 54 ls [.int (bI (pS (pKeep (pHear S z h q) (16 * q + z) h) q z))]) rfl ?_
            refine xx_if0 (tgt := 81) hx hb dX0_hearClaim_54 (by decide) (fun h4 => ?_) (fun h4 => ?_)
            · skip
              refine lv_iinc (v := nI (q + 1)) (lv' := [(4, .int (nI (q + 1))), (3, .int (nI (h))), (0, .ref (ad 0)), (1, .int (nI (y))), (2, .int (nI (z)))]) hx hb dX0_hearClaim_81 hl (k := 0) rfl (nI_1 _) (by decide) rfl (fun ls hl => ?_)
              refine lv_goto (tgt := 14) hx hb dX0_hearClaim_84 (by decide) ?_
              have hP : va_P D vwCl (wB ad ck (pHear S z h (q + 1)) a) H := by rw [pHear, h1_go (by omega) h3, h2_no1 h4]; exact hP
              exact ih (q + 1) (by omega) (by omega) H locs hP hS ls (lv_sub hl [0, 1, 2, 3, 4] rfl)
            · skip
              refine lv_aload_n hx hb dX0_hearClaim_57 rfl (lv_at hl 2 rfl) ?_
              refine va_get (D := D) (ci := 0) (v := .ref (ad 2)) (C := RX0) (T := TX0) (N := 10) hx hb hts hin0 hown hK hP 0 rfl rfl 5 (by decide) (hts (.fieldLink RX0 26 "ClaimBench" "ownClaims" "[I") (by decide +kernel)) (fun _ h9 => h9) rfl dX0_hearClaim_58 ?_
              refine lv_iload hx hb dX0_hearClaim_61 (lv_at hl 0 rfl) ?_
              refine lv_iload_n hx hb dX0_hearClaim_63 rfl (lv_at hl 4 rfl) ?_
              refine W.callR (W.runS (As := [.int (nI (q)), .int (nI (z))]) (rest := [.ref (ad 2)]) ⟨hx, hb, hml, hown, hts⟩ (c0_cellOf l q z) (va_cwS 2 hts gX0_hearClaim_X0_cellOf rfl rfl rfl (by decide +kernel) ⟨Nat.le_of_ble_eq_true rfl, Nat.le_of_ble_eq_true rfl⟩) preEq rfl rfl hl.1 rfl (lv_room (Nat.le_of_ble_eq_true rfl)) dX0_hearClaim_64 ⟨Nat.zero_le _, Nat.zero_le _⟩) ?_
              refine W.eq (g2 := F0 m 67 ls [.int (nI (16 * q + z)), .ref (ad 2)]) rfl ?_
              refine xx_ald hx hb hK hP 2 1 (fun c_ => nI (pO (pKeep (pHear S z h q) (16 * q + z) h) c_)) rfl rfl (j := 16 * q + z) (by omega) (by decide) dX0_hearClaim_67 ?_
              refine W.eq (g2 := F0 m 68 ls [.int (nI (pO (pKeep (pHear S z h q) (16 * q + z) h) (16 * q + z)))]) rfl ?_
              refine lv_iload_n hx hb dX0_hearClaim_68 rfl (lv_at hl 1 rfl) ?_
              refine W.callR (W.runS (As := [.int (nI (pO (pKeep (pHear S z h q) (16 * q + z) h) (16 * q + z))), .int (nI (h))]) (rest := []) ⟨hx, hb, hml, hown, hts⟩ (c0_isBetter l (pO (pKeep (pHear S z h q) (16 * q + z) h) (16 * q + z)) h (by omega) (by omega)) (va_cwS 2 hts gX0_hearClaim_X0_isBetter rfl rfl rfl (by decide +kernel) ⟨Nat.le_of_ble_eq_true rfl, Nat.le_of_ble_eq_true rfl⟩) preEq rfl rfl hl.1 rfl (lv_room (Nat.le_of_ble_eq_true rfl)) dX0_hearClaim_69 ⟨Nat.zero_le _, Nat.zero_le _⟩) ?_
              refine W.eq (g2 := F0 m 72 ls [.int (bI (pB (pO (pKeep (pHear S z h q) (16 * q + z) h) (16 * q + z)) h))]) rfl ?_
              refine xx_if0 (tgt := 81) hx hb dX0_hearClaim_72 (by decide) (fun h5 => ?_) (fun h5 => ?_)
              · skip
                refine lv_iinc (v := nI (q + 1)) (lv' := [(4, .int (nI (q + 1))), (3, .int (nI (h))), (0, .ref (ad 0)), (1, .int (nI (y))), (2, .int (nI (z)))]) hx hb dX0_hearClaim_81 hl (k := 0) rfl (nI_1 _) (by decide) rfl (fun ls hl => ?_)
                refine lv_goto (tgt := 14) hx hb dX0_hearClaim_84 (by decide) ?_
                have hP : va_P D vwCl (wB ad ck (pHear S z h (q + 1)) a) H := by rw [pHear, h1_go (by omega) h3, h2_no2 h5]; exact hP
                exact ih (q + 1) (by omega) (by omega) H locs hP hS ls (lv_sub hl [0, 1, 2, 3, 4] rfl)
              · skip
                refine lv_aload_n hx hb dX0_hearClaim_75 rfl (lv_at hl 2 rfl) ?_
                refine lv_iload hx hb dX0_hearClaim_76 (lv_at hl 0 rfl) ?_
                refine xx_callM (W.runV (As := [.int (nI (q))]) (rest := []) ⟨hx, hb, hml, hown, hts⟩ (c0_sayClaim l D ad hd ck (pKeep (pHear S z h q) (16 * q + z) h) a hiK q (pO (pKeep (pHear S z h q) (16 * q + z) h) (16 * q + z)) (pO_mod (by omega) hz16) (by rw [sN_keep]; exact (hJ q hq2).2.2 (by omega) (by rw [← (hJ q hq2).2.1 (16 * q + z), ← pO_keep (pHear S z h q) (16 * q + z) h (16 * q + z)]; exact h5))) (cwV 1 hts gX0_hearClaim_X0_sayClaim rfl rfl rfl (by decide +kernel) ⟨Nat.le_of_ble_eq_true rfl, Nat.le_of_ble_eq_true rfl⟩) (PW_pre hK hP (ci := 0) rfl rfl) rfl rfl hl.1 rfl (lv_room (Nat.le_of_ble_eq_true rfl)) dX0_hearClaim_78 ⟨Nat.zero_le _, Nat.zero_le _⟩) hS (fun _ h => h) (fun H locs hP _ hS => ?_)
                have hP : va_P D vwCl (wB ad ck (pSay (pKeep (pHear S z h q) (16 * q + z) h) (pO (pKeep (pHear S z h q) (16 * q + z) h) (16 * q + z))) a) H := hP
                refine W.eq (g2 := F0 m 81 ls []) rfl ?_
                refine lv_iinc (v := nI (q + 1)) (lv' := [(4, .int (nI (q + 1))), (3, .int (nI (h))), (0, .ref (ad 0)), (1, .int (nI (y))), (2, .int (nI (z)))]) hx hb dX0_hearClaim_81 hl (k := 0) rfl (nI_1 _) (by decide) rfl (fun ls hl => ?_)
                refine lv_goto (tgt := 14) hx hb dX0_hearClaim_84 (by decide) ?_
                have hP : va_P D vwCl (wB ad ck (pHear S z h (q + 1)) a) H := by rw [pHear, h1_go (by omega) h3, h2_go h4 h5]; exact hP
                exact ih (q + 1) (by omega) (by omega) H locs hP hS ls (lv_sub hl [0, 1, 2, 3, 4] rfl)
  exact loop 11 0 (by omega) (by omega) s.heap [] hP hS ls (lv_sub hl [0, 1, 2, 3, 4] rfl)
set_option maxHeartbeats 4000000 in
set_option maxRecDepth 100000 in
theorem c0_data (l : Launch) (D : va_G) (ad : Nat → Nat) (hd : apt 6 ad) (ck : Nat → ClassId) (S : AS) (a : Nat) (hi : iv S) (x y : Int32) : Met l yX0_data wsX0_data ({ frames := 5, cells := 0, slots := 0, locals := 110 }) (PW D (wB ad ck S a) (tyB ck) [.ref (ad 0), .int (x), .int (y)]) (QcM (some (.int (aData S x y))) (fun H => va_P D vwCl (wB ad ck (pDt S x y) (nDt S a x y)) H) (aB ad)) 0 0 (aB ad) := by
  refine Met.ofW (cc := cX0_data) (maxL := 4) (ret := (some .int)) (by decide) rfl ?_
  intro p e s m args below meth c s₁ B hml hv
  obtain ⟨rfl, hP, hK⟩ := hv
  have hx := B.exec
  have hb := B.bytes
  have hr := B.returns
  have hts := atoms_spec (ws := wsX0_data) B.pre
  have hown : s.vm.findClass RX0 = some m.cls := findClass_of_methodNamed B.named
  have hlocks := B.notSynchronized
  have hin0 : ∀ w ∈ wsX00, w ∈ wsX0_data := by decide +kernel
  have hl := lv_entry ([.ref (ad 0), .int (x), .int (y)]) (n := 4) (Nat.le_of_ble_eq_true rfl)
  rw [lg_entry_eq]
  generalize (lg_sl ([.ref (ad 0), .int (x), .int (y)]) ++ List.replicate (4 - (lg_sl ([.ref (ad 0), .int (x), .int (y)])).length) Slot.unset).toArray = ls at hl ⊢
  have hl : lv_has ls 4 [(0, .ref (ad 0)), (1, .int (x)), (2, .int (y))] := hl
  have hS : va_S (aB ad) s.heap s.heap [] := va_S.rf
  refine lv_iload_n hx hb dX0_data_0 rfl (lv_at hl 1 rfl) ?_
  refine W.callR (W.runS (As := [.int (x)]) (rest := []) ⟨hx, hb, hml, hown, hts⟩ (c0_isRouter l ((x))) (va_cwS 1 hts gX0_data_X0_isRouter rfl rfl rfl (by decide +kernel) ⟨Nat.le_of_ble_eq_true rfl, Nat.le_of_ble_eq_true rfl⟩) preEq rfl rfl hl.1 rfl (lv_room (Nat.le_of_ble_eq_true rfl)) dX0_data_1 ⟨Nat.zero_le _, Nat.zero_le _⟩) ?_
  refine W.eq (g2 := F0 m 4 ls [.int (bI (inR 10 ((x))))]) rfl ?_
  refine xx_if0 (tgt := 25) hx hb dX0_data_4 (by decide) (fun h1 => ?_) (fun h1 => ?_)
  · skip
    refine lv_iconst (v := -1) hx hb dX0_data_25 (by decide) ?_
    exact W.iret (v := (-1)) hx hb hr (fun t ht hW => ⟨ro_i (dt_f (a := a) (S := S) (x := x) (y := y) (by rw [h1]; rfl)).1.symm, by rw [ht, (dt_f (a := a) (S := S) (x := x) (y := y) (by rw [h1]; rfl)).2.1, (dt_f (a := a) (S := S) (x := x) (y := y) (by rw [h1]; rfl)).2.2]; exact hP, hS.F ht⟩) hS.2.2 dX0_data_26
  · skip
    obtain ⟨r, hr10, rfl⟩ := inR_t (by decide) h1
    refine lv_iload_n hx hb dX0_data_7 rfl (lv_at hl 2 rfl) ?_
    refine W.callR (W.runS (As := [.int (y)]) (rest := []) ⟨hx, hb, hml, hown, hts⟩ (c0_isSource l ((y))) (va_cwS 1 hts gX0_data_X0_isSource rfl rfl rfl (by decide +kernel) ⟨Nat.le_of_ble_eq_true rfl, Nat.le_of_ble_eq_true rfl⟩) preEq rfl rfl hl.1 rfl (lv_room (Nat.le_of_ble_eq_true rfl)) dX0_data_8 ⟨Nat.zero_le _, Nat.zero_le _⟩) ?_
    refine W.eq (g2 := F0 m 11 ls [.int (bI (inR 16 ((y))))]) rfl ?_
    refine xx_if0 (tgt := 25) hx hb dX0_data_11 (by decide) (fun h2 => ?_) (fun h2 => ?_)
    · skip
      refine lv_iconst (v := -1) hx hb dX0_data_25 (by decide) ?_
      exact W.iret (v := (-1)) hx hb hr (fun t ht hW => ⟨ro_i (dt_f (a := a) (S := S) (x := nI r) (y := y) (by rw [h2, Bool.and_false])).1.symm, by rw [ht, (dt_f (a := a) (S := S) (x := nI r) (y := y) (by rw [h2, Bool.and_false])).2.1, (dt_f (a := a) (S := S) (x := nI r) (y := y) (by rw [h2, Bool.and_false])).2.2]; exact hP, hS.F ht⟩) hS.2.2 dX0_data_26
    · skip
      obtain ⟨z, hz16, rfl⟩ := inR_t (by decide) h2
      refine lv_aload_n hx hb dX0_data_14 rfl (lv_at hl 0 rfl) ?_
      refine va_get (D := D) (ci := 0) (v := .int (nI (bm (fun i_ => !(sG S i_))))) (C := RX0) (T := TX0) (N := 10) hx hb hts hin0 hown hK hP 0 rfl rfl 1 (by decide) (hts (.fieldLink RX0 13 "ClaimBench" "thereBits" "I") (by decide +kernel)) (fun _ h9 => h9) rfl dX0_data_15 ?_
      refine lv_iload_n hx hb dX0_data_18 rfl (lv_at hl 1 rfl) ?_
      refine W.callR (W.runS (As := [.int (nI (bm (fun i_ => !(sG S i_)))), .int (nI (r))]) (rest := []) ⟨hx, hb, hml, hown, hts⟩ (c0_hasBit l (fun i_ => !(sG S i_)) r (by omega)) (va_cwS 2 hts gX0_data_X0_hasBit rfl rfl rfl (by decide +kernel) ⟨Nat.le_of_ble_eq_true rfl, Nat.le_of_ble_eq_true rfl⟩) preEq rfl rfl hl.1 rfl (lv_room (Nat.le_of_ble_eq_true rfl)) dX0_data_19 ⟨Nat.zero_le _, Nat.zero_le _⟩) ?_
      refine W.eq (g2 := F0 m 22 ls [.int (bI ((fun i_ => !(sG S i_)) r))]) rfl ?_
      refine xx_if1 (tgt := 27) hx hb dX0_data_22 (by decide) (fun h3 => ?_) (fun h3 => ?_)
      · skip
        have hG : sG S r = false := by have q9 : (!(sG S r)) = true := h3; simpa using q9
        refine lv_aload_n hx hb dX0_data_27 rfl (lv_at hl 0 rfl) ?_
        refine lv_iconst (v := nI 0) hx hb dX0_data_28 (by decide) ?_
        refine va_put (D := D) (ci := 0) (v := .int (nI (0))) (ty := .int) (C := RX0) (T := TX0) (N := 10) hx hb hts hin0 tyX0 tyX0_ok nmX0 hown hK hP (dB hd ck _ _) hS 0 rfl rfl 9 (by decide) (hts (.fieldLink RX0 38 "ClaimBench" "rowLength" "I") (by decide +kernel)) (fun _ h9 => h9) rfl (by decide +kernel) rfl rfl (Nat.le_of_ble_eq_true rfl) dX0_data_29 (fun H locs hP _ hS => ?_)
        have hP : va_P D vwCl (wB ad ck (uN S 0) a) H := hP
        refine lv_aload_n hx hb dX0_data_32 rfl (lv_at hl 0 rfl) ?_
        refine lv_iload_n hx hb dX0_data_33 rfl (lv_at hl 1 rfl) ?_
        refine lv_iload_n hx hb dX0_data_34 rfl (lv_at hl 2 rfl) ?_
        refine xx_callM (W.runV (As := [.int (nI (r)), .int (nI (z))]) (rest := []) ⟨hx, hb, hml, hown, hts⟩ (c0_sayFirstClaims l D ad hd ck (uN S 0) a (iv_n0 hi) r z (by omega) (by omega) rfl) (cwV 2 hts gX0_data_X0_sayFirstClaims rfl rfl rfl (by decide +kernel) ⟨Nat.le_of_ble_eq_true rfl, Nat.le_of_ble_eq_true rfl⟩) (PW_pre hK hP (ci := 0) rfl rfl) rfl rfl hl.1 rfl (lv_room (Nat.le_of_ble_eq_true rfl)) dX0_data_35 ⟨Nat.zero_le _, Nat.zero_le _⟩) hS (fun _ h => h) (fun H locs hP _ hS => ?_)
        have hP : va_P D vwCl (wB ad ck (pFirst (uN S 0) r z 10) a) H := hP
        refine W.eq (g2 := F0 m 38 ls []) rfl ?_
        refine lv_iconst (v := nI 0) hx hb dX0_data_38 (by decide) ?_
        refine lv_istore_n (lv' := [(3, .int (nI (0))), (0, .ref (ad 0)), (1, .int (nI (r))), (2, .int (nI (z)))]) hx hb dX0_data_39 rfl hl (by decide) rfl (fun ls hl => ?_)
        have loop : ∀ (f k : Nat) (S' : AS), 1024 ≤ f + k → DI S' z k → pRun z f k S' = pData S r z → ∀ (H : Heap) (locs : List Loc), va_P D vwCl (wB ad ck S' a) H → va_S (aB ad) s.heap H locs → ∀ (ls : Array Slot), lv_has ls 4 [(3, .int (nI (k))), (0, .ref (ad 0)), (1, .int (nI (r))), (2, .int (nI (z)))] → W p l e (headSpec wsX0_data ({ frames := 5, cells := 0, slots := 0, locals := 110 })).room s m ([.ref (ad 0), .int (nI (r)), .int (nI (z))] : List Value).toArray below meth c H locs 0 0 (MQ below (QcM (some (.int (aData S (nI r) (nI z)))) (fun H => va_P D vwCl (wB ad ck (pDt S (nI r) (nI z)) (nDt S a (nI r) (nI z))) H) (aB ad)) ([.ref (ad 0), .int (nI (r)), .int (nI (z))] : List Value).toArray s 0 0 (aB ad)) (F0 m 40 ls []) := by
          intro f
          induction f with
          | zero => exact fun k S' h1 hD => absurd hD.2.1 (by have := hD.1.2.2.2.2.1; omega)
          | succ f ih =>
            intro k S' hf hD hR H locs hP hS ls hl
            have hN := hD.1.2.2.2.2.1
            have hkN := hD.2.1
            refine lv_iload_n hx hb dX0_data_40 rfl (lv_at hl 0 rfl) ?_
            refine lv_aload_n hx hb dX0_data_41 rfl (lv_at hl 1 rfl) ?_
            refine va_get (D := D) (ci := 0) (v := .int (nI (sN (S')))) (C := RX0) (T := TX0) (N := 10) hx hb hts hin0 hown hK hP 0 rfl rfl 9 (by decide) (hts (.fieldLink RX0 38 "ClaimBench" "rowLength" "I") (by decide +kernel)) (fun _ h9 => h9) rfl dX0_data_42 ?_
            refine xx_ge (tgt := 72) hx hb dX0_data_45 (by decide) (by omega) (by omega) (fun h4 => ?_) (fun h4 => ?_)
            · skip
              have hE : pData S r z = S' := by rw [← hR, pRun, if_neg (by omega)]
              refine lv_aload_n hx hb dX0_data_72 rfl (lv_at hl 1 rfl) ?_
              refine lv_dup hx hb dX0_data_73 rfl ?_
              refine va_get (D := D) (ci := 0) (v := .int (nI (a))) (C := RX0) (T := TX0) (N := 10) hx hb hts hin0 hown hK hP 0 rfl rfl 3 (by decide) (hts (.fieldLink RX0 19 "ClaimBench" "saidInAll" "I") (by decide +kernel)) (fun _ h9 => h9) rfl dX0_data_74 ?_
              refine lv_aload_n hx hb dX0_data_77 rfl (lv_at hl 1 rfl) ?_
              refine va_get (D := D) (ci := 0) (v := .int (nI (sN (S')))) (C := RX0) (T := TX0) (N := 10) hx hb hts hin0 hown hK hP 0 rfl rfl 9 (by decide) (hts (.fieldLink RX0 38 "ClaimBench" "rowLength" "I") (by decide +kernel)) (fun _ h9 => h9) rfl dX0_data_78 ?_
              refine xx_add hx hb dX0_data_81 ?_
              refine va_put (D := D) (ci := 0) (v := .int (nI (a + (sN (S'))))) (ty := .int) (C := RX0) (T := TX0) (N := 10) hx hb hts hin0 tyX0 tyX0_ok nmX0 hown hK hP (dB hd ck _ _) hS 0 rfl rfl 3 (by decide) (hts (.fieldLink RX0 19 "ClaimBench" "saidInAll" "I") (by decide +kernel)) (fun _ h9 => h9) rfl (by decide +kernel) rfl rfl (Nat.le_of_ble_eq_true rfl) dX0_data_82 (fun H locs hP _ hS => ?_)
              have hP : va_P D vwCl (wB ad ck (S') (a + sN S')) H := hP
              refine lv_aload_n hx hb dX0_data_85 rfl (lv_at hl 1 rfl) ?_
              refine va_get (D := D) (ci := 0) (v := .int (nI (sN (S')))) (C := RX0) (T := TX0) (N := 10) hx hb hts hin0 hown hK hP 0 rfl rfl 9 (by decide) (hts (.fieldLink RX0 38 "ClaimBench" "rowLength" "I") (by decide +kernel)) (fun _ h9 => h9) rfl dX0_data_86 ?_
              exact W.iret (v := (nI (sN (S')))) hx hb hr (fun t ht hW => ⟨ro_i (dt_t (a := a) hr10 hz16 hG hE).1.symm, by rw [ht, (dt_t (a := a) hr10 hz16 hG hE).2.1, (dt_t (a := a) hr10 hz16 hG hE).2.2]; exact hP, hS.F ht⟩) hS.2.2 dX0_data_89
            · skip
              have hk : k < sN S' := h4
              have hrow := hD.2.2.1 k hk
              refine lv_iload_n hx hb dX0_data_48 rfl (lv_at hl 0 rfl) ?_
              refine lv_sipush (v := nI 1023) hx hb dX0_data_49 (by decide) ?_
              refine xx_ge (tgt := 72) hx hb dX0_data_52 (by decide) (by omega) (by omega) (fun h5 => ?_) (fun h5 => ?_)
              · skip
                exact absurd h5 (by omega)
              · skip
                refine lv_aload_n hx hb dX0_data_55 rfl (lv_at hl 1 rfl) ?_
                refine lv_aload_n hx hb dX0_data_56 rfl (lv_at hl 1 rfl) ?_
                refine va_get (D := D) (ci := 0) (v := .ref (ad 5)) (C := RX0) (T := TX0) (N := 10) hx hb hts hin0 hown hK hP 0 rfl rfl 8 (by decide) (hts (.fieldLink RX0 35 "ClaimBench" "row" "[I") (by decide +kernel)) (fun _ h9 => h9) rfl dX0_data_57 ?_
                refine lv_iload_n hx hb dX0_data_60 rfl (lv_at hl 0 rfl) ?_
                refine xx_ald hx hb hK hP 5 4 (fun c_ => nI (sR (S') c_ % 100)) rfl rfl (j := k) (by omega) (by decide) dX0_data_61 ?_
                refine W.eq (g2 := F0 m 62 ls [.int (nI (sR (S') k % 100)), .ref (ad 0)]) rfl ?_
                refine lv_iload_n hx hb dX0_data_62 rfl (lv_at hl 3 rfl) ?_
                refine xx_callM (W.runV (As := [.int (nI (sR (S') k % 100)), .int (nI (z))]) (rest := []) ⟨hx, hb, hml, hown, hts⟩ (c0_hearClaim l D ad hd ck (S') a hD.1 (sR (S') k % 100) z (sR S' k) hrow.1 (by omega) hrow.2.symm rfl (hD.1.2.2.2.2.2 k) (fun q hq => ⟨(hear_inv hz16 hD hk q hq).1, (hear_inv hz16 hD hk q hq).2.1, HI_n (hear_inv hz16 hD hk q hq)⟩)) (cwV 2 hts gX0_data_X0_hearClaim rfl rfl rfl (by decide +kernel) ⟨Nat.le_of_ble_eq_true rfl, Nat.le_of_ble_eq_true rfl⟩) (PW_pre hK hP (ci := 0) rfl rfl) rfl rfl hl.1 rfl (lv_room (Nat.le_of_ble_eq_true rfl)) dX0_data_63 ⟨Nat.zero_le _, Nat.zero_le _⟩) hS (fun _ h => h) (fun H locs hP _ hS => ?_)
                have hP : va_P D vwCl (wB ad ck (pHear S' z (sR S' k) 10) a) H := hP
                refine W.eq (g2 := F0 m 66 ls []) rfl ?_
                refine lv_iinc (v := nI (k + 1)) (lv' := [(3, .int (nI (k + 1))), (0, .ref (ad 0)), (1, .int (nI (r))), (2, .int (nI (z)))]) hx hb dX0_data_66 hl (k := 0) rfl (nI_1 _) (by decide) rfl (fun ls hl => ?_)
                refine lv_goto (tgt := 40) hx hb dX0_data_69 (by decide) ?_
                exact ih (k + 1) (pHear S' z (sR S' k) 10) (by omega) (hear_DI hz16 hD hk) (by rw [← hR, pRun, if_pos hk]) H locs hP hS ls (lv_sub hl [0, 1, 2, 3] rfl)
        exact loop 1024 0 (pFirst (uN S 0) r z 10) (by omega) (first_DI (iv_n0 hi) rfl hz16) rfl H locs hP hS ls (lv_sub hl [0, 1, 2, 3] rfl)
      · skip
        have hG : sG S r = true := by have q9 : (!(sG S r)) = false := h3; simpa using q9
        refine lv_iconst (v := -1) hx hb dX0_data_25 (by decide) ?_
        exact W.iret (v := (-1)) hx hb hr (fun t ht hW => ⟨ro_i (dt_g (a := a) hr10 hz16 hG).1.symm, by rw [ht, (dt_g (a := a) hr10 hz16 hG).2.1, (dt_g (a := a) hr10 hz16 hG).2.2]; exact hP, hS.F ht⟩) hS.2.2 dX0_data_26
set_option maxHeartbeats 4000000 in
set_option maxRecDepth 100000 in
theorem c1_data (l : Launch) (D : va_G) (ad : Nat → Nat) (hd : apt 9 ad) (ck : Nat → ClassId) (S : AS) (a : Nat) (hi : iv S) (x y : Int32) : Met l yX1_data wsX1_data ({ frames := 4, cells := 0, slots := 0, locals := 92 }) (PW D (wM ad ck S a) (tyM ck) [.ref (ad 0), .int (x), .int (y)]) (QcM (some (.int (aData S x y))) (fun H => va_P D vwCl (wM ad ck (pDt S x y) (nDt S a x y)) H) (aM ad)) 0 0 (aM ad) := by
  refine Met.ofW (cc := cX1_data) (maxL := 5) (ret := (some .int)) (by decide) rfl ?_
  intro p e s m args below meth c s₁ B hml hv
  obtain ⟨rfl, hP, hK⟩ := hv
  have hx := B.exec
  have hb := B.bytes
  have hr := B.returns
  have hts := atoms_spec (ws := wsX1_data) B.pre
  have hown : s.vm.findClass RX1 = some m.cls := findClass_of_methodNamed B.named
  have hlocks := B.notSynchronized
  have hin0 : ∀ w ∈ wsX10, w ∈ wsX1_data := by decide +kernel
  have hl := lv_entry ([.ref (ad 0), .int (x), .int (y)]) (n := 5) (Nat.le_of_ble_eq_true rfl)
  rw [lg_entry_eq]
  generalize (lg_sl ([.ref (ad 0), .int (x), .int (y)]) ++ List.replicate (5 - (lg_sl ([.ref (ad 0), .int (x), .int (y)])).length) Slot.unset).toArray = ls at hl ⊢
  have hl : lv_has ls 5 [(0, .ref (ad 0)), (1, .int (x)), (2, .int (y))] := hl
  have hS : va_S (aM ad) s.heap s.heap [] := va_S.rf
  refine lv_iload_n hx hb dX1_data_0 rfl (lv_at hl 1 rfl) ?_
  refine lv_iload_n hx hb dX1_data_1 rfl (lv_at hl 2 rfl) ?_
  refine W.callR (W.runS (As := [.int (x), .int (y)]) (rest := []) ⟨hx, hb, hml, hown, hts⟩ (c1_isPair l ((x)) ((y))) (va_cwS 2 hts gX1_data_X1_isPair rfl rfl rfl (by decide +kernel) ⟨Nat.le_of_ble_eq_true rfl, Nat.le_of_ble_eq_true rfl⟩) preEq rfl rfl hl.1 rfl (lv_room (Nat.le_of_ble_eq_true rfl)) dX1_data_2 ⟨Nat.zero_le _, Nat.zero_le _⟩) ?_
  refine W.eq (g2 := F0 m 5 ls [.int (bI (inR 10 ((x)) && inR 16 ((y))))]) rfl ?_
  refine xx_if0 (tgt := 17) hx hb dX1_data_5 (by decide) (fun h1 => ?_) (fun h1 => ?_)
  · skip
    refine lv_iconst (v := -1) hx hb dX1_data_17 (by decide) ?_
    exact W.iret (v := (-1)) hx hb hr (fun t ht hW => ⟨ro_i (dt_f (a := a) (S := S) (x := x) (y := y) h1).1.symm, by rw [ht, (dt_f (a := a) (S := S) (x := x) (y := y) h1).2.1, (dt_f (a := a) (S := S) (x := x) (y := y) h1).2.2]; exact hP, hS.F ht⟩) hS.2.2 dX1_data_18
  · skip
    obtain ⟨hp1, hp2⟩ := (Bool.and_eq_true _ _).mp h1
    obtain ⟨r, hr10, rfl⟩ := inR_t (by decide) hp1
    obtain ⟨z, hz16, rfl⟩ := inR_t (by decide) hp2
    refine lv_aload_n hx hb dX1_data_8 rfl (lv_at hl 0 rfl) ?_
    refine va_get (D := D) (ci := 1) (v := .ref (ad 1)) (C := RX1) (T := TX1) (N := 11) hx hb hts hin0 hown hK hP 0 rfl rfl 2 (by decide) (hts (.fieldLink RX1 7 "ClaimBenchModel" "isGone" "[Z") (by decide +kernel)) (fun _ h9 => h9) rfl dX1_data_9 ?_
    refine lv_iload_n hx hb dX1_data_12 rfl (lv_at hl 1 rfl) ?_
    refine xx_zld hx hb hK hP 1 0 (fun c_ => bI (sG S c_)) rfl rfl (j := r) (by omega) (by decide) dX1_data_13 ?_
    refine W.eq (g2 := F0 m 14 ls [.int (bI (sG S r))]) rfl ?_
    refine xx_if0 (tgt := 19) hx hb dX1_data_14 (by decide) (fun h2 => ?_) (fun h2 => ?_)
    · skip
      refine lv_aload_n hx hb dX1_data_19 rfl (lv_at hl 0 rfl) ?_
      refine lv_iconst (v := nI 0) hx hb dX1_data_20 (by decide) ?_
      refine va_put (D := D) (ci := 1) (v := .int (nI (0))) (ty := .int) (C := RX1) (T := TX1) (N := 11) hx hb hts hin0 tyX1 tyX1_ok nmX1 hown hK hP (dM hd ck _ _) hS 0 rfl rfl 10 (by decide) (hts (.fieldLink RX1 62 "ClaimBenchModel" "many" "I") (by decide +kernel)) (fun _ h9 => h9) rfl (by decide +kernel) rfl rfl (Nat.le_of_ble_eq_true rfl) dX1_data_21 (fun H locs hP _ hS => ?_)
      have hP : va_P D vwCl (wM ad ck (uN S 0) a) H := hP
      refine lv_iconst (v := nI 0) hx hb dX1_data_24 (by decide) ?_
      refine lv_istore_n (lv' := [(3, .int (nI (0))), (0, .ref (ad 0)), (1, .int (nI (r))), (2, .int (nI (z)))]) hx hb dX1_data_25 rfl hl (by decide) rfl (fun ls hl => ?_)
      have hF := first_inv (iv_n0 hi) rfl (r := r) hz16
      have loop2 : ∀ (f k : Nat) (S' : AS), 1024 ≤ f + k → DI S' z k → pRun z f k S' = pData S r z → ∀ (H : Heap) (locs : List Loc), va_P D vwCl (wM ad ck S' (a + sN S')) H → va_S (aM ad) s.heap H locs → ∀ (ls : Array Slot), lv_has ls 5 [(3, .int (nI (k))), (0, .ref (ad 0)), (1, .int (nI (r))), (2, .int (nI (z)))] → W p l e (headSpec wsX1_data ({ frames := 4, cells := 0, slots := 0, locals := 92 })).room s m ([.ref (ad 0), .int (nI (r)), .int (nI (z))] : List Value).toArray below meth c H locs 0 0 (MQ below (QcM (some (.int (aData S (nI r) (nI z)))) (fun H => va_P D vwCl (wM ad ck (pDt S (nI r) (nI z)) (nDt S a (nI r) (nI z))) H) (aM ad)) ([.ref (ad 0), .int (nI (r)), .int (nI (z))] : List Value).toArray s 0 0 (aM ad)) (F0 m 69 ls []) := by
        intro f
        induction f with
        | zero => exact fun k S' h1 hD => absurd hD.2.1 (by have := hD.1.2.2.2.2.1; omega)
        | succ f ih2 =>
          intro k S' hf hD hR H locs hP hS ls hl
          have hN := hD.1.2.2.2.2.1
          have hkN := hD.2.1
          have hRk := hD.1.2.2.2.2.2 k
          refine lv_iload_n hx hb dX1_data_69 rfl (lv_at hl 0 rfl) ?_
          refine lv_aload_n hx hb dX1_data_70 rfl (lv_at hl 1 rfl) ?_
          refine va_get (D := D) (ci := 1) (v := .int (nI (sN (S')))) (C := RX1) (T := TX1) (N := 11) hx hb hts hin0 hown hK hP 0 rfl rfl 10 (by decide) (hts (.fieldLink RX1 62 "ClaimBenchModel" "many" "I") (by decide +kernel)) (fun _ h9 => h9) rfl dX1_data_71 ?_
          refine xx_ge (tgt := 146) hx hb dX1_data_74 (by decide) (by omega) (by omega) (fun h3 => ?_) (fun h3 => ?_)
          · skip
            have hE : pData S r z = S' := by rw [← hR, pRun, if_neg (by omega)]
            refine lv_aload_n hx hb dX1_data_146 rfl (lv_at hl 1 rfl) ?_
            refine va_get (D := D) (ci := 1) (v := .int (nI (sN (S')))) (C := RX1) (T := TX1) (N := 11) hx hb hts hin0 hown hK hP 0 rfl rfl 10 (by decide) (hts (.fieldLink RX1 62 "ClaimBenchModel" "many" "I") (by decide +kernel)) (fun _ h9 => h9) rfl dX1_data_147 ?_
            exact W.iret (v := (nI (sN (S')))) hx hb hr (fun t ht hW => ⟨ro_i (dt_t (a := a) hr10 hz16 h2 hE).1.symm, by rw [ht, (dt_t (a := a) hr10 hz16 h2 hE).2.1, (dt_t (a := a) hr10 hz16 h2 hE).2.2]; exact hP, hS.F ht⟩) hS.2.2 dX1_data_150
          · skip
            have hk : k < sN S' := h3
            have hrow := hD.2.2.1 k hk
            have hI := hear_inv hz16 hD hk
            refine lv_iconst (v := nI 0) hx hb dX1_data_77 (by decide) ?_
            refine lv_istore (lv' := [(4, .int (nI (0))), (3, .int (nI (k))), (0, .ref (ad 0)), (1, .int (nI (r))), (2, .int (nI (z)))]) hx hb dX1_data_78 hl (by decide) rfl (fun ls hl => ?_)
            have loop3 : ∀ (n q : Nat), 10 < q + n → q ≤ 10 → ∀ (H : Heap) (locs : List Loc), va_P D vwCl (wM ad ck (pHear S' z (sR S' k) q) (a + sN (pHear S' z (sR S' k) q))) H → va_S (aM ad) s.heap H locs → ∀ (ls : Array Slot), lv_has ls 5 [(4, .int (nI (q))), (3, .int (nI (k))), (0, .ref (ad 0)), (1, .int (nI (r))), (2, .int (nI (z)))] → W p l e (headSpec wsX1_data ({ frames := 4, cells := 0, slots := 0, locals := 92 })).room s m ([.ref (ad 0), .int (nI (r)), .int (nI (z))] : List Value).toArray below meth c H locs 0 0 (MQ below (QcM (some (.int (aData S (nI r) (nI z)))) (fun H => va_P D vwCl (wM ad ck (pDt S (nI r) (nI z)) (nDt S a (nI r) (nI z))) H) (aM ad)) ([.ref (ad 0), .int (nI (r)), .int (nI (z))] : List Value).toArray s 0 0 (aM ad)) (F0 m 80 ls []) := by
              intro n
              induction n with
              | zero => exact fun q h1 h2 => absurd h1 (by omega)
              | succ n ih =>
                intro q hq1 hq2 H locs hP hS ls hl
                refine lv_iload hx hb dX1_data_80 (lv_at hl 0 rfl) ?_
                refine lv_bipush (v := nI 10) hx hb dX1_data_82 (by decide) ?_
                refine xx_ge (tgt := 140) hx hb dX1_data_84 (by decide) (by omega) (by omega) (fun h4 => ?_) (fun h4 => ?_)
                · skip
                  refine lv_iinc (v := nI (k + 1)) (lv' := [(3, .int (nI (k + 1))), (4, .int (nI (q))), (0, .ref (ad 0)), (1, .int (nI (r))), (2, .int (nI (z)))]) hx hb dX1_data_140 hl (k := 1) rfl (nI_1 _) (by decide) rfl (fun ls hl => ?_)
                  refine lv_goto (tgt := 69) hx hb dX1_data_143 (by decide) ?_
                  rw [show q = 10 by omega] at hP
                  exact ih2 (k + 1) (pHear S' z (sR S' k) 10) (by omega) (hear_DI hz16 hD hk) (by rw [← hR, pRun, if_pos hk]) H locs hP hS ls (lv_sub hl [0, 2, 3, 4] rfl)
                · skip
                  refine lv_iload hx hb dX1_data_87 (lv_at hl 0 rfl) ?_
                  refine lv_aload_n hx hb dX1_data_89 rfl (lv_at hl 2 rfl) ?_
                  refine va_get (D := D) (ci := 1) (v := .ref (ad 8)) (C := RX1) (T := TX1) (N := 11) hx hb hts hin0 hown hK hP 0 rfl rfl 9 (by decide) (hts (.fieldLink RX1 32 "ClaimBenchModel" "row" "[I") (by decide +kernel)) (fun _ h9 => h9) rfl dX1_data_90 ?_
                  refine lv_iload_n hx hb dX1_data_93 rfl (lv_at hl 1 rfl) ?_
                  refine xx_ald hx hb hK hP 8 7 (fun c_ => nI (sR (pHear S' z (sR S' k) q) c_)) rfl rfl (j := k) (by omega) (by decide) dX1_data_94 ?_
                  refine W.eq (g2 := F0 m 95 ls [.int (nI (sR (pHear S' z (sR S' k) q) k)), .int (nI (q))]) rfl ?_
                  refine xx_top (nI (sR S' k)) (congrArg nI (hI q hq2).2.2.2.2.1) ?_
                  refine lv_bipush (v := nI 100) hx hb dX1_data_95 (by decide) ?_
                  refine xx_rem hx hb dX1_data_97 (by omega) (by decide) (by decide) ?_
                  refine xx_eq (tgt := 134) hx hb dX1_data_98 (by decide) (by omega) (by omega) (fun h5 => ?_) (fun h5 => ?_)
                  · skip
                    refine lv_iinc (v := nI (q + 1)) (lv' := [(4, .int (nI (q + 1))), (3, .int (nI (k))), (0, .ref (ad 0)), (1, .int (nI (r))), (2, .int (nI (z)))]) hx hb dX1_data_134 hl (k := 0) rfl (nI_1 _) (by decide) rfl (fun ls hl => ?_)
                    refine lv_goto (tgt := 80) hx hb dX1_data_137 (by decide) ?_
                    have hP : va_P D vwCl (wM ad ck (pHear S' z (sR S' k) (q + 1)) (a + sN (pHear S' z (sR S' k) (q + 1)))) H := by rw [pHear, h1_no1 h5]; exact hP
                    exact ih (q + 1) (by omega) (by omega) H locs hP hS ls (lv_sub hl [0, 1, 2, 3, 4] rfl)
                  · skip
                    refine lv_aload_n hx hb dX1_data_101 rfl (lv_at hl 2 rfl) ?_
                    refine va_get (D := D) (ci := 1) (v := .ref (ad 1)) (C := RX1) (T := TX1) (N := 11) hx hb hts hin0 hown hK hP 0 rfl rfl 2 (by decide) (hts (.fieldLink RX1 7 "ClaimBenchModel" "isGone" "[Z") (by decide +kernel)) (fun _ h9 => h9) rfl dX1_data_102 ?_
                    refine lv_iload hx hb dX1_data_105 (lv_at hl 0 rfl) ?_
                    refine xx_zld hx hb hK hP 1 0 (fun c_ => bI (sG (pHear S' z (sR S' k) q) c_)) rfl rfl (j := q) (by omega) (by decide) dX1_data_107 ?_
                    refine W.eq (g2 := F0 m 108 ls [.int (bI (sG (pHear S' z (sR S' k) q) q))]) rfl ?_
                    refine xx_if1 (tgt := 134) hx hb dX1_data_108 (by decide) (fun h6 => ?_) (fun h6 => ?_)
                    · skip
                      refine lv_iinc (v := nI (q + 1)) (lv' := [(4, .int (nI (q + 1))), (3, .int (nI (k))), (0, .ref (ad 0)), (1, .int (nI (r))), (2, .int (nI (z)))]) hx hb dX1_data_134 hl (k := 0) rfl (nI_1 _) (by decide) rfl (fun ls hl => ?_)
                      refine lv_goto (tgt := 80) hx hb dX1_data_137 (by decide) ?_
                      have hP : va_P D vwCl (wM ad ck (pHear S' z (sR S' k) (q + 1)) (a + sN (pHear S' z (sR S' k) (q + 1)))) H := by rw [pHear, h1_no2 (pH_g h6)]; exact hP
                      exact ih (q + 1) (by omega) (by omega) H locs hP hS ls (lv_sub hl [0, 1, 2, 3, 4] rfl)
                    · skip
                      refine lv_aload_n hx hb dX1_data_111 rfl (lv_at hl 2 rfl) ?_
                      refine va_get (D := D) (ci := 1) (v := .ref (ad 2)) (C := RX1) (T := TX1) (N := 11) hx hb hts hin0 hown hK hP 0 rfl rfl 3 (by decide) (hts (.fieldLink RX1 13 "ClaimBenchModel" "isDeaf" "[Z") (by decide +kernel)) (fun _ h9 => h9) rfl dX1_data_112 ?_
                      refine lv_iload hx hb dX1_data_115 (lv_at hl 0 rfl) ?_
                      refine xx_zld hx hb hK hP 2 1 (fun c_ => bI (sD (pHear S' z (sR S' k) q) c_)) rfl rfl (j := q) (by omega) (by decide) dX1_data_117 ?_
                      refine W.eq (g2 := F0 m 118 ls [.int (bI (sD (pHear S' z (sR S' k) q) q))]) rfl ?_
                      refine xx_if1 (tgt := 134) hx hb dX1_data_118 (by decide) (fun h7 => ?_) (fun h7 => ?_)
                      · skip
                        refine lv_iinc (v := nI (q + 1)) (lv' := [(4, .int (nI (q + 1))), (3, .int (nI (k))), (0, .ref (ad 0)), (1, .int (nI (r))), (2, .int (nI (z)))]) hx hb dX1_data_134 hl (k := 0) rfl (nI_1 _) (by decide) rfl (fun ls hl => ?_)
                        refine lv_goto (tgt := 80) hx hb dX1_data_137 (by decide) ?_
                        have hP : va_P D vwCl (wM ad ck (pHear S' z (sR S' k) (q + 1)) (a + sN (pHear S' z (sR S' k) (q + 1)))) H := by rw [pHear, h1_no2 (pH_d h7)]; exact hP
                        exact ih (q + 1) (by omega) (by omega) H locs hP hS ls (lv_sub hl [0, 1, 2, 3, 4] rfl)
                      · skip
                        refine lv_aload_n hx hb dX1_data_121 rfl (lv_at hl 2 rfl) ?_
                        refine lv_iload hx hb dX1_data_122 (lv_at hl 0 rfl) ?_
                        refine lv_iload_n hx hb dX1_data_124 rfl (lv_at hl 4 rfl) ?_
                        refine lv_aload_n hx hb dX1_data_125 rfl (lv_at hl 2 rfl) ?_
                        refine va_get (D := D) (ci := 1) (v := .ref (ad 8)) (C := RX1) (T := TX1) (N := 11) hx hb hts hin0 hown hK hP 0 rfl rfl 9 (by decide) (hts (.fieldLink RX1 32 "ClaimBenchModel" "row" "[I") (by decide +kernel)) (fun _ h9 => h9) rfl dX1_data_126 ?_
                        refine lv_iload_n hx hb dX1_data_129 rfl (lv_at hl 1 rfl) ?_
                        refine xx_ald hx hb hK hP 8 7 (fun c_ => nI (sR (pHear S' z (sR S' k) q) c_)) rfl rfl (j := k) (by omega) (by decide) dX1_data_130 ?_
                        refine W.eq (g2 := F0 m 131 ls [.int (nI (sR (pHear S' z (sR S' k) q) k)), .int (nI (z)), .int (nI (q)), .ref (ad 0)]) rfl ?_
                        refine xx_top (nI (sR S' k)) (congrArg nI (hI q hq2).2.2.2.2.1) ?_
                        refine xx_callM (W.runV (As := [.int (nI (q)), .int (nI (z)), .int (nI (sR S' k))]) (rest := []) ⟨hx, hb, hml, hown, hts⟩ (c1_hear l D ad hd ck (pHear S' z (sR S' k) q) a (hI q hq2).1 q z (sR S' k) (by omega) (by omega) (hD.1.2.2.2.2.2 k) hrow.1 (fun hb9 => HI_n (hI q hq2) (by omega) (by rw [← (hI q hq2).2.1 (16 * q + z)]; exact hb9))) (cwV 3 hts gX1_data_X1_hear rfl rfl rfl (by decide +kernel) ⟨Nat.le_of_ble_eq_true rfl, Nat.le_of_ble_eq_true rfl⟩) (PW_pre hK hP (ci := 1) rfl rfl) rfl rfl hl.1 rfl (lv_room (Nat.le_of_ble_eq_true rfl)) dX1_data_131 ⟨Nat.zero_le _, Nat.zero_le _⟩) hS (fun _ h => h) (fun H locs hP _ hS => ?_)
                        have hP : va_P D vwCl (wM ad ck (pH2 (pKeep (pHear S' z (sR S' k) q) (16 * q + z) (sR S' k)) z (sR S' k) q) (a + sN (pH2 (pKeep (pHear S' z (sR S' k) q) (16 * q + z) (sR S' k)) z (sR S' k) q))) H := hP
                        refine W.eq (g2 := F0 m 134 ls []) rfl ?_
                        refine lv_iinc (v := nI (q + 1)) (lv' := [(4, .int (nI (q + 1))), (3, .int (nI (k))), (0, .ref (ad 0)), (1, .int (nI (r))), (2, .int (nI (z)))]) hx hb dX1_data_134 hl (k := 0) rfl (nI_1 _) (by decide) rfl (fun ls hl => ?_)
                        refine lv_goto (tgt := 80) hx hb dX1_data_137 (by decide) ?_
                        have hP : va_P D vwCl (wM ad ck (pHear S' z (sR S' k) (q + 1)) (a + sN (pHear S' z (sR S' k) (q + 1)))) H := by rw [pHear, h1_go h5 (pH_t h6 h7)]; exact hP
                        exact ih (q + 1) (by omega) (by omega) H locs hP hS ls (lv_sub hl [0, 1, 2, 3, 4] rfl)
            exact loop3 11 0 (by omega) (by omega) H locs hP hS ls (lv_sub hl [0, 1, 2, 3, 4] rfl)
      have loop1 : ∀ (n q : Nat), 10 < q + n → q ≤ 10 → ∀ (H : Heap) (locs : List Loc), va_P D vwCl (wM ad ck (pFirst (uN S 0) r z q) (a + sN (pFirst (uN S 0) r z q))) H → va_S (aM ad) s.heap H locs → ∀ (ls : Array Slot), lv_has ls 5 [(3, .int (nI (q))), (0, .ref (ad 0)), (1, .int (nI (r))), (2, .int (nI (z)))] → W p l e (headSpec wsX1_data ({ frames := 4, cells := 0, slots := 0, locals := 92 })).room s m ([.ref (ad 0), .int (nI (r)), .int (nI (z))] : List Value).toArray below meth c H locs 0 0 (MQ below (QcM (some (.int (aData S (nI r) (nI z)))) (fun H => va_P D vwCl (wM ad ck (pDt S (nI r) (nI z)) (nDt S a (nI r) (nI z))) H) (aM ad)) ([.ref (ad 0), .int (nI (r)), .int (nI (z))] : List Value).toArray s 0 0 (aM ad)) (F0 m 26 ls []) := by
        intro n
        induction n with
        | zero => exact fun q h1 h2 => absurd h1 (by omega)
        | succ n ih =>
          intro q hq1 hq2 H locs hP hS ls hl
          refine lv_iload_n hx hb dX1_data_26 rfl (lv_at hl 0 rfl) ?_
          refine lv_bipush (v := nI 10) hx hb dX1_data_27 (by decide) ?_
          refine xx_ge (tgt := 67) hx hb dX1_data_29 (by decide) (by omega) (by omega) (fun h8 => ?_) (fun h8 => ?_)
          · skip
            refine lv_iconst (v := nI 0) hx hb dX1_data_67 (by decide) ?_
            refine lv_istore_n (lv' := [(3, .int (nI (0))), (0, .ref (ad 0)), (1, .int (nI (r))), (2, .int (nI (z)))]) hx hb dX1_data_68 rfl hl (by decide) rfl (fun ls hl => ?_)
            rw [show q = 10 by omega] at hP
            exact loop2 1024 0 (pFirst (uN S 0) r z 10) (by omega) (first_DI (iv_n0 hi) rfl hz16) rfl H locs hP hS ls (lv_sub hl [0, 1, 2, 3] rfl)
          · skip
            refine lv_iload_n hx hb dX1_data_32 rfl (lv_at hl 0 rfl) ?_
            refine lv_iload_n hx hb dX1_data_33 rfl (lv_at hl 2 rfl) ?_
            refine xx_eq (tgt := 61) hx hb dX1_data_34 (by decide) (by omega) (by omega) (fun h9 => ?_) (fun h9 => ?_)
            · skip
              refine lv_iinc (v := nI (q + 1)) (lv' := [(3, .int (nI (q + 1))), (0, .ref (ad 0)), (1, .int (nI (r))), (2, .int (nI (z)))]) hx hb dX1_data_61 hl (k := 0) rfl (nI_1 _) (by decide) rfl (fun ls hl => ?_)
              refine lv_goto (tgt := 26) hx hb dX1_data_64 (by decide) ?_
              have hP : va_P D vwCl (wM ad ck (pFirst (uN S 0) r z (q + 1)) (a + sN (pFirst (uN S 0) r z (q + 1)))) H := by rw [pFirst, f1_no1 h9]; exact hP
              exact ih (q + 1) (by omega) (by omega) H locs hP hS ls (lv_sub hl [0, 1, 2, 3] rfl)
            · skip
              refine lv_aload_n hx hb dX1_data_37 rfl (lv_at hl 1 rfl) ?_
              refine va_get (D := D) (ci := 1) (v := .ref (ad 2)) (C := RX1) (T := TX1) (N := 11) hx hb hts hin0 hown hK hP 0 rfl rfl 3 (by decide) (hts (.fieldLink RX1 13 "ClaimBenchModel" "isDeaf" "[Z") (by decide +kernel)) (fun _ h9 => h9) rfl dX1_data_38 ?_
              refine lv_iload_n hx hb dX1_data_41 rfl (lv_at hl 0 rfl) ?_
              refine xx_zld hx hb hK hP 2 1 (fun c_ => bI (sD (pFirst (uN S 0) r z q) c_)) rfl rfl (j := q) (by omega) (by decide) dX1_data_42 ?_
              refine W.eq (g2 := F0 m 43 ls [.int (bI (sD (pFirst (uN S 0) r z q) q))]) rfl ?_
              refine xx_if1 (tgt := 61) hx hb dX1_data_43 (by decide) (fun h10 => ?_) (fun h10 => ?_)
              · skip
                refine lv_iinc (v := nI (q + 1)) (lv' := [(3, .int (nI (q + 1))), (0, .ref (ad 0)), (1, .int (nI (r))), (2, .int (nI (z)))]) hx hb dX1_data_61 hl (k := 0) rfl (nI_1 _) (by decide) rfl (fun ls hl => ?_)
                refine lv_goto (tgt := 26) hx hb dX1_data_64 (by decide) ?_
                have hP : va_P D vwCl (wM ad ck (pFirst (uN S 0) r z (q + 1)) (a + sN (pFirst (uN S 0) r z (q + 1)))) H := by rw [pFirst, f1_no2 (pH_d h10)]; exact hP
                exact ih (q + 1) (by omega) (by omega) H locs hP hS ls (lv_sub hl [0, 1, 2, 3] rfl)
              · skip
                refine lv_aload_n hx hb dX1_data_46 rfl (lv_at hl 1 rfl) ?_
                refine lv_iload_n hx hb dX1_data_47 rfl (lv_at hl 0 rfl) ?_
                refine lv_iload_n hx hb dX1_data_48 rfl (lv_at hl 3 rfl) ?_
                refine W.callR (W.runV (As := [.int (nI (q)), .int (nI (z))]) (rest := []) ⟨hx, hb, hml, hown, hts⟩ (c1_isSending l D ad ck (pFirst (uN S 0) r z q) (a + sN (pFirst (uN S 0) r z q)) (hF q hq2).1 q z (by omega) (by omega)) (cwV 2 hts gX1_data_X1_isSending rfl rfl rfl (by decide +kernel) ⟨Nat.le_of_ble_eq_true rfl, Nat.le_of_ble_eq_true rfl⟩) (PW_pre hK hP (ci := 1) rfl rfl) rfl rfl hl.1 rfl (lv_room (Nat.le_of_ble_eq_true rfl)) dX1_data_49 ⟨Nat.zero_le _, Nat.zero_le _⟩) ?_
                refine W.eq (g2 := F0 m 52 ls [.int (bI (pS (pFirst (uN S 0) r z q) q z))]) rfl ?_
                refine xx_if0 (tgt := 61) hx hb dX1_data_52 (by decide) (fun h11 => ?_) (fun h11 => ?_)
                · skip
                  refine lv_iinc (v := nI (q + 1)) (lv' := [(3, .int (nI (q + 1))), (0, .ref (ad 0)), (1, .int (nI (r))), (2, .int (nI (z)))]) hx hb dX1_data_61 hl (k := 0) rfl (nI_1 _) (by decide) rfl (fun ls hl => ?_)
                  refine lv_goto (tgt := 26) hx hb dX1_data_64 (by decide) ?_
                  have hP : va_P D vwCl (wM ad ck (pFirst (uN S 0) r z (q + 1)) (a + sN (pFirst (uN S 0) r z (q + 1)))) H := by rw [pFirst, f1_no3 h11]; exact hP
                  exact ih (q + 1) (by omega) (by omega) H locs hP hS ls (lv_sub hl [0, 1, 2, 3] rfl)
                · skip
                  refine lv_aload_n hx hb dX1_data_55 rfl (lv_at hl 1 rfl) ?_
                  refine lv_iload_n hx hb dX1_data_56 rfl (lv_at hl 0 rfl) ?_
                  refine lv_iload_n hx hb dX1_data_57 rfl (lv_at hl 3 rfl) ?_
                  refine xx_callM (W.runV (As := [.int (nI (q)), .int (nI (z))]) (rest := []) ⟨hx, hb, hml, hown, hts⟩ (c1_say l D ad hd ck (pFirst (uN S 0) r z q) (a + sN (pFirst (uN S 0) r z q)) (hF q hq2).1 q z (by omega) (by omega) (by have := (hF q hq2).2.2.1; omega)) (cwV 2 hts gX1_data_X1_say rfl rfl rfl (by decide +kernel) ⟨Nat.le_of_ble_eq_true rfl, Nat.le_of_ble_eq_true rfl⟩) (PW_pre hK hP (ci := 1) rfl rfl) rfl rfl hl.1 rfl (lv_room (Nat.le_of_ble_eq_true rfl)) dX1_data_58 ⟨Nat.zero_le _, Nat.zero_le _⟩) hS (fun _ h => h) (fun H locs hP _ hS => ?_)
                  have hP : va_P D vwCl (wM ad ck (pSay (pFirst (uN S 0) r z q) (pO (pFirst (uN S 0) r z q) (16 * q + z))) ((a + sN (pFirst (uN S 0) r z q)) + 1)) H := hP
                  refine W.eq (g2 := F0 m 61 ls []) rfl ?_
                  refine lv_iinc (v := nI (q + 1)) (lv' := [(3, .int (nI (q + 1))), (0, .ref (ad 0)), (1, .int (nI (r))), (2, .int (nI (z)))]) hx hb dX1_data_61 hl (k := 0) rfl (nI_1 _) (by decide) rfl (fun ls hl => ?_)
                  refine lv_goto (tgt := 26) hx hb dX1_data_64 (by decide) ?_
                  have hP : va_P D vwCl (wM ad ck (pFirst (uN S 0) r z (q + 1)) (a + sN (pFirst (uN S 0) r z (q + 1)))) H := by rw [pFirst, f1_go h9 (pH_t (pS_g h11) h10) h11]; exact hP
                  exact ih (q + 1) (by omega) (by omega) H locs hP hS ls (lv_sub hl [0, 1, 2, 3] rfl)
      exact loop1 11 0 (by omega) (by omega) H locs hP hS ls (lv_sub hl [0, 1, 2, 3] rfl)
    · skip
      refine lv_iconst (v := -1) hx hb dX1_data_17 (by decide) ?_
      exact W.iret (v := (-1)) hx hb hr (fun t ht hW => ⟨ro_i (dt_g (a := a) hr10 hz16 h2).1.symm, by rw [ht, (dt_g (a := a) hr10 hz16 h2).2.1, (dt_g (a := a) hr10 hz16 h2).2.2]; exact hP, hS.F ht⟩) hS.2.2 dX1_data_18
