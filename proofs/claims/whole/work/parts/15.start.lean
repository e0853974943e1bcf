set_option maxHeartbeats 4000000 in
set_option maxRecDepth 100000 in
/-- THE LAW'S LOOP: at its head, with i ints read, class and reference hold one state -/
theorem law_loop {p : Program} {l : Launch} {e : Env} {s : State} {m : MethodId} {below : List Frame} {meth : Method} {c : Code} {D : va_G} {b L : Nat} {xs : Nat → Int32} (hL : L ≤ 2560) (C0 : lw_At p s m meth c b L xs) {ad bd : Nat → Nat} {ck dk : Nat → ClassId} (C1 : LC s D ad bd ck dk) : ∀ (n i : Nat), L < i + n → i ≤ L → ∀ (S : AS) (a : Nat), iv S → ∀ (H : Heap) (locs : List Loc), va_P D vwCl (wB ad ck S a) H → va_P D vwCl (wM bd dk S a) H → va_S (fun q : Nat => s.heap.size ≤ q) s.heap H locs → ∀ (ls : Array Slot), LV ls b ad bd i → LW p l e s m b below meth c H locs (F0 m 18 ls []) := by
  obtain ⟨hx, hb, hr, hml, hown, hts, hX, hbl, hlocks, hgv⟩ := id C0
  have hbA : ¬ (fun q : Nat => s.heap.size ≤ q) b := Nat.not_le.mpr hbl
  intro n
  induction n with
  | zero => exact fun i h1 h2 => absurd h1 (by omega)
  | succ n ih =>
    intro i hi1 hi2 S a hi H locs hPB hPM hS ls hl
    refine lv_iload_n hx hb dL_law_18 rfl (lv_at hl 0 rfl) ?_
    refine lv_aload_n hx hb dL_law_19 rfl (lv_at hl 1 rfl) ?_
    refine va_slen hx hb hX hbl hbA hS dL_law_20 ?_
    refine lv_iconst (v := nI 5) hx hb dL_law_21 (by decide) ?_
    refine lv_isub hx hb dL_law_22 ?_
    refine lv_icmp_gt (tgt := 552) hx hb dL_law_23 (by decide) (fun h1 => ?_) (fun h1 => ?_)
    · refine lv_iconst (v := 1) hx hb dL_law_552 (by decide) ?_
      refine va_forget (fun q hq => hS.2.2 q hq) ?_
      exact lw_ret hx hb hr hlocks dL_law_553
    · have h5 : i + 5 ≤ L := i_le hL (by omega) h1
      have k9 : ∀ (S : AS) (a : Nat), iv S → ∀ (H : Heap) (locs : List Loc), va_P D vwCl (wB ad ck S a) H → va_P D vwCl (wM bd dk S a) H → va_S (fun q : Nat => s.heap.size ≤ q) s.heap H locs → ∀ (ls : Array Slot), LV ls b ad bd i → LW p l e s m b below meth c H locs (F0 m 546 ls []) := by
        intro S a hi H locs hPB hPM hS ls hl
        refine lv_iinc (v := nI (i + 5)) (lv' := [(3, .int (nI (i + 5))), (0, .ref b), (1, .ref (ad 0)), (2, .ref (bd 0))]) hx hb dL_law_546 hl (k := 0) rfl (i_5 i) (by decide) rfl (fun ls hl => ?_)
        refine lv_goto (tgt := 18) hx hb dL_law_549 (by decide) ?_
        exact ih (i + 5) (by omega) h5 S a hi H locs hPB hPM hS ls hl
      refine lv_aload_n hx hb dL_law_26 rfl (lv_at hl 1 rfl) ?_
      refine lv_iload_n hx hb dL_law_27 rfl (lv_at hl 0 rfl) ?_
      refine xx_sld hx hb hX hbl hbA hS (j := i) (by omega) hL dL_law_28 ?_
      refine lv_bipush (v := nI 15) hx hb dL_law_29 (by decide) ?_
      refine lv_iand hx hb dL_law_31 ?_
      obtain ⟨j, hj, ej⟩ := pk_andE (xs i) (m := nI 15) 4 (by decide)
      refine xx_top (nI j) ej ?_
      have hj16 : j < 16 := hj
      by_cases j0 : j = 0
      · subst j0
        refine lv_tableIn (off := 64) (tgt := 96) hx hb dL_law_32 (by decide) (by decide) (by decide) (by decide) ?_
        exact law_tick hL C0 C1 h5 k9 S a hi H locs hPB hPM hS ls hl
      by_cases j1 : j = 1
      · subst j1
        refine lv_tableIn (off := 87) (tgt := 119) hx hb dL_law_32 (by decide) (by decide) (by decide) (by decide) ?_
        exact law_forward hL C0 C1 h5 k9 S a hi H locs hPB hPM hS ls hl
      by_cases j2 : j = 2
      · subst j2
        refine lv_tableIn (off := 146) (tgt := 178) hx hb dL_law_32 (by decide) (by decide) (by decide) (by decide) ?_
        exact law_place hL C0 C1 h5 k9 S a hi H locs hPB hPM hS ls hl
      by_cases j3 : j = 3
      · subst j3
        refine lv_tableIn (off := 215) (tgt := 247) hx hb dL_law_32 (by decide) (by decide) (by decide) (by decide) ?_
        exact law_there hL C0 C1 h5 k9 S a hi H locs hPB hPM hS ls hl
      by_cases j4 : j = 4
      · subst j4
        refine lv_tableIn (off := 264) (tgt := 296) hx hb dL_law_32 (by decide) (by decide) (by decide) (by decide) ?_
        exact law_deaf hL C0 C1 h5 k9 S a hi H locs hPB hPM hS ls hl
      by_cases j5 : j = 5
      · subst j5
        refine lv_tableIn (off := 313) (tgt := 345) hx hb dL_law_32 (by decide) (by decide) (by decide) (by decide) ?_
        exact law_data hL C0 C1 h5 k9 S a hi H locs hPB hPM hS ls hl
      by_cases j6 : j = 6
      · subst j6
        refine lv_tableIn (off := 346) (tgt := 378) hx hb dL_law_32 (by decide) (by decide) (by decide) (by decide) ?_
        exact law_said hL C0 C1 h5 k9 S a hi H locs hPB hPM hS ls hl
      by_cases j7 : j = 7
      · subst j7
        refine lv_tableIn (off := 369) (tgt := 401) hx hb dL_law_32 (by decide) (by decide) (by decide) (by decide) ?_
        exact law_claim hL C0 C1 h5 k9 S a hi H locs hPB hPM hS ls hl
      by_cases j8 : j = 8
      · subst j8
        refine lv_tableIn (off := 402) (tgt := 434) hx hb dL_law_32 (by decide) (by decide) (by decide) (by decide) ?_
        exact law_kept hL C0 C1 h5 k9 S a hi H locs hPB hPM hS ls hl
      by_cases j9 : j = 9
      · subst j9
        refine lv_tableIn (off := 435) (tgt := 467) hx hb dL_law_32 (by decide) (by decide) (by decide) (by decide) ?_
        exact law_lost hL C0 C1 h5 k9 S a hi H locs hPB hPM hS ls hl
      by_cases j10 : j = 10
      · subst j10
        refine lv_tableIn (off := 468) (tgt := 500) hx hb dL_law_32 (by decide) (by decide) (by decide) (by decide) ?_
        exact law_sends hL C0 C1 h5 k9 S a hi H locs hPB hPM hS ls hl
      by_cases j11 : j = 11
      · subst j11
        refine lv_tableIn (off := 491) (tgt := 523) hx hb dL_law_32 (by decide) (by decide) (by decide) (by decide) ?_
        exact law_look hL C0 C1 h5 k9 S a hi H locs hPB hPM hS ls hl
      refine lv_tableOut (tgt := 546) hx hb dL_law_32 (Or.inr ?_) (by decide) ?_
      · rw [nI_toInt (by omega)]; omega
      · exact k9 S a hi H locs hPB hPM hS ls hl
set_option maxHeartbeats 4000000 in
set_option maxRecDepth 100000 in
/-- THE LAW, from its entry -/
theorem whole_start {p : Program} {e : Env} {s : State} {m : MethodId} {below : List Frame} {meth : Method} {c : Code} (l : Launch) {b L : Nat} {xs : Nat → Int32} (hL : L ≤ 2560) (C0 : lw_At p s m meth c b L xs) : W p l e room_1 s m #[Value.ref b] below meth c s.heap [] 0 0 (lw_Z below #[Value.ref b] s) (entryFrame m ([Value.ref b] : List Value).toArray 4) := by
  obtain ⟨hx, hb, hr, hml, hown, hts, hX, hbl, hlocks, hgv⟩ := id C0
  have hown : s.vm.findClass RL = some m.cls := hown
  have hts : ∀ w ∈ wsL_law, w.before #[Value.ref b] s = true := fun w h => hts w (wsL_law_in w h)
  have hA : ∀ q : Nat, s.heap.size ≤ q → (fun q : Nat => s.heap.size ≤ q) q := fun _ h => h
  have hbA : ¬ (fun q : Nat => s.heap.size ≤ q) b := Nat.not_le.mpr hbl
  obtain ⟨c0, iS0, hKn0⟩ := u_known (C := RX0) (T := TX0) (N := 10) (n := 10) hts inlX0 (hts (.instantiable RX0 10) (by decide +kernel))
  obtain ⟨c1, iS1, hKn1⟩ := u_known (C := RX1) (T := TX1) (N := 11) (n := 11) hts inlX1 (hts (.instantiable RX1 11) (by decide +kernel))
  obtain ⟨D, hKc⟩ : ∃ (D : va_G), ∀ (k : Nat) (q : vw_C), vwCl[k]? = some q → u_Kn s q.1 q.2.1 q.2.2 (D.1 k) (D.2 k) := by
    refine ⟨(fun k => if k = 0 then c0 else c1, fun k => if k = 0 then iS0 else iS1), ?_⟩
    intro k q hq
    match k, hq with
    | 0, hq => cases hq; exact hKn0
    | 1, hq => cases hq; exact hKn1
    | k + 2, hq => simp [vwCl] at hq
  have hS : va_S (fun q : Nat => s.heap.size ≤ q) s.heap s.heap [] := va_S.rf
  have hK : va_K D vwCl [] s := ⟨hKc, fun k q h => by simp at h⟩
  have hP : va_P D vwCl [] s.heap := fun k q h => by simp at h
  have hD : va_D (fun q : Nat => s.heap.size ≤ q) [] := ⟨fun i j p q h => by simp at h, fun k q h => by simp at h⟩
  have hl := lv_entry ([.ref b]) (n := 4) (Nat.le_of_ble_eq_true rfl)
  rw [lg_entry_eq]
  generalize (lg_sl ([.ref b]) ++ List.replicate (4 - (lg_sl ([.ref b])).length) Slot.unset).toArray = ls at hl ⊢
  have hl : lv_has ls 4 [(0, .ref b)] := hl
  refine va_new (ci := 0) (fs := [.int 0, .int 0, .int 0, .int 0, .null, .null, .null, .null, .null, .int 0]) (C := RX0) (T := TX0) (N := 10) hx hb hts inlX0 tyX0 tyX0_ok hown (hts (.classLink RL 7 RX0) (by decide +kernel)) (hts (.instantiable RX0 10) (by decide +kernel)) (hts (.initialized RX0) (by decide +kernel)) hK hP hD hS hA rfl (fun j hj => by rcases (show j = 0 ∨ j = 1 ∨ j = 2 ∨ j = 3 ∨ j = 4 ∨ j = 5 ∨ j = 6 ∨ j = 7 ∨ j = 8 ∨ j = 9 by omega) with rfl | rfl | rfl | rfl | rfl | rfl | rfl | rfl | rfl | rfl <;> rfl) (show 0 + 1 ≤ 15 by omega) (show 0 + 10 ≤ 3384 by omega) dL_law_0 (fun q0v H hP hD hS => ?_)
  have hP : va_P D vwCl ([(q0v, .inr (0, [.int 0, .int 0, .int 0, .int 0, .null, .null, .null, .null, .null, .int 0]))]) H := hP
  have hD : va_D (fun q : Nat => s.heap.size ≤ q) ([(q0v, .inr (0, [.int 0, .int 0, .int 0, .int 0, .null, .null, .null, .null, .null, .int 0]))]) := hD
  refine W.widen (k := 1) (n := 10) (show 0 + 1 ≤ 1 by omega) (show 0 + 10 ≤ 10 by omega) ?_
  refine lv_dup hx hb dL_law_3 rfl ?_
  have hPc := hP.sub (ws' := [(q0v, .inr (0, [.int 0, .int 0, .int 0, .int 0, .null, .null, .null, .null, .null, .int 0]))]) [0] rfl
  have hDc := hD.sub (ws' := [(q0v, .inr (0, [.int 0, .int 0, .int 0, .int 0, .null, .null, .null, .null, .null, .int 0]))]) [0] (by decide) rfl
  have hKc := hK.sub (tys' := []) [] rfl
  have hFc := va_free (wc := [(q0v, .inr (0, [.int 0, .int 0, .int 0, .int 0, .null, .null, .null, .null, .null, .int 0]))]) hD hS hA [0] rfl
  refine va_callv (va_runI (As := []) (rest := [.ref q0v]) ⟨hx, hb, hml, hown, hts⟩ (c0_init l D q0v H.size) (cwI 0 hts gL_law_X0_init rfl rfl rfl (hts (.initialized RX0) (by decide +kernel)) (hts (.methodLink RL 9 yX0_init) (by decide +kernel)) (hts (.instanceMethod yX0_init) (by decide +kernel)) rfl (by decide +kernel) ⟨Nat.le_of_ble_eq_true rfl, Nat.le_of_ble_eq_true rfl⟩) ⟨fun a U g mk q => by obtain ⟨q0, q1, qP, qK, qD⟩ := q; exact ⟨q0, q1, qP, va_K.moved (u := U) (U := U.calling g mk a) (Vm.Alike.refl U.vm) qK, qD⟩, fun U hU hW => ⟨rfl, by rw [hU], by rw [hU]; exact hPc, va_K.moved hW.alike hKc, hDc.weaken (fun _ _ _ _ => trivial)⟩⟩ rfl rfl hl.1 rfl (lv_room (Nat.le_of_ble_eq_true rfl)) dL_law_4 ⟨show 1 + 5 ≤ 15 by omega, show 10 + 1519 ≤ 3384 by omega⟩) hS (fun q _ h => hFc q h) hFc (fun u t H1 locs ht hvm hw hB hz1 hk1 hS => ?_)
  obtain ⟨ad, ck⟩ := u
  obtain ⟨had0, hP1, hK1, hD1⟩ := hB
  rw [ht] at hP1
  have hP1 : va_P D vwCl (wB ad ck S0 0) H1 := hP1
  have hD1 : va_D (va_A [(q0v, .inr (0, [.int 0, .int 0, .int 0, .int 0, .null, .null, .null, .null, .null, .int 0]))] H.size) (wB ad ck S0 0) := hD1
  have hK1 : va_K D vwCl (tyB ck) s := va_K.moved hvm.symm hK1
  have had0 : ad 0 = q0v := had0
  obtain ⟨hP, hD⟩ := va_join (wr := []) (w1 := wB ad ck S0 0) hP hD [0] [] rfl rfl (by decide) (by decide) hk1 hFc hP1 hD1
  have hP : va_P D vwCl (wB ad ck S0 0) H1 := hP
  have hD : va_D (fun q : Nat => s.heap.size ≤ q) (wB ad ck S0 0) := hD
  have hK : va_K D vwCl (tyB ck) s := hK1
  refine W.widen (k := 6) (n := 1529) (show 1 + 5 ≤ 6 by omega) (show 10 + 1519 ≤ 1529 by omega) ?_
  refine lv_astore_n (lv' := [(1, .ref q0v), (0, .ref b)]) hx hb dL_law_7 rfl hl (by decide) rfl (fun ls hl => ?_)
  refine va_new (ci := 1) (fs := [.int 0, .int 0, .null, .null, .null, .null, .null, .null, .null, .null, .int 0]) (C := RX1) (T := TX1) (N := 11) hx hb hts inlX1 tyX1 tyX1_ok hown (hts (.classLink RL 10 RX1) (by decide +kernel)) (hts (.instantiable RX1 11) (by decide +kernel)) (hts (.initialized RX1) (by decide +kernel)) hK hP hD hS hA rfl (fun j hj => by rcases (show j = 0 ∨ j = 1 ∨ j = 2 ∨ j = 3 ∨ j = 4 ∨ j = 5 ∨ j = 6 ∨ j = 7 ∨ j = 8 ∨ j = 9 ∨ j = 10 by omega) with rfl | rfl | rfl | rfl | rfl | rfl | rfl | rfl | rfl | rfl | rfl <;> rfl) (show 6 + 1 ≤ 15 by omega) (show 1529 + 11 ≤ 3384 by omega) dL_law_8 (fun q1v H hP hD hS => ?_)
  have hP : va_P D vwCl (wB ad ck S0 0 ++ [(q1v, .inr (1, [.int 0, .int 0, .null, .null, .null, .null, .null, .null, .null, .null, .int 0]))]) H := hP
  have hD : va_D (fun q : Nat => s.heap.size ≤ q) (wB ad ck S0 0 ++ [(q1v, .inr (1, [.int 0, .int 0, .null, .null, .null, .null, .null, .null, .null, .null, .int 0]))]) := hD
  refine W.widen (k := 7) (n := 1540) (show 6 + 1 ≤ 7 by omega) (show 1529 + 11 ≤ 1540 by omega) ?_
  refine lv_dup hx hb dL_law_11 rfl ?_
  have hPc := hP.sub (ws' := [(q1v, .inr (1, [.int 0, .int 0, .null, .null, .null, .null, .null, .null, .null, .null, .int 0]))]) [6] rfl
  have hDc := hD.sub (ws' := [(q1v, .inr (1, [.int 0, .int 0, .null, .null, .null, .null, .null, .null, .null, .null, .int 0]))]) [6] (by decide) rfl
  have hKc := hK.sub (tys' := []) [] rfl
  have hFc := va_free (wc := [(q1v, .inr (1, [.int 0, .int 0, .null, .null, .null, .null, .null, .null, .null, .null, .int 0]))]) hD hS hA [6] rfl
  refine va_callv (va_runI (As := []) (rest := [.ref q1v]) ⟨hx, hb, hml, hown, hts⟩ (c1_init l D q1v H.size) (cwI 0 hts gL_law_X1_init rfl rfl rfl (hts (.initialized RX1) (by decide +kernel)) (hts (.methodLink RL 12 yX1_init) (by decide +kernel)) (hts (.instanceMethod yX1_init) (by decide +kernel)) rfl (by decide +kernel) ⟨Nat.le_of_ble_eq_true rfl, Nat.le_of_ble_eq_true rfl⟩) ⟨fun a U g mk q => by obtain ⟨q0, q1, qP, qK, qD⟩ := q; exact ⟨q0, q1, qP, va_K.moved (u := U) (U := U.calling g mk a) (Vm.Alike.refl U.vm) qK, qD⟩, fun U hU hW => ⟨rfl, by rw [hU], by rw [hU]; exact hPc, va_K.moved hW.alike hKc, hDc.weaken (fun _ _ _ _ => trivial)⟩⟩ rfl rfl hl.1 rfl (lv_room (Nat.le_of_ble_eq_true rfl)) dL_law_12 ⟨show 7 + 8 ≤ 15 by omega, show 1540 + 1844 ≤ 3384 by omega⟩) hS (fun q _ h => hFc q h) hFc (fun u t H1 locs ht hvm hw hB hz1 hk1 hS => ?_)
  obtain ⟨bd, dk⟩ := u
  obtain ⟨hbd0, hP1, hK1, hD1⟩ := hB
  rw [ht] at hP1
  have hP1 : va_P D vwCl (wM bd dk S0 0) H1 := hP1
  have hD1 : va_D (va_A [(q1v, .inr (1, [.int 0, .int 0, .null, .null, .null, .null, .null, .null, .null, .null, .int 0]))] H.size) (wM bd dk S0 0) := hD1
  have hK1 : va_K D vwCl (tyM dk) s := va_K.moved hvm.symm hK1
  have hbd0 : bd 0 = q1v := hbd0
  obtain ⟨hP, hD⟩ := va_join (wr := wB ad ck S0 0) (w1 := wM bd dk S0 0) hP hD [6] [0, 1, 2, 3, 4, 5] rfl rfl (by decide) (by decide) hk1 hFc hP1 hD1
  refine W.widen (k := 15) (n := 3384) (show 7 + 8 ≤ 15 by omega) (show 1540 + 1844 ≤ 3384 by omega) ?_
  refine lv_astore_n (lv' := [(2, .ref q1v), (1, .ref q0v), (0, .ref b)]) hx hb dL_law_15 rfl hl (by decide) rfl (fun ls hl => ?_)
  refine lv_iconst (v := nI 0) hx hb dL_law_16 (by decide) ?_
  refine lv_istore_n (lv' := [(3, .int (nI 0)), (2, .ref q1v), (1, .ref q0v), (0, .ref b)]) hx hb dL_law_17 rfl hl (by decide) rfl (fun ls hl => ?_)
  obtain ⟨d1, d2, d3, d4, d5⟩ := two_D hD
  rw [← had0, ← hbd0] at hl
  exact law_loop hL C0 ⟨d1, d2, d3, d4, d5, hK, hK1⟩ (L + 1) 0 (by omega) (Nat.zero_le L) S0 0 iv_S0 H1 locs (hP.sub [0, 1, 2, 3, 4, 5] rfl) (hP.sub [6, 7, 8, 9, 10, 11, 12, 13, 14] rfl) hS ls (lv_sub hl [0, 3, 2, 1] rfl)
