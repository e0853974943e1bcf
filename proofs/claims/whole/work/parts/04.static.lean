set_option maxHeartbeats 4000000 in
set_option maxRecDepth 100000 in
theorem c0_isRouter (l : Launch) (x : Int32) : Met l yX0_isRouter wsX0_isRouter ({ frames := 0, cells := 0, slots := 0, locals := 0 }) (fun v _ => v = ([.int (x)] : List Value).toArray) (QcRead (bI (inR 10 x))) 0 0 (fun _ => False) := by
  refine Met.ofW (cc := cX0_isRouter) (maxL := 1) (ret := (some .boolean)) (by decide) rfl ?_
  intro p e s m args below meth c s₁ B hml hv
  obtain rfl := hv
  have hx := B.exec
  have hb := B.bytes
  have hr := B.returns
  have hts := atoms_spec (ws := wsX0_isRouter) B.pre
  have hown : s.vm.findClass RX0 = some m.cls := findClass_of_methodNamed B.named
  have hlocks := B.notSynchronized
  have hl := lv_entry ([.int (x)]) (n := 1) (Nat.le_of_ble_eq_true rfl)
  rw [lg_entry_eq]
  generalize (lg_sl ([.int (x)]) ++ List.replicate (1 - (lg_sl ([.int (x)])).length) Slot.unset).toArray = ls at hl ⊢
  have hl : lv_has ls 1 [(0, .int (x))] := hl
  refine lv_iload_n hx hb dX0_isRouter_0 rfl (lv_at hl 0 rfl) ?_
  refine lv_if_lt (tgt := 14) hx hb dX0_isRouter_1 (by decide) (fun h1 => ?_) (fun h1 => ?_)
  · skip
    refine lv_iconst (v := nI 0) hx hb dX0_isRouter_14 (by decide) ?_
    exact W.zret (v := (nI (0))) (ty := .boolean) hx hb hr (rfl) (fun t ht hW => ⟨ro_i (bI_f (inR_f1 h1)).symm, ht⟩) (fun _ h => absurd h List.not_mem_nil) dX0_isRouter_15
  · skip
    refine lv_iload_n hx hb dX0_isRouter_4 rfl (lv_at hl 0 rfl) ?_
    refine lv_bipush (v := nI 10) hx hb dX0_isRouter_5 (by decide) ?_
    refine lv_icmp_ge (tgt := 14) hx hb dX0_isRouter_7 (by decide) (fun h2 => ?_) (fun h2 => ?_)
    · skip
      refine lv_iconst (v := nI 0) hx hb dX0_isRouter_14 (by decide) ?_
      exact W.zret (v := (nI (0))) (ty := .boolean) hx hb hr (rfl) (fun t ht hW => ⟨ro_i (bI_f (inR_f2 h2)).symm, ht⟩) (fun _ h => absurd h List.not_mem_nil) dX0_isRouter_15
    · skip
      refine lv_iconst (v := nI 1) hx hb dX0_isRouter_10 (by decide) ?_
      refine lv_goto (tgt := 15) hx hb dX0_isRouter_11 (by decide) ?_
      exact W.zret (v := (nI (1))) (ty := .boolean) hx hb hr (rfl) (fun t ht hW => ⟨ro_i (bI_t (inR_mk h1 h2)).symm, ht⟩) (fun _ h => absurd h List.not_mem_nil) dX0_isRouter_15
set_option maxHeartbeats 4000000 in
set_option maxRecDepth 100000 in
theorem c0_isSource (l : Launch) (x : Int32) : Met l yX0_isSource wsX0_isSource ({ frames := 0, cells := 0, slots := 0, locals := 0 }) (fun v _ => v = ([.int (x)] : List Value).toArray) (QcRead (bI (inR 16 x))) 0 0 (fun _ => False) := by
  refine Met.ofW (cc := cX0_isSource) (maxL := 1) (ret := (some .boolean)) (by decide) rfl ?_
  intro p e s m args below meth c s₁ B hml hv
  obtain rfl := hv
  have hx := B.exec
  have hb := B.bytes
  have hr := B.returns
  have hts := atoms_spec (ws := wsX0_isSource) B.pre
  have hown : s.vm.findClass RX0 = some m.cls := findClass_of_methodNamed B.named
  have hlocks := B.notSynchronized
  have hl := lv_entry ([.int (x)]) (n := 1) (Nat.le_of_ble_eq_true rfl)
  rw [lg_entry_eq]
  generalize (lg_sl ([.int (x)]) ++ List.replicate (1 - (lg_sl ([.int (x)])).length) Slot.unset).toArray = ls at hl ⊢
  have hl : lv_has ls 1 [(0, .int (x))] := hl
  refine lv_iload_n hx hb dX0_isSource_0 rfl (lv_at hl 0 rfl) ?_
  refine lv_if_lt (tgt := 14) hx hb dX0_isSource_1 (by decide) (fun h1 => ?_) (fun h1 => ?_)
  · skip
    refine lv_iconst (v := nI 0) hx hb dX0_isSource_14 (by decide) ?_
    exact W.zret (v := (nI (0))) (ty := .boolean) hx hb hr (rfl) (fun t ht hW => ⟨ro_i (bI_f (inR_f1 h1)).symm, ht⟩) (fun _ h => absurd h List.not_mem_nil) dX0_isSource_15
  · skip
    refine lv_iload_n hx hb dX0_isSource_4 rfl (lv_at hl 0 rfl) ?_
    refine lv_bipush (v := nI 16) hx hb dX0_isSource_5 (by decide) ?_
    refine lv_icmp_ge (tgt := 14) hx hb dX0_isSource_7 (by decide) (fun h2 => ?_) (fun h2 => ?_)
    · skip
      refine lv_iconst (v := nI 0) hx hb dX0_isSource_14 (by decide) ?_
      exact W.zret (v := (nI (0))) (ty := .boolean) hx hb hr (rfl) (fun t ht hW => ⟨ro_i (bI_f (inR_f2 h2)).symm, ht⟩) (fun _ h => absurd h List.not_mem_nil) dX0_isSource_15
    · skip
      refine lv_iconst (v := nI 1) hx hb dX0_isSource_10 (by decide) ?_
      refine lv_goto (tgt := 15) hx hb dX0_isSource_11 (by decide) ?_
      exact W.zret (v := (nI (1))) (ty := .boolean) hx hb hr (rfl) (fun t ht hW => ⟨ro_i (bI_t (inR_mk h1 h2)).symm, ht⟩) (fun _ h => absurd h List.not_mem_nil) dX0_isSource_15
set_option maxHeartbeats 4000000 in
set_option maxRecDepth 100000 in
theorem c1_isRouter (l : Launch) (x : Int32) : Met l yX1_isRouter wsX1_isRouter ({ frames := 0, cells := 0, slots := 0, locals := 0 }) (fun v _ => v = ([.int (x)] : List Value).toArray) (QcRead (bI (inR 10 x))) 0 0 (fun _ => False) := by
  refine Met.ofW (cc := cX1_isRouter) (maxL := 1) (ret := (some .boolean)) (by decide) rfl ?_
  intro p e s m args below meth c s₁ B hml hv
  obtain rfl := hv
  have hx := B.exec
  have hb := B.bytes
  have hr := B.returns
  have hts := atoms_spec (ws := wsX1_isRouter) B.pre
  have hown : s.vm.findClass RX1 = some m.cls := findClass_of_methodNamed B.named
  have hlocks := B.notSynchronized
  have hl := lv_entry ([.int (x)]) (n := 1) (Nat.le_of_ble_eq_true rfl)
  rw [lg_entry_eq]
  generalize (lg_sl ([.int (x)]) ++ List.replicate (1 - (lg_sl ([.int (x)])).length) Slot.unset).toArray = ls at hl ⊢
  have hl : lv_has ls 1 [(0, .int (x))] := hl
  refine lv_iload_n hx hb dX1_isRouter_0 rfl (lv_at hl 0 rfl) ?_
  refine lv_if_lt (tgt := 14) hx hb dX1_isRouter_1 (by decide) (fun h1 => ?_) (fun h1 => ?_)
  · skip
    refine lv_iconst (v := nI 0) hx hb dX1_isRouter_14 (by decide) ?_
    exact W.zret (v := (nI (0))) (ty := .boolean) hx hb hr (rfl) (fun t ht hW => ⟨ro_i (bI_f (inR_f1 h1)).symm, ht⟩) (fun _ h => absurd h List.not_mem_nil) dX1_isRouter_15
  · skip
    refine lv_iload_n hx hb dX1_isRouter_4 rfl (lv_at hl 0 rfl) ?_
    refine lv_bipush (v := nI 10) hx hb dX1_isRouter_5 (by decide) ?_
    refine lv_icmp_ge (tgt := 14) hx hb dX1_isRouter_7 (by decide) (fun h2 => ?_) (fun h2 => ?_)
    · skip
      refine lv_iconst (v := nI 0) hx hb dX1_isRouter_14 (by decide) ?_
      exact W.zret (v := (nI (0))) (ty := .boolean) hx hb hr (rfl) (fun t ht hW => ⟨ro_i (bI_f (inR_f2 h2)).symm, ht⟩) (fun _ h => absurd h List.not_mem_nil) dX1_isRouter_15
    · skip
      refine lv_iconst (v := nI 1) hx hb dX1_isRouter_10 (by decide) ?_
      refine lv_goto (tgt := 15) hx hb dX1_isRouter_11 (by decide) ?_
      exact W.zret (v := (nI (1))) (ty := .boolean) hx hb hr (rfl) (fun t ht hW => ⟨ro_i (bI_t (inR_mk h1 h2)).symm, ht⟩) (fun _ h => absurd h List.not_mem_nil) dX1_isRouter_15
set_option maxHeartbeats 4000000 in
set_option maxRecDepth 100000 in
theorem c1_isPair (l : Launch) (x y : Int32) : Met l yX1_isPair wsX1_isPair ({ frames := 1, cells := 0, slots := 0, locals := 20 }) (fun v _ => v = ([.int (x), .int (y)] : List Value).toArray) (QcRead (bI (inR 10 x && inR 16 y))) 0 0 (fun _ => False) := by
  refine Met.ofW (cc := cX1_isPair) (maxL := 2) (ret := (some .boolean)) (by decide) rfl ?_
  intro p e s m args below meth c s₁ B hml hv
  obtain rfl := hv
  have hx := B.exec
  have hb := B.bytes
  have hr := B.returns
  have hts := atoms_spec (ws := wsX1_isPair) B.pre
  have hown : s.vm.findClass RX1 = some m.cls := findClass_of_methodNamed B.named
  have hlocks := B.notSynchronized
  have hl := lv_entry ([.int (x), .int (y)]) (n := 2) (Nat.le_of_ble_eq_true rfl)
  rw [lg_entry_eq]
  generalize (lg_sl ([.int (x), .int (y)]) ++ List.replicate (2 - (lg_sl ([.int (x), .int (y)])).length) Slot.unset).toArray = ls at hl ⊢
  have hl : lv_has ls 2 [(0, .int (x)), (1, .int (y))] := hl
  refine lv_iload_n hx hb dX1_isPair_0 rfl (lv_at hl 0 rfl) ?_
  refine W.callR (W.runS (As := [.int (x)]) (rest := []) ⟨hx, hb, hml, hown, hts⟩ (c1_isRouter l ((x))) (va_cwS 1 hts gX1_isPair_X1_isRouter rfl rfl rfl (by decide +kernel) ⟨Nat.le_of_ble_eq_true rfl, Nat.le_of_ble_eq_true rfl⟩) preEq rfl rfl hl.1 rfl (lv_room (Nat.le_of_ble_eq_true rfl)) dX1_isPair_1 ⟨Nat.zero_le _, Nat.zero_le _⟩) ?_
  refine W.eq (g2 := F0 m 4 ls [.int (bI (inR 10 ((x))))]) rfl ?_
  refine xx_if0 (tgt := 21) hx hb dX1_isPair_4 (by decide) (fun h1 => ?_) (fun h1 => ?_)
  · skip
    refine lv_iconst (v := nI 0) hx hb dX1_isPair_21 (by decide) ?_
    exact W.zret (v := (nI (0))) (ty := .boolean) hx hb hr (rfl) (fun t ht hW => ⟨ro_i (bI_f (by rw [h1]; rfl)).symm, ht⟩) (fun _ h => absurd h List.not_mem_nil) dX1_isPair_22
  · skip
    refine lv_iload_n hx hb dX1_isPair_7 rfl (lv_at hl 1 rfl) ?_
    refine lv_if_lt (tgt := 21) hx hb dX1_isPair_8 (by decide) (fun h2 => ?_) (fun h2 => ?_)
    · skip
      refine lv_iconst (v := nI 0) hx hb dX1_isPair_21 (by decide) ?_
      exact W.zret (v := (nI (0))) (ty := .boolean) hx hb hr (rfl) (fun t ht hW => ⟨ro_i (bI_f (by rw [inR_f1 h2, Bool.and_false])).symm, ht⟩) (fun _ h => absurd h List.not_mem_nil) dX1_isPair_22
    · skip
      refine lv_iload_n hx hb dX1_isPair_11 rfl (lv_at hl 1 rfl) ?_
      refine lv_bipush (v := nI 16) hx hb dX1_isPair_12 (by decide) ?_
      refine lv_icmp_ge (tgt := 21) hx hb dX1_isPair_14 (by decide) (fun h3 => ?_) (fun h3 => ?_)
      · skip
        refine lv_iconst (v := nI 0) hx hb dX1_isPair_21 (by decide) ?_
        exact W.zret (v := (nI (0))) (ty := .boolean) hx hb hr (rfl) (fun t ht hW => ⟨ro_i (bI_f (by rw [inR_f2 h3, Bool.and_false])).symm, ht⟩) (fun _ h => absurd h List.not_mem_nil) dX1_isPair_22
      · skip
        refine lv_iconst (v := nI 1) hx hb dX1_isPair_17 (by decide) ?_
        refine lv_goto (tgt := 22) hx hb dX1_isPair_18 (by decide) ?_
        exact W.zret (v := (nI (1))) (ty := .boolean) hx hb hr (rfl) (fun t ht hW => ⟨ro_i (bI_t (by rw [h1, inR_mk h2 h3]; rfl)).symm, ht⟩) (fun _ h => absurd h List.not_mem_nil) dX1_isPair_22
set_option maxHeartbeats 4000000 in
set_option maxRecDepth 100000 in
theorem c0_cellOf (l : Launch) (r z : Nat) : Met l yX0_cellOf wsX0_cellOf ({ frames := 0, cells := 0, slots := 0, locals := 0 }) (fun v _ => v = ([.int (nI (r)), .int (nI (z))] : List Value).toArray) (QcRead (nI (16 * r + z))) 0 0 (fun _ => False) := by
  refine Met.ofW (cc := cX0_cellOf) (maxL := 2) (ret := (some .int)) (by decide) rfl ?_
  intro p e s m args below meth c s₁ B hml hv
  obtain rfl := hv
  have hx := B.exec
  have hb := B.bytes
  have hr := B.returns
  have hts := atoms_spec (ws := wsX0_cellOf) B.pre
  have hown : s.vm.findClass RX0 = some m.cls := findClass_of_methodNamed B.named
  have hlocks := B.notSynchronized
  have hl := lv_entry ([.int (nI (r)), .int (nI (z))]) (n := 2) (Nat.le_of_ble_eq_true rfl)
  rw [lg_entry_eq]
  generalize (lg_sl ([.int (nI (r)), .int (nI (z))]) ++ List.replicate (2 - (lg_sl ([.int (nI (r)), .int (nI (z))])).length) Slot.unset).toArray = ls at hl ⊢
  have hl : lv_has ls 2 [(0, .int (nI (r))), (1, .int (nI (z)))] := hl
  refine lv_iload_n hx hb dX0_cellOf_0 rfl (lv_at hl 0 rfl) ?_
  refine lv_bipush (v := nI 16) hx hb dX0_cellOf_1 (by decide) ?_
  refine xx_mul hx hb dX0_cellOf_3 ?_
  refine lv_iload_n hx hb dX0_cellOf_4 rfl (lv_at hl 1 rfl) ?_
  refine xx_add hx hb dX0_cellOf_5 ?_
  exact W.iret (v := (nI ((r * 16) + z))) hx hb hr (fun t ht hW => ⟨ro_i (congrArg nI (by omega)), ht⟩) (fun _ h => absurd h List.not_mem_nil) dX0_cellOf_6
set_option maxHeartbeats 4000000 in
set_option maxRecDepth 100000 in
theorem c0_claimOf (l : Launch) (r : Nat) (b : Bool) (d : Nat) : Met l yX0_claimOf wsX0_claimOf ({ frames := 0, cells := 0, slots := 0, locals := 0 }) (fun v _ => v = ([.int (nI (r)), .int (bI (b)), .int (nI (d))] : List Value).toArray) (QcRead (nI ((if b then 0 else 1000000) + 100 * d + r))) 0 0 (fun _ => False) := by
  refine Met.ofW (cc := cX0_claimOf) (maxL := 3) (ret := (some .int)) (by decide) rfl ?_
  intro p e s m args below meth c s₁ B hml hv
  obtain rfl := hv
  have hx := B.exec
  have hb := B.bytes
  have hr := B.returns
  have hts := atoms_spec (ws := wsX0_claimOf) B.pre
  have hown : s.vm.findClass RX0 = some m.cls := findClass_of_methodNamed B.named
  have hlocks := B.notSynchronized
  have hl := lv_entry ([.int (nI (r)), .int (bI (b)), .int (nI (d))]) (n := 3) (Nat.le_of_ble_eq_true rfl)
  rw [lg_entry_eq]
  generalize (lg_sl ([.int (nI (r)), .int (bI (b)), .int (nI (d))]) ++ List.replicate (3 - (lg_sl ([.int (nI (r)), .int (bI (b)), .int (nI (d))])).length) Slot.unset).toArray = ls at hl ⊢
  have hl : lv_has ls 3 [(0, .int (nI (r))), (1, .int (bI (b))), (2, .int (nI (d)))] := hl
  refine lv_iload_n hx hb dX0_claimOf_0 rfl (lv_at hl 1 rfl) ?_
  refine xx_if0 (tgt := 8) hx hb dX0_claimOf_1 (by decide) (fun h1 => ?_) (fun h1 => ?_)
  · skip
    refine lv_ldc (own := RX0) (v := nI 1000000) hx hb hown (hts (.constant RX0 98 (1000000)) (by decide +kernel)) dX0_claimOf_8 ?_
    refine lv_iload_n hx hb dX0_claimOf_10 rfl (lv_at hl 2 rfl) ?_
    refine lv_bipush (v := nI 100) hx hb dX0_claimOf_11 (by decide) ?_
    refine xx_mul hx hb dX0_claimOf_13 ?_
    refine xx_add hx hb dX0_claimOf_14 ?_
    refine lv_iload_n hx hb dX0_claimOf_15 rfl (lv_at hl 0 rfl) ?_
    refine xx_add hx hb dX0_claimOf_16 ?_
    exact W.iret (v := (nI ((1000000 + (d * 100)) + r))) hx hb hr (fun t ht hW => ⟨ro_i (congrArg nI (by rw [h1]; simp; omega)), ht⟩) (fun _ h => absurd h List.not_mem_nil) dX0_claimOf_17
  · skip
    refine lv_iconst (v := nI 0) hx hb dX0_claimOf_4 (by decide) ?_
    refine lv_goto (tgt := 10) hx hb dX0_claimOf_5 (by decide) ?_
    refine lv_iload_n hx hb dX0_claimOf_10 rfl (lv_at hl 2 rfl) ?_
    refine lv_bipush (v := nI 100) hx hb dX0_claimOf_11 (by decide) ?_
    refine xx_mul hx hb dX0_claimOf_13 ?_
    refine xx_add hx hb dX0_claimOf_14 ?_
    refine lv_iload_n hx hb dX0_claimOf_15 rfl (lv_at hl 0 rfl) ?_
    refine xx_add hx hb dX0_claimOf_16 ?_
    exact W.iret (v := (nI ((0 + (d * 100)) + r))) hx hb hr (fun t ht hW => ⟨ro_i (congrArg nI (by rw [h1]; simp; omega)), ht⟩) (fun _ h => absurd h List.not_mem_nil) dX0_claimOf_17
set_option maxHeartbeats 4000000 in
set_option maxRecDepth 100000 in
theorem c0_routerOf (l : Launch) (x : Nat) (hb31 : x < 2147483648) : Met l yX0_routerOf wsX0_routerOf ({ frames := 0, cells := 0, slots := 0, locals := 0 }) (fun v _ => v = ([.int (nI (x))] : List Value).toArray) (QcRead (nI (x % 100))) 0 0 (fun _ => False) := by
  refine Met.ofW (cc := cX0_routerOf) (maxL := 1) (ret := (some .int)) (by decide) rfl ?_
  intro p e s m args below meth c s₁ B hml hv
  obtain rfl := hv
  have hx := B.exec
  have hb := B.bytes
  have hr := B.returns
  have hts := atoms_spec (ws := wsX0_routerOf) B.pre
  have hown : s.vm.findClass RX0 = some m.cls := findClass_of_methodNamed B.named
  have hlocks := B.notSynchronized
  have hl := lv_entry ([.int (nI (x))]) (n := 1) (Nat.le_of_ble_eq_true rfl)
  rw [lg_entry_eq]
  generalize (lg_sl ([.int (nI (x))]) ++ List.replicate (1 - (lg_sl ([.int (nI (x))])).length) Slot.unset).toArray = ls at hl ⊢
  have hl : lv_has ls 1 [(0, .int (nI (x)))] := hl
  refine lv_iload_n hx hb dX0_routerOf_0 rfl (lv_at hl 0 rfl) ?_
  refine lv_bipush (v := nI 100) hx hb dX0_routerOf_1 (by decide) ?_
  refine xx_rem hx hb dX0_routerOf_3 (by omega) (by decide) (by decide) ?_
  exact W.iret (v := (nI (x % 100))) hx hb hr (fun t ht hW => ⟨rfl, ht⟩) (fun _ h => absurd h List.not_mem_nil) dX0_routerOf_4
set_option maxHeartbeats 4000000 in
set_option maxRecDepth 100000 in
theorem c0_isBetter (l : Launch) (x y : Nat) (hx31 : x < 2147483648) (hy31 : y < 2147483648) : Met l yX0_isBetter wsX0_isBetter ({ frames := 1, cells := 0, slots := 0, locals := 20 }) (fun v _ => v = ([.int (nI (x)), .int (nI (y))] : List Value).toArray) (QcRead (bI (pB x y))) 0 0 (fun _ => False) := by
  refine Met.ofW (cc := cX0_isBetter) (maxL := 4) (ret := (some .boolean)) (by decide) rfl ?_
  intro p e s m args below meth c s₁ B hml hv
  obtain rfl := hv
  have hx := B.exec
  have hb := B.bytes
  have hr := B.returns
  have hts := atoms_spec (ws := wsX0_isBetter) B.pre
  have hown : s.vm.findClass RX0 = some m.cls := findClass_of_methodNamed B.named
  have hlocks := B.notSynchronized
  have hl := lv_entry ([.int (nI (x)), .int (nI (y))]) (n := 4) (Nat.le_of_ble_eq_true rfl)
  rw [lg_entry_eq]
  generalize (lg_sl ([.int (nI (x)), .int (nI (y))]) ++ List.replicate (4 - (lg_sl ([.int (nI (x)), .int (nI (y))])).length) Slot.unset).toArray = ls at hl ⊢
  have hl : lv_has ls 4 [(0, .int (nI (x))), (1, .int (nI (y)))] := hl
  refine lv_iload_n hx hb dX0_isBetter_0 rfl (lv_at hl 0 rfl) ?_
  refine lv_bipush (v := nI 100) hx hb dX0_isBetter_1 (by decide) ?_
  refine xx_div hx hb dX0_isBetter_3 (by omega) (by decide) (by decide) ?_
  refine lv_istore_n (lv' := [(2, .int (nI (x / 100))), (0, .int (nI (x))), (1, .int (nI (y)))]) hx hb dX0_isBetter_4 rfl hl (by decide) rfl (fun ls hl => ?_)
  refine lv_iload_n hx hb dX0_isBetter_5 rfl (lv_at hl 2 rfl) ?_
  refine lv_bipush (v := nI 100) hx hb dX0_isBetter_6 (by decide) ?_
  refine xx_div hx hb dX0_isBetter_8 (by omega) (by decide) (by decide) ?_
  refine lv_istore_n (lv' := [(3, .int (nI (y / 100))), (2, .int (nI (x / 100))), (0, .int (nI (x))), (1, .int (nI (y)))]) hx hb dX0_isBetter_9 rfl hl (by decide) rfl (fun ls hl => ?_)
  refine lv_iload_n hx hb dX0_isBetter_10 rfl (lv_at hl 1 rfl) ?_
  refine lv_iload_n hx hb dX0_isBetter_11 rfl (lv_at hl 0 rfl) ?_
  refine xx_eq (tgt := 26) hx hb dX0_isBetter_12 (by decide) (by omega) (by omega) (fun h1 => ?_) (fun h1 => ?_)
  · skip
    refine lv_iload_n hx hb dX0_isBetter_26 rfl (lv_at hl 2 rfl) ?_
    refine W.callR (W.runS (As := [.int (nI (x))]) (rest := []) ⟨hx, hb, hml, hown, hts⟩ (c0_routerOf l x (by omega)) (va_cwS 1 hts gX0_isBetter_X0_routerOf rfl rfl rfl (by decide +kernel) ⟨Nat.le_of_ble_eq_true rfl, Nat.le_of_ble_eq_true rfl⟩) preEq rfl rfl hl.1 rfl (lv_room (Nat.le_of_ble_eq_true rfl)) dX0_isBetter_27 ⟨Nat.zero_le _, Nat.zero_le _⟩) ?_
    refine W.eq (g2 := F0 m 30 ls [.int (nI (x % 100))]) rfl ?_
    refine lv_iload_n hx hb dX0_isBetter_30 rfl (lv_at hl 3 rfl) ?_
    refine W.callR (W.runS (As := [.int (nI (y))]) (rest := [.int (nI (x % 100))]) ⟨hx, hb, hml, hown, hts⟩ (c0_routerOf l y (by omega)) (va_cwS 1 hts gX0_isBetter_X0_routerOf rfl rfl rfl (by decide +kernel) ⟨Nat.le_of_ble_eq_true rfl, Nat.le_of_ble_eq_true rfl⟩) preEq rfl rfl hl.1 rfl (lv_room (Nat.le_of_ble_eq_true rfl)) dX0_isBetter_31 ⟨Nat.zero_le _, Nat.zero_le _⟩) ?_
    refine W.eq (g2 := F0 m 34 ls [.int (nI (y % 100)), .int (nI (x % 100))]) rfl ?_
    refine xx_le (tgt := 41) hx hb dX0_isBetter_34 (by decide) (by omega) (by omega) (fun h2 => ?_) (fun h2 => ?_)
    · skip
      refine lv_iconst (v := nI 0) hx hb dX0_isBetter_41 (by decide) ?_
      exact W.zret (v := (nI (0))) (ty := .boolean) hx hb hr (rfl) (fun t ht hW => ⟨ro_i (bI_f (pB_f.mpr (by omega))).symm, ht⟩) (fun _ h => absurd h List.not_mem_nil) dX0_isBetter_42
    · skip
      refine lv_iconst (v := nI 1) hx hb dX0_isBetter_37 (by decide) ?_
      refine lv_goto (tgt := 42) hx hb dX0_isBetter_38 (by decide) ?_
      exact W.zret (v := (nI (1))) (ty := .boolean) hx hb hr (rfl) (fun t ht hW => ⟨ro_i (bI_t (pB_t.mpr (by omega))).symm, ht⟩) (fun _ h => absurd h List.not_mem_nil) dX0_isBetter_42
  · skip
    refine lv_iload_n hx hb dX0_isBetter_15 rfl (lv_at hl 1 rfl) ?_
    refine lv_iload_n hx hb dX0_isBetter_16 rfl (lv_at hl 0 rfl) ?_
    refine xx_ge (tgt := 24) hx hb dX0_isBetter_17 (by decide) (by omega) (by omega) (fun h3 => ?_) (fun h3 => ?_)
    · skip
      refine lv_iconst (v := nI 0) hx hb dX0_isBetter_24 (by decide) ?_
      exact W.zret (v := (nI (0))) (ty := .boolean) hx hb hr (rfl) (fun t ht hW => ⟨ro_i (bI_f (pB_f.mpr (by omega))).symm, ht⟩) (fun _ h => absurd h List.not_mem_nil) dX0_isBetter_25
    · skip
      refine lv_iconst (v := nI 1) hx hb dX0_isBetter_20 (by decide) ?_
      refine lv_goto (tgt := 25) hx hb dX0_isBetter_21 (by decide) ?_
      exact W.zret (v := (nI (1))) (ty := .boolean) hx hb hr (rfl) (fun t ht hW => ⟨ro_i (bI_t (pB_t.mpr (by omega))).symm, ht⟩) (fun _ h => absurd h List.not_mem_nil) dX0_isBetter_25
set_option maxHeartbeats 4000000 in
set_option maxRecDepth 100000 in
theorem c1_isBetter (l : Launch) (x y : Nat) (hx31 : x < 2147483648) (hy31 : y < 2147483648) : Met l yX1_isBetter wsX1_isBetter ({ frames := 0, cells := 0, slots := 0, locals := 0 }) (fun v _ => v = ([.int (nI (x)), .int (nI (y))] : List Value).toArray) (QcRead (bI (pB x y))) 0 0 (fun _ => False) := by
  refine Met.ofW (cc := cX1_isBetter) (maxL := 2) (ret := (some .boolean)) (by decide) rfl ?_
  intro p e s m args below meth c s₁ B hml hv
  obtain rfl := hv
  have hx := B.exec
  have hb := B.bytes
  have hr := B.returns
  have hts := atoms_spec (ws := wsX1_isBetter) B.pre
  have hown : s.vm.findClass RX1 = some m.cls := findClass_of_methodNamed B.named
  have hlocks := B.notSynchronized
  have hl := lv_entry ([.int (nI (x)), .int (nI (y))]) (n := 2) (Nat.le_of_ble_eq_true rfl)
  rw [lg_entry_eq]
  generalize (lg_sl ([.int (nI (x)), .int (nI (y))]) ++ List.replicate (2 - (lg_sl ([.int (nI (x)), .int (nI (y))])).length) Slot.unset).toArray = ls at hl ⊢
  have hl : lv_has ls 2 [(0, .int (nI (x))), (1, .int (nI (y)))] := hl
  refine lv_iload_n hx hb dX1_isBetter_0 rfl (lv_at hl 0 rfl) ?_
  refine lv_bipush (v := nI 100) hx hb dX1_isBetter_1 (by decide) ?_
  refine xx_div hx hb dX1_isBetter_3 (by omega) (by decide) (by decide) ?_
  refine lv_iload_n hx hb dX1_isBetter_4 rfl (lv_at hl 1 rfl) ?_
  refine lv_bipush (v := nI 100) hx hb dX1_isBetter_5 (by decide) ?_
  refine xx_div hx hb dX1_isBetter_7 (by omega) (by decide) (by decide) ?_
  refine xx_lt (tgt := 33) hx hb dX1_isBetter_8 (by decide) (by omega) (by omega) (fun h1 => ?_) (fun h1 => ?_)
  · skip
    refine lv_iconst (v := nI 1) hx hb dX1_isBetter_33 (by decide) ?_
    refine lv_goto (tgt := 38) hx hb dX1_isBetter_34 (by decide) ?_
    exact W.zret (v := (nI (1))) (ty := .boolean) hx hb hr (rfl) (fun t ht hW => ⟨ro_i (bI_t (pB_t.mpr (by omega))).symm, ht⟩) (fun _ h => absurd h List.not_mem_nil) dX1_isBetter_38
  · skip
    refine lv_iload_n hx hb dX1_isBetter_11 rfl (lv_at hl 0 rfl) ?_
    refine lv_bipush (v := nI 100) hx hb dX1_isBetter_12 (by decide) ?_
    refine xx_div hx hb dX1_isBetter_14 (by omega) (by decide) (by decide) ?_
    refine lv_iload_n hx hb dX1_isBetter_15 rfl (lv_at hl 1 rfl) ?_
    refine lv_bipush (v := nI 100) hx hb dX1_isBetter_16 (by decide) ?_
    refine xx_div hx hb dX1_isBetter_18 (by omega) (by decide) (by decide) ?_
    refine xx_ne (tgt := 37) hx hb dX1_isBetter_19 (by decide) (by omega) (by omega) (fun h2 => ?_) (fun h2 => ?_)
    · skip
      refine lv_iconst (v := nI 0) hx hb dX1_isBetter_37 (by decide) ?_
      exact W.zret (v := (nI (0))) (ty := .boolean) hx hb hr (rfl) (fun t ht hW => ⟨ro_i (bI_f (pB_f.mpr (by omega))).symm, ht⟩) (fun _ h => absurd h List.not_mem_nil) dX1_isBetter_38
    · skip
      refine lv_iload_n hx hb dX1_isBetter_22 rfl (lv_at hl 0 rfl) ?_
      refine lv_bipush (v := nI 100) hx hb dX1_isBetter_23 (by decide) ?_
      refine xx_rem hx hb dX1_isBetter_25 (by omega) (by decide) (by decide) ?_
      refine lv_iload_n hx hb dX1_isBetter_26 rfl (lv_at hl 1 rfl) ?_
      refine lv_bipush (v := nI 100) hx hb dX1_isBetter_27 (by decide) ?_
      refine xx_rem hx hb dX1_isBetter_29 (by omega) (by decide) (by decide) ?_
      refine xx_le (tgt := 37) hx hb dX1_isBetter_30 (by decide) (by omega) (by omega) (fun h3 => ?_) (fun h3 => ?_)
      · skip
        refine lv_iconst (v := nI 0) hx hb dX1_isBetter_37 (by decide) ?_
        exact W.zret (v := (nI (0))) (ty := .boolean) hx hb hr (rfl) (fun t ht hW => ⟨ro_i (bI_f (pB_f.mpr (by omega))).symm, ht⟩) (fun _ h => absurd h List.not_mem_nil) dX1_isBetter_38
      · skip
        refine lv_iconst (v := nI 1) hx hb dX1_isBetter_33 (by decide) ?_
        refine lv_goto (tgt := 38) hx hb dX1_isBetter_34 (by decide) ?_
        exact W.zret (v := (nI (1))) (ty := .boolean) hx hb hr (rfl) (fun t ht hW => ⟨ro_i (bI_t (pB_t.mpr (by omega))).symm, ht⟩) (fun _ h => absurd h List.not_mem_nil) dX1_isBetter_38
set_option maxHeartbeats 4000000 in
set_option maxRecDepth 100000 in
theorem c0_hasBit (l : Launch) (f : Nat → Bool) (r : Nat) (hr10 : r < 10) : Met l yX0_hasBit wsX0_hasBit ({ frames := 0, cells := 0, slots := 0, locals := 0 }) (fun v _ => v = ([.int (nI (bm f)), .int (nI (r))] : List Value).toArray) (QcRead (bI (f r))) 0 0 (fun _ => False) := by
  refine Met.ofW (cc := cX0_hasBit) (maxL := 2) (ret := (some .boolean)) (by decide) rfl ?_
  intro p e s m args below meth c s₁ B hml hv
  obtain rfl := hv
  have hx := B.exec
  have hb := B.bytes
  have hr := B.returns
  have hts := atoms_spec (ws := wsX0_hasBit) B.pre
  have hown : s.vm.findClass RX0 = some m.cls := findClass_of_methodNamed B.named
  have hlocks := B.notSynchronized
  have hl := lv_entry ([.int (nI (bm f)), .int (nI (r))]) (n := 2) (Nat.le_of_ble_eq_true rfl)
  rw [lg_entry_eq]
  generalize (lg_sl ([.int (nI (bm f)), .int (nI (r))]) ++ List.replicate (2 - (lg_sl ([.int (nI (bm f)), .int (nI (r))])).length) Slot.unset).toArray = ls at hl ⊢
  have hl : lv_has ls 2 [(0, .int (nI (bm f))), (1, .int (nI (r)))] := hl
  refine lv_iload_n hx hb dX0_hasBit_0 rfl (lv_at hl 0 rfl) ?_
  refine lv_iload_n hx hb dX0_hasBit_1 rfl (lv_at hl 1 rfl) ?_
  refine lv_ishr hx hb dX0_hasBit_2 ?_
  refine lv_iconst (v := nI 1) hx hb dX0_hasBit_3 (by decide) ?_
  refine lv_iand hx hb dX0_hasBit_4 ?_
  refine lv_if_eq (tgt := 12) hx hb dX0_hasBit_5 (by decide) (fun h1 => ?_) (fun h1 => ?_)
  · skip
    refine lv_iconst (v := nI 0) hx hb dX0_hasBit_12 (by decide) ?_
    exact W.zret (v := (nI (0))) (ty := .boolean) hx hb hr (rfl) (fun t ht hW => ⟨ro_i (bI_f ((bm_has f hr10).mp h1)).symm, ht⟩) (fun _ h => absurd h List.not_mem_nil) dX0_hasBit_13
  · skip
    refine lv_iconst (v := nI 1) hx hb dX0_hasBit_8 (by decide) ?_
    refine lv_goto (tgt := 13) hx hb dX0_hasBit_9 (by decide) ?_
    exact W.zret (v := (nI (1))) (ty := .boolean) hx hb hr (rfl) (fun t ht hW => ⟨ro_i (bI_t (Bool.not_eq_false (f r) |>.mp (fun q => h1 ((bm_has f hr10).mpr q)))).symm, ht⟩) (fun _ h => absurd h List.not_mem_nil) dX0_hasBit_13
set_option maxHeartbeats 4000000 in
set_option maxRecDepth 100000 in
theorem c0_withBit (l : Launch) (f : Nat → Bool) (r : Nat) (b : Bool) (hr10 : r < 10) : Met l yX0_withBit wsX0_withBit ({ frames := 0, cells := 0, slots := 0, locals := 0 }) (fun v _ => v = ([.int (nI (bm f)), .int (nI (r)), .int (bI (b))] : List Value).toArray) (QcRead (nI (bm (upB f r b)))) 0 0 (fun _ => False) := by
  refine Met.ofW (cc := cX0_withBit) (maxL := 3) (ret := (some .int)) (by decide) rfl ?_
  intro p e s m args below meth c s₁ B hml hv
  obtain rfl := hv
  have hx := B.exec
  have hb := B.bytes
  have hr := B.returns
  have hts := atoms_spec (ws := wsX0_withBit) B.pre
  have hown : s.vm.findClass RX0 = some m.cls := findClass_of_methodNamed B.named
  have hlocks := B.notSynchronized
  have hl := lv_entry ([.int (nI (bm f)), .int (nI (r)), .int (bI (b))]) (n := 3) (Nat.le_of_ble_eq_true rfl)
  rw [lg_entry_eq]
  generalize (lg_sl ([.int (nI (bm f)), .int (nI (r)), .int (bI (b))]) ++ List.replicate (3 - (lg_sl ([.int (nI (bm f)), .int (nI (r)), .int (bI (b))])).length) Slot.unset).toArray = ls at hl ⊢
  have hl : lv_has ls 3 [(0, .int (nI (bm f))), (1, .int (nI (r))), (2, .int (bI (b)))] := hl
  refine lv_iload_n hx hb dX0_withBit_0 rfl (lv_at hl 2 rfl) ?_
  refine xx_if0 (tgt := 12) hx hb dX0_withBit_1 (by decide) (fun h1 => ?_) (fun h1 => ?_)
  · skip
    refine lv_iload_n hx hb dX0_withBit_12 rfl (lv_at hl 0 rfl) ?_
    refine lv_iconst (v := nI 1) hx hb dX0_withBit_13 (by decide) ?_
    refine lv_iload_n hx hb dX0_withBit_14 rfl (lv_at hl 1 rfl) ?_
    refine lv_ishl hx hb dX0_withBit_15 ?_
    refine lv_iconst (v := -1) hx hb dX0_withBit_16 (by decide) ?_
    refine lv_ixor hx hb dX0_withBit_17 ?_
    refine lv_iand hx hb dX0_withBit_18 ?_
    exact W.iret (v := (nI (bm f) &&& ((nI (1) <<< (nI (r) &&& 31)) ^^^ (-1)))) hx hb hr (fun t ht hW => ⟨ro_i (by rw [h1]; exact bm_off f hr10), ht⟩) (fun _ h => absurd h List.not_mem_nil) dX0_withBit_19
  · skip
    refine lv_iload_n hx hb dX0_withBit_4 rfl (lv_at hl 0 rfl) ?_
    refine lv_iconst (v := nI 1) hx hb dX0_withBit_5 (by decide) ?_
    refine lv_iload_n hx hb dX0_withBit_6 rfl (lv_at hl 1 rfl) ?_
    refine lv_ishl hx hb dX0_withBit_7 ?_
    refine lv_ior hx hb dX0_withBit_8 ?_
    refine lv_goto (tgt := 19) hx hb dX0_withBit_9 (by decide) ?_
    exact W.iret (v := (nI (bm f) ||| (nI (1) <<< (nI (r) &&& 31)))) hx hb hr (fun t ht hW => ⟨ro_i (by rw [h1]; exact bm_on f hr10), ht⟩) (fun _ h => absurd h List.not_mem_nil) dX0_withBit_19
