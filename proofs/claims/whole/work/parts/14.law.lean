-- ===== what stays between the calls =====
theorem iv_tick {S : AS} (hi : iv S) (x : Int32) : iv (pTick S x) := by
  unfold pTick
  split
  · rename_i h
    unfold okT at h
    simp at h
    exact ⟨h.2.2, hi.2⟩
  · exact hi
theorem iv_ps2 {f : Nat → Nat → AS} {d : AS} (hd : iv d) (hf : ∀ r z, r < 10 → z < 16 → iv (f r z)) (x y : Int32) : iv (ps2 f d x y) := by
  unfold ps2
  split
  · rename_i h
    obtain ⟨h1, h2⟩ := (Bool.and_eq_true _ _).mp h
    obtain ⟨r, hr, rfl⟩ := inR_t (by decide) h1
    obtain ⟨z, hz, rfl⟩ := inR_t (by decide) h2
    rw [nI_clamp (by omega), nI_clamp (by omega)]
    exact hf r z hr hz
  · exact hd
theorem iv_ps1 {f : Nat → AS} {d : AS} (hd : iv d) (hf : ∀ r, iv (f r)) (x : Int32) : iv (ps1 10 f d x) := by
  unfold ps1
  split
  · exact hf _
  · exact hd
theorem iv_fw {S : AS} (hi : iv S) (x y : Int32) (b : Bool) : iv (pFw S x y b) := iv_ps2 (f := fun r z => uF S (upF (sF S) r z b)) hi (fun _ _ _ _ => hi) x y
theorem iv_th {S : AS} (hi : iv S) (x : Int32) (b : Bool) : iv (pTh S x b) := iv_ps1 (f := fun r => uG S (upB (sG S) r (!b))) hi (fun _ => hi) x
theorem iv_df {S : AS} (hi : iv S) (x : Int32) (b : Bool) : iv (pDf S x b) := iv_ps1 (f := fun r => uD S (upB (sD S) r b)) hi (fun _ => hi) x
theorem iv_pl {S : AS} (hi : iv S) (x y d : Int32) (b : Bool) : iv (pPl S x y d b) := by
  unfold pPl
  split
  · rename_i h
    obtain ⟨k, hk, rfl⟩ := inR_t (by decide) h
    rw [nI_clamp (by omega)]
    refine iv_ps2 hi (fun r z _ _ => ?_) x y
    refine ⟨hi.1, fun c => ?_, hi.2.2⟩
    show upN (sI S) (16 * r + z) k c ≤ 9999
    unfold upN
    split
    · omega
    · exact hi.2.1 c
  · exact hi
theorem iv_dt {S : AS} (hi : iv S) (x y : Int32) : iv (pDt S x y) := iv_ps2 hi (fun r z _ hz => by
  show iv (if sG S r then S else pData S r z)
  split
  · exact hi
  · exact data_iv hi hz) x y
theorem i_le {L i : Nat} (hL : L ≤ 2560) (hi : i ≤ 2560) (h : ¬ nI L - nI 5 < nI i) : i + 5 ≤ L := by
  have h1 : (nI L - nI 5).toInt = (L : Int) - (5 : Nat) := pk_sub_toInt (by omega) (by decide)
  have h2 : (nI i).toInt = (i : Int) := nI_toInt (by omega)
  rw [Int32.lt_iff_toInt_lt, h1, h2] at h
  omega
theorem i_5 (i : Nat) : nI i + Int32.ofInt 5 = nI (i + 5) := nI_add i 5
/-- the addresses of both, apart -/
theorem two_D {A : Nat → Prop} {ad bd : Nat → Nat} {ck dk : Nat → ClassId} {S : AS} {a a' : Nat} (h : va_D A (wB ad ck S a ++ wM bd dk S a')) : apt 6 ad ∧ apt 9 bd ∧ (∀ q, aB ad q → ¬ aM bd q) ∧ (∀ q, aB ad q → A q) ∧ ∀ q, aM bd q → A q := by
  have kB : ∀ i, i < 6 → ∃ e, (wB ad ck S a ++ wM bd dk S a')[i]? = some (ad i, e) := by
    intro i hi
    match i, hi with
    | 0, _ => exact ⟨_, rfl⟩
    | 1, _ => exact ⟨_, rfl⟩
    | 2, _ => exact ⟨_, rfl⟩
    | 3, _ => exact ⟨_, rfl⟩
    | 4, _ => exact ⟨_, rfl⟩
    | 5, _ => exact ⟨_, rfl⟩
  have kM : ∀ i, i < 9 → ∃ e, (wB ad ck S a ++ wM bd dk S a')[6 + i]? = some (bd i, e) := by
    intro i hi
    match i, hi with
    | 0, _ => exact ⟨_, rfl⟩
    | 1, _ => exact ⟨_, rfl⟩
    | 2, _ => exact ⟨_, rfl⟩
    | 3, _ => exact ⟨_, rfl⟩
    | 4, _ => exact ⟨_, rfl⟩
    | 5, _ => exact ⟨_, rfl⟩
    | 6, _ => exact ⟨_, rfl⟩
    | 7, _ => exact ⟨_, rfl⟩
    | 8, _ => exact ⟨_, rfl⟩
  refine ⟨fun i j hi hj e => ?_, fun i j hi hj e => ?_, fun q h1 h2 => ?_, fun q h1 => ?_, fun q h1 => ?_⟩
  · obtain ⟨e1, h1⟩ := kB i hi
    obtain ⟨e2, h2⟩ := kB j hj
    exact h.1 i j _ _ h1 h2 e
  · obtain ⟨e1, h1⟩ := kM i hi
    obtain ⟨e2, h2⟩ := kM j hj
    have := h.1 _ _ _ _ h1 h2 e
    omega
  · obtain ⟨i, hi, rfl⟩ := h1
    obtain ⟨j, hj, e⟩ := h2
    obtain ⟨e1, h1⟩ := kB i hi
    obtain ⟨e2, h2⟩ := kM j hj
    have := h.1 _ _ _ _ h1 h2 e
    omega
  · obtain ⟨i, hi, rfl⟩ := h1
    obtain ⟨e1, h1⟩ := kB i hi
    exact h.2 _ _ h1
  · obtain ⟨i, hi, rfl⟩ := h1
    obtain ⟨e1, h1⟩ := kM i hi
    exact h.2 _ _ h1
theorem keepM {D : va_G} {ad bd : Nat → Nat} {dk : Nat → ClassId} {S : AS} {a : Nat} {H H1 : Heap} (hd : apt 9 bd) (hj : ∀ q, aB ad q → ¬ aM bd q) (hP : va_P D vwCl (wM bd dk S a) H) (hk : ∀ q : Nat, q < H.size → ¬ aB ad q → H1[q]? = H[q]?) : va_P D vwCl (wM bd dk S a) H1 :=
  hP.kept (fun k q hq => hk q.1 (hP k q hq).lt (fun h => hj q.1 h ((dM hd dk S a).2 k q hq)))
theorem keepB {D : va_G} {ad bd : Nat → Nat} {ck : Nat → ClassId} {S : AS} {a : Nat} {H H1 : Heap} (hd : apt 6 ad) (hj : ∀ q, aB ad q → ¬ aM bd q) (hP : va_P D vwCl (wB ad ck S a) H) (hk : ∀ q : Nat, q < H.size → ¬ aM bd q → H1[q]? = H[q]?) : va_P D vwCl (wB ad ck S a) H1 :=
  hP.kept (fun k q hq => hk q.1 (hP k q hq).lt (fun h => hj q.1 ((dB hd ck S a).2 k q hq) h))
section VL
variable {p : Program} {l : Launch} {e : Env} {R : Room} {s : State} {m : MethodId} {args : Array Value} {below : List Frame} {meth : Method} {c : Code} {H : Heap} {locs : List Loc} {cells slots : Nat} {Q : State → Prop}
variable {cc : ByteArray} {pc : Nat} {ls : Array Slot} {rest : List Value} {A : Nat → Prop} {H0 : Heap}
theorem xx_sld (hexec : p.tables.exec = Jvm.exec) (hb : c.code = cc) {b L : Nat} {xs : Nat → Int32} (hX : va_X b L xs s H0) (hbl : b < H0.size) (hbA : ¬ A b) (hS : va_S A H0 H locs) {j : Nat} (hj : j < L) (hL : L ≤ 2560) (hdg : decode cc pc = .ok (.iaload, 1))
    (kk : W p l e R s m args below meth c H locs cells slots Q (F0 m (pc + 1) ls (.int (xs j) :: rest))) : W p l e R s m args below meth c H locs cells slots Q (F0 m pc ls (.int (nI j) :: .ref b :: rest)) :=
  va_sld hexec hb hX hbl hbA hS (vp_in_nI hj (by omega)) hdg (by rw [nI_clamp (by omega)]; exact kk)
end VL
/-- the law's walk -/
abbrev LW (p : Program) (l : Launch) (e : Env) (s : State) (m : MethodId) (b : Nat) (below : List Frame) (meth : Method) (c : Code) (H : Heap) (locs : List Loc) (g : JFrame) : Prop := W p l e room_1 s m #[Value.ref b] below meth c H locs 15 3384 (lw_Z below #[Value.ref b] s) g
abbrev LV (ls : Array Slot) (b : Nat) (ad bd : Nat → Nat) (i : Nat) : Prop := lv_has ls 4 [(3, .int (nI i)), (0, .ref b), (1, .ref (ad 0)), (2, .ref (bd 0))]
/-- what stays in the law's loop -/
def LC (s : State) (D : va_G) (ad bd : Nat → Nat) (ck dk : Nat → ClassId) : Prop := apt 6 ad ∧ apt 9 bd ∧ (∀ q, aB ad q → ¬ aM bd q) ∧ (∀ q, aB ad q → s.heap.size ≤ q) ∧ (∀ q, aM bd q → s.heap.size ≤ q) ∧ va_K D vwCl (tyB ck) s ∧ va_K D vwCl (tyM dk) s
set_option maxHeartbeats 4000000 in
set_option maxRecDepth 100000 in
theorem law_tick {p : Program} {l : Launch} {e : Env} {s : State} {m : MethodId} {below : List Frame} {meth : Method} {c : Code} {D : va_G} {b L : Nat} {xs : Nat → Int32} (hL : L ≤ 2560) (C0 : lw_At p s m meth c b L xs) {ad bd : Nat → Nat} {ck dk : Nat → ClassId} (C1 : LC s D ad bd ck dk) {i : Nat} (h5 : i + 5 ≤ L) (k9 : ∀ (S : AS) (a : Nat), iv S → ∀ (H : Heap) (locs : List Loc), va_P D vwCl (wB ad ck S a) H → va_P D vwCl (wM bd dk S a) H → va_S (fun q : Nat => s.heap.size ≤ q) s.heap H locs → ∀ (ls : Array Slot), LV ls b ad bd i → LW p l e s m b below meth c H locs (F0 m 546 ls [])) (S : AS) (a : Nat) (hi : iv S) (H : Heap) (locs : List Loc) (hPB : va_P D vwCl (wB ad ck S a) H) (hPM : va_P D vwCl (wM bd dk S a) H) (hS : va_S (fun q : Nat => s.heap.size ≤ q) s.heap H locs) (ls : Array Slot) (hl : LV ls b ad bd i) : LW p l e s m b below meth c H locs (F0 m 96 ls []) := by
  obtain ⟨hx, hb, hr, hml, hown, hts, hX, hbl, hlocks, hgv⟩ := C0
  obtain ⟨hdB, hdM, hdj, hAB, hAM, hKB, hKM⟩ := C1
  have hown : s.vm.findClass RL = some m.cls := hown
  have hts : ∀ w ∈ wsL_law, w.before #[Value.ref b] s = true := fun w h => hts w (wsL_law_in w h)
  have hbA : ¬ (fun q : Nat => s.heap.size ≤ q) b := Nat.not_le.mpr hbl
  refine lv_aload_n hx hb dL_law_96 rfl (lv_at hl 2 rfl) ?_
  refine lv_aload_n hx hb dL_law_97 rfl (lv_at hl 1 rfl) ?_
  refine lv_iload_n hx hb dL_law_98 rfl (lv_at hl 0 rfl) ?_
  refine lv_iconst (v := nI 1) hx hb dL_law_99 (by decide) ?_
  refine xx_add hx hb dL_law_100 ?_
  refine xx_sld hx hb hX hbl hbA hS (j := i + 1) (by omega) hL dL_law_101 ?_
  refine xx_callM (W.runV (As := [.int (xs (i + 1))]) (rest := []) ⟨hx, hb, hml, hown, hts⟩ (c0_tick l D ad hdB ck S a hi (xs (i + 1))) (cwV 1 hts gL_law_X0_tick rfl rfl rfl (by decide +kernel) ⟨Nat.le_of_ble_eq_true rfl, Nat.le_of_ble_eq_true rfl⟩) (PW_pre hKB hPB (ci := 0) rfl rfl) rfl rfl hl.1 rfl (lv_room (Nat.le_of_ble_eq_true rfl)) dL_law_102 ⟨show 15 + 0 ≤ 15 by omega, show 3384 + 0 ≤ 3384 by omega⟩) hS (fun q h => hAB q h) (fun H1 locs1 hP1 hk1 hS1 => ?_)
  have hPM := keepM hdM hdj hPM hk1
  have hPB := hP1
  have hS := hS1
  refine W.eq (g2 := F0 m 105 ls [.int (aTick S (xs (i + 1)))]) rfl ?_
  refine lv_aload_n hx hb dL_law_105 rfl (lv_at hl 3 rfl) ?_
  refine lv_aload_n hx hb dL_law_106 rfl (lv_at hl 1 rfl) ?_
  refine lv_iload_n hx hb dL_law_107 rfl (lv_at hl 0 rfl) ?_
  refine lv_iconst (v := nI 1) hx hb dL_law_108 (by decide) ?_
  refine xx_add hx hb dL_law_109 ?_
  refine xx_sld hx hb hX hbl hbA hS (j := i + 1) (by omega) hL dL_law_110 ?_
  refine xx_callM (W.runV (As := [.int (xs (i + 1))]) (rest := [.int (aTick S (xs (i + 1)))]) ⟨hx, hb, hml, hown, hts⟩ (c1_tick l D bd hdM dk S a hi (xs (i + 1))) (cwV 1 hts gL_law_X1_tick rfl rfl rfl (by decide +kernel) ⟨Nat.le_of_ble_eq_true rfl, Nat.le_of_ble_eq_true rfl⟩) (PW_pre hKM hPM (ci := 1) rfl rfl) rfl rfl hl.1 rfl (lv_room (Nat.le_of_ble_eq_true rfl)) dL_law_111 ⟨show 15 + 0 ≤ 15 by omega, show 3384 + 0 ≤ 3384 by omega⟩) hS (fun q h => hAM q h) (fun H1 locs1 hP1 hk1 hS1 => ?_)
  have hPB := keepB hdB hdj hPB hk1
  have hPM := hP1
  have hS := hS1
  refine W.eq (g2 := F0 m 114 ls [.int (aTick S (xs (i + 1))), .int (aTick S (xs (i + 1)))]) rfl ?_
  refine lv_icmp_eq (tgt := 546) hx hb dL_law_114 (by decide) (fun _ => ?_) (fun h => absurd rfl h)
  exact k9 (pTick S (xs (i + 1))) (a) (iv_tick hi (xs (i + 1))) H1 locs1 hPB hPM hS ls hl
set_option maxHeartbeats 4000000 in
set_option maxRecDepth 100000 in
theorem law_forward {p : Program} {l : Launch} {e : Env} {s : State} {m : MethodId} {below : List Frame} {meth : Method} {c : Code} {D : va_G} {b L : Nat} {xs : Nat → Int32} (hL : L ≤ 2560) (C0 : lw_At p s m meth c b L xs) {ad bd : Nat → Nat} {ck dk : Nat → ClassId} (C1 : LC s D ad bd ck dk) {i : Nat} (h5 : i + 5 ≤ L) (k9 : ∀ (S : AS) (a : Nat), iv S → ∀ (H : Heap) (locs : List Loc), va_P D vwCl (wB ad ck S a) H → va_P D vwCl (wM bd dk S a) H → va_S (fun q : Nat => s.heap.size ≤ q) s.heap H locs → ∀ (ls : Array Slot), LV ls b ad bd i → LW p l e s m b below meth c H locs (F0 m 546 ls [])) (S : AS) (a : Nat) (hi : iv S) (H : Heap) (locs : List Loc) (hPB : va_P D vwCl (wB ad ck S a) H) (hPM : va_P D vwCl (wM bd dk S a) H) (hS : va_S (fun q : Nat => s.heap.size ≤ q) s.heap H locs) (ls : Array Slot) (hl : LV ls b ad bd i) : LW p l e s m b below meth c H locs (F0 m 119 ls []) := by
  obtain ⟨hx, hb, hr, hml, hown, hts, hX, hbl, hlocks, hgv⟩ := C0
  obtain ⟨hdB, hdM, hdj, hAB, hAM, hKB, hKM⟩ := C1
  have hown : s.vm.findClass RL = some m.cls := hown
  have hts : ∀ w ∈ wsL_law, w.before #[Value.ref b] s = true := fun w h => hts w (wsL_law_in w h)
  have hbA : ¬ (fun q : Nat => s.heap.size ≤ q) b := Nat.not_le.mpr hbl
  by_cases e9 : xs (i + 3) = 0
  · skip
    refine lv_aload_n hx hb dL_law_119 rfl (lv_at hl 2 rfl) ?_
    refine lv_aload_n hx hb dL_law_120 rfl (lv_at hl 1 rfl) ?_
    refine lv_iload_n hx hb dL_law_121 rfl (lv_at hl 0 rfl) ?_
    refine lv_iconst (v := nI 1) hx hb dL_law_122 (by decide) ?_
    refine xx_add hx hb dL_law_123 ?_
    refine xx_sld hx hb hX hbl hbA hS (j := i + 1) (by omega) hL dL_law_124 ?_
    refine lv_aload_n hx hb dL_law_125 rfl (lv_at hl 1 rfl) ?_
    refine lv_iload_n hx hb dL_law_126 rfl (lv_at hl 0 rfl) ?_
    refine lv_iconst (v := nI 2) hx hb dL_law_127 (by decide) ?_
    refine xx_add hx hb dL_law_128 ?_
    refine xx_sld hx hb hX hbl hbA hS (j := i + 2) (by omega) hL dL_law_129 ?_
    refine lv_aload_n hx hb dL_law_130 rfl (lv_at hl 1 rfl) ?_
    refine lv_iload_n hx hb dL_law_131 rfl (lv_at hl 0 rfl) ?_
    refine lv_iconst (v := nI 3) hx hb dL_law_132 (by decide) ?_
    refine xx_add hx hb dL_law_133 ?_
    refine xx_sld hx hb hX hbl hbA hS (j := i + 3) (by omega) hL dL_law_134 ?_
    refine lv_if_eq (tgt := 142) hx hb dL_law_135 (by decide) (fun _ => ?_) (fun h => absurd e9 h)
    refine lv_iconst (v := nI 0) hx hb dL_law_142 (by decide) ?_
    refine xx_callM (W.runV (As := [.int (xs (i + 1)), .int (xs (i + 2)), .int (bI (false))]) (rest := []) ⟨hx, hb, hml, hown, hts⟩ (c0_forward l D ad hdB ck S a hi (xs (i + 1)) (xs (i + 2)) false) (cwV 3 hts gL_law_X0_forward rfl rfl rfl (by decide +kernel) ⟨Nat.le_of_ble_eq_true rfl, Nat.le_of_ble_eq_true rfl⟩) (PW_pre hKB hPB (ci := 0) rfl rfl) rfl rfl hl.1 rfl (lv_room (Nat.le_of_ble_eq_true rfl)) dL_law_143 ⟨show 15 + 0 ≤ 15 by omega, show 3384 + 0 ≤ 3384 by omega⟩) hS (fun q h => hAB q h) (fun H1 locs1 hP1 hk1 hS1 => ?_)
    have hPM := keepM hdM hdj hPM hk1
    have hPB := hP1
    have hS := hS1
    refine W.eq (g2 := F0 m 146 ls [.int (aFw (xs (i + 1)) (xs (i + 2)))]) rfl ?_
    refine lv_aload_n hx hb dL_law_146 rfl (lv_at hl 3 rfl) ?_
    refine lv_aload_n hx hb dL_law_147 rfl (lv_at hl 1 rfl) ?_
    refine lv_iload_n hx hb dL_law_148 rfl (lv_at hl 0 rfl) ?_
    refine lv_iconst (v := nI 1) hx hb dL_law_149 (by decide) ?_
    refine xx_add hx hb dL_law_150 ?_
    refine xx_sld hx hb hX hbl hbA hS (j := i + 1) (by omega) hL dL_law_151 ?_
    refine lv_aload_n hx hb dL_law_152 rfl (lv_at hl 1 rfl) ?_
    refine lv_iload_n hx hb dL_law_153 rfl (lv_at hl 0 rfl) ?_
    refine lv_iconst (v := nI 2) hx hb dL_law_154 (by decide) ?_
    refine xx_add hx hb dL_law_155 ?_
    refine xx_sld hx hb hX hbl hbA hS (j := i + 2) (by omega) hL dL_law_156 ?_
    refine lv_aload_n hx hb dL_law_157 rfl (lv_at hl 1 rfl) ?_
    refine lv_iload_n hx hb dL_law_158 rfl (lv_at hl 0 rfl) ?_
    refine lv_iconst (v := nI 3) hx hb dL_law_159 (by decide) ?_
    refine xx_add hx hb dL_law_160 ?_
    refine xx_sld hx hb hX hbl hbA hS (j := i + 3) (by omega) hL dL_law_161 ?_
    refine lv_if_eq (tgt := 169) hx hb dL_law_162 (by decide) (fun _ => ?_) (fun h => absurd e9 h)
    refine lv_iconst (v := nI 0) hx hb dL_law_169 (by decide) ?_
    refine xx_callM (W.runV (As := [.int (xs (i + 1)), .int (xs (i + 2)), .int (bI (false))]) (rest := [.int (aFw (xs (i + 1)) (xs (i + 2)))]) ⟨hx, hb, hml, hown, hts⟩ (c1_forward l D bd hdM dk S a hi (xs (i + 1)) (xs (i + 2)) false) (cwV 3 hts gL_law_X1_forward rfl rfl rfl (by decide +kernel) ⟨Nat.le_of_ble_eq_true rfl, Nat.le_of_ble_eq_true rfl⟩) (PW_pre hKM hPM (ci := 1) rfl rfl) rfl rfl hl.1 rfl (lv_room (Nat.le_of_ble_eq_true rfl)) dL_law_170 ⟨show 15 + 0 ≤ 15 by omega, show 3384 + 0 ≤ 3384 by omega⟩) hS (fun q h => hAM q h) (fun H1 locs1 hP1 hk1 hS1 => ?_)
    have hPB := keepB hdB hdj hPB hk1
    have hPM := hP1
    have hS := hS1
    refine W.eq (g2 := F0 m 173 ls [.int (aFw (xs (i + 1)) (xs (i + 2))), .int (aFw (xs (i + 1)) (xs (i + 2)))]) rfl ?_
    refine lv_icmp_eq (tgt := 546) hx hb dL_law_173 (by decide) (fun _ => ?_) (fun h => absurd rfl h)
    exact k9 (pFw S (xs (i + 1)) (xs (i + 2)) false) (a) (iv_fw hi (xs (i + 1)) (xs (i + 2)) false) H1 locs1 hPB hPM hS ls hl
  · skip
    refine lv_aload_n hx hb dL_law_119 rfl (lv_at hl 2 rfl) ?_
    refine lv_aload_n hx hb dL_law_120 rfl (lv_at hl 1 rfl) ?_
    refine lv_iload_n hx hb dL_law_121 rfl (lv_at hl 0 rfl) ?_
    refine lv_iconst (v := nI 1) hx hb dL_law_122 (by decide) ?_
    refine xx_add hx hb dL_law_123 ?_
    refine xx_sld hx hb hX hbl hbA hS (j := i + 1) (by omega) hL dL_law_124 ?_
    refine lv_aload_n hx hb dL_law_125 rfl (lv_at hl 1 rfl) ?_
    refine lv_iload_n hx hb dL_law_126 rfl (lv_at hl 0 rfl) ?_
    refine lv_iconst (v := nI 2) hx hb dL_law_127 (by decide) ?_
    refine xx_add hx hb dL_law_128 ?_
    refine xx_sld hx hb hX hbl hbA hS (j := i + 2) (by omega) hL dL_law_129 ?_
    refine lv_aload_n hx hb dL_law_130 rfl (lv_at hl 1 rfl) ?_
    refine lv_iload_n hx hb dL_law_131 rfl (lv_at hl 0 rfl) ?_
    refine lv_iconst (v := nI 3) hx hb dL_law_132 (by decide) ?_
    refine xx_add hx hb dL_law_133 ?_
    refine xx_sld hx hb hX hbl hbA hS (j := i + 3) (by omega) hL dL_law_134 ?_
    refine lv_if_eq (tgt := 142) hx hb dL_law_135 (by decide) (fun h => absurd h e9) (fun _ => ?_)
    refine lv_iconst (v := nI 1) hx hb dL_law_138 (by decide) ?_
    refine lv_goto (tgt := 143) hx hb dL_law_139 (by decide) ?_
    refine xx_callM (W.runV (As := [.int (xs (i + 1)), .int (xs (i + 2)), .int (bI (true))]) (rest := []) ⟨hx, hb, hml, hown, hts⟩ (c0_forward l D ad hdB ck S a hi (xs (i + 1)) (xs (i + 2)) true) (cwV 3 hts gL_law_X0_forward rfl rfl rfl (by decide +kernel) ⟨Nat.le_of_ble_eq_true rfl, Nat.le_of_ble_eq_true rfl⟩) (PW_pre hKB hPB (ci := 0) rfl rfl) rfl rfl hl.1 rfl (lv_room (Nat.le_of_ble_eq_true rfl)) dL_law_143 ⟨show 15 + 0 ≤ 15 by omega, show 3384 + 0 ≤ 3384 by omega⟩) hS (fun q h => hAB q h) (fun H1 locs1 hP1 hk1 hS1 => ?_)
    have hPM := keepM hdM hdj hPM hk1
    have hPB := hP1
    have hS := hS1
    refine W.eq (g2 := F0 m 146 ls [.int (aFw (xs (i + 1)) (xs (i + 2)))]) rfl ?_
    refine lv_aload_n hx hb dL_law_146 rfl (lv_at hl 3 rfl) ?_
    refine lv_aload_n hx hb dL_law_147 rfl (lv_at hl 1 rfl) ?_
    refine lv_iload_n hx hb dL_law_148 rfl (lv_at hl 0 rfl) ?_
    refine lv_iconst (v := nI 1) hx hb dL_law_149 (by decide) ?_
    refine xx_add hx hb dL_law_150 ?_
    refine xx_sld hx hb hX hbl hbA hS (j := i + 1) (by omega) hL dL_law_151 ?_
    refine lv_aload_n hx hb dL_law_152 rfl (lv_at hl 1 rfl) ?_
    refine lv_iload_n hx hb dL_law_153 rfl (lv_at hl 0 rfl) ?_
    refine lv_iconst (v := nI 2) hx hb dL_law_154 (by decide) ?_
    refine xx_add hx hb dL_law_155 ?_
    refine xx_sld hx hb hX hbl hbA hS (j := i + 2) (by omega) hL dL_law_156 ?_
    refine lv_aload_n hx hb dL_law_157 rfl (lv_at hl 1 rfl) ?_
    refine lv_iload_n hx hb dL_law_158 rfl (lv_at hl 0 rfl) ?_
    refine lv_iconst (v := nI 3) hx hb dL_law_159 (by decide) ?_
    refine xx_add hx hb dL_law_160 ?_
    refine xx_sld hx hb hX hbl hbA hS (j := i + 3) (by omega) hL dL_law_161 ?_
    refine lv_if_eq (tgt := 169) hx hb dL_law_162 (by decide) (fun h => absurd h e9) (fun _ => ?_)
    refine lv_iconst (v := nI 1) hx hb dL_law_165 (by decide) ?_
    refine lv_goto (tgt := 170) hx hb dL_law_166 (by decide) ?_
    refine xx_callM (W.runV (As := [.int (xs (i + 1)), .int (xs (i + 2)), .int (bI (true))]) (rest := [.int (aFw (xs (i + 1)) (xs (i + 2)))]) ⟨hx, hb, hml, hown, hts⟩ (c1_forward l D bd hdM dk S a hi (xs (i + 1)) (xs (i + 2)) true) (cwV 3 hts gL_law_X1_forward rfl rfl rfl (by decide +kernel) ⟨Nat.le_of_ble_eq_true rfl, Nat.le_of_ble_eq_true rfl⟩) (PW_pre hKM hPM (ci := 1) rfl rfl) rfl rfl hl.1 rfl (lv_room (Nat.le_of_ble_eq_true rfl)) dL_law_170 ⟨show 15 + 0 ≤ 15 by omega, show 3384 + 0 ≤ 3384 by omega⟩) hS (fun q h => hAM q h) (fun H1 locs1 hP1 hk1 hS1 => ?_)
    have hPB := keepB hdB hdj hPB hk1
    have hPM := hP1
    have hS := hS1
    refine W.eq (g2 := F0 m 173 ls [.int (aFw (xs (i + 1)) (xs (i + 2))), .int (aFw (xs (i + 1)) (xs (i + 2)))]) rfl ?_
    refine lv_icmp_eq (tgt := 546) hx hb dL_law_173 (by decide) (fun _ => ?_) (fun h => absurd rfl h)
    exact k9 (pFw S (xs (i + 1)) (xs (i + 2)) true) (a) (iv_fw hi (xs (i + 1)) (xs (i + 2)) true) H1 locs1 hPB hPM hS ls hl
set_option maxHeartbeats 4000000 in
set_option maxRecDepth 100000 in
theorem law_place {p : Program} {l : Launch} {e : Env} {s : State} {m : MethodId} {below : List Frame} {meth : Method} {c : Code} {D : va_G} {b L : Nat} {xs : Nat → Int32} (hL : L ≤ 2560) (C0 : lw_At p s m meth c b L xs) {ad bd : Nat → Nat} {ck dk : Nat → ClassId} (C1 : LC s D ad bd ck dk) {i : Nat} (h5 : i + 5 ≤ L) (k9 : ∀ (S : AS) (a : Nat), iv S → ∀ (H : Heap) (locs : List Loc), va_P D vwCl (wB ad ck S a) H → va_P D vwCl (wM bd dk S a) H → va_S (fun q : Nat => s.heap.size ≤ q) s.heap H locs → ∀ (ls : Array Slot), LV ls b ad bd i → LW p l e s m b below meth c H locs (F0 m 546 ls [])) (S : AS) (a : Nat) (hi : iv S) (H : Heap) (locs : List Loc) (hPB : va_P D vwCl (wB ad ck S a) H) (hPM : va_P D vwCl (wM bd dk S a) H) (hS : va_S (fun q : Nat => s.heap.size ≤ q) s.heap H locs) (ls : Array Slot) (hl : LV ls b ad bd i) : LW p l e s m b below meth c H locs (F0 m 178 ls []) := by
  obtain ⟨hx, hb, hr, hml, hown, hts, hX, hbl, hlocks, hgv⟩ := C0
  obtain ⟨hdB, hdM, hdj, hAB, hAM, hKB, hKM⟩ := C1
  have hown : s.vm.findClass RL = some m.cls := hown
  have hts : ∀ w ∈ wsL_law, w.before #[Value.ref b] s = true := fun w h => hts w (wsL_law_in w h)
  have hbA : ¬ (fun q : Nat => s.heap.size ≤ q) b := Nat.not_le.mpr hbl
  by_cases e9 : xs (i + 3) = 0
  · skip
    refine lv_aload_n hx hb dL_law_178 rfl (lv_at hl 2 rfl) ?_
    refine lv_aload_n hx hb dL_law_179 rfl (lv_at hl 1 rfl) ?_
    refine lv_iload_n hx hb dL_law_180 rfl (lv_at hl 0 rfl) ?_
    refine lv_iconst (v := nI 1) hx hb dL_law_181 (by decide) ?_
    refine xx_add hx hb dL_law_182 ?_
    refine xx_sld hx hb hX hbl hbA hS (j := i + 1) (by omega) hL dL_law_183 ?_
    refine lv_aload_n hx hb dL_law_184 rfl (lv_at hl 1 rfl) ?_
    refine lv_iload_n hx hb dL_law_185 rfl (lv_at hl 0 rfl) ?_
    refine lv_iconst (v := nI 2) hx hb dL_law_186 (by decide) ?_
    refine xx_add hx hb dL_law_187 ?_
    refine xx_sld hx hb hX hbl hbA hS (j := i + 2) (by omega) hL dL_law_188 ?_
    refine lv_aload_n hx hb dL_law_189 rfl (lv_at hl 1 rfl) ?_
    refine lv_iload_n hx hb dL_law_190 rfl (lv_at hl 0 rfl) ?_
    refine lv_iconst (v := nI 3) hx hb dL_law_191 (by decide) ?_
    refine xx_add hx hb dL_law_192 ?_
    refine xx_sld hx hb hX hbl hbA hS (j := i + 3) (by omega) hL dL_law_193 ?_
    refine lv_if_eq (tgt := 201) hx hb dL_law_194 (by decide) (fun _ => ?_) (fun h => absurd e9 h)
    refine lv_iconst (v := nI 0) hx hb dL_law_201 (by decide) ?_
    refine lv_aload_n hx hb dL_law_202 rfl (lv_at hl 1 rfl) ?_
    refine lv_iload_n hx hb dL_law_203 rfl (lv_at hl 0 rfl) ?_
    refine lv_iconst (v := nI 4) hx hb dL_law_204 (by decide) ?_
    refine xx_add hx hb dL_law_205 ?_
    refine xx_sld hx hb hX hbl hbA hS (j := i + 4) (by omega) hL dL_law_206 ?_
    refine xx_callM (W.runV (As := [.int (xs (i + 1)), .int (xs (i + 2)), .int (bI (false)), .int (xs (i + 4))]) (rest := []) ⟨hx, hb, hml, hown, hts⟩ (c0_place l D ad hdB ck S a hi (xs (i + 1)) (xs (i + 2)) false (xs (i + 4))) (cwV 4 hts gL_law_X0_place rfl rfl rfl (by decide +kernel) ⟨Nat.le_of_ble_eq_true rfl, Nat.le_of_ble_eq_true rfl⟩) (PW_pre hKB hPB (ci := 0) rfl rfl) rfl rfl hl.1 rfl (lv_room (Nat.le_of_ble_eq_true rfl)) dL_law_207 ⟨show 15 + 0 ≤ 15 by omega, show 3384 + 0 ≤ 3384 by omega⟩) hS (fun q h => hAB q h) (fun H1 locs1 hP1 hk1 hS1 => ?_)
    have hPM := keepM hdM hdj hPM hk1
    have hPB := hP1
    have hS := hS1
    refine W.eq (g2 := F0 m 210 ls [.int (aPl (xs (i + 1)) (xs (i + 2)) (xs (i + 4)))]) rfl ?_
    refine lv_aload_n hx hb dL_law_210 rfl (lv_at hl 3 rfl) ?_
    refine lv_aload_n hx hb dL_law_211 rfl (lv_at hl 1 rfl) ?_
    refine lv_iload_n hx hb dL_law_212 rfl (lv_at hl 0 rfl) ?_
    refine lv_iconst (v := nI 1) hx hb dL_law_213 (by decide) ?_
    refine xx_add hx hb dL_law_214 ?_
    refine xx_sld hx hb hX hbl hbA hS (j := i + 1) (by omega) hL dL_law_215 ?_
    refine lv_aload_n hx hb dL_law_216 rfl (lv_at hl 1 rfl) ?_
    refine lv_iload_n hx hb dL_law_217 rfl (lv_at hl 0 rfl) ?_
    refine lv_iconst (v := nI 2) hx hb dL_law_218 (by decide) ?_
    refine xx_add hx hb dL_law_219 ?_
    refine xx_sld hx hb hX hbl hbA hS (j := i + 2) (by omega) hL dL_law_220 ?_
    refine lv_aload_n hx hb dL_law_221 rfl (lv_at hl 1 rfl) ?_
    refine lv_iload_n hx hb dL_law_222 rfl (lv_at hl 0 rfl) ?_
    refine lv_iconst (v := nI 3) hx hb dL_law_223 (by decide) ?_
    refine xx_add hx hb dL_law_224 ?_
    refine xx_sld hx hb hX hbl hbA hS (j := i + 3) (by omega) hL dL_law_225 ?_
    refine lv_if_eq (tgt := 233) hx hb dL_law_226 (by decide) (fun _ => ?_) (fun h => absurd e9 h)
    refine lv_iconst (v := nI 0) hx hb dL_law_233 (by decide) ?_
    refine lv_aload_n hx hb dL_law_234 rfl (lv_at hl 1 rfl) ?_
    refine lv_iload_n hx hb dL_law_235 rfl (lv_at hl 0 rfl) ?_
    refine lv_iconst (v := nI 4) hx hb dL_law_236 (by decide) ?_
    refine xx_add hx hb dL_law_237 ?_
    refine xx_sld hx hb hX hbl hbA hS (j := i + 4) (by omega) hL dL_law_238 ?_
    refine xx_callM (W.runV (As := [.int (xs (i + 1)), .int (xs (i + 2)), .int (bI (false)), .int (xs (i + 4))]) (rest := [.int (aPl (xs (i + 1)) (xs (i + 2)) (xs (i + 4)))]) ⟨hx, hb, hml, hown, hts⟩ (c1_place l D bd hdM dk S a hi (xs (i + 1)) (xs (i + 2)) false (xs (i + 4))) (cwV 4 hts gL_law_X1_place rfl rfl rfl (by decide +kernel) ⟨Nat.le_of_ble_eq_true rfl, Nat.le_of_ble_eq_true rfl⟩) (PW_pre hKM hPM (ci := 1) rfl rfl) rfl rfl hl.1 rfl (lv_room (Nat.le_of_ble_eq_true rfl)) dL_law_239 ⟨show 15 + 0 ≤ 15 by omega, show 3384 + 0 ≤ 3384 by omega⟩) hS (fun q h => hAM q h) (fun H1 locs1 hP1 hk1 hS1 => ?_)
    have hPB := keepB hdB hdj hPB hk1
    have hPM := hP1
    have hS := hS1
    refine W.eq (g2 := F0 m 242 ls [.int (aPl (xs (i + 1)) (xs (i + 2)) (xs (i + 4))), .int (aPl (xs (i + 1)) (xs (i + 2)) (xs (i + 4)))]) rfl ?_
    refine lv_icmp_eq (tgt := 546) hx hb dL_law_242 (by decide) (fun _ => ?_) (fun h => absurd rfl h)
    exact k9 (pPl S (xs (i + 1)) (xs (i + 2)) (xs (i + 4)) false) (a) (iv_pl hi (xs (i + 1)) (xs (i + 2)) (xs (i + 4)) false) H1 locs1 hPB hPM hS ls hl
  · skip
    refine lv_aload_n hx hb dL_law_178 rfl (lv_at hl 2 rfl) ?_
    refine lv_aload_n hx hb dL_law_179 rfl (lv_at hl 1 rfl) ?_
    refine lv_iload_n hx hb dL_law_180 rfl (lv_at hl 0 rfl) ?_
    refine lv_iconst (v := nI 1) hx hb dL_law_181 (by decide) ?_
    refine xx_add hx hb dL_law_182 ?_
    refine xx_sld hx hb hX hbl hbA hS (j := i + 1) (by omega) hL dL_law_183 ?_
    refine lv_aload_n hx hb dL_law_184 rfl (lv_at hl 1 rfl) ?_
    refine lv_iload_n hx hb dL_law_185 rfl (lv_at hl 0 rfl) ?_
    refine lv_iconst (v := nI 2) hx hb dL_law_186 (by decide) ?_
    refine xx_add hx hb dL_law_187 ?_
    refine xx_sld hx hb hX hbl hbA hS (j := i + 2) (by omega) hL dL_law_188 ?_
    refine lv_aload_n hx hb dL_law_189 rfl (lv_at hl 1 rfl) ?_
    refine lv_iload_n hx hb dL_law_190 rfl (lv_at hl 0 rfl) ?_
    refine lv_iconst (v := nI 3) hx hb dL_law_191 (by decide) ?_
    refine xx_add hx hb dL_law_192 ?_
    refine xx_sld hx hb hX hbl hbA hS (j := i + 3) (by omega) hL dL_law_193 ?_
    refine lv_if_eq (tgt := 201) hx hb dL_law_194 (by decide) (fun h => absurd h e9) (fun _ => ?_)
    refine lv_iconst (v := nI 1) hx hb dL_law_197 (by decide) ?_
    refine lv_goto (tgt := 202) hx hb dL_law_198 (by decide) ?_
    refine lv_aload_n hx hb dL_law_202 rfl (lv_at hl 1 rfl) ?_
    refine lv_iload_n hx hb dL_law_203 rfl (lv_at hl 0 rfl) ?_
    refine lv_iconst (v := nI 4) hx hb dL_law_204 (by decide) ?_
    refine xx_add hx hb dL_law_205 ?_
    refine xx_sld hx hb hX hbl hbA hS (j := i + 4) (by omega) hL dL_law_206 ?_
    refine xx_callM (W.runV (As := [.int (xs (i + 1)), .int (xs (i + 2)), .int (bI (true)), .int (xs (i + 4))]) (rest := []) ⟨hx, hb, hml, hown, hts⟩ (c0_place l D ad hdB ck S a hi (xs (i + 1)) (xs (i + 2)) true (xs (i + 4))) (cwV 4 hts gL_law_X0_place rfl rfl rfl (by decide +kernel) ⟨Nat.le_of_ble_eq_true rfl, Nat.le_of_ble_eq_true rfl⟩) (PW_pre hKB hPB (ci := 0) rfl rfl) rfl rfl hl.1 rfl (lv_room (Nat.le_of_ble_eq_true rfl)) dL_law_207 ⟨show 15 + 0 ≤ 15 by omega, show 3384 + 0 ≤ 3384 by omega⟩) hS (fun q h => hAB q h) (fun H1 locs1 hP1 hk1 hS1 => ?_)
    have hPM := keepM hdM hdj hPM hk1
    have hPB := hP1
    have hS := hS1
    refine W.eq (g2 := F0 m 210 ls [.int (aPl (xs (i + 1)) (xs (i + 2)) (xs (i + 4)))]) rfl ?_
    refine lv_aload_n hx hb dL_law_210 rfl (lv_at hl 3 rfl) ?_
    refine lv_aload_n hx hb dL_law_211 rfl (lv_at hl 1 rfl) ?_
    refine lv_iload_n hx hb dL_law_212 rfl (lv_at hl 0 rfl) ?_
    refine lv_iconst (v := nI 1) hx hb dL_law_213 (by decide) ?_
    refine xx_add hx hb dL_law_214 ?_
    refine xx_sld hx hb hX hbl hbA hS (j := i + 1) (by omega) hL dL_law_215 ?_
    refine lv_aload_n hx hb dL_law_216 rfl (lv_at hl 1 rfl) ?_
    refine lv_iload_n hx hb dL_law_217 rfl (lv_at hl 0 rfl) ?_
    refine lv_iconst (v := nI 2) hx hb dL_law_218 (by decide) ?_
    refine xx_add hx hb dL_law_219 ?_
    refine xx_sld hx hb hX hbl hbA hS (j := i + 2) (by omega) hL dL_law_220 ?_
    refine lv_aload_n hx hb dL_law_221 rfl (lv_at hl 1 rfl) ?_
    refine lv_iload_n hx hb dL_law_222 rfl (lv_at hl 0 rfl) ?_
    refine lv_iconst (v := nI 3) hx hb dL_law_223 (by decide) ?_
    refine xx_add hx hb dL_law_224 ?_
    refine xx_sld hx hb hX hbl hbA hS (j := i + 3) (by omega) hL dL_law_225 ?_
    refine lv_if_eq (tgt := 233) hx hb dL_law_226 (by decide) (fun h => absurd h e9) (fun _ => ?_)
    refine lv_iconst (v := nI 1) hx hb dL_law_229 (by decide) ?_
    refine lv_goto (tgt := 234) hx hb dL_law_230 (by decide) ?_
    refine lv_aload_n hx hb dL_law_234 rfl (lv_at hl 1 rfl) ?_
    refine lv_iload_n hx hb dL_law_235 rfl (lv_at hl 0 rfl) ?_
    refine lv_iconst (v := nI 4) hx hb dL_law_236 (by decide) ?_
    refine xx_add hx hb dL_law_237 ?_
    refine xx_sld hx hb hX hbl hbA hS (j := i + 4) (by omega) hL dL_law_238 ?_
    refine xx_callM (W.runV (As := [.int (xs (i + 1)), .int (xs (i + 2)), .int (bI (true)), .int (xs (i + 4))]) (rest := [.int (aPl (xs (i + 1)) (xs (i + 2)) (xs (i + 4)))]) ⟨hx, hb, hml, hown, hts⟩ (c1_place l D bd hdM dk S a hi (xs (i + 1)) (xs (i + 2)) true (xs (i + 4))) (cwV 4 hts gL_law_X1_place rfl rfl rfl (by decide +kernel) ⟨Nat.le_of_ble_eq_true rfl, Nat.le_of_ble_eq_true rfl⟩) (PW_pre hKM hPM (ci := 1) rfl rfl) rfl rfl hl.1 rfl (lv_room (Nat.le_of_ble_eq_true rfl)) dL_law_239 ⟨show 15 + 0 ≤ 15 by omega, show 3384 + 0 ≤ 3384 by omega⟩) hS (fun q h => hAM q h) (fun H1 locs1 hP1 hk1 hS1 => ?_)
    have hPB := keepB hdB hdj hPB hk1
    have hPM := hP1
    have hS := hS1
    refine W.eq (g2 := F0 m 242 ls [.int (aPl (xs (i + 1)) (xs (i + 2)) (xs (i + 4))), .int (aPl (xs (i + 1)) (xs (i + 2)) (xs (i + 4)))]) rfl ?_
    refine lv_icmp_eq (tgt := 546) hx hb dL_law_242 (by decide) (fun _ => ?_) (fun h => absurd rfl h)
    exact k9 (pPl S (xs (i + 1)) (xs (i + 2)) (xs (i + 4)) true) (a) (iv_pl hi (xs (i + 1)) (xs (i + 2)) (xs (i + 4)) true) H1 locs1 hPB hPM hS ls hl
set_option maxHeartbeats 4000000 in
set_option maxRecDepth 100000 in
theorem law_there {p : Program} {l : Launch} {e : Env} {s : State} {m : MethodId} {below : List Frame} {meth : Method} {c : Code} {D : va_G} {b L : Nat} {xs : Nat → Int32} (hL : L ≤ 2560) (C0 : lw_At p s m meth c b L xs) {ad bd : Nat → Nat} {ck dk : Nat → ClassId} (C1 : LC s D ad bd ck dk) {i : Nat} (h5 : i + 5 ≤ L) (k9 : ∀ (S : AS) (a : Nat), iv S → ∀ (H : Heap) (locs : List Loc), va_P D vwCl (wB ad ck S a) H → va_P D vwCl (wM bd dk S a) H → va_S (fun q : Nat => s.heap.size ≤ q) s.heap H locs → ∀ (ls : Array Slot), LV ls b ad bd i → LW p l e s m b below meth c H locs (F0 m 546 ls [])) (S : AS) (a : Nat) (hi : iv S) (H : Heap) (locs : List Loc) (hPB : va_P D vwCl (wB ad ck S a) H) (hPM : va_P D vwCl (wM bd dk S a) H) (hS : va_S (fun q : Nat => s.heap.size ≤ q) s.heap H locs) (ls : Array Slot) (hl : LV ls b ad bd i) : LW p l e s m b below meth c H locs (F0 m 247 ls []) := by
  obtain ⟨hx, hb, hr, hml, hown, hts, hX, hbl, hlocks, hgv⟩ := C0
  obtain ⟨hdB, hdM, hdj, hAB, hAM, hKB, hKM⟩ := C1
  have hown : s.vm.findClass RL = some m.cls := hown
  have hts : ∀ w ∈ wsL_law, w.before #[Value.ref b] s = true := fun w h => hts w (wsL_law_in w h)
  have hbA : ¬ (fun q : Nat => s.heap.size ≤ q) b := Nat.not_le.mpr hbl
  by_cases e9 : xs (i + 2) = 0
  · skip
    refine lv_aload_n hx hb dL_law_247 rfl (lv_at hl 2 rfl) ?_
    refine lv_aload_n hx hb dL_law_248 rfl (lv_at hl 1 rfl) ?_
    refine lv_iload_n hx hb dL_law_249 rfl (lv_at hl 0 rfl) ?_
    refine lv_iconst (v := nI 1) hx hb dL_law_250 (by decide) ?_
    refine xx_add hx hb dL_law_251 ?_
    refine xx_sld hx hb hX hbl hbA hS (j := i + 1) (by omega) hL dL_law_252 ?_
    refine lv_aload_n hx hb dL_law_253 rfl (lv_at hl 1 rfl) ?_
    refine lv_iload_n hx hb dL_law_254 rfl (lv_at hl 0 rfl) ?_
    refine lv_iconst (v := nI 2) hx hb dL_law_255 (by decide) ?_
    refine xx_add hx hb dL_law_256 ?_
    refine xx_sld hx hb hX hbl hbA hS (j := i + 2) (by omega) hL dL_law_257 ?_
    refine lv_if_eq (tgt := 265) hx hb dL_law_258 (by decide) (fun _ => ?_) (fun h => absurd e9 h)
    refine lv_iconst (v := nI 0) hx hb dL_law_265 (by decide) ?_
    refine xx_callM (W.runV (As := [.int (xs (i + 1)), .int (bI (false))]) (rest := []) ⟨hx, hb, hml, hown, hts⟩ (c0_there l D ad hdB ck S a hi (xs (i + 1)) false) (cwV 2 hts gL_law_X0_there rfl rfl rfl (by decide +kernel) ⟨Nat.le_of_ble_eq_true rfl, Nat.le_of_ble_eq_true rfl⟩) (PW_pre hKB hPB (ci := 0) rfl rfl) rfl rfl hl.1 rfl (lv_room (Nat.le_of_ble_eq_true rfl)) dL_law_266 ⟨show 15 + 0 ≤ 15 by omega, show 3384 + 0 ≤ 3384 by omega⟩) hS (fun q h => hAB q h) (fun H1 locs1 hP1 hk1 hS1 => ?_)
    have hPM := keepM hdM hdj hPM hk1
    have hPB := hP1
    have hS := hS1
    refine W.eq (g2 := F0 m 269 ls [.int (aTh S (xs (i + 1)))]) rfl ?_
    refine lv_aload_n hx hb dL_law_269 rfl (lv_at hl 3 rfl) ?_
    refine lv_aload_n hx hb dL_law_270 rfl (lv_at hl 1 rfl) ?_
    refine lv_iload_n hx hb dL_law_271 rfl (lv_at hl 0 rfl) ?_
    refine lv_iconst (v := nI 1) hx hb dL_law_272 (by decide) ?_
    refine xx_add hx hb dL_law_273 ?_
    refine xx_sld hx hb hX hbl hbA hS (j := i + 1) (by omega) hL dL_law_274 ?_
    refine lv_aload_n hx hb dL_law_275 rfl (lv_at hl 1 rfl) ?_
    refine lv_iload_n hx hb dL_law_276 rfl (lv_at hl 0 rfl) ?_
    refine lv_iconst (v := nI 2) hx hb dL_law_277 (by decide) ?_
    refine xx_add hx hb dL_law_278 ?_
    refine xx_sld hx hb hX hbl hbA hS (j := i + 2) (by omega) hL dL_law_279 ?_
    refine lv_if_eq (tgt := 287) hx hb dL_law_280 (by decide) (fun _ => ?_) (fun h => absurd e9 h)
    refine lv_iconst (v := nI 0) hx hb dL_law_287 (by decide) ?_
    refine xx_callM (W.runV (As := [.int (xs (i + 1)), .int (bI (false))]) (rest := [.int (aTh S (xs (i + 1)))]) ⟨hx, hb, hml, hown, hts⟩ (c1_there l D bd hdM dk S a hi (xs (i + 1)) false) (cwV 2 hts gL_law_X1_there rfl rfl rfl (by decide +kernel) ⟨Nat.le_of_ble_eq_true rfl, Nat.le_of_ble_eq_true rfl⟩) (PW_pre hKM hPM (ci := 1) rfl rfl) rfl rfl hl.1 rfl (lv_room (Nat.le_of_ble_eq_true rfl)) dL_law_288 ⟨show 15 + 0 ≤ 15 by omega, show 3384 + 0 ≤ 3384 by omega⟩) hS (fun q h => hAM q h) (fun H1 locs1 hP1 hk1 hS1 => ?_)
    have hPB := keepB hdB hdj hPB hk1
    have hPM := hP1
    have hS := hS1
    refine W.eq (g2 := F0 m 291 ls [.int (aTh S (xs (i + 1))), .int (aTh S (xs (i + 1)))]) rfl ?_
    refine lv_icmp_eq (tgt := 546) hx hb dL_law_291 (by decide) (fun _ => ?_) (fun h => absurd rfl h)
    exact k9 (pTh S (xs (i + 1)) false) (a) (iv_th hi (xs (i + 1)) false) H1 locs1 hPB hPM hS ls hl
  · skip
    refine lv_aload_n hx hb dL_law_247 rfl (lv_at hl 2 rfl) ?_
    refine lv_aload_n hx hb dL_law_248 rfl (lv_at hl 1 rfl) ?_
    refine lv_iload_n hx hb dL_law_249 rfl (lv_at hl 0 rfl) ?_
    refine lv_iconst (v := nI 1) hx hb dL_law_250 (by decide) ?_
    refine xx_add hx hb dL_law_251 ?_
    refine xx_sld hx hb hX hbl hbA hS (j := i + 1) (by omega) hL dL_law_252 ?_
    refine lv_aload_n hx hb dL_law_253 rfl (lv_at hl 1 rfl) ?_
    refine lv_iload_n hx hb dL_law_254 rfl (lv_at hl 0 rfl) ?_
    refine lv_iconst (v := nI 2) hx hb dL_law_255 (by decide) ?_
    refine xx_add hx hb dL_law_256 ?_
    refine xx_sld hx hb hX hbl hbA hS (j := i + 2) (by omega) hL dL_law_257 ?_
    refine lv_if_eq (tgt := 265) hx hb dL_law_258 (by decide) (fun h => absurd h e9) (fun _ => ?_)
    refine lv_iconst (v := nI 1) hx hb dL_law_261 (by decide) ?_
    refine lv_goto (tgt := 266) hx hb dL_law_262 (by decide) ?_
    refine xx_callM (W.runV (As := [.int (xs (i + 1)), .int (bI (true))]) (rest := []) ⟨hx, hb, hml, hown, hts⟩ (c0_there l D ad hdB ck S a hi (xs (i + 1)) true) (cwV 2 hts gL_law_X0_there rfl rfl rfl (by decide +kernel) ⟨Nat.le_of_ble_eq_true rfl, Nat.le_of_ble_eq_true rfl⟩) (PW_pre hKB hPB (ci := 0) rfl rfl) rfl rfl hl.1 rfl (lv_room (Nat.le_of_ble_eq_true rfl)) dL_law_266 ⟨show 15 + 0 ≤ 15 by omega, show 3384 + 0 ≤ 3384 by omega⟩) hS (fun q h => hAB q h) (fun H1 locs1 hP1 hk1 hS1 => ?_)
    have hPM := keepM hdM hdj hPM hk1
    have hPB := hP1
    have hS := hS1
    refine W.eq (g2 := F0 m 269 ls [.int (aTh S (xs (i + 1)))]) rfl ?_
    refine lv_aload_n hx hb dL_law_269 rfl (lv_at hl 3 rfl) ?_
    refine lv_aload_n hx hb dL_law_270 rfl (lv_at hl 1 rfl) ?_
    refine lv_iload_n hx hb dL_law_271 rfl (lv_at hl 0 rfl) ?_
    refine lv_iconst (v := nI 1) hx hb dL_law_272 (by decide) ?_
    refine xx_add hx hb dL_law_273 ?_
    refine xx_sld hx hb hX hbl hbA hS (j := i + 1) (by omega) hL dL_law_274 ?_
    refine lv_aload_n hx hb dL_law_275 rfl (lv_at hl 1 rfl) ?_
    refine lv_iload_n hx hb dL_law_276 rfl (lv_at hl 0 rfl) ?_
    refine lv_iconst (v := nI 2) hx hb dL_law_277 (by decide) ?_
    refine xx_add hx hb dL_law_278 ?_
    refine xx_sld hx hb hX hbl hbA hS (j := i + 2) (by omega) hL dL_law_279 ?_
    refine lv_if_eq (tgt := 287) hx hb dL_law_280 (by decide) (fun h => absurd h e9) (fun _ => ?_)
    refine lv_iconst (v := nI 1) hx hb dL_law_283 (by decide) ?_
    refine lv_goto (tgt := 288) hx hb dL_law_284 (by decide) ?_
    refine xx_callM (W.runV (As := [.int (xs (i + 1)), .int (bI (true))]) (rest := [.int (aTh S (xs (i + 1)))]) ⟨hx, hb, hml, hown, hts⟩ (c1_there l D bd hdM dk S a hi (xs (i + 1)) true) (cwV 2 hts gL_law_X1_there rfl rfl rfl (by decide +kernel) ⟨Nat.le_of_ble_eq_true rfl, Nat.le_of_ble_eq_true rfl⟩) (PW_pre hKM hPM (ci := 1) rfl rfl) rfl rfl hl.1 rfl (lv_room (Nat.le_of_ble_eq_true rfl)) dL_law_288 ⟨show 15 + 0 ≤ 15 by omega, show 3384 + 0 ≤ 3384 by omega⟩) hS (fun q h => hAM q h) (fun H1 locs1 hP1 hk1 hS1 => ?_)
    have hPB := keepB hdB hdj hPB hk1
    have hPM := hP1
    have hS := hS1
    refine W.eq (g2 := F0 m 291 ls [.int (aTh S (xs (i + 1))), .int (aTh S (xs (i + 1)))]) rfl ?_
    refine lv_icmp_eq (tgt := 546) hx hb dL_law_291 (by decide) (fun _ => ?_) (fun h => absurd rfl h)
    exact k9 (pTh S (xs (i + 1)) true) (a) (iv_th hi (xs (i + 1)) true) H1 locs1 hPB hPM hS ls hl
set_option maxHeartbeats 4000000 in
set_option maxRecDepth 100000 in
theorem law_deaf {p : Program} {l : Launch} {e : Env} {s : State} {m : MethodId} {below : List Frame} {meth : Method} {c : Code} {D : va_G} {b L : Nat} {xs : Nat → Int32} (hL : L ≤ 2560) (C0 : lw_At p s m meth c b L xs) {ad bd : Nat → Nat} {ck dk : Nat → ClassId} (C1 : LC s D ad bd ck dk) {i : Nat} (h5 : i + 5 ≤ L) (k9 : ∀ (S : AS) (a : Nat), iv S → ∀ (H : Heap) (locs : List Loc), va_P D vwCl (wB ad ck S a) H → va_P D vwCl (wM bd dk S a) H → va_S (fun q : Nat => s.heap.size ≤ q) s.heap H locs → ∀ (ls : Array Slot), LV ls b ad bd i → LW p l e s m b below meth c H locs (F0 m 546 ls [])) (S : AS) (a : Nat) (hi : iv S) (H : Heap) (locs : List Loc) (hPB : va_P D vwCl (wB ad ck S a) H) (hPM : va_P D vwCl (wM bd dk S a) H) (hS : va_S (fun q : Nat => s.heap.size ≤ q) s.heap H locs) (ls : Array Slot) (hl : LV ls b ad bd i) : LW p l e s m b below meth c H locs (F0 m 296 ls []) := by
  obtain ⟨hx, hb, hr, hml, hown, hts, hX, hbl, hlocks, hgv⟩ := C0
  obtain ⟨hdB, hdM, hdj, hAB, hAM, hKB, hKM⟩ := C1
  have hown : s.vm.findClass RL = some m.cls := hown
  have hts : ∀ w ∈ wsL_law, w.before #[Value.ref b] s = true := fun w h => hts w (wsL_law_in w h)
  have hbA : ¬ (fun q : Nat => s.heap.size ≤ q) b := Nat.not_le.mpr hbl
  by_cases e9 : xs (i + 2) = 0
  · skip
    refine lv_aload_n hx hb dL_law_296 rfl (lv_at hl 2 rfl) ?_
    refine lv_aload_n hx hb dL_law_297 rfl (lv_at hl 1 rfl) ?_
    refine lv_iload_n hx hb dL_law_298 rfl (lv_at hl 0 rfl) ?_
    refine lv_iconst (v := nI 1) hx hb dL_law_299 (by decide) ?_
    refine xx_add hx hb dL_law_300 ?_
    refine xx_sld hx hb hX hbl hbA hS (j := i + 1) (by omega) hL dL_law_301 ?_
    refine lv_aload_n hx hb dL_law_302 rfl (lv_at hl 1 rfl) ?_
    refine lv_iload_n hx hb dL_law_303 rfl (lv_at hl 0 rfl) ?_
    refine lv_iconst (v := nI 2) hx hb dL_law_304 (by decide) ?_
    refine xx_add hx hb dL_law_305 ?_
    refine xx_sld hx hb hX hbl hbA hS (j := i + 2) (by omega) hL dL_law_306 ?_
    refine lv_if_eq (tgt := 314) hx hb dL_law_307 (by decide) (fun _ => ?_) (fun h => absurd e9 h)
    refine lv_iconst (v := nI 0) hx hb dL_law_314 (by decide) ?_
    refine xx_callM (W.runV (As := [.int (xs (i + 1)), .int (bI (false))]) (rest := []) ⟨hx, hb, hml, hown, hts⟩ (c0_deaf l D ad hdB ck S a hi (xs (i + 1)) false) (cwV 2 hts gL_law_X0_deaf rfl rfl rfl (by decide +kernel) ⟨Nat.le_of_ble_eq_true rfl, Nat.le_of_ble_eq_true rfl⟩) (PW_pre hKB hPB (ci := 0) rfl rfl) rfl rfl hl.1 rfl (lv_room (Nat.le_of_ble_eq_true rfl)) dL_law_315 ⟨show 15 + 0 ≤ 15 by omega, show 3384 + 0 ≤ 3384 by omega⟩) hS (fun q h => hAB q h) (fun H1 locs1 hP1 hk1 hS1 => ?_)
    have hPM := keepM hdM hdj hPM hk1
    have hPB := hP1
    have hS := hS1
    refine W.eq (g2 := F0 m 318 ls [.int (aDf S (xs (i + 1)))]) rfl ?_
    refine lv_aload_n hx hb dL_law_318 rfl (lv_at hl 3 rfl) ?_
    refine lv_aload_n hx hb dL_law_319 rfl (lv_at hl 1 rfl) ?_
    refine lv_iload_n hx hb dL_law_320 rfl (lv_at hl 0 rfl) ?_
    refine lv_iconst (v := nI 1) hx hb dL_law_321 (by decide) ?_
    refine xx_add hx hb dL_law_322 ?_
    refine xx_sld hx hb hX hbl hbA hS (j := i + 1) (by omega) hL dL_law_323 ?_
    refine lv_aload_n hx hb dL_law_324 rfl (lv_at hl 1 rfl) ?_
    refine lv_iload_n hx hb dL_law_325 rfl (lv_at hl 0 rfl) ?_
    refine lv_iconst (v := nI 2) hx hb dL_law_326 (by decide) ?_
    refine xx_add hx hb dL_law_327 ?_
    refine xx_sld hx hb hX hbl hbA hS (j := i + 2) (by omega) hL dL_law_328 ?_
    refine lv_if_eq (tgt := 336) hx hb dL_law_329 (by decide) (fun _ => ?_) (fun h => absurd e9 h)
    refine lv_iconst (v := nI 0) hx hb dL_law_336 (by decide) ?_
    refine xx_callM (W.runV (As := [.int (xs (i + 1)), .int (bI (false))]) (rest := [.int (aDf S (xs (i + 1)))]) ⟨hx, hb, hml, hown, hts⟩ (c1_deaf l D bd hdM dk S a hi (xs (i + 1)) false) (cwV 2 hts gL_law_X1_deaf rfl rfl rfl (by decide +kernel) ⟨Nat.le_of_ble_eq_true rfl, Nat.le_of_ble_eq_true rfl⟩) (PW_pre hKM hPM (ci := 1) rfl rfl) rfl rfl hl.1 rfl (lv_room (Nat.le_of_ble_eq_true rfl)) dL_law_337 ⟨show 15 + 0 ≤ 15 by omega, show 3384 + 0 ≤ 3384 by omega⟩) hS (fun q h => hAM q h) (fun H1 locs1 hP1 hk1 hS1 => ?_)
    have hPB := keepB hdB hdj hPB hk1
    have hPM := hP1
    have hS := hS1
    refine W.eq (g2 := F0 m 340 ls [.int (aDf S (xs (i + 1))), .int (aDf S (xs (i + 1)))]) rfl ?_
    refine lv_icmp_eq (tgt := 546) hx hb dL_law_340 (by decide) (fun _ => ?_) (fun h => absurd rfl h)
    exact k9 (pDf S (xs (i + 1)) false) (a) (iv_df hi (xs (i + 1)) false) H1 locs1 hPB hPM hS ls hl
  · skip
    refine lv_aload_n hx hb dL_law_296 rfl (lv_at hl 2 rfl) ?_
    refine lv_aload_n hx hb dL_law_297 rfl (lv_at hl 1 rfl) ?_
    refine lv_iload_n hx hb dL_law_298 rfl (lv_at hl 0 rfl) ?_
    refine lv_iconst (v := nI 1) hx hb dL_law_299 (by decide) ?_
    refine xx_add hx hb dL_law_300 ?_
    refine xx_sld hx hb hX hbl hbA hS (j := i + 1) (by omega) hL dL_law_301 ?_
    refine lv_aload_n hx hb dL_law_302 rfl (lv_at hl 1 rfl) ?_
    refine lv_iload_n hx hb dL_law_303 rfl (lv_at hl 0 rfl) ?_
    refine lv_iconst (v := nI 2) hx hb dL_law_304 (by decide) ?_
    refine xx_add hx hb dL_law_305 ?_
    refine xx_sld hx hb hX hbl hbA hS (j := i + 2) (by omega) hL dL_law_306 ?_
    refine lv_if_eq (tgt := 314) hx hb dL_law_307 (by decide) (fun h => absurd h e9) (fun _ => ?_)
    refine lv_iconst (v := nI 1) hx hb dL_law_310 (by decide) ?_
    refine lv_goto (tgt := 315) hx hb dL_law_311 (by decide) ?_
    refine xx_callM (W.runV (As := [.int (xs (i + 1)), .int (bI (true))]) (rest := []) ⟨hx, hb, hml, hown, hts⟩ (c0_deaf l D ad hdB ck S a hi (xs (i + 1)) true) (cwV 2 hts gL_law_X0_deaf rfl rfl rfl (by decide +kernel) ⟨Nat.le_of_ble_eq_true rfl, Nat.le_of_ble_eq_true rfl⟩) (PW_pre hKB hPB (ci := 0) rfl rfl) rfl rfl hl.1 rfl (lv_room (Nat.le_of_ble_eq_true rfl)) dL_law_315 ⟨show 15 + 0 ≤ 15 by omega, show 3384 + 0 ≤ 3384 by omega⟩) hS (fun q h => hAB q h) (fun H1 locs1 hP1 hk1 hS1 => ?_)
    have hPM := keepM hdM hdj hPM hk1
    have hPB := hP1
    have hS := hS1
    refine W.eq (g2 := F0 m 318 ls [.int (aDf S (xs (i + 1)))]) rfl ?_
    refine lv_aload_n hx hb dL_law_318 rfl (lv_at hl 3 rfl) ?_
    refine lv_aload_n hx hb dL_law_319 rfl (lv_at hl 1 rfl) ?_
    refine lv_iload_n hx hb dL_law_320 rfl (lv_at hl 0 rfl) ?_
    refine lv_iconst (v := nI 1) hx hb dL_law_321 (by decide) ?_
    refine xx_add hx hb dL_law_322 ?_
    refine xx_sld hx hb hX hbl hbA hS (j := i + 1) (by omega) hL dL_law_323 ?_
    refine lv_aload_n hx hb dL_law_324 rfl (lv_at hl 1 rfl) ?_
    refine lv_iload_n hx hb dL_law_325 rfl (lv_at hl 0 rfl) ?_
    refine lv_iconst (v := nI 2) hx hb dL_law_326 (by decide) ?_
    refine xx_add hx hb dL_law_327 ?_
    refine xx_sld hx hb hX hbl hbA hS (j := i + 2) (by omega) hL dL_law_328 ?_
    refine lv_if_eq (tgt := 336) hx hb dL_law_329 (by decide) (fun h => absurd h e9) (fun _ => ?_)
    refine lv_iconst (v := nI 1) hx hb dL_law_332 (by decide) ?_
    refine lv_goto (tgt := 337) hx hb dL_law_333 (by decide) ?_
    refine xx_callM (W.runV (As := [.int (xs (i + 1)), .int (bI (true))]) (rest := [.int (aDf S (xs (i + 1)))]) ⟨hx, hb, hml, hown, hts⟩ (c1_deaf l D bd hdM dk S a hi (xs (i + 1)) true) (cwV 2 hts gL_law_X1_deaf rfl rfl rfl (by decide +kernel) ⟨Nat.le_of_ble_eq_true rfl, Nat.le_of_ble_eq_true rfl⟩) (PW_pre hKM hPM (ci := 1) rfl rfl) rfl rfl hl.1 rfl (lv_room (Nat.le_of_ble_eq_true rfl)) dL_law_337 ⟨show 15 + 0 ≤ 15 by omega, show 3384 + 0 ≤ 3384 by omega⟩) hS (fun q h => hAM q h) (fun H1 locs1 hP1 hk1 hS1 => ?_)
    have hPB := keepB hdB hdj hPB hk1
    have hPM := hP1
    have hS := hS1
    refine W.eq (g2 := F0 m 340 ls [.int (aDf S (xs (i + 1))), .int (aDf S (xs (i + 1)))]) rfl ?_
    refine lv_icmp_eq (tgt := 546) hx hb dL_law_340 (by decide) (fun _ => ?_) (fun h => absurd rfl h)
    exact k9 (pDf S (xs (i + 1)) true) (a) (iv_df hi (xs (i + 1)) true) H1 locs1 hPB hPM hS ls hl
set_option maxHeartbeats 4000000 in
set_option maxRecDepth 100000 in
theorem law_data {p : Program} {l : Launch} {e : Env} {s : State} {m : MethodId} {below : List Frame} {meth : Method} {c : Code} {D : va_G} {b L : Nat} {xs : Nat → Int32} (hL : L ≤ 2560) (C0 : lw_At p s m meth c b L xs) {ad bd : Nat → Nat} {ck dk : Nat → ClassId} (C1 : LC s D ad bd ck dk) {i : Nat} (h5 : i + 5 ≤ L) (k9 : ∀ (S : AS) (a : Nat), iv S → ∀ (H : Heap) (locs : List Loc), va_P D vwCl (wB ad ck S a) H → va_P D vwCl (wM bd dk S a) H → va_S (fun q : Nat => s.heap.size ≤ q) s.heap H locs → ∀ (ls : Array Slot), LV ls b ad bd i → LW p l e s m b below meth c H locs (F0 m 546 ls [])) (S : AS) (a : Nat) (hi : iv S) (H : Heap) (locs : List Loc) (hPB : va_P D vwCl (wB ad ck S a) H) (hPM : va_P D vwCl (wM bd dk S a) H) (hS : va_S (fun q : Nat => s.heap.size ≤ q) s.heap H locs) (ls : Array Slot) (hl : LV ls b ad bd i) : LW p l e s m b below meth c H locs (F0 m 345 ls []) := by
  obtain ⟨hx, hb, hr, hml, hown, hts, hX, hbl, hlocks, hgv⟩ := C0
  obtain ⟨hdB, hdM, hdj, hAB, hAM, hKB, hKM⟩ := C1
  have hown : s.vm.findClass RL = some m.cls := hown
  have hts : ∀ w ∈ wsL_law, w.before #[Value.ref b] s = true := fun w h => hts w (wsL_law_in w h)
  have hbA : ¬ (fun q : Nat => s.heap.size ≤ q) b := Nat.not_le.mpr hbl
  refine lv_aload_n hx hb dL_law_345 rfl (lv_at hl 2 rfl) ?_
  refine lv_aload_n hx hb dL_law_346 rfl (lv_at hl 1 rfl) ?_
  refine lv_iload_n hx hb dL_law_347 rfl (lv_at hl 0 rfl) ?_
  refine lv_iconst (v := nI 1) hx hb dL_law_348 (by decide) ?_
  refine xx_add hx hb dL_law_349 ?_
  refine xx_sld hx hb hX hbl hbA hS (j := i + 1) (by omega) hL dL_law_350 ?_
  refine lv_aload_n hx hb dL_law_351 rfl (lv_at hl 1 rfl) ?_
  refine lv_iload_n hx hb dL_law_352 rfl (lv_at hl 0 rfl) ?_
  refine lv_iconst (v := nI 2) hx hb dL_law_353 (by decide) ?_
  refine xx_add hx hb dL_law_354 ?_
  refine xx_sld hx hb hX hbl hbA hS (j := i + 2) (by omega) hL dL_law_355 ?_
  refine xx_callM (W.runV (As := [.int (xs (i + 1)), .int (xs (i + 2))]) (rest := []) ⟨hx, hb, hml, hown, hts⟩ (c0_data l D ad hdB ck S a hi (xs (i + 1)) (xs (i + 2))) (cwV 2 hts gL_law_X0_data rfl rfl rfl (by decide +kernel) ⟨Nat.le_of_ble_eq_true rfl, Nat.le_of_ble_eq_true rfl⟩) (PW_pre hKB hPB (ci := 0) rfl rfl) rfl rfl hl.1 rfl (lv_room (Nat.le_of_ble_eq_true rfl)) dL_law_356 ⟨show 15 + 0 ≤ 15 by omega, show 3384 + 0 ≤ 3384 by omega⟩) hS (fun q h => hAB q h) (fun H1 locs1 hP1 hk1 hS1 => ?_)
  have hPM := keepM hdM hdj hPM hk1
  have hPB := hP1
  have hS := hS1
  refine W.eq (g2 := F0 m 359 ls [.int (aData S (xs (i + 1)) (xs (i + 2)))]) rfl ?_
  refine lv_aload_n hx hb dL_law_359 rfl (lv_at hl 3 rfl) ?_
  refine lv_aload_n hx hb dL_law_360 rfl (lv_at hl 1 rfl) ?_
  refine lv_iload_n hx hb dL_law_361 rfl (lv_at hl 0 rfl) ?_
  refine lv_iconst (v := nI 1) hx hb dL_law_362 (by decide) ?_
  refine xx_add hx hb dL_law_363 ?_
  refine xx_sld hx hb hX hbl hbA hS (j := i + 1) (by omega) hL dL_law_364 ?_
  refine lv_aload_n hx hb dL_law_365 rfl (lv_at hl 1 rfl) ?_
  refine lv_iload_n hx hb dL_law_366 rfl (lv_at hl 0 rfl) ?_
  refine lv_iconst (v := nI 2) hx hb dL_law_367 (by decide) ?_
  refine xx_add hx hb dL_law_368 ?_
  refine xx_sld hx hb hX hbl hbA hS (j := i + 2) (by omega) hL dL_law_369 ?_
  refine xx_callM (W.runV (As := [.int (xs (i + 1)), .int (xs (i + 2))]) (rest := [.int (aData S (xs (i + 1)) (xs (i + 2)))]) ⟨hx, hb, hml, hown, hts⟩ (c1_data l D bd hdM dk S a hi (xs (i + 1)) (xs (i + 2))) (cwV 2 hts gL_law_X1_data rfl rfl rfl (by decide +kernel) ⟨Nat.le_of_ble_eq_true rfl, Nat.le_of_ble_eq_true rfl⟩) (PW_pre hKM hPM (ci := 1) rfl rfl) rfl rfl hl.1 rfl (lv_room (Nat.le_of_ble_eq_true rfl)) dL_law_370 ⟨show 15 + 0 ≤ 15 by omega, show 3384 + 0 ≤ 3384 by omega⟩) hS (fun q h => hAM q h) (fun H1 locs1 hP1 hk1 hS1 => ?_)
  have hPB := keepB hdB hdj hPB hk1
  have hPM := hP1
  have hS := hS1
  refine W.eq (g2 := F0 m 373 ls [.int (aData S (xs (i + 1)) (xs (i + 2))), .int (aData S (xs (i + 1)) (xs (i + 2)))]) rfl ?_
  refine lv_icmp_eq (tgt := 546) hx hb dL_law_373 (by decide) (fun _ => ?_) (fun h => absurd rfl h)
  exact k9 (pDt S (xs (i + 1)) (xs (i + 2))) (nDt S a (xs (i + 1)) (xs (i + 2))) (iv_dt hi (xs (i + 1)) (xs (i + 2))) H1 locs1 hPB hPM hS ls hl
set_option maxHeartbeats 4000000 in
set_option maxRecDepth 100000 in
theorem law_said {p : Program} {l : Launch} {e : Env} {s : State} {m : MethodId} {below : List Frame} {meth : Method} {c : Code} {D : va_G} {b L : Nat} {xs : Nat → Int32} (hL : L ≤ 2560) (C0 : lw_At p s m meth c b L xs) {ad bd : Nat → Nat} {ck dk : Nat → ClassId} (C1 : LC s D ad bd ck dk) {i : Nat} (h5 : i + 5 ≤ L) (k9 : ∀ (S : AS) (a : Nat), iv S → ∀ (H : Heap) (locs : List Loc), va_P D vwCl (wB ad ck S a) H → va_P D vwCl (wM bd dk S a) H → va_S (fun q : Nat => s.heap.size ≤ q) s.heap H locs → ∀ (ls : Array Slot), LV ls b ad bd i → LW p l e s m b below meth c H locs (F0 m 546 ls [])) (S : AS) (a : Nat) (hi : iv S) (H : Heap) (locs : List Loc) (hPB : va_P D vwCl (wB ad ck S a) H) (hPM : va_P D vwCl (wM bd dk S a) H) (hS : va_S (fun q : Nat => s.heap.size ≤ q) s.heap H locs) (ls : Array Slot) (hl : LV ls b ad bd i) : LW p l e s m b below meth c H locs (F0 m 378 ls []) := by
  obtain ⟨hx, hb, hr, hml, hown, hts, hX, hbl, hlocks, hgv⟩ := C0
  obtain ⟨hdB, hdM, hdj, hAB, hAM, hKB, hKM⟩ := C1
  have hown : s.vm.findClass RL = some m.cls := hown
  have hts : ∀ w ∈ wsL_law, w.before #[Value.ref b] s = true := fun w h => hts w (wsL_law_in w h)
  have hbA : ¬ (fun q : Nat => s.heap.size ≤ q) b := Nat.not_le.mpr hbl
  refine lv_aload_n hx hb dL_law_378 rfl (lv_at hl 2 rfl) ?_
  refine lv_aload_n hx hb dL_law_379 rfl (lv_at hl 1 rfl) ?_
  refine lv_iload_n hx hb dL_law_380 rfl (lv_at hl 0 rfl) ?_
  refine lv_iconst (v := nI 1) hx hb dL_law_381 (by decide) ?_
  refine xx_add hx hb dL_law_382 ?_
  refine xx_sld hx hb hX hbl hbA hS (j := i + 1) (by omega) hL dL_law_383 ?_
  refine W.callR (W.runV (As := [.int (xs (i + 1))]) (rest := []) ⟨hx, hb, hml, hown, hts⟩ (c0_said l D ad ck S a hi (xs (i + 1))) (cwV 1 hts gL_law_X0_said rfl rfl rfl (by decide +kernel) ⟨Nat.le_of_ble_eq_true rfl, Nat.le_of_ble_eq_true rfl⟩) (PW_pre hKB hPB (ci := 0) rfl rfl) rfl rfl hl.1 rfl (lv_room (Nat.le_of_ble_eq_true rfl)) dL_law_384 ⟨show 15 + 0 ≤ 15 by omega, show 3384 + 0 ≤ 3384 by omega⟩) ?_
  refine W.eq (g2 := F0 m 387 ls [.int (aSaid S (xs (i + 1)))]) rfl ?_
  refine lv_aload_n hx hb dL_law_387 rfl (lv_at hl 3 rfl) ?_
  refine lv_aload_n hx hb dL_law_388 rfl (lv_at hl 1 rfl) ?_
  refine lv_iload_n hx hb dL_law_389 rfl (lv_at hl 0 rfl) ?_
  refine lv_iconst (v := nI 1) hx hb dL_law_390 (by decide) ?_
  refine xx_add hx hb dL_law_391 ?_
  refine xx_sld hx hb hX hbl hbA hS (j := i + 1) (by omega) hL dL_law_392 ?_
  refine W.callR (W.runV (As := [.int (xs (i + 1))]) (rest := [.int (aSaid S (xs (i + 1)))]) ⟨hx, hb, hml, hown, hts⟩ (c1_said l D bd dk S a hi (xs (i + 1))) (cwV 1 hts gL_law_X1_said rfl rfl rfl (by decide +kernel) ⟨Nat.le_of_ble_eq_true rfl, Nat.le_of_ble_eq_true rfl⟩) (PW_pre hKM hPM (ci := 1) rfl rfl) rfl rfl hl.1 rfl (lv_room (Nat.le_of_ble_eq_true rfl)) dL_law_393 ⟨show 15 + 0 ≤ 15 by omega, show 3384 + 0 ≤ 3384 by omega⟩) ?_
  refine W.eq (g2 := F0 m 396 ls [.int (aSaid S (xs (i + 1))), .int (aSaid S (xs (i + 1)))]) rfl ?_
  refine lv_icmp_eq (tgt := 546) hx hb dL_law_396 (by decide) (fun _ => ?_) (fun h => absurd rfl h)
  exact k9 S a hi H locs hPB hPM hS ls hl
set_option maxHeartbeats 4000000 in
set_option maxRecDepth 100000 in
theorem law_claim {p : Program} {l : Launch} {e : Env} {s : State} {m : MethodId} {below : List Frame} {meth : Method} {c : Code} {D : va_G} {b L : Nat} {xs : Nat → Int32} (hL : L ≤ 2560) (C0 : lw_At p s m meth c b L xs) {ad bd : Nat → Nat} {ck dk : Nat → ClassId} (C1 : LC s D ad bd ck dk) {i : Nat} (h5 : i + 5 ≤ L) (k9 : ∀ (S : AS) (a : Nat), iv S → ∀ (H : Heap) (locs : List Loc), va_P D vwCl (wB ad ck S a) H → va_P D vwCl (wM bd dk S a) H → va_S (fun q : Nat => s.heap.size ≤ q) s.heap H locs → ∀ (ls : Array Slot), LV ls b ad bd i → LW p l e s m b below meth c H locs (F0 m 546 ls [])) (S : AS) (a : Nat) (hi : iv S) (H : Heap) (locs : List Loc) (hPB : va_P D vwCl (wB ad ck S a) H) (hPM : va_P D vwCl (wM bd dk S a) H) (hS : va_S (fun q : Nat => s.heap.size ≤ q) s.heap H locs) (ls : Array Slot) (hl : LV ls b ad bd i) : LW p l e s m b below meth c H locs (F0 m 401 ls []) := by
  obtain ⟨hx, hb, hr, hml, hown, hts, hX, hbl, hlocks, hgv⟩ := C0
  obtain ⟨hdB, hdM, hdj, hAB, hAM, hKB, hKM⟩ := C1
  have hown : s.vm.findClass RL = some m.cls := hown
  have hts : ∀ w ∈ wsL_law, w.before #[Value.ref b] s = true := fun w h => hts w (wsL_law_in w h)
  have hbA : ¬ (fun q : Nat => s.heap.size ≤ q) b := Nat.not_le.mpr hbl
  refine lv_aload_n hx hb dL_law_401 rfl (lv_at hl 2 rfl) ?_
  refine lv_aload_n hx hb dL_law_402 rfl (lv_at hl 1 rfl) ?_
  refine lv_iload_n hx hb dL_law_403 rfl (lv_at hl 0 rfl) ?_
  refine lv_iconst (v := nI 1) hx hb dL_law_404 (by decide) ?_
  refine xx_add hx hb dL_law_405 ?_
  refine xx_sld hx hb hX hbl hbA hS (j := i + 1) (by omega) hL dL_law_406 ?_
  refine lv_aload_n hx hb dL_law_407 rfl (lv_at hl 1 rfl) ?_
  refine lv_iload_n hx hb dL_law_408 rfl (lv_at hl 0 rfl) ?_
  refine lv_iconst (v := nI 2) hx hb dL_law_409 (by decide) ?_
  refine xx_add hx hb dL_law_410 ?_
  refine xx_sld hx hb hX hbl hbA hS (j := i + 2) (by omega) hL dL_law_411 ?_
  refine W.callR (W.runV (As := [.int (xs (i + 1)), .int (xs (i + 2))]) (rest := []) ⟨hx, hb, hml, hown, hts⟩ (c0_claim l D ad ck S a hi (xs (i + 1)) (xs (i + 2))) (cwV 2 hts gL_law_X0_claim rfl rfl rfl (by decide +kernel) ⟨Nat.le_of_ble_eq_true rfl, Nat.le_of_ble_eq_true rfl⟩) (PW_pre hKB hPB (ci := 0) rfl rfl) rfl rfl hl.1 rfl (lv_room (Nat.le_of_ble_eq_true rfl)) dL_law_412 ⟨show 15 + 0 ≤ 15 by omega, show 3384 + 0 ≤ 3384 by omega⟩) ?_
  refine W.eq (g2 := F0 m 415 ls [.int (aClaim S (xs (i + 1)) (xs (i + 2)))]) rfl ?_
  refine lv_aload_n hx hb dL_law_415 rfl (lv_at hl 3 rfl) ?_
  refine lv_aload_n hx hb dL_law_416 rfl (lv_at hl 1 rfl) ?_
  refine lv_iload_n hx hb dL_law_417 rfl (lv_at hl 0 rfl) ?_
  refine lv_iconst (v := nI 1) hx hb dL_law_418 (by decide) ?_
  refine xx_add hx hb dL_law_419 ?_
  refine xx_sld hx hb hX hbl hbA hS (j := i + 1) (by omega) hL dL_law_420 ?_
  refine lv_aload_n hx hb dL_law_421 rfl (lv_at hl 1 rfl) ?_
  refine lv_iload_n hx hb dL_law_422 rfl (lv_at hl 0 rfl) ?_
  refine lv_iconst (v := nI 2) hx hb dL_law_423 (by decide) ?_
  refine xx_add hx hb dL_law_424 ?_
  refine xx_sld hx hb hX hbl hbA hS (j := i + 2) (by omega) hL dL_law_425 ?_
  refine W.callR (W.runV (As := [.int (xs (i + 1)), .int (xs (i + 2))]) (rest := [.int (aClaim S (xs (i + 1)) (xs (i + 2)))]) ⟨hx, hb, hml, hown, hts⟩ (c1_claim l D bd dk S a hi (xs (i + 1)) (xs (i + 2))) (cwV 2 hts gL_law_X1_claim rfl rfl rfl (by decide +kernel) ⟨Nat.le_of_ble_eq_true rfl, Nat.le_of_ble_eq_true rfl⟩) (PW_pre hKM hPM (ci := 1) rfl rfl) rfl rfl hl.1 rfl (lv_room (Nat.le_of_ble_eq_true rfl)) dL_law_426 ⟨show 15 + 0 ≤ 15 by omega, show 3384 + 0 ≤ 3384 by omega⟩) ?_
  refine W.eq (g2 := F0 m 429 ls [.int (aClaim S (xs (i + 1)) (xs (i + 2))), .int (aClaim S (xs (i + 1)) (xs (i + 2)))]) rfl ?_
  refine lv_icmp_eq (tgt := 546) hx hb dL_law_429 (by decide) (fun _ => ?_) (fun h => absurd rfl h)
  exact k9 S a hi H locs hPB hPM hS ls hl
set_option maxHeartbeats 4000000 in
set_option maxRecDepth 100000 in
theorem law_kept {p : Program} {l : Launch} {e : Env} {s : State} {m : MethodId} {below : List Frame} {meth : Method} {c : Code} {D : va_G} {b L : Nat} {xs : Nat → Int32} (hL : L ≤ 2560) (C0 : lw_At p s m meth c b L xs) {ad bd : Nat → Nat} {ck dk : Nat → ClassId} (C1 : LC s D ad bd ck dk) {i : Nat} (h5 : i + 5 ≤ L) (k9 : ∀ (S : AS) (a : Nat), iv S → ∀ (H : Heap) (locs : List Loc), va_P D vwCl (wB ad ck S a) H → va_P D vwCl (wM bd dk S a) H → va_S (fun q : Nat => s.heap.size ≤ q) s.heap H locs → ∀ (ls : Array Slot), LV ls b ad bd i → LW p l e s m b below meth c H locs (F0 m 546 ls [])) (S : AS) (a : Nat) (hi : iv S) (H : Heap) (locs : List Loc) (hPB : va_P D vwCl (wB ad ck S a) H) (hPM : va_P D vwCl (wM bd dk S a) H) (hS : va_S (fun q : Nat => s.heap.size ≤ q) s.heap H locs) (ls : Array Slot) (hl : LV ls b ad bd i) : LW p l e s m b below meth c H locs (F0 m 434 ls []) := by
  obtain ⟨hx, hb, hr, hml, hown, hts, hX, hbl, hlocks, hgv⟩ := C0
  obtain ⟨hdB, hdM, hdj, hAB, hAM, hKB, hKM⟩ := C1
  have hown : s.vm.findClass RL = some m.cls := hown
  have hts : ∀ w ∈ wsL_law, w.before #[Value.ref b] s = true := fun w h => hts w (wsL_law_in w h)
  have hbA : ¬ (fun q : Nat => s.heap.size ≤ q) b := Nat.not_le.mpr hbl
  refine lv_aload_n hx hb dL_law_434 rfl (lv_at hl 2 rfl) ?_
  refine lv_aload_n hx hb dL_law_435 rfl (lv_at hl 1 rfl) ?_
  refine lv_iload_n hx hb dL_law_436 rfl (lv_at hl 0 rfl) ?_
  refine lv_iconst (v := nI 1) hx hb dL_law_437 (by decide) ?_
  refine xx_add hx hb dL_law_438 ?_
  refine xx_sld hx hb hX hbl hbA hS (j := i + 1) (by omega) hL dL_law_439 ?_
  refine lv_aload_n hx hb dL_law_440 rfl (lv_at hl 1 rfl) ?_
  refine lv_iload_n hx hb dL_law_441 rfl (lv_at hl 0 rfl) ?_
  refine lv_iconst (v := nI 2) hx hb dL_law_442 (by decide) ?_
  refine xx_add hx hb dL_law_443 ?_
  refine xx_sld hx hb hX hbl hbA hS (j := i + 2) (by omega) hL dL_law_444 ?_
  refine W.callR (W.runV (As := [.int (xs (i + 1)), .int (xs (i + 2))]) (rest := []) ⟨hx, hb, hml, hown, hts⟩ (c0_kept l D ad ck S a hi (xs (i + 1)) (xs (i + 2))) (cwV 2 hts gL_law_X0_kept rfl rfl rfl (by decide +kernel) ⟨Nat.le_of_ble_eq_true rfl, Nat.le_of_ble_eq_true rfl⟩) (PW_pre hKB hPB (ci := 0) rfl rfl) rfl rfl hl.1 rfl (lv_room (Nat.le_of_ble_eq_true rfl)) dL_law_445 ⟨show 15 + 0 ≤ 15 by omega, show 3384 + 0 ≤ 3384 by omega⟩) ?_
  refine W.eq (g2 := F0 m 448 ls [.int (aKept S (xs (i + 1)) (xs (i + 2)))]) rfl ?_
  refine lv_aload_n hx hb dL_law_448 rfl (lv_at hl 3 rfl) ?_
  refine lv_aload_n hx hb dL_law_449 rfl (lv_at hl 1 rfl) ?_
  refine lv_iload_n hx hb dL_law_450 rfl (lv_at hl 0 rfl) ?_
  refine lv_iconst (v := nI 1) hx hb dL_law_451 (by decide) ?_
  refine xx_add hx hb dL_law_452 ?_
  refine xx_sld hx hb hX hbl hbA hS (j := i + 1) (by omega) hL dL_law_453 ?_
  refine lv_aload_n hx hb dL_law_454 rfl (lv_at hl 1 rfl) ?_
  refine lv_iload_n hx hb dL_law_455 rfl (lv_at hl 0 rfl) ?_
  refine lv_iconst (v := nI 2) hx hb dL_law_456 (by decide) ?_
  refine xx_add hx hb dL_law_457 ?_
  refine xx_sld hx hb hX hbl hbA hS (j := i + 2) (by omega) hL dL_law_458 ?_
  refine W.callR (W.runV (As := [.int (xs (i + 1)), .int (xs (i + 2))]) (rest := [.int (aKept S (xs (i + 1)) (xs (i + 2)))]) ⟨hx, hb, hml, hown, hts⟩ (c1_kept l D bd dk S a hi (xs (i + 1)) (xs (i + 2))) (cwV 2 hts gL_law_X1_kept rfl rfl rfl (by decide +kernel) ⟨Nat.le_of_ble_eq_true rfl, Nat.le_of_ble_eq_true rfl⟩) (PW_pre hKM hPM (ci := 1) rfl rfl) rfl rfl hl.1 rfl (lv_room (Nat.le_of_ble_eq_true rfl)) dL_law_459 ⟨show 15 + 0 ≤ 15 by omega, show 3384 + 0 ≤ 3384 by omega⟩) ?_
  refine W.eq (g2 := F0 m 462 ls [.int (aKept S (xs (i + 1)) (xs (i + 2))), .int (aKept S (xs (i + 1)) (xs (i + 2)))]) rfl ?_
  refine lv_icmp_eq (tgt := 546) hx hb dL_law_462 (by decide) (fun _ => ?_) (fun h => absurd rfl h)
  exact k9 S a hi H locs hPB hPM hS ls hl
set_option maxHeartbeats 4000000 in
set_option maxRecDepth 100000 in
theorem law_lost {p : Program} {l : Launch} {e : Env} {s : State} {m : MethodId} {below : List Frame} {meth : Method} {c : Code} {D : va_G} {b L : Nat} {xs : Nat → Int32} (hL : L ≤ 2560) (C0 : lw_At p s m meth c b L xs) {ad bd : Nat → Nat} {ck dk : Nat → ClassId} (C1 : LC s D ad bd ck dk) {i : Nat} (h5 : i + 5 ≤ L) (k9 : ∀ (S : AS) (a : Nat), iv S → ∀ (H : Heap) (locs : List Loc), va_P D vwCl (wB ad ck S a) H → va_P D vwCl (wM bd dk S a) H → va_S (fun q : Nat => s.heap.size ≤ q) s.heap H locs → ∀ (ls : Array Slot), LV ls b ad bd i → LW p l e s m b below meth c H locs (F0 m 546 ls [])) (S : AS) (a : Nat) (hi : iv S) (H : Heap) (locs : List Loc) (hPB : va_P D vwCl (wB ad ck S a) H) (hPM : va_P D vwCl (wM bd dk S a) H) (hS : va_S (fun q : Nat => s.heap.size ≤ q) s.heap H locs) (ls : Array Slot) (hl : LV ls b ad bd i) : LW p l e s m b below meth c H locs (F0 m 467 ls []) := by
  obtain ⟨hx, hb, hr, hml, hown, hts, hX, hbl, hlocks, hgv⟩ := C0
  obtain ⟨hdB, hdM, hdj, hAB, hAM, hKB, hKM⟩ := C1
  have hown : s.vm.findClass RL = some m.cls := hown
  have hts : ∀ w ∈ wsL_law, w.before #[Value.ref b] s = true := fun w h => hts w (wsL_law_in w h)
  have hbA : ¬ (fun q : Nat => s.heap.size ≤ q) b := Nat.not_le.mpr hbl
  refine lv_aload_n hx hb dL_law_467 rfl (lv_at hl 2 rfl) ?_
  refine lv_aload_n hx hb dL_law_468 rfl (lv_at hl 1 rfl) ?_
  refine lv_iload_n hx hb dL_law_469 rfl (lv_at hl 0 rfl) ?_
  refine lv_iconst (v := nI 1) hx hb dL_law_470 (by decide) ?_
  refine xx_add hx hb dL_law_471 ?_
  refine xx_sld hx hb hX hbl hbA hS (j := i + 1) (by omega) hL dL_law_472 ?_
  refine lv_aload_n hx hb dL_law_473 rfl (lv_at hl 1 rfl) ?_
  refine lv_iload_n hx hb dL_law_474 rfl (lv_at hl 0 rfl) ?_
  refine lv_iconst (v := nI 2) hx hb dL_law_475 (by decide) ?_
  refine xx_add hx hb dL_law_476 ?_
  refine xx_sld hx hb hX hbl hbA hS (j := i + 2) (by omega) hL dL_law_477 ?_
  refine W.callR (W.runV (As := [.int (xs (i + 1)), .int (xs (i + 2))]) (rest := []) ⟨hx, hb, hml, hown, hts⟩ (c0_lost l D ad ck S a hi (xs (i + 1)) (xs (i + 2))) (cwV 2 hts gL_law_X0_lost rfl rfl rfl (by decide +kernel) ⟨Nat.le_of_ble_eq_true rfl, Nat.le_of_ble_eq_true rfl⟩) (PW_pre hKB hPB (ci := 0) rfl rfl) rfl rfl hl.1 rfl (lv_room (Nat.le_of_ble_eq_true rfl)) dL_law_478 ⟨show 15 + 0 ≤ 15 by omega, show 3384 + 0 ≤ 3384 by omega⟩) ?_
  refine W.eq (g2 := F0 m 481 ls [.int (aLost S (xs (i + 1)) (xs (i + 2)))]) rfl ?_
  refine lv_aload_n hx hb dL_law_481 rfl (lv_at hl 3 rfl) ?_
  refine lv_aload_n hx hb dL_law_482 rfl (lv_at hl 1 rfl) ?_
  refine lv_iload_n hx hb dL_law_483 rfl (lv_at hl 0 rfl) ?_
  refine lv_iconst (v := nI 1) hx hb dL_law_484 (by decide) ?_
  refine xx_add hx hb dL_law_485 ?_
  refine xx_sld hx hb hX hbl hbA hS (j := i + 1) (by omega) hL dL_law_486 ?_
  refine lv_aload_n hx hb dL_law_487 rfl (lv_at hl 1 rfl) ?_
  refine lv_iload_n hx hb dL_law_488 rfl (lv_at hl 0 rfl) ?_
  refine lv_iconst (v := nI 2) hx hb dL_law_489 (by decide) ?_
  refine xx_add hx hb dL_law_490 ?_
  refine xx_sld hx hb hX hbl hbA hS (j := i + 2) (by omega) hL dL_law_491 ?_
  refine W.callR (W.runV (As := [.int (xs (i + 1)), .int (xs (i + 2))]) (rest := [.int (aLost S (xs (i + 1)) (xs (i + 2)))]) ⟨hx, hb, hml, hown, hts⟩ (c1_lost l D bd dk S a hi (xs (i + 1)) (xs (i + 2))) (cwV 2 hts gL_law_X1_lost rfl rfl rfl (by decide +kernel) ⟨Nat.le_of_ble_eq_true rfl, Nat.le_of_ble_eq_true rfl⟩) (PW_pre hKM hPM (ci := 1) rfl rfl) rfl rfl hl.1 rfl (lv_room (Nat.le_of_ble_eq_true rfl)) dL_law_492 ⟨show 15 + 0 ≤ 15 by omega, show 3384 + 0 ≤ 3384 by omega⟩) ?_
  refine W.eq (g2 := F0 m 495 ls [.int (aLost S (xs (i + 1)) (xs (i + 2))), .int (aLost S (xs (i + 1)) (xs (i + 2)))]) rfl ?_
  refine lv_icmp_eq (tgt := 546) hx hb dL_law_495 (by decide) (fun _ => ?_) (fun h => absurd rfl h)
  exact k9 S a hi H locs hPB hPM hS ls hl
set_option maxHeartbeats 4000000 in
set_option maxRecDepth 100000 in
theorem law_sends {p : Program} {l : Launch} {e : Env} {s : State} {m : MethodId} {below : List Frame} {meth : Method} {c : Code} {D : va_G} {b L : Nat} {xs : Nat → Int32} (hL : L ≤ 2560) (C0 : lw_At p s m meth c b L xs) {ad bd : Nat → Nat} {ck dk : Nat → ClassId} (C1 : LC s D ad bd ck dk) {i : Nat} (h5 : i + 5 ≤ L) (k9 : ∀ (S : AS) (a : Nat), iv S → ∀ (H : Heap) (locs : List Loc), va_P D vwCl (wB ad ck S a) H → va_P D vwCl (wM bd dk S a) H → va_S (fun q : Nat => s.heap.size ≤ q) s.heap H locs → ∀ (ls : Array Slot), LV ls b ad bd i → LW p l e s m b below meth c H locs (F0 m 546 ls [])) (S : AS) (a : Nat) (hi : iv S) (H : Heap) (locs : List Loc) (hPB : va_P D vwCl (wB ad ck S a) H) (hPM : va_P D vwCl (wM bd dk S a) H) (hS : va_S (fun q : Nat => s.heap.size ≤ q) s.heap H locs) (ls : Array Slot) (hl : LV ls b ad bd i) : LW p l e s m b below meth c H locs (F0 m 500 ls []) := by
  obtain ⟨hx, hb, hr, hml, hown, hts, hX, hbl, hlocks, hgv⟩ := C0
  obtain ⟨hdB, hdM, hdj, hAB, hAM, hKB, hKM⟩ := C1
  have hown : s.vm.findClass RL = some m.cls := hown
  have hts : ∀ w ∈ wsL_law, w.before #[Value.ref b] s = true := fun w h => hts w (wsL_law_in w h)
  have hbA : ¬ (fun q : Nat => s.heap.size ≤ q) b := Nat.not_le.mpr hbl
  refine lv_aload_n hx hb dL_law_500 rfl (lv_at hl 2 rfl) ?_
  refine lv_aload_n hx hb dL_law_501 rfl (lv_at hl 1 rfl) ?_
  refine lv_iload_n hx hb dL_law_502 rfl (lv_at hl 0 rfl) ?_
  refine lv_iconst (v := nI 1) hx hb dL_law_503 (by decide) ?_
  refine xx_add hx hb dL_law_504 ?_
  refine xx_sld hx hb hX hbl hbA hS (j := i + 1) (by omega) hL dL_law_505 ?_
  refine W.callR (W.runV (As := [.int (xs (i + 1))]) (rest := []) ⟨hx, hb, hml, hown, hts⟩ (c0_sends l D ad ck S a hi (xs (i + 1))) (cwV 1 hts gL_law_X0_sends rfl rfl rfl (by decide +kernel) ⟨Nat.le_of_ble_eq_true rfl, Nat.le_of_ble_eq_true rfl⟩) (PW_pre hKB hPB (ci := 0) rfl rfl) rfl rfl hl.1 rfl (lv_room (Nat.le_of_ble_eq_true rfl)) dL_law_506 ⟨show 15 + 0 ≤ 15 by omega, show 3384 + 0 ≤ 3384 by omega⟩) ?_
  refine W.eq (g2 := F0 m 509 ls [.int (aSends S (xs (i + 1)))]) rfl ?_
  refine lv_aload_n hx hb dL_law_509 rfl (lv_at hl 3 rfl) ?_
  refine lv_aload_n hx hb dL_law_510 rfl (lv_at hl 1 rfl) ?_
  refine lv_iload_n hx hb dL_law_511 rfl (lv_at hl 0 rfl) ?_
  refine lv_iconst (v := nI 1) hx hb dL_law_512 (by decide) ?_
  refine xx_add hx hb dL_law_513 ?_
  refine xx_sld hx hb hX hbl hbA hS (j := i + 1) (by omega) hL dL_law_514 ?_
  refine W.callR (W.runV (As := [.int (xs (i + 1))]) (rest := [.int (aSends S (xs (i + 1)))]) ⟨hx, hb, hml, hown, hts⟩ (c1_sends l D bd dk S a hi (xs (i + 1))) (cwV 1 hts gL_law_X1_sends rfl rfl rfl (by decide +kernel) ⟨Nat.le_of_ble_eq_true rfl, Nat.le_of_ble_eq_true rfl⟩) (PW_pre hKM hPM (ci := 1) rfl rfl) rfl rfl hl.1 rfl (lv_room (Nat.le_of_ble_eq_true rfl)) dL_law_515 ⟨show 15 + 0 ≤ 15 by omega, show 3384 + 0 ≤ 3384 by omega⟩) ?_
  refine W.eq (g2 := F0 m 518 ls [.int (aSends S (xs (i + 1))), .int (aSends S (xs (i + 1)))]) rfl ?_
  refine lv_icmp_eq (tgt := 546) hx hb dL_law_518 (by decide) (fun _ => ?_) (fun h => absurd rfl h)
  exact k9 S a hi H locs hPB hPM hS ls hl
set_option maxHeartbeats 4000000 in
set_option maxRecDepth 100000 in
theorem law_look {p : Program} {l : Launch} {e : Env} {s : State} {m : MethodId} {below : List Frame} {meth : Method} {c : Code} {D : va_G} {b L : Nat} {xs : Nat → Int32} (hL : L ≤ 2560) (C0 : lw_At p s m meth c b L xs) {ad bd : Nat → Nat} {ck dk : Nat → ClassId} (C1 : LC s D ad bd ck dk) {i : Nat} (h5 : i + 5 ≤ L) (k9 : ∀ (S : AS) (a : Nat), iv S → ∀ (H : Heap) (locs : List Loc), va_P D vwCl (wB ad ck S a) H → va_P D vwCl (wM bd dk S a) H → va_S (fun q : Nat => s.heap.size ≤ q) s.heap H locs → ∀ (ls : Array Slot), LV ls b ad bd i → LW p l e s m b below meth c H locs (F0 m 546 ls [])) (S : AS) (a : Nat) (hi : iv S) (H : Heap) (locs : List Loc) (hPB : va_P D vwCl (wB ad ck S a) H) (hPM : va_P D vwCl (wM bd dk S a) H) (hS : va_S (fun q : Nat => s.heap.size ≤ q) s.heap H locs) (ls : Array Slot) (hl : LV ls b ad bd i) : LW p l e s m b below meth c H locs (F0 m 523 ls []) := by
  obtain ⟨hx, hb, hr, hml, hown, hts, hX, hbl, hlocks, hgv⟩ := C0
  obtain ⟨hdB, hdM, hdj, hAB, hAM, hKB, hKM⟩ := C1
  have hown : s.vm.findClass RL = some m.cls := hown
  have hts : ∀ w ∈ wsL_law, w.before #[Value.ref b] s = true := fun w h => hts w (wsL_law_in w h)
  have hbA : ¬ (fun q : Nat => s.heap.size ≤ q) b := Nat.not_le.mpr hbl
  refine lv_aload_n hx hb dL_law_523 rfl (lv_at hl 2 rfl) ?_
  refine lv_aload_n hx hb dL_law_524 rfl (lv_at hl 1 rfl) ?_
  refine lv_iload_n hx hb dL_law_525 rfl (lv_at hl 0 rfl) ?_
  refine lv_iconst (v := nI 1) hx hb dL_law_526 (by decide) ?_
  refine xx_add hx hb dL_law_527 ?_
  refine xx_sld hx hb hX hbl hbA hS (j := i + 1) (by omega) hL dL_law_528 ?_
  refine W.callR (W.runV (As := [.int (xs (i + 1))]) (rest := []) ⟨hx, hb, hml, hown, hts⟩ (c0_look l D ad ck S a hi (xs (i + 1))) (cwV 1 hts gL_law_X0_look rfl rfl rfl (by decide +kernel) ⟨Nat.le_of_ble_eq_true rfl, Nat.le_of_ble_eq_true rfl⟩) (PW_pre hKB hPB (ci := 0) rfl rfl) rfl rfl hl.1 rfl (lv_room (Nat.le_of_ble_eq_true rfl)) dL_law_529 ⟨show 15 + 0 ≤ 15 by omega, show 3384 + 0 ≤ 3384 by omega⟩) ?_
  refine W.eq (g2 := F0 m 532 ls [.int (aLook S a (xs (i + 1)))]) rfl ?_
  refine lv_aload_n hx hb dL_law_532 rfl (lv_at hl 3 rfl) ?_
  refine lv_aload_n hx hb dL_law_533 rfl (lv_at hl 1 rfl) ?_
  refine lv_iload_n hx hb dL_law_534 rfl (lv_at hl 0 rfl) ?_
  refine lv_iconst (v := nI 1) hx hb dL_law_535 (by decide) ?_
  refine xx_add hx hb dL_law_536 ?_
  refine xx_sld hx hb hX hbl hbA hS (j := i + 1) (by omega) hL dL_law_537 ?_
  refine W.callR (W.runV (As := [.int (xs (i + 1))]) (rest := [.int (aLook S a (xs (i + 1)))]) ⟨hx, hb, hml, hown, hts⟩ (c1_look l D bd dk S a hi (xs (i + 1))) (cwV 1 hts gL_law_X1_look rfl rfl rfl (by decide +kernel) ⟨Nat.le_of_ble_eq_true rfl, Nat.le_of_ble_eq_true rfl⟩) (PW_pre hKM hPM (ci := 1) rfl rfl) rfl rfl hl.1 rfl (lv_room (Nat.le_of_ble_eq_true rfl)) dL_law_538 ⟨show 15 + 0 ≤ 15 by omega, show 3384 + 0 ≤ 3384 by omega⟩) ?_
  refine W.eq (g2 := F0 m 541 ls [.int (aLook S a (xs (i + 1))), .int (aLook S a (xs (i + 1)))]) rfl ?_
  refine lv_icmp_eq (tgt := 546) hx hb dL_law_541 (by decide) (fun _ => ?_) (fun h => absurd rfl h)
  exact k9 S a hi H locs hPB hPM hS ls hl
