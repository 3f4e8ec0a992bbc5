abbrev rm_X7_clear : Room := { frames := 2, cells := 0, slots := 0, locals := 42 }
def wp_X7_clear (μ : Mem) (o : Nat) (a1 : Int32) (post : Mem → Prop) : Prop :=
  kd μ o = 10 ∧
  ∀ μ2 : Mem, μ2 = sfi μ 9 1 o 0 →
  ∀ μ5 : Mem, μ5 = sfi μ2 9 3 o 0 →
  ∃ x8, fr μ5 9 4 o = some x8 ∧
  kd μ5 x8 = 7 ∧
  wp_X4_shrink μ5 x8 0 (fun (μ9 : Mem) =>
  KM μ5 μ9 →
  ∃ x14, fr μ9 9 5 o = some x14 ∧
  kd μ9 x14 = 7 ∧
  wp_X4_shrink μ9 x14 0 (fun (μ15 : Mem) =>
  KM μ9 μ15 →
  ∀ μ20 : Mem, μ20 = sfi μ15 9 6 o a1 →
  ∀ μ23 : Mem, μ23 = sfi μ20 9 7 o 0 →
  post μ23))
set_option maxRecDepth 100000 in
set_option maxHeartbeats 4000000 in
theorem c_X7_clear (l : Launch) (T : Tb) (B : Nat) (μ : Mem) (o : Nat) (a1 : Int32) (post : Mem → Prop) (hw : wp_X7_clear μ o a1 post) : Met l yX7_clear (.code yX7_clear cX7_clear 2 none :: G) rm_X7_clear (Pm (Rl T B) T B μ [.ref o, .int a1]) (va_Qv (fun μ9 => post μ9 ∧ KM μ μ9) (Bm (Rl T B)) (Ai B)) 0 0 (Ai B) := by
  refine mx_of RX7 rfl (by decide) (Nat.le_of_ble_eq_true rfl) ?_
  intro p e s m below meth c0 X hr hk hnm M ls hl
  have hl : lv_has ls 2 [(0, .ref o), (1, .int a1)] := hl
  unfold wp_X7_clear at hw
  have hKM : KM μ μ := KM.rf μ
  refine lv_aload_n X.1 X.2.1 dX7_clear_0 rfl (lv_at hl 0 rfl) ?_
  refine lv_iconst (v := 0) X.1 X.2.1 dX7_clear_1 (by decide) ?_
  obtain ⟨hk1, hw⟩ := hw
  refine my_puti (C := RX7) (F := TX7) (N := 8) (ci := 9) X M 1 rfl in_X7 tyX7 tyX7_ok nmX7 (by decide) rfl (by decide) kw_154 (Or.inl rfl) dX7_clear_2 hk1 rfl rfl (fun μ2 H locs eμ2 M => ?_)
  replace hw := hw μ2 eμ2
  have hKM3 : KM μ μ2 := by rw [eμ2]; exact hKM
  have hk4 : kd μ2 o = 10 := by rw [eμ2]; exact hk1
  refine lv_aload_n X.1 X.2.1 dX7_clear_5 rfl (lv_at hl 0 rfl) ?_
  refine lv_iconst (v := 0) X.1 X.2.1 dX7_clear_6 (by decide) ?_
  refine my_puti (C := RX7) (F := TX7) (N := 8) (ci := 9) X M 3 rfl in_X7 tyX7 tyX7_ok nmX7 (by decide) rfl (by decide) kw_157 (Or.inl rfl) dX7_clear_7 hk4 rfl rfl (fun μ5 H locs eμ5 M => ?_)
  replace hw := hw μ5 eμ5
  have hKM6 : KM μ μ5 := by rw [eμ5]; exact hKM3
  have hk7 : kd μ5 o = 10 := by rw [eμ5]; exact hk4
  refine lv_aload_n X.1 X.2.1 dX7_clear_10 rfl (lv_at hl 0 rfl) ?_
  obtain ⟨x8, ex8, hw⟩ := hw
  refine mx_getr (C := RX7) (F := TX7) (N := 8) (ci := 9) X M 4 rfl in_X7 (by decide) rfl (by decide) kw_159 dX7_clear_11 hk7 ?_
  rw [ex8]
  refine lv_iconst (v := 0) X.1 X.2.1 dX7_clear_14 (by decide) ?_
  obtain ⟨hk11, hw⟩ := hw
  have hw10 := hw
  clear hw
  refine mx_cv M (mx_runV (n := 1) (As := [.int 0]) (rest := []) X M (c_X4_shrink l T B μ5 x8 0 _ hw10) (mx_recv (C := RX4) (F := TX4) (N := 2) (ci := 6) X M rfl (by decide) hk11) kw_495 kw_496 kw_497 kw_71 kw_498 (by decide +kernel) rfl rfl ⟨Nat.le_of_ble_eq_true rfl, Nat.le_of_ble_eq_true rfl⟩ rfl hl.1 (Nat.le_of_ble_eq_true rfl) dX7_clear_15 ⟨by decide, by decide⟩) (fun μ9 H locs ⟨hw, hKM9⟩ M => ?_)
  replace hw := hw hKM9
  have hKM9_ := hKM6.tr hKM9
  have hk12 := hKM9.at hk7
  have hk13 := hKM9.at hk11
  refine lv_aload_n X.1 X.2.1 dX7_clear_18 rfl (lv_at hl 0 rfl) ?_
  obtain ⟨x14, ex14, hw⟩ := hw
  refine mx_getr (C := RX7) (F := TX7) (N := 8) (ci := 9) X M 5 rfl in_X7 (by decide) rfl (by decide) kw_160 dX7_clear_19 hk12 ?_
  rw [ex14]
  refine lv_iconst (v := 0) X.1 X.2.1 dX7_clear_22 (by decide) ?_
  obtain ⟨hk17, hw⟩ := hw
  have hw16 := hw
  clear hw
  refine mx_cv M (mx_runV (n := 1) (As := [.int 0]) (rest := []) X M (c_X4_shrink l T B μ9 x14 0 _ hw16) (mx_recv (C := RX4) (F := TX4) (N := 2) (ci := 6) X M rfl (by decide) hk17) kw_495 kw_496 kw_497 kw_71 kw_498 (by decide +kernel) rfl rfl ⟨Nat.le_of_ble_eq_true rfl, Nat.le_of_ble_eq_true rfl⟩ rfl hl.1 (Nat.le_of_ble_eq_true rfl) dX7_clear_23 ⟨by decide, by decide⟩) (fun μ15 H locs ⟨hw, hKM15⟩ M => ?_)
  replace hw := hw hKM15
  have hKM15_ := hKM9_.tr hKM15
  have hk18 := hKM15.at hk12
  have hk19 := hKM15.at hk17
  refine lv_aload_n X.1 X.2.1 dX7_clear_26 rfl (lv_at hl 0 rfl) ?_
  refine lv_iload_n X.1 X.2.1 dX7_clear_27 rfl (lv_at hl 1 rfl) ?_
  refine my_puti (C := RX7) (F := TX7) (N := 8) (ci := 9) X M 6 rfl in_X7 tyX7 tyX7_ok nmX7 (by decide) rfl (by decide) kw_161 (Or.inl rfl) dX7_clear_28 hk18 rfl rfl (fun μ20 H locs eμ20 M => ?_)
  replace hw := hw μ20 eμ20
  have hKM21 : KM μ μ20 := by rw [eμ20]; exact hKM15_
  have hk22 : kd μ20 o = 10 := by rw [eμ20]; exact hk18
  refine lv_aload_n X.1 X.2.1 dX7_clear_31 rfl (lv_at hl 0 rfl) ?_
  refine lv_iconst (v := 0) X.1 X.2.1 dX7_clear_32 (by decide) ?_
  refine my_puti (C := RX7) (F := TX7) (N := 8) (ci := 9) X M 7 rfl in_X7 tyX7 tyX7_ok nmX7 (by decide) rfl (by decide) kw_162 (Or.inl rfl) dX7_clear_33 hk22 rfl rfl (fun μ23 H locs eμ23 M => ?_)
  replace hw := hw μ23 eμ23
  have hKM24 : KM μ μ23 := by rw [eμ23]; exact hKM21
  have hk25 : kd μ23 o = 10 := by rw [eμ23]; exact hk22
  exact mx_vret X hr hk M dX7_clear_36 (by decide) (by decide) ⟨hw, hKM24⟩

abbrev rm_X7_size : Room := { frames := 1, cells := 0, slots := 0, locals := 20 }
def wp_X7_size (μ : Mem) (o : Nat) (post : Int32 → Mem → Prop) : Prop :=
  kd μ o = 10 ∧
  ∃ x2, fr μ 9 4 o = some x2 ∧
  kd μ x2 = 7 ∧
  wp_X4_size μ x2 (fun (r5 : Int32) (μ3 : Mem) =>
  KM μ μ3 →
  post ((r5 + ((2 : Int32) * (fi μ3 9 1 o))) + ((3 : Int32) * (fi μ3 9 3 o))) μ3)
set_option maxRecDepth 100000 in
set_option maxHeartbeats 4000000 in
theorem c_X7_size (l : Launch) (T : Tb) (B : Nat) (μ : Mem) (o : Nat) (post : Int32 → Mem → Prop) (hw : wp_X7_size μ o post) : Met l yX7_size (.code yX7_size cX7_size 1 (some .int) :: G) rm_X7_size (Pm (Rl T B) T B μ [.ref o]) (va_Qi (fun r9 μ9 => post r9 μ9 ∧ KM μ μ9) (Bm (Rl T B)) (Ai B)) 0 0 (Ai B) := by
  refine mx_of RX7 rfl (by decide) (Nat.le_of_ble_eq_true rfl) ?_
  intro p e s m below meth c0 X hr hk hnm M ls hl
  have hl : lv_has ls 1 [(0, .ref o)] := hl
  unfold wp_X7_size at hw
  have hKM : KM μ μ := KM.rf μ
  refine lv_aload_n X.1 X.2.1 dX7_size_0 rfl (lv_at hl 0 rfl) ?_
  obtain ⟨hk1, hw⟩ := hw
  obtain ⟨x2, ex2, hw⟩ := hw
  refine mx_getr (C := RX7) (F := TX7) (N := 8) (ci := 9) X M 4 rfl in_X7 (by decide) rfl (by decide) kw_159 dX7_size_1 hk1 ?_
  rw [ex2]
  obtain ⟨hk6, hw⟩ := hw
  have hw4 := hw
  clear hw
  refine mx_ci M (mx_runV (n := 0) (As := []) (rest := []) X M (c_X4_size l T B μ x2 _ hw4) (mx_recv (C := RX4) (F := TX4) (N := 2) (ci := 6) X M rfl (by decide) hk6) kw_547 kw_548 kw_549 kw_71 kw_550 (by decide +kernel) rfl rfl ⟨Nat.le_of_ble_eq_true rfl, Nat.le_of_ble_eq_true rfl⟩ rfl hl.1 (Nat.le_of_ble_eq_true rfl) dX7_size_4 ⟨by decide, by decide⟩) (fun r5 μ3 H locs ⟨hw, hKM3⟩ M => ?_)
  replace hw := hw hKM3
  have hKM3_ := hKM.tr hKM3
  have hk7 := hKM3.at hk1
  have hk8 := hKM3.at hk6
  refine lv_iconst (v := 2) X.1 X.2.1 dX7_size_7 (by decide) ?_
  refine lv_aload_n X.1 X.2.1 dX7_size_8 rfl (lv_at hl 0 rfl) ?_
  refine mx_geti (C := RX7) (F := TX7) (N := 8) (ci := 9) X M 1 rfl in_X7 (by decide) rfl (by decide) kw_154 dX7_size_9 hk7 ?_
  refine lv_imul X.1 X.2.1 dX7_size_12 ?_
  refine lv_iadd X.1 X.2.1 dX7_size_13 ?_
  refine lv_iconst (v := 3) X.1 X.2.1 dX7_size_14 (by decide) ?_
  refine lv_aload_n X.1 X.2.1 dX7_size_15 rfl (lv_at hl 0 rfl) ?_
  refine mx_geti (C := RX7) (F := TX7) (N := 8) (ci := 9) X M 3 rfl in_X7 (by decide) rfl (by decide) kw_157 dX7_size_16 hk7 ?_
  refine lv_imul X.1 X.2.1 dX7_size_19 ?_
  refine lv_iadd X.1 X.2.1 dX7_size_20 ?_
  exact mx_iret X hr hk M dX7_size_21 (by decide) (by decide) ⟨hw, hKM3_⟩

abbrev rm_X7_hasRoom : Room := { frames := 2, cells := 0, slots := 0, locals := 40 }
def wp_X7_hasRoom (μ : Mem) (o : Nat) (a1 : Int32) (post : Int32 → Mem → Prop) : Prop :=
  kd μ o = 10 ∧
  wp_X7_size μ o (fun (r3 : Int32) (μ1 : Mem) =>
  KM μ μ1 →
  ((fi μ1 9 6 o) < (r3 + a1) →
   post 0 μ1) ∧ (¬ (fi μ1 9 6 o) < (r3 + a1) →
   post 1 μ1))
set_option maxRecDepth 100000 in
set_option maxHeartbeats 4000000 in
theorem c_X7_hasRoom (l : Launch) (T : Tb) (B : Nat) (μ : Mem) (o : Nat) (a1 : Int32) (post : Int32 → Mem → Prop) (hw : wp_X7_hasRoom μ o a1 post) : Met l yX7_hasRoom (.code yX7_hasRoom cX7_hasRoom 2 (some .boolean) :: G) rm_X7_hasRoom (Pm (Rl T B) T B μ [.ref o, .int a1]) (va_Qi (fun r9 μ9 => post r9 μ9 ∧ KM μ μ9) (Bm (Rl T B)) (Ai B)) 0 0 (Ai B) := by
  refine mx_of RX7 rfl (by decide) (Nat.le_of_ble_eq_true rfl) ?_
  intro p e s m below meth c0 X hr hk hnm M ls hl
  have hl : lv_has ls 2 [(0, .ref o), (1, .int a1)] := hl
  unfold wp_X7_hasRoom at hw
  have hKM : KM μ μ := KM.rf μ
  refine lv_aload_n X.1 X.2.1 dX7_hasRoom_0 rfl (lv_at hl 0 rfl) ?_
  obtain ⟨hk4, hw⟩ := hw
  have hw2 := hw
  clear hw
  refine mx_ci M (mx_runV (n := 0) (As := []) (rest := []) X M (c_X7_size l T B μ o _ hw2) (mx_recv (C := RX7) (F := TX7) (N := 8) (ci := 9) X M rfl (by decide) hk4) kw_568 kw_569 kw_570 kw_70 kw_571 (by decide +kernel) rfl rfl ⟨Nat.le_of_ble_eq_true rfl, Nat.le_of_ble_eq_true rfl⟩ rfl hl.1 (Nat.le_of_ble_eq_true rfl) dX7_hasRoom_1 ⟨by decide, by decide⟩) (fun r3 μ1 H locs ⟨hw, hKM1⟩ M => ?_)
  replace hw := hw hKM1
  have hKM1_ := hKM.tr hKM1
  have hk5 := hKM1.at hk4
  refine lv_iload_n X.1 X.2.1 dX7_hasRoom_4 rfl (lv_at hl 1 rfl) ?_
  refine lv_iadd X.1 X.2.1 dX7_hasRoom_5 ?_
  refine lv_aload_n X.1 X.2.1 dX7_hasRoom_6 rfl (lv_at hl 0 rfl) ?_
  refine mx_geti (C := RX7) (F := TX7) (N := 8) (ci := 9) X M 6 rfl in_X7 (by decide) rfl (by decide) kw_161 dX7_hasRoom_7 hk5 ?_
  obtain ⟨hwt, hwf⟩ := hw
  refine lv_icmp_gt (tgt := 17) X.1 X.2.1 dX7_hasRoom_10 (by decide) (fun hq => ?_) (fun hq => ?_)
  · have hw := hwt hq
    refine lv_iconst (v := 0) X.1 X.2.1 dX7_hasRoom_17 (by decide) ?_
    exact mx_zret X hr hk M dX7_hasRoom_18 (by decide) (by decide) (by decide) ⟨hw, hKM1_⟩
  · have hw := hwf hq
    refine lv_iconst (v := 1) X.1 X.2.1 dX7_hasRoom_13 (by decide) ?_
    refine lv_goto (tgt := 18) X.1 X.2.1 dX7_hasRoom_14 (by decide) ?_
    exact mx_zret X hr hk M dX7_hasRoom_18 (by decide) (by decide) (by decide) ⟨hw, hKM1_⟩

abbrev rm_X7_noteSize : Room := { frames := 2, cells := 0, slots := 0, locals := 40 }
def wp_X7_noteSize (μ : Mem) (o : Nat) (post : Mem → Prop) : Prop :=
  kd μ o = 10 ∧
  wp_X7_size μ o (fun (r4 : Int32) (μ2 : Mem) =>
  KM μ μ2 →
  ∀ μ6 : Mem, μ6 = sfi μ2 9 7 o (if (fi μ 9 7 o) < r4 then r4 else (fi μ 9 7 o)) →
  post μ6)
set_option maxRecDepth 100000 in
set_option maxHeartbeats 4000000 in
theorem c_X7_noteSize (l : Launch) (T : Tb) (B : Nat) (μ : Mem) (o : Nat) (post : Mem → Prop) (hw : wp_X7_noteSize μ o post) : Met l yX7_noteSize (.code yX7_noteSize cX7_noteSize 1 none :: G) rm_X7_noteSize (Pm (Rl T B) T B μ [.ref o]) (va_Qv (fun μ9 => post μ9 ∧ KM μ μ9) (Bm (Rl T B)) (Ai B)) 0 0 (Ai B) := by
  refine mx_of RX7 rfl (by decide) (Nat.le_of_ble_eq_true rfl) ?_
  intro p e s m below meth c0 X hr hk hnm M ls hl
  have hl : lv_has ls 1 [(0, .ref o)] := hl
  unfold wp_X7_noteSize at hw
  have hKM : KM μ μ := KM.rf μ
  refine lv_aload_n X.1 X.2.1 dX7_noteSize_0 rfl (lv_at hl 0 rfl) ?_
  refine lv_aload_n X.1 X.2.1 dX7_noteSize_1 rfl (lv_at hl 0 rfl) ?_
  obtain ⟨hk1, hw⟩ := hw
  refine mx_geti (C := RX7) (F := TX7) (N := 8) (ci := 9) X M 7 rfl in_X7 (by decide) rfl (by decide) kw_162 dX7_noteSize_2 hk1 ?_
  refine lv_aload_n X.1 X.2.1 dX7_noteSize_5 rfl (lv_at hl 0 rfl) ?_
  have hw3 := hw
  clear hw
  refine mx_ci M (mx_runV (n := 0) (As := []) (rest := [.int (fi μ 9 7 o), .ref o]) X M (c_X7_size l T B μ o _ hw3) (mx_recv (C := RX7) (F := TX7) (N := 8) (ci := 9) X M rfl (by decide) hk1) kw_568 kw_569 kw_570 kw_70 kw_571 (by decide +kernel) rfl rfl ⟨Nat.le_of_ble_eq_true rfl, Nat.le_of_ble_eq_true rfl⟩ rfl hl.1 (Nat.le_of_ble_eq_true rfl) dX7_noteSize_6 ⟨by decide, by decide⟩) (fun r4 μ2 H locs ⟨hw, hKM2⟩ M => ?_)
  replace hw := hw hKM2
  have hKM2_ := hKM.tr hKM2
  have hk5 := hKM2.at hk1
  refine my_max X kw_572 kw_280 kw_75 kw_281 hl.1 (Nat.le_of_ble_eq_true rfl) (Nat.le_of_ble_eq_true rfl) (by decide) (by decide) dX7_noteSize_9 ?_
  refine my_puti (C := RX7) (F := TX7) (N := 8) (ci := 9) X M 7 rfl in_X7 tyX7 tyX7_ok nmX7 (by decide) rfl (by decide) kw_162 (Or.inl rfl) dX7_noteSize_12 hk5 rfl rfl (fun μ6 H locs eμ6 M => ?_)
  replace hw := hw μ6 eμ6
  have hKM7 : KM μ μ6 := by rw [eμ6]; exact hKM2_
  have hk8 : kd μ6 o = 10 := by rw [eμ6]; exact hk5
  exact mx_vret X hr hk M dX7_noteSize_15 (by decide) (by decide) ⟨hw, hKM7⟩

abbrev rm_X7_pushFrame (c z : Nat) : Room := { frames := 7, cells := c, slots := z, locals := 171 }
def wp_X7_pushFrame_103 (o : Nat) (post : Option Nat → Mem → Prop) : Nat → Nat → Nat → Mem → Nat → Nat → Int32 → Prop
  | 0, _, _, _, _, _, _ => False
  | n + 1, c, z, μ, x1, x2, x3 =>
    kd μ x1 = 8 ∧
    ((fi μ 7 1 x1) ≤ x3 →
     kd μ o = 10 ∧
     wp_X7_noteSize μ o (fun (μ66 : Mem) =>
     KM μ μ66 →
     post (some x2) μ66)) ∧ (¬ (fi μ 7 1 x1) ≤ x3 →
     kd μ o = 10 ∧
     ∃ x72, fr μ 9 4 o = some x72 ∧
     kd μ x72 = 7 ∧
     ∃ c74 z75, c74 ≤ c ∧ z75 ≤ z ∧
     wp_X4_push c74 z75 μ x72 0 (fun (μ73 : Mem) =>
     KM μ μ73 →
     ∀ v81 : Int32, v81 = x3 + 1 →
     wp_X7_pushFrame_103 o post n (c - c74) (z - z75) μ73 x1 x2 v81))
def wp_X7_pushFrame_57 (o : Nat) (post : Option Nat → Mem → Prop) (c z : Nat) (μ : Mem) (x1 : Nat) (x2 : Nat) : Prop :=
  kd μ o = 10 ∧
  ∀ μ33 : Mem, μ33 = sfi μ 9 1 o ((fi μ 9 1 o) + 1) →
  kd μ33 x2 = 4 ∧
  ∀ μ37 : Mem, μ37 = sfr μ33 3 1 x2 (some x1) →
  ∃ x41, fr μ37 9 4 o = some x41 ∧
  kd μ37 x41 = 7 ∧
  wp_X4_size μ37 x41 (fun (r44 : Int32) (μ42 : Mem) =>
  KM μ37 μ42 →
  ∀ μ49 : Mem, μ49 = sfi μ42 3 2 x2 r44 →
  ∀ μ53 : Mem, μ53 = sfr μ49 3 3 x2 none →
  ∀ μ57 : Mem, μ57 = sfr μ53 3 4 x2 none →
  ∀ μ61 : Mem, μ61 = sfi μ57 3 6 x2 (fi μ57 9 3 o) →
  ∃ n82, wp_X7_pushFrame_103 o post n82 c z μ61 x1 x2 0)
def wp_X7_pushFrame (c z : Nat) (μ : Mem) (o : Nat) (a1 : Nat) (post : Option Nat → Mem → Prop) : Prop :=
  kd μ o = 10 ∧
  ∃ x2, fr μ 9 0 o = some x2 ∧
  kd μ x2 = 2 ∧
  wp_Jx4a65c_size_8abf5 μ x2 (fun (r5 : Int32) (μ3 : Mem) =>
  KM μ μ3 →
  wp_X10_within μ3 (fi μ 9 1 o) r5 (fun (r11 : Int32) (μ9 : Mem) =>
  KM μ3 μ9 →
  (r11 = 0 →
   1 ≤ c ∧ 7 ≤ z ∧ ∀ (q13 : Nat) (μ14 : Mem), kd μ9 q13 = 0 → μ14 = nob μ9 3 q13 →
   wp_X1_init μ14 q13 (fi μ14 9 1 o) a1 (fun (μ18 : Mem) =>
   KM μ14 μ18 →
   ∃ x22, fr μ18 9 0 o = some x22 ∧
   kd μ18 x22 = 2 ∧
   ∃ c24 z25, c24 ≤ c - 1 ∧ z25 ≤ z - 7 ∧
   wp_Jx4a65c_add_9ea2d c24 z25 μ18 x22 q13 (fun (r27 : Int32) (μ23 : Mem) =>
   KM μ18 μ23 →
   wp_X7_pushFrame_57 o post ((c - 1) - c24) ((z - 7) - z25) μ23 a1 q13))) ∧ (¬ r11 = 0 →
   ∃ x83, fr μ9 9 0 o = some x83 ∧
   kd μ9 x83 = 2 ∧
   wp_Jx4a65c_get_915e3 μ9 x83 (fi μ9 9 1 o) (fun (r86 : Option Nat) (μ84 : Mem) =>
   KM μ9 μ84 →
   ∃ x90, r86 = some x90 ∧
   kd μ84 x90 = 4 ∧
   wp_X7_pushFrame_57 o post c z μ84 a1 x90))))
set_option maxRecDepth 100000 in
set_option maxHeartbeats 4000000 in
theorem b_X7_pushFrame_103 {T : Tb} {B : Nat} {p : Program} {l : Launch} {e : Env} {s : State} {m : MethodId} {args : Array Value} {below : List Frame} {meth : Method} {c0 : Code} {post : Option Nat → Mem → Prop} {μ0 : Mem} {o : Nat} {cT zT : Nat} (X : CX T B p m c0 cX7_pushFrame 4 s args RX7) (hr : meth.sig.returnType = (some (.object "RedoMachine$Frame"))) (hk : meth.locks = false) : ∀ (n : Nat) (c z cells slots : Nat) (μ : Mem) (x1 : Nat) (x2 : Nat) (x3 : Int32) (H : Heap) (locs : List Loc) (ls : Array Slot), cells + c ≤ cT → slots + z ≤ zT → KM μ0 μ → wp_X7_pushFrame_103 o post n c z μ x1 x2 x3 → MG (Rl T B) B s μ H locs → lv_has ls 4 [(0, .ref o), (1, .ref x1), (2, .ref x2), (3, .int x3)] → W p l e (rm_X7_pushFrame cT zT) s m args below meth c0 H locs cells slots (MQ below (va_Qq (fun r9 μ9 => post r9 μ9 ∧ KM μ0 μ9) (Bm (Rl T B)) (Ai B)) args s cT zT (Ai B)) (F0 m 103 ls []) := by
  intro n
  induction n with
  | zero =>
    intro c z cells slots μ x1 x2 x3 H locs ls hc hz hKM hw
    exact hw.elim
  | succ n ih =>
    intro c z cells slots μ x1 x2 x3 H locs ls hc hz hKM hw M hl
    rw [wp_X7_pushFrame_103] at hw
    refine lv_iload_n X.1 X.2.1 dX7_pushFrame_103 rfl (lv_at hl 3 rfl) ?_
    refine lv_aload_n X.1 X.2.1 dX7_pushFrame_104 rfl (lv_at hl 1 rfl) ?_
    obtain ⟨hk65, hw⟩ := hw
    refine mx_geti (C := RX5) (F := TX5) (N := 5) (ci := 7) X M 1 rfl in_X5 (by decide) rfl (by decide) kw_322 dX7_pushFrame_105 hk65 ?_
    obtain ⟨hwt, hwf⟩ := hw
    refine lv_icmp_ge (tgt := 125) X.1 X.2.1 dX7_pushFrame_108 (by decide) (fun hq => ?_) (fun hq => ?_)
    · have hw := hwt hq
      refine lv_aload_n X.1 X.2.1 dX7_pushFrame_125 rfl (lv_at hl 0 rfl) ?_
      obtain ⟨hk68, hw⟩ := hw
      have hw67 := hw
      clear hw
      refine mx_cv M (mx_runV (n := 0) (As := []) (rest := []) X M (c_X7_noteSize l T B μ o _ hw67) (mx_recv (C := RX7) (F := TX7) (N := 8) (ci := 9) X M rfl (by decide) hk68) kw_564 kw_566 kw_7 kw_70 kw_567 (by decide +kernel) rfl rfl ⟨Nat.le_of_ble_eq_true rfl, Nat.le_of_ble_eq_true rfl⟩ rfl hl.1 (Nat.le_of_ble_eq_true rfl) dX7_pushFrame_126 ⟨(show cells + 0 ≤ cT by omega), (show slots + 0 ≤ zT by omega)⟩) (fun μ66 H locs ⟨hw, hKM66⟩ M => ?_)
      replace hw := hw hKM66
      have hKM66_ := hKM.tr hKM66
      have hk69 := hKM66.at hk65
      have hk70 := hKM66.at hk68
      have hc : (cells + 0) + (c) ≤ cT := by omega
      have hz : (slots + 0) + (z) ≤ zT := by omega
      refine lv_aload_n X.1 X.2.1 dX7_pushFrame_129 rfl (lv_at hl 2 rfl) ?_
      exact mx_aret (r := (some x2)) X hr (Or.inl ⟨_, rfl⟩) hk M dX7_pushFrame_130 (by omega) (by omega) ⟨hw, hKM66_⟩
    · have hw := hwf hq
      refine lv_aload_n X.1 X.2.1 dX7_pushFrame_111 rfl (lv_at hl 0 rfl) ?_
      obtain ⟨hk71, hw⟩ := hw
      obtain ⟨x72, ex72, hw⟩ := hw
      refine mx_getr (C := RX7) (F := TX7) (N := 8) (ci := 9) X M 4 rfl in_X7 (by decide) rfl (by decide) kw_159 dX7_pushFrame_112 hk71 ?_
      rw [ex72]
      refine lv_lconst (v := 0) X.1 X.2.1 dX7_pushFrame_115 (by decide) ?_
      obtain ⟨hk77, hw⟩ := hw
      obtain ⟨c74, z75, hc74, hz75, hw⟩ := hw
      have hw76 := hw
      clear hw
      refine mx_cv M (mx_runV (n := 1) (As := [.long 0]) (rest := []) X M (c_X4_push l T B c74 z75 μ x72 0 _ hw76) (mx_recv (C := RX4) (F := TX4) (N := 2) (ci := 6) X M rfl (by decide) hk77) kw_551 kw_552 kw_553 kw_71 kw_554 (by decide +kernel) rfl rfl ⟨Nat.le_of_ble_eq_true rfl, Nat.le_of_ble_eq_true rfl⟩ rfl hl.1 (Nat.le_of_ble_eq_true rfl) dX7_pushFrame_116 ⟨(show cells + c74 ≤ cT by omega), (show slots + z75 ≤ zT by omega)⟩) (fun μ73 H locs ⟨hw, hKM73⟩ M => ?_)
      replace hw := hw hKM73
      have hKM73_ := hKM.tr hKM73
      have hk78 := hKM73.at hk65
      have hk79 := hKM73.at hk71
      have hk80 := hKM73.at hk77
      have hc : (cells + c74) + (c - c74) ≤ cT := by omega
      have hz : (slots + z75) + (z - z75) ≤ zT := by omega
      obtain ⟨v81, ev81⟩ : ∃ y : Int32, y = x3 + 1 := ⟨_, rfl⟩
      replace hw := hw v81 ev81
      refine lv_iinc (v := v81) (lv' := [(3, .int v81), (0, .ref o), (1, .ref x1), (2, .ref x2)]) X.1 X.2.1 dX7_pushFrame_119 hl (k := 3) rfl (by rw [ev81]; rfl) (by decide) rfl (fun ls hl => ?_)
      refine lv_goto (tgt := 103) X.1 X.2.1 dX7_pushFrame_122 (by decide) ?_
      exact ih _ _ _ _ μ73 x1 x2 v81 _ _ _ (by omega) (by omega) hKM73_ hw M (lv_sub hl [1, 2, 3, 0] rfl)
set_option maxRecDepth 100000 in
set_option maxHeartbeats 4000000 in
theorem b_X7_pushFrame_57 {T : Tb} {B : Nat} {p : Program} {l : Launch} {e : Env} {s : State} {m : MethodId} {args : Array Value} {below : List Frame} {meth : Method} {c0 : Code} {post : Option Nat → Mem → Prop} {μ0 : Mem} {o : Nat} {cT zT : Nat} (X : CX T B p m c0 cX7_pushFrame 4 s args RX7) (hr : meth.sig.returnType = (some (.object "RedoMachine$Frame"))) (hk : meth.locks = false) : ∀ (c z cells slots : Nat) (μ : Mem) (x1 : Nat) (x2 : Nat) (H : Heap) (locs : List Loc) (ls : Array Slot), cells + c ≤ cT → slots + z ≤ zT → KM μ0 μ → wp_X7_pushFrame_57 o post c z μ x1 x2 → MG (Rl T B) B s μ H locs → lv_has ls 4 [(0, .ref o), (1, .ref x1), (2, .ref x2)] → W p l e (rm_X7_pushFrame cT zT) s m args below meth c0 H locs cells slots (MQ below (va_Qq (fun r9 μ9 => post r9 μ9 ∧ KM μ0 μ9) (Bm (Rl T B)) (Ai B)) args s cT zT (Ai B)) (F0 m 57 ls []) := by
  intro c z cells slots μ x1 x2 H locs ls hc hz hKM hw M hl
  unfold wp_X7_pushFrame_57 at hw
  refine lv_aload_n X.1 X.2.1 dX7_pushFrame_57 rfl (lv_at hl 0 rfl) ?_
  refine lv_dup X.1 X.2.1 dX7_pushFrame_58 rfl ?_
  obtain ⟨hk32, hw⟩ := hw
  refine mx_geti (C := RX7) (F := TX7) (N := 8) (ci := 9) X M 1 rfl in_X7 (by decide) rfl (by decide) kw_154 dX7_pushFrame_59 hk32 ?_
  refine lv_iconst (v := 1) X.1 X.2.1 dX7_pushFrame_62 (by decide) ?_
  refine lv_iadd X.1 X.2.1 dX7_pushFrame_63 ?_
  refine my_puti (C := RX7) (F := TX7) (N := 8) (ci := 9) X M 1 rfl in_X7 tyX7 tyX7_ok nmX7 (by decide) rfl (by decide) kw_154 (Or.inl rfl) dX7_pushFrame_64 hk32 rfl rfl (fun μ33 H locs eμ33 M => ?_)
  replace hw := hw μ33 eμ33
  have hKM34 : KM μ0 μ33 := by rw [eμ33]; exact hKM
  have hk35 : kd μ33 o = 10 := by rw [eμ33]; exact hk32
  refine lv_aload_n X.1 X.2.1 dX7_pushFrame_67 rfl (lv_at hl 2 rfl) ?_
  refine lv_aload_n X.1 X.2.1 dX7_pushFrame_68 rfl (lv_at hl 1 rfl) ?_
  obtain ⟨hk36, hw⟩ := hw
  refine my_putr (C := RX1) (F := TX1) (N := 7) (ci := 3) X M 1 rfl in_X1 tyX1 tyX1_ok nmX1 (by decide) rfl (by decide) kw_522 (Or.inl rfl) dX7_pushFrame_69 hk36 (some x1) (mq_no _ _) (mq_fo _ _) (fun μ37 H locs eμ37 M => ?_)
  replace hw := hw μ37 eμ37
  have hKM38 : KM μ0 μ37 := by rw [eμ37]; exact hKM34
  have hk39 : kd μ37 o = 10 := by rw [eμ37]; exact hk35
  have hk40 : kd μ37 x2 = 4 := by rw [eμ37]; exact hk36
  refine lv_aload_n X.1 X.2.1 dX7_pushFrame_72 rfl (lv_at hl 2 rfl) ?_
  refine lv_aload_n X.1 X.2.1 dX7_pushFrame_73 rfl (lv_at hl 0 rfl) ?_
  obtain ⟨x41, ex41, hw⟩ := hw
  refine mx_getr (C := RX7) (F := TX7) (N := 8) (ci := 9) X M 4 rfl in_X7 (by decide) rfl (by decide) kw_159 dX7_pushFrame_74 hk39 ?_
  rw [ex41]
  obtain ⟨hk45, hw⟩ := hw
  have hw43 := hw
  clear hw
  refine mx_ci M (mx_runV (n := 0) (As := []) (rest := [.ref x2]) X M (c_X4_size l T B μ37 x41 _ hw43) (mx_recv (C := RX4) (F := TX4) (N := 2) (ci := 6) X M rfl (by decide) hk45) kw_547 kw_548 kw_549 kw_71 kw_550 (by decide +kernel) rfl rfl ⟨Nat.le_of_ble_eq_true rfl, Nat.le_of_ble_eq_true rfl⟩ rfl hl.1 (Nat.le_of_ble_eq_true rfl) dX7_pushFrame_77 ⟨(show cells + 0 ≤ cT by omega), (show slots + 0 ≤ zT by omega)⟩) (fun r44 μ42 H locs ⟨hw, hKM42⟩ M => ?_)
  replace hw := hw hKM42
  have hKM42_ := hKM38.tr hKM42
  have hk46 := hKM42.at hk39
  have hk47 := hKM42.at hk40
  have hk48 := hKM42.at hk45
  have hc : (cells + 0) + (c) ≤ cT := by omega
  have hz : (slots + 0) + (z) ≤ zT := by omega
  refine my_puti (C := RX1) (F := TX1) (N := 7) (ci := 3) X M 2 rfl in_X1 tyX1 tyX1_ok nmX1 (by decide) rfl (by decide) kw_523 (Or.inl rfl) dX7_pushFrame_80 hk47 rfl rfl (fun μ49 H locs eμ49 M => ?_)
  replace hw := hw μ49 eμ49
  have hKM50 : KM μ0 μ49 := by rw [eμ49]; exact hKM42_
  have hk51 : kd μ49 o = 10 := by rw [eμ49]; exact hk46
  have hk52 : kd μ49 x2 = 4 := by rw [eμ49]; exact hk47
  refine lv_aload_n X.1 X.2.1 dX7_pushFrame_83 rfl (lv_at hl 2 rfl) ?_
  refine lv_null X.1 X.2.1 dX7_pushFrame_84 ?_
  refine my_putr (C := RX1) (F := TX1) (N := 7) (ci := 3) X M 3 rfl in_X1 tyX1 tyX1_ok nmX1 (by decide) rfl (by decide) kw_524 (Or.inl rfl) dX7_pushFrame_85 hk52 none (mq_no _ _) (mq_fo _ _) (fun μ53 H locs eμ53 M => ?_)
  replace hw := hw μ53 eμ53
  have hKM54 : KM μ0 μ53 := by rw [eμ53]; exact hKM50
  have hk55 : kd μ53 o = 10 := by rw [eμ53]; exact hk51
  have hk56 : kd μ53 x2 = 4 := by rw [eμ53]; exact hk52
  refine lv_aload_n X.1 X.2.1 dX7_pushFrame_88 rfl (lv_at hl 2 rfl) ?_
  refine lv_null X.1 X.2.1 dX7_pushFrame_89 ?_
  refine my_putr (C := RX1) (F := TX1) (N := 7) (ci := 3) X M 4 rfl in_X1 tyX1 tyX1_ok nmX1 (by decide) rfl (by decide) kw_526 (Or.inl rfl) dX7_pushFrame_90 hk56 none (mq_no _ _) (mq_fo _ _) (fun μ57 H locs eμ57 M => ?_)
  replace hw := hw μ57 eμ57
  have hKM58 : KM μ0 μ57 := by rw [eμ57]; exact hKM54
  have hk59 : kd μ57 o = 10 := by rw [eμ57]; exact hk55
  have hk60 : kd μ57 x2 = 4 := by rw [eμ57]; exact hk56
  refine lv_aload_n X.1 X.2.1 dX7_pushFrame_93 rfl (lv_at hl 2 rfl) ?_
  refine lv_aload_n X.1 X.2.1 dX7_pushFrame_94 rfl (lv_at hl 0 rfl) ?_
  refine mx_geti (C := RX7) (F := TX7) (N := 8) (ci := 9) X M 3 rfl in_X7 (by decide) rfl (by decide) kw_157 dX7_pushFrame_95 hk59 ?_
  refine my_puti (C := RX1) (F := TX1) (N := 7) (ci := 3) X M 6 rfl in_X1 tyX1 tyX1_ok nmX1 (by decide) rfl (by decide) kw_529 (Or.inl rfl) dX7_pushFrame_98 hk60 rfl rfl (fun μ61 H locs eμ61 M => ?_)
  replace hw := hw μ61 eμ61
  have hKM62 : KM μ0 μ61 := by rw [eμ61]; exact hKM58
  have hk63 : kd μ61 o = 10 := by rw [eμ61]; exact hk59
  have hk64 : kd μ61 x2 = 4 := by rw [eμ61]; exact hk60
  refine lv_iconst (v := 0) X.1 X.2.1 dX7_pushFrame_101 (by decide) ?_
  refine lv_istore_n (lv' := [(3, .int 0), (0, .ref o), (1, .ref x1), (2, .ref x2)]) X.1 X.2.1 dX7_pushFrame_102 rfl hl (by decide) rfl (fun ls hl => ?_)
  obtain ⟨n82, hw⟩ := hw
  exact b_X7_pushFrame_103 X hr hk n82 _ _ _ _ μ61 x1 x2 0 _ _ _ (by omega) (by omega) hKM62 hw M (lv_sub hl [1, 2, 3, 0] rfl)
set_option maxRecDepth 100000 in
set_option maxHeartbeats 4000000 in
theorem c_X7_pushFrame (l : Launch) (T : Tb) (B : Nat) (c z : Nat) (μ : Mem) (o : Nat) (a1 : Nat) (post : Option Nat → Mem → Prop) (hw : wp_X7_pushFrame c z μ o a1 post) : Met l yX7_pushFrame (.code yX7_pushFrame cX7_pushFrame 4 (some (.object "RedoMachine$Frame")) :: G) (rm_X7_pushFrame c z) (Pm (Rl T B) T B μ [.ref o, .ref a1]) (va_Qq (fun r9 μ9 => post r9 μ9 ∧ KM μ μ9) (Bm (Rl T B)) (Ai B)) c z (Ai B) := by
  refine mx_of RX7 rfl (by decide) (Nat.le_of_ble_eq_true rfl) ?_
  intro p e s m below meth c0 X hr hk hnm M ls hl
  have hl : lv_has ls 4 [(0, .ref o), (1, .ref a1)] := hl
  unfold wp_X7_pushFrame at hw
  have hKM : KM μ μ := KM.rf μ
  have hc : 0 + c ≤ c := by omega
  have hz : 0 + z ≤ z := by omega
  refine lv_aload_n X.1 X.2.1 dX7_pushFrame_0 rfl (lv_at hl 0 rfl) ?_
  obtain ⟨hk1, hw⟩ := hw
  refine mx_geti (C := RX7) (F := TX7) (N := 8) (ci := 9) X M 1 rfl in_X7 (by decide) rfl (by decide) kw_154 dX7_pushFrame_1 hk1 ?_
  refine lv_aload_n X.1 X.2.1 dX7_pushFrame_4 rfl (lv_at hl 0 rfl) ?_
  obtain ⟨x2, ex2, hw⟩ := hw
  refine mx_getr (C := RX7) (F := TX7) (N := 8) (ci := 9) X M 0 rfl in_X7 (by decide) rfl (by decide) kw_153 dX7_pushFrame_5 hk1 ?_
  rw [ex2]
  obtain ⟨hk6, hw⟩ := hw
  have hw4 := hw
  clear hw
  refine mx_ci M (mx_runV (n := 0) (As := []) (rest := [.int (fi μ 9 1 o)]) X M (c_Jx4a65c_size_8abf5 l T B μ x2 _ hw4) (mx_recv (C := RJx4a65c) (F := TJx4a65c) (N := 3) (ci := 1) X M rfl (by decide) hk6) kw_509 kw_299 kw_300 kw_68 kw_301 (by decide +kernel) rfl rfl ⟨Nat.le_of_ble_eq_true rfl, Nat.le_of_ble_eq_true rfl⟩ rfl hl.1 (Nat.le_of_ble_eq_true rfl) dX7_pushFrame_8 ⟨(show 0 + 0 ≤ c by omega), (show 0 + 0 ≤ z by omega)⟩) (fun r5 μ3 H locs ⟨hw, hKM3⟩ M => ?_)
  replace hw := hw hKM3
  have hKM3_ := hKM.tr hKM3
  have hk7 := hKM3.at hk1
  have hk8 := hKM3.at hk6
  have hc : (0 + 0) + (c) ≤ c := by omega
  have hz : (0 + 0) + (z) ≤ z := by omega
  have hw10 := hw
  clear hw
  refine mx_ci M (mx_runSN (n := 2) (As := [.int (fi μ 9 1 o), .int r5]) (rest := []) X M (c_X10_within l T B μ3 (fi μ 9 1 o) r5 _ hw10) kw_510 kw_309 kw_65 kw_310 (by decide +kernel) rfl rfl ⟨Nat.le_of_ble_eq_true rfl, Nat.le_of_ble_eq_true rfl⟩ rfl hl.1 (Nat.le_of_ble_eq_true rfl) dX7_pushFrame_11 ⟨(show (0 + 0) + 0 ≤ c by omega), (show (0 + 0) + 0 ≤ z by omega)⟩) (fun r11 μ9 H locs ⟨hw, hKM9⟩ M => ?_)
  replace hw := hw hKM9
  have hKM9_ := hKM3_.tr hKM9
  have hk12 := hKM9.at hk7
  have hc : ((0 + 0) + 0) + (c) ≤ c := by omega
  have hz : ((0 + 0) + 0) + (z) ≤ z := by omega
  obtain ⟨hwt, hwf⟩ := hw
  refine lv_if_eq (tgt := 35) X.1 X.2.1 dX7_pushFrame_14 (by decide) (fun hq => ?_) (fun hq => ?_)
  · have hw := hwt hq
    obtain ⟨hb1, hb2, hw⟩ := hw
    refine my_new (C := RX1) (F := TX1) (N := 7) (ci := 3) X M rfl in_X1 tyX1 tyX1_ok df_X1 (by decide) kw_512 kw_513 kw_83 dX7_pushFrame_35 (show ((0 + 0) + 0) + 1 ≤ c by omega) (show ((0 + 0) + 0) + 7 ≤ z by omega) (fun q13 μ14 H hq13 eμ14 M => ?_)
    replace hw := hw q13 μ14 hq13 eμ14
    have hKM15 : KM μ μ14 := by rw [eμ14]; exact hKM9_.tr (KM_nob hq13)
    have hk16 : kd μ14 o = 10 := by rw [eμ14]; exact (KM_nob hq13).at hk12
    have hk17 : kd μ14 q13 = 4 := by rw [eμ14]; exact kd_nob
    have hc : (((0 + 0) + 0) + 1) + (c - 1) ≤ c := by omega
    have hz : (((0 + 0) + 0) + 7) + (z - 7) ≤ z := by omega
    refine lv_dup X.1 X.2.1 dX7_pushFrame_38 rfl ?_
    refine lv_aload_n X.1 X.2.1 dX7_pushFrame_39 rfl (lv_at hl 0 rfl) ?_
    refine mx_geti (C := RX7) (F := TX7) (N := 8) (ci := 9) X M 1 rfl in_X7 (by decide) rfl (by decide) kw_154 dX7_pushFrame_40 hk16 ?_
    refine lv_aload_n X.1 X.2.1 dX7_pushFrame_43 rfl (lv_at hl 1 rfl) ?_
    have hw19 := hw
    clear hw
    refine mx_cv M (mx_runI (n := 2) (As := [.int (fi μ14 9 1 o), .ref a1]) (rest := [.ref q13]) X M (c_X1_init l T B μ14 q13 (fi μ14 9 1 o) a1 _ hw19) kw_514 kw_515 rfl kw_83 kw_516 (by decide +kernel) rfl rfl ⟨Nat.le_of_ble_eq_true rfl, Nat.le_of_ble_eq_true rfl⟩ rfl hl.1 (Nat.le_of_ble_eq_true rfl) dX7_pushFrame_44 ⟨(show (((0 + 0) + 0) + 1) + 0 ≤ c by omega), (show (((0 + 0) + 0) + 7) + 0 ≤ z by omega)⟩) (fun μ18 H locs ⟨hw, hKM18⟩ M => ?_)
    replace hw := hw hKM18
    have hKM18_ := hKM15.tr hKM18
    have hk20 := hKM18.at hk16
    have hk21 := hKM18.at hk17
    have hc : ((((0 + 0) + 0) + 1) + 0) + (c - 1) ≤ c := by omega
    have hz : ((((0 + 0) + 0) + 7) + 0) + (z - 7) ≤ z := by omega
    refine lv_astore_n (lv' := [(2, .ref q13), (0, .ref o), (1, .ref a1)]) X.1 X.2.1 dX7_pushFrame_47 rfl hl (by decide) rfl (fun ls hl => ?_)
    refine lv_aload_n X.1 X.2.1 dX7_pushFrame_48 rfl (lv_at hl 1 rfl) ?_
    obtain ⟨x22, ex22, hw⟩ := hw
    refine mx_getr (C := RX7) (F := TX7) (N := 8) (ci := 9) X M 0 rfl in_X7 (by decide) rfl (by decide) kw_153 dX7_pushFrame_49 hk20 ?_
    rw [ex22]
    refine lv_aload_n X.1 X.2.1 dX7_pushFrame_52 rfl (lv_at hl 0 rfl) ?_
    obtain ⟨hk28, hw⟩ := hw
    obtain ⟨c24, z25, hc24, hz25, hw⟩ := hw
    have hw26 := hw
    clear hw
    refine mx_ci M (mx_runV (n := 1) (As := [.ref q13]) (rest := []) X M (c_Jx4a65c_add_9ea2d l T B c24 z25 μ18 x22 q13 _ hw26) (mx_recv (C := RJx4a65c) (F := TJx4a65c) (N := 3) (ci := 1) X M rfl (by decide) hk28) kw_546 kw_342 kw_343 kw_68 kw_344 (by decide +kernel) rfl rfl ⟨Nat.le_of_ble_eq_true rfl, Nat.le_of_ble_eq_true rfl⟩ rfl hl.1 (Nat.le_of_ble_eq_true rfl) dX7_pushFrame_53 ⟨(show ((((0 + 0) + 0) + 1) + 0) + c24 ≤ c by omega), (show ((((0 + 0) + 0) + 7) + 0) + z25 ≤ z by omega)⟩) (fun r27 μ23 H locs ⟨hw, hKM23⟩ M => ?_)
    replace hw := hw hKM23
    have hKM23_ := hKM18_.tr hKM23
    have hk29 := hKM23.at hk20
    have hk30 := hKM23.at hk21
    have hk31 := hKM23.at hk28
    have hc : (((((0 + 0) + 0) + 1) + 0) + c24) + ((c - 1) - c24) ≤ c := by omega
    have hz : (((((0 + 0) + 0) + 7) + 0) + z25) + ((z - 7) - z25) ≤ z := by omega
    refine lv_pop X.1 X.2.1 dX7_pushFrame_56 rfl ?_
    exact b_X7_pushFrame_57 X hr hk _ _ _ _ μ23 a1 q13 _ _ _ (by omega) (by omega) hKM23_ hw M (lv_sub hl [1, 2, 0] rfl)
  · have hw := hwf hq
    refine lv_aload_n X.1 X.2.1 dX7_pushFrame_17 rfl (lv_at hl 0 rfl) ?_
    obtain ⟨x83, ex83, hw⟩ := hw
    refine mx_getr (C := RX7) (F := TX7) (N := 8) (ci := 9) X M 0 rfl in_X7 (by decide) rfl (by decide) kw_153 dX7_pushFrame_18 hk12 ?_
    rw [ex83]
    refine lv_aload_n X.1 X.2.1 dX7_pushFrame_21 rfl (lv_at hl 0 rfl) ?_
    refine mx_geti (C := RX7) (F := TX7) (N := 8) (ci := 9) X M 1 rfl in_X7 (by decide) rfl (by decide) kw_154 dX7_pushFrame_22 hk12 ?_
    obtain ⟨hk87, hw⟩ := hw
    have hw85 := hw
    clear hw
    refine mx_cq M (mx_runV (n := 1) (As := [.int (fi μ9 9 1 o)]) (rest := []) X M (c_Jx4a65c_get_915e3 l T B μ9 x83 (fi μ9 9 1 o) _ hw85) (mx_recv (C := RJx4a65c) (F := TJx4a65c) (N := 3) (ci := 1) X M rfl (by decide) hk87) kw_511 kw_445 kw_446 kw_68 kw_447 (by decide +kernel) rfl rfl ⟨Nat.le_of_ble_eq_true rfl, Nat.le_of_ble_eq_true rfl⟩ rfl hl.1 (Nat.le_of_ble_eq_true rfl) dX7_pushFrame_25 ⟨(show ((0 + 0) + 0) + 0 ≤ c by omega), (show ((0 + 0) + 0) + 0 ≤ z by omega)⟩) (fun r86 μ84 H locs ⟨hw, hKM84⟩ M => ?_)
    replace hw := hw hKM84
    have hKM84_ := hKM9_.tr hKM84
    have hk88 := hKM84.at hk12
    have hk89 := hKM84.at hk87
    have hc : (((0 + 0) + 0) + 0) + (c) ≤ c := by omega
    have hz : (((0 + 0) + 0) + 0) + (z) ≤ z := by omega
    obtain ⟨x90, ex90, hw⟩ := hw
    subst ex90
    have hl : lv_has ls 4 [(0, .ref o), (1, .ref a1)] := hl
    obtain ⟨hk91, hw⟩ := hw
    refine va_castY (C := RX1) X.1 X.2.1 X.2.2.2.1 (X.2.2.2.2.1 _ kw_512) (X.2.2.2.2.2.1.2.1 _ kw_1340) (mx_recv (C := RX1) (F := TX1) (N := 7) (ci := 3) X M rfl (by decide) hk91) dX7_pushFrame_28 ?_
    refine lv_astore_n (lv' := [(2, .ref x90), (0, .ref o), (1, .ref a1)]) X.1 X.2.1 dX7_pushFrame_31 rfl hl (by decide) rfl (fun ls hl => ?_)
    refine lv_goto (tgt := 57) X.1 X.2.1 dX7_pushFrame_32 (by decide) ?_
    exact b_X7_pushFrame_57 X hr hk _ _ _ _ μ84 a1 x90 _ _ _ (by omega) (by omega) hKM84_ hw M (lv_sub hl [1, 2, 0] rfl)

abbrev rm_X7_pushRedo (c z : Nat) : Room := { frames := 7, cells := c, slots := z, locals := 171 }
def wp_X7_pushRedo_56 (o : Nat) (post : Mem → Prop) (c z : Nat) (μ : Mem) (x1 : Nat) (x2 : Int32) (x3 : Int32) (x4 : Nat) : Prop :=
  kd μ o = 10 ∧
  ∀ μ33 : Mem, μ33 = sfi μ 9 3 o ((fi μ 9 3 o) + 1) →
  kd μ33 x4 = 9 ∧
  ∀ μ37 : Mem, μ37 = sfr μ33 8 0 x4 (some x1) →
  ∀ μ41 : Mem, μ41 = sfi μ37 8 1 x4 x2 →
  ∀ μ45 : Mem, μ45 = sfi μ41 8 2 x4 0 →
  ∀ μ49 : Mem, μ49 = sfi μ45 8 3 x4 (fi μ45 9 1 o) →
  ∃ x53, fr μ49 9 4 o = some x53 ∧
  kd μ49 x53 = 7 ∧
  wp_X4_size μ49 x53 (fun (r56 : Int32) (μ54 : Mem) =>
  KM μ49 μ54 →
  ∀ μ61 : Mem, μ61 = sfi μ54 8 4 x4 r56 →
  ∃ x65, fr μ61 9 5 o = some x65 ∧
  kd μ61 x65 = 7 ∧
  wp_X4_size μ61 x65 (fun (r68 : Int32) (μ66 : Mem) =>
  KM μ61 μ66 →
  ∀ μ73 : Mem, μ73 = sfi μ66 8 5 x4 r68 →
  ∀ μ77 : Mem, μ77 = sfi μ73 8 6 x4 x3 →
  wp_X7_noteSize μ77 o (fun (μ81 : Mem) =>
  KM μ77 μ81 →
  post μ81)))
def wp_X7_pushRedo (c z : Nat) (μ : Mem) (o : Nat) (a1 : Nat) (a2 : Int32) (a3 : Int32) (post : Mem → Prop) : Prop :=
  kd μ o = 10 ∧
  ∃ x2, fr μ 9 2 o = some x2 ∧
  kd μ x2 = 2 ∧
  wp_Jx4a65c_size_8abf5 μ x2 (fun (r5 : Int32) (μ3 : Mem) =>
  KM μ μ3 →
  wp_X10_within μ3 (fi μ 9 3 o) r5 (fun (r11 : Int32) (μ9 : Mem) =>
  KM μ3 μ9 →
  (r11 = 0 →
   1 ≤ c ∧ 7 ≤ z ∧ ∀ (q13 : Nat) (μ14 : Mem), kd μ9 q13 = 0 → μ14 = nob μ9 8 q13 →
   wp_X6_init μ14 q13 a1 (fun (μ18 : Mem) =>
   KM μ14 μ18 →
   ∃ x22, fr μ18 9 2 o = some x22 ∧
   kd μ18 x22 = 2 ∧
   ∃ c24 z25, c24 ≤ c - 1 ∧ z25 ≤ z - 7 ∧
   wp_Jx4a65c_add_9ea2d c24 z25 μ18 x22 q13 (fun (r27 : Int32) (μ23 : Mem) =>
   KM μ18 μ23 →
   wp_X7_pushRedo_56 o post ((c - 1) - c24) ((z - 7) - z25) μ23 a1 a2 a3 q13))) ∧ (¬ r11 = 0 →
   ∃ x85, fr μ9 9 2 o = some x85 ∧
   kd μ9 x85 = 2 ∧
   wp_Jx4a65c_get_915e3 μ9 x85 (fi μ9 9 3 o) (fun (r88 : Option Nat) (μ86 : Mem) =>
   KM μ9 μ86 →
   ∃ x92, r88 = some x92 ∧
   kd μ86 x92 = 9 ∧
   wp_X7_pushRedo_56 o post c z μ86 a1 a2 a3 x92))))
set_option maxRecDepth 100000 in
set_option maxHeartbeats 4000000 in
theorem b_X7_pushRedo_56 {T : Tb} {B : Nat} {p : Program} {l : Launch} {e : Env} {s : State} {m : MethodId} {args : Array Value} {below : List Frame} {meth : Method} {c0 : Code} {post : Mem → Prop} {μ0 : Mem} {o : Nat} {cT zT : Nat} (X : CX T B p m c0 cX7_pushRedo 5 s args RX7) (hr : meth.sig.returnType = none) (hk : meth.locks = false) : ∀ (c z cells slots : Nat) (μ : Mem) (x1 : Nat) (x2 : Int32) (x3 : Int32) (x4 : Nat) (H : Heap) (locs : List Loc) (ls : Array Slot), cells + c ≤ cT → slots + z ≤ zT → KM μ0 μ → wp_X7_pushRedo_56 o post c z μ x1 x2 x3 x4 → MG (Rl T B) B s μ H locs → lv_has ls 5 [(0, .ref o), (1, .ref x1), (2, .int x2), (3, .int x3), (4, .ref x4)] → W p l e (rm_X7_pushRedo cT zT) s m args below meth c0 H locs cells slots (MQ below (va_Qv (fun μ9 => post μ9 ∧ KM μ0 μ9) (Bm (Rl T B)) (Ai B)) args s cT zT (Ai B)) (F0 m 56 ls []) := by
  intro c z cells slots μ x1 x2 x3 x4 H locs ls hc hz hKM hw M hl
  unfold wp_X7_pushRedo_56 at hw
  refine lv_aload_n X.1 X.2.1 dX7_pushRedo_56 rfl (lv_at hl 0 rfl) ?_
  refine lv_dup X.1 X.2.1 dX7_pushRedo_57 rfl ?_
  obtain ⟨hk32, hw⟩ := hw
  refine mx_geti (C := RX7) (F := TX7) (N := 8) (ci := 9) X M 3 rfl in_X7 (by decide) rfl (by decide) kw_157 dX7_pushRedo_58 hk32 ?_
  refine lv_iconst (v := 1) X.1 X.2.1 dX7_pushRedo_61 (by decide) ?_
  refine lv_iadd X.1 X.2.1 dX7_pushRedo_62 ?_
  refine my_puti (C := RX7) (F := TX7) (N := 8) (ci := 9) X M 3 rfl in_X7 tyX7 tyX7_ok nmX7 (by decide) rfl (by decide) kw_157 (Or.inl rfl) dX7_pushRedo_63 hk32 rfl rfl (fun μ33 H locs eμ33 M => ?_)
  replace hw := hw μ33 eμ33
  have hKM34 : KM μ0 μ33 := by rw [eμ33]; exact hKM
  have hk35 : kd μ33 o = 10 := by rw [eμ33]; exact hk32
  refine lv_aload X.1 X.2.1 dX7_pushRedo_66 (lv_at hl 4 rfl) ?_
  refine lv_aload_n X.1 X.2.1 dX7_pushRedo_68 rfl (lv_at hl 1 rfl) ?_
  obtain ⟨hk36, hw⟩ := hw
  refine my_putr (C := RX6) (F := TX6) (N := 7) (ci := 8) X M 0 rfl in_X6 tyX6 tyX6_ok nmX6 (by decide) rfl (by decide) kw_750 (Or.inl rfl) dX7_pushRedo_69 hk36 (some x1) (mq_no _ _) (mq_fo _ _) (fun μ37 H locs eμ37 M => ?_)
  replace hw := hw μ37 eμ37
  have hKM38 : KM μ0 μ37 := by rw [eμ37]; exact hKM34
  have hk39 : kd μ37 o = 10 := by rw [eμ37]; exact hk35
  have hk40 : kd μ37 x4 = 9 := by rw [eμ37]; exact hk36
  refine lv_aload X.1 X.2.1 dX7_pushRedo_72 (lv_at hl 4 rfl) ?_
  refine lv_iload_n X.1 X.2.1 dX7_pushRedo_74 rfl (lv_at hl 2 rfl) ?_
  refine my_puti (C := RX6) (F := TX6) (N := 7) (ci := 8) X M 1 rfl in_X6 tyX6 tyX6_ok nmX6 (by decide) rfl (by decide) kw_752 (Or.inl rfl) dX7_pushRedo_75 hk40 rfl rfl (fun μ41 H locs eμ41 M => ?_)
  replace hw := hw μ41 eμ41
  have hKM42 : KM μ0 μ41 := by rw [eμ41]; exact hKM38
  have hk43 : kd μ41 o = 10 := by rw [eμ41]; exact hk39
  have hk44 : kd μ41 x4 = 9 := by rw [eμ41]; exact hk40
  refine lv_aload X.1 X.2.1 dX7_pushRedo_78 (lv_at hl 4 rfl) ?_
  refine lv_iconst (v := 0) X.1 X.2.1 dX7_pushRedo_80 (by decide) ?_
  refine my_puti (C := RX6) (F := TX6) (N := 7) (ci := 8) X M 2 rfl in_X6 tyX6 tyX6_ok nmX6 (by decide) rfl (by decide) kw_754 (Or.inl rfl) dX7_pushRedo_81 hk44 (by decide) (by decide) (fun μ45 H locs eμ45 M => ?_)
  replace hw := hw μ45 eμ45
  have hKM46 : KM μ0 μ45 := by rw [eμ45]; exact hKM42
  have hk47 : kd μ45 o = 10 := by rw [eμ45]; exact hk43
  have hk48 : kd μ45 x4 = 9 := by rw [eμ45]; exact hk44
  refine lv_aload X.1 X.2.1 dX7_pushRedo_84 (lv_at hl 4 rfl) ?_
  refine lv_aload_n X.1 X.2.1 dX7_pushRedo_86 rfl (lv_at hl 0 rfl) ?_
  refine mx_geti (C := RX7) (F := TX7) (N := 8) (ci := 9) X M 1 rfl in_X7 (by decide) rfl (by decide) kw_154 dX7_pushRedo_87 hk47 ?_
  refine my_puti (C := RX6) (F := TX6) (N := 7) (ci := 8) X M 3 rfl in_X6 tyX6 tyX6_ok nmX6 (by decide) rfl (by decide) kw_756 (Or.inl rfl) dX7_pushRedo_90 hk48 rfl rfl (fun μ49 H locs eμ49 M => ?_)
  replace hw := hw μ49 eμ49
  have hKM50 : KM μ0 μ49 := by rw [eμ49]; exact hKM46
  have hk51 : kd μ49 o = 10 := by rw [eμ49]; exact hk47
  have hk52 : kd μ49 x4 = 9 := by rw [eμ49]; exact hk48
  refine lv_aload X.1 X.2.1 dX7_pushRedo_93 (lv_at hl 4 rfl) ?_
  refine lv_aload_n X.1 X.2.1 dX7_pushRedo_95 rfl (lv_at hl 0 rfl) ?_
  obtain ⟨x53, ex53, hw⟩ := hw
  refine mx_getr (C := RX7) (F := TX7) (N := 8) (ci := 9) X M 4 rfl in_X7 (by decide) rfl (by decide) kw_159 dX7_pushRedo_96 hk51 ?_
  rw [ex53]
  obtain ⟨hk57, hw⟩ := hw
  have hw55 := hw
  clear hw
  refine mx_ci M (mx_runV (n := 0) (As := []) (rest := [.ref x4]) X M (c_X4_size l T B μ49 x53 _ hw55) (mx_recv (C := RX4) (F := TX4) (N := 2) (ci := 6) X M rfl (by decide) hk57) kw_547 kw_548 kw_549 kw_71 kw_550 (by decide +kernel) rfl rfl ⟨Nat.le_of_ble_eq_true rfl, Nat.le_of_ble_eq_true rfl⟩ rfl hl.1 (Nat.le_of_ble_eq_true rfl) dX7_pushRedo_99 ⟨(show cells + 0 ≤ cT by omega), (show slots + 0 ≤ zT by omega)⟩) (fun r56 μ54 H locs ⟨hw, hKM54⟩ M => ?_)
  replace hw := hw hKM54
  have hKM54_ := hKM50.tr hKM54
  have hk58 := hKM54.at hk51
  have hk59 := hKM54.at hk52
  have hk60 := hKM54.at hk57
  have hc : (cells + 0) + (c) ≤ cT := by omega
  have hz : (slots + 0) + (z) ≤ zT := by omega
  refine my_puti (C := RX6) (F := TX6) (N := 7) (ci := 8) X M 4 rfl in_X6 tyX6 tyX6_ok nmX6 (by decide) rfl (by decide) kw_757 (Or.inl rfl) dX7_pushRedo_102 hk59 rfl rfl (fun μ61 H locs eμ61 M => ?_)
  replace hw := hw μ61 eμ61
  have hKM62 : KM μ0 μ61 := by rw [eμ61]; exact hKM54_
  have hk63 : kd μ61 o = 10 := by rw [eμ61]; exact hk58
  have hk64 : kd μ61 x4 = 9 := by rw [eμ61]; exact hk59
  refine lv_aload X.1 X.2.1 dX7_pushRedo_105 (lv_at hl 4 rfl) ?_
  refine lv_aload_n X.1 X.2.1 dX7_pushRedo_107 rfl (lv_at hl 0 rfl) ?_
  obtain ⟨x65, ex65, hw⟩ := hw
  refine mx_getr (C := RX7) (F := TX7) (N := 8) (ci := 9) X M 5 rfl in_X7 (by decide) rfl (by decide) kw_160 dX7_pushRedo_108 hk63 ?_
  rw [ex65]
  obtain ⟨hk69, hw⟩ := hw
  have hw67 := hw
  clear hw
  refine mx_ci M (mx_runV (n := 0) (As := []) (rest := [.ref x4]) X M (c_X4_size l T B μ61 x65 _ hw67) (mx_recv (C := RX4) (F := TX4) (N := 2) (ci := 6) X M rfl (by decide) hk69) kw_547 kw_548 kw_549 kw_71 kw_550 (by decide +kernel) rfl rfl ⟨Nat.le_of_ble_eq_true rfl, Nat.le_of_ble_eq_true rfl⟩ rfl hl.1 (Nat.le_of_ble_eq_true rfl) dX7_pushRedo_111 ⟨(show (cells + 0) + 0 ≤ cT by omega), (show (slots + 0) + 0 ≤ zT by omega)⟩) (fun r68 μ66 H locs ⟨hw, hKM66⟩ M => ?_)
  replace hw := hw hKM66
  have hKM66_ := hKM62.tr hKM66
  have hk70 := hKM66.at hk63
  have hk71 := hKM66.at hk64
  have hk72 := hKM66.at hk69
  have hc : ((cells + 0) + 0) + (c) ≤ cT := by omega
  have hz : ((slots + 0) + 0) + (z) ≤ zT := by omega
  refine my_puti (C := RX6) (F := TX6) (N := 7) (ci := 8) X M 5 rfl in_X6 tyX6 tyX6_ok nmX6 (by decide) rfl (by decide) kw_758 (Or.inl rfl) dX7_pushRedo_114 hk71 rfl rfl (fun μ73 H locs eμ73 M => ?_)
  replace hw := hw μ73 eμ73
  have hKM74 : KM μ0 μ73 := by rw [eμ73]; exact hKM66_
  have hk75 : kd μ73 o = 10 := by rw [eμ73]; exact hk70
  have hk76 : kd μ73 x4 = 9 := by rw [eμ73]; exact hk71
  refine lv_aload X.1 X.2.1 dX7_pushRedo_117 (lv_at hl 4 rfl) ?_
  refine lv_iload_n X.1 X.2.1 dX7_pushRedo_119 rfl (lv_at hl 3 rfl) ?_
  refine my_puti (C := RX6) (F := TX6) (N := 7) (ci := 8) X M 6 rfl in_X6 tyX6 tyX6_ok nmX6 (by decide) rfl (by decide) kw_759 (Or.inl rfl) dX7_pushRedo_120 hk76 rfl rfl (fun μ77 H locs eμ77 M => ?_)
  replace hw := hw μ77 eμ77
  have hKM78 : KM μ0 μ77 := by rw [eμ77]; exact hKM74
  have hk79 : kd μ77 o = 10 := by rw [eμ77]; exact hk75
  have hk80 : kd μ77 x4 = 9 := by rw [eμ77]; exact hk76
  refine lv_aload_n X.1 X.2.1 dX7_pushRedo_123 rfl (lv_at hl 0 rfl) ?_
  have hw82 := hw
  clear hw
  refine mx_cv M (mx_runV (n := 0) (As := []) (rest := []) X M (c_X7_noteSize l T B μ77 o _ hw82) (mx_recv (C := RX7) (F := TX7) (N := 8) (ci := 9) X M rfl (by decide) hk79) kw_564 kw_566 kw_7 kw_70 kw_567 (by decide +kernel) rfl rfl ⟨Nat.le_of_ble_eq_true rfl, Nat.le_of_ble_eq_true rfl⟩ rfl hl.1 (Nat.le_of_ble_eq_true rfl) dX7_pushRedo_124 ⟨(show ((cells + 0) + 0) + 0 ≤ cT by omega), (show ((slots + 0) + 0) + 0 ≤ zT by omega)⟩) (fun μ81 H locs ⟨hw, hKM81⟩ M => ?_)
  replace hw := hw hKM81
  have hKM81_ := hKM78.tr hKM81
  have hk83 := hKM81.at hk79
  have hk84 := hKM81.at hk80
  have hc : (((cells + 0) + 0) + 0) + (c) ≤ cT := by omega
  have hz : (((slots + 0) + 0) + 0) + (z) ≤ zT := by omega
  exact mx_vret X hr hk M dX7_pushRedo_127 (by omega) (by omega) ⟨hw, hKM81_⟩
set_option maxRecDepth 100000 in
set_option maxHeartbeats 4000000 in
theorem c_X7_pushRedo (l : Launch) (T : Tb) (B : Nat) (c z : Nat) (μ : Mem) (o : Nat) (a1 : Nat) (a2 : Int32) (a3 : Int32) (post : Mem → Prop) (hw : wp_X7_pushRedo c z μ o a1 a2 a3 post) : Met l yX7_pushRedo (.code yX7_pushRedo cX7_pushRedo 5 none :: G) (rm_X7_pushRedo c z) (Pm (Rl T B) T B μ [.ref o, .ref a1, .int a2, .int a3]) (va_Qv (fun μ9 => post μ9 ∧ KM μ μ9) (Bm (Rl T B)) (Ai B)) c z (Ai B) := by
  refine mx_of RX7 rfl (by decide) (Nat.le_of_ble_eq_true rfl) ?_
  intro p e s m below meth c0 X hr hk hnm M ls hl
  have hl : lv_has ls 5 [(0, .ref o), (1, .ref a1), (2, .int a2), (3, .int a3)] := hl
  unfold wp_X7_pushRedo at hw
  have hKM : KM μ μ := KM.rf μ
  have hc : 0 + c ≤ c := by omega
  have hz : 0 + z ≤ z := by omega
  refine lv_aload_n X.1 X.2.1 dX7_pushRedo_0 rfl (lv_at hl 0 rfl) ?_
  obtain ⟨hk1, hw⟩ := hw
  refine mx_geti (C := RX7) (F := TX7) (N := 8) (ci := 9) X M 3 rfl in_X7 (by decide) rfl (by decide) kw_157 dX7_pushRedo_1 hk1 ?_
  refine lv_aload_n X.1 X.2.1 dX7_pushRedo_4 rfl (lv_at hl 0 rfl) ?_
  obtain ⟨x2, ex2, hw⟩ := hw
  refine mx_getr (C := RX7) (F := TX7) (N := 8) (ci := 9) X M 2 rfl in_X7 (by decide) rfl (by decide) kw_156 dX7_pushRedo_5 hk1 ?_
  rw [ex2]
  obtain ⟨hk6, hw⟩ := hw
  have hw4 := hw
  clear hw
  refine mx_ci M (mx_runV (n := 0) (As := []) (rest := [.int (fi μ 9 3 o)]) X M (c_Jx4a65c_size_8abf5 l T B μ x2 _ hw4) (mx_recv (C := RJx4a65c) (F := TJx4a65c) (N := 3) (ci := 1) X M rfl (by decide) hk6) kw_509 kw_299 kw_300 kw_68 kw_301 (by decide +kernel) rfl rfl ⟨Nat.le_of_ble_eq_true rfl, Nat.le_of_ble_eq_true rfl⟩ rfl hl.1 (Nat.le_of_ble_eq_true rfl) dX7_pushRedo_8 ⟨(show 0 + 0 ≤ c by omega), (show 0 + 0 ≤ z by omega)⟩) (fun r5 μ3 H locs ⟨hw, hKM3⟩ M => ?_)
  replace hw := hw hKM3
  have hKM3_ := hKM.tr hKM3
  have hk7 := hKM3.at hk1
  have hk8 := hKM3.at hk6
  have hc : (0 + 0) + (c) ≤ c := by omega
  have hz : (0 + 0) + (z) ≤ z := by omega
  have hw10 := hw
  clear hw
  refine mx_ci M (mx_runSN (n := 2) (As := [.int (fi μ 9 3 o), .int r5]) (rest := []) X M (c_X10_within l T B μ3 (fi μ 9 3 o) r5 _ hw10) kw_510 kw_309 kw_65 kw_310 (by decide +kernel) rfl rfl ⟨Nat.le_of_ble_eq_true rfl, Nat.le_of_ble_eq_true rfl⟩ rfl hl.1 (Nat.le_of_ble_eq_true rfl) dX7_pushRedo_11 ⟨(show (0 + 0) + 0 ≤ c by omega), (show (0 + 0) + 0 ≤ z by omega)⟩) (fun r11 μ9 H locs ⟨hw, hKM9⟩ M => ?_)
  replace hw := hw hKM9
  have hKM9_ := hKM3_.tr hKM9
  have hk12 := hKM9.at hk7
  have hc : ((0 + 0) + 0) + (c) ≤ c := by omega
  have hz : ((0 + 0) + 0) + (z) ≤ z := by omega
  obtain ⟨hwt, hwf⟩ := hw
  refine lv_if_eq (tgt := 36) X.1 X.2.1 dX7_pushRedo_14 (by decide) (fun hq => ?_) (fun hq => ?_)
  · have hw := hwt hq
    obtain ⟨hb1, hb2, hw⟩ := hw
    refine my_new (C := RX6) (F := TX6) (N := 7) (ci := 8) X M rfl in_X6 tyX6 tyX6_ok df_X6 (by decide) kw_581 kw_744 kw_85 dX7_pushRedo_36 (show ((0 + 0) + 0) + 1 ≤ c by omega) (show ((0 + 0) + 0) + 7 ≤ z by omega) (fun q13 μ14 H hq13 eμ14 M => ?_)
    replace hw := hw q13 μ14 hq13 eμ14
    have hKM15 : KM μ μ14 := by rw [eμ14]; exact hKM9_.tr (KM_nob hq13)
    have hk16 : kd μ14 o = 10 := by rw [eμ14]; exact (KM_nob hq13).at hk12
    have hk17 : kd μ14 q13 = 9 := by rw [eμ14]; exact kd_nob
    have hc : (((0 + 0) + 0) + 1) + (c - 1) ≤ c := by omega
    have hz : (((0 + 0) + 0) + 7) + (z - 7) ≤ z := by omega
    refine lv_dup X.1 X.2.1 dX7_pushRedo_39 rfl ?_
    refine lv_aload_n X.1 X.2.1 dX7_pushRedo_40 rfl (lv_at hl 1 rfl) ?_
    have hw19 := hw
    clear hw
    refine mx_cv M (mx_runI (n := 1) (As := [.ref a1]) (rest := [.ref q13]) X M (c_X6_init l T B μ14 q13 a1 _ hw19) kw_745 kw_746 rfl kw_85 kw_747 (by decide +kernel) rfl rfl ⟨Nat.le_of_ble_eq_true rfl, Nat.le_of_ble_eq_true rfl⟩ rfl hl.1 (Nat.le_of_ble_eq_true rfl) dX7_pushRedo_41 ⟨(show (((0 + 0) + 0) + 1) + 0 ≤ c by omega), (show (((0 + 0) + 0) + 7) + 0 ≤ z by omega)⟩) (fun μ18 H locs ⟨hw, hKM18⟩ M => ?_)
    replace hw := hw hKM18
    have hKM18_ := hKM15.tr hKM18
    have hk20 := hKM18.at hk16
    have hk21 := hKM18.at hk17
    have hc : ((((0 + 0) + 0) + 1) + 0) + (c - 1) ≤ c := by omega
    have hz : ((((0 + 0) + 0) + 7) + 0) + (z - 7) ≤ z := by omega
    refine lv_astore (lv' := [(4, .ref q13), (0, .ref o), (1, .ref a1), (2, .int a2), (3, .int a3)]) X.1 X.2.1 dX7_pushRedo_44 hl (by decide) rfl (fun ls hl => ?_)
    refine lv_aload_n X.1 X.2.1 dX7_pushRedo_46 rfl (lv_at hl 1 rfl) ?_
    obtain ⟨x22, ex22, hw⟩ := hw
    refine mx_getr (C := RX7) (F := TX7) (N := 8) (ci := 9) X M 2 rfl in_X7 (by decide) rfl (by decide) kw_156 dX7_pushRedo_47 hk20 ?_
    rw [ex22]
    refine lv_aload X.1 X.2.1 dX7_pushRedo_50 (lv_at hl 0 rfl) ?_
    obtain ⟨hk28, hw⟩ := hw
    obtain ⟨c24, z25, hc24, hz25, hw⟩ := hw
    have hw26 := hw
    clear hw
    refine mx_ci M (mx_runV (n := 1) (As := [.ref q13]) (rest := []) X M (c_Jx4a65c_add_9ea2d l T B c24 z25 μ18 x22 q13 _ hw26) (mx_recv (C := RJx4a65c) (F := TJx4a65c) (N := 3) (ci := 1) X M rfl (by decide) hk28) kw_546 kw_342 kw_343 kw_68 kw_344 (by decide +kernel) rfl rfl ⟨Nat.le_of_ble_eq_true rfl, Nat.le_of_ble_eq_true rfl⟩ rfl hl.1 (Nat.le_of_ble_eq_true rfl) dX7_pushRedo_52 ⟨(show ((((0 + 0) + 0) + 1) + 0) + c24 ≤ c by omega), (show ((((0 + 0) + 0) + 7) + 0) + z25 ≤ z by omega)⟩) (fun r27 μ23 H locs ⟨hw, hKM23⟩ M => ?_)
    replace hw := hw hKM23
    have hKM23_ := hKM18_.tr hKM23
    have hk29 := hKM23.at hk20
    have hk30 := hKM23.at hk21
    have hk31 := hKM23.at hk28
    have hc : (((((0 + 0) + 0) + 1) + 0) + c24) + ((c - 1) - c24) ≤ c := by omega
    have hz : (((((0 + 0) + 0) + 7) + 0) + z25) + ((z - 7) - z25) ≤ z := by omega
    refine lv_pop X.1 X.2.1 dX7_pushRedo_55 rfl ?_
    exact b_X7_pushRedo_56 X hr hk _ _ _ _ μ23 a1 a2 a3 q13 _ _ _ (by omega) (by omega) hKM23_ hw M (lv_sub hl [1, 2, 3, 4, 0] rfl)
  · have hw := hwf hq
    refine lv_aload_n X.1 X.2.1 dX7_pushRedo_17 rfl (lv_at hl 0 rfl) ?_
    obtain ⟨x85, ex85, hw⟩ := hw
    refine mx_getr (C := RX7) (F := TX7) (N := 8) (ci := 9) X M 2 rfl in_X7 (by decide) rfl (by decide) kw_156 dX7_pushRedo_18 hk12 ?_
    rw [ex85]
    refine lv_aload_n X.1 X.2.1 dX7_pushRedo_21 rfl (lv_at hl 0 rfl) ?_
    refine mx_geti (C := RX7) (F := TX7) (N := 8) (ci := 9) X M 3 rfl in_X7 (by decide) rfl (by decide) kw_157 dX7_pushRedo_22 hk12 ?_
    obtain ⟨hk89, hw⟩ := hw
    have hw87 := hw
    clear hw
    refine mx_cq M (mx_runV (n := 1) (As := [.int (fi μ9 9 3 o)]) (rest := []) X M (c_Jx4a65c_get_915e3 l T B μ9 x85 (fi μ9 9 3 o) _ hw87) (mx_recv (C := RJx4a65c) (F := TJx4a65c) (N := 3) (ci := 1) X M rfl (by decide) hk89) kw_511 kw_445 kw_446 kw_68 kw_447 (by decide +kernel) rfl rfl ⟨Nat.le_of_ble_eq_true rfl, Nat.le_of_ble_eq_true rfl⟩ rfl hl.1 (Nat.le_of_ble_eq_true rfl) dX7_pushRedo_25 ⟨(show ((0 + 0) + 0) + 0 ≤ c by omega), (show ((0 + 0) + 0) + 0 ≤ z by omega)⟩) (fun r88 μ86 H locs ⟨hw, hKM86⟩ M => ?_)
    replace hw := hw hKM86
    have hKM86_ := hKM9_.tr hKM86
    have hk90 := hKM86.at hk12
    have hk91 := hKM86.at hk89
    have hc : (((0 + 0) + 0) + 0) + (c) ≤ c := by omega
    have hz : (((0 + 0) + 0) + 0) + (z) ≤ z := by omega
    obtain ⟨x92, ex92, hw⟩ := hw
    subst ex92
    have hl : lv_has ls 5 [(0, .ref o), (1, .ref a1), (2, .int a2), (3, .int a3)] := hl
    obtain ⟨hk93, hw⟩ := hw
    refine va_castY (C := RX6) X.1 X.2.1 X.2.2.2.1 (X.2.2.2.2.1 _ kw_581) (X.2.2.2.2.2.1.2.1 _ kw_1341) (mx_recv (C := RX6) (F := TX6) (N := 7) (ci := 8) X M rfl (by decide) hk93) dX7_pushRedo_28 ?_
    refine lv_astore (lv' := [(4, .ref x92), (0, .ref o), (1, .ref a1), (2, .int a2), (3, .int a3)]) X.1 X.2.1 dX7_pushRedo_31 hl (by decide) rfl (fun ls hl => ?_)
    refine lv_goto (tgt := 56) X.1 X.2.1 dX7_pushRedo_33 (by decide) ?_
    exact b_X7_pushRedo_56 X hr hk _ _ _ _ μ86 a1 a2 a3 x92 _ _ _ (by omega) (by omega) hKM86_ hw M (lv_sub hl [1, 2, 3, 4, 0] rfl)

abbrev rm_X7_redoAt : Room := { frames := 3, cells := 0, slots := 0, locals := 64 }
def wp_X7_redoAt (μ : Mem) (o : Nat) (a1 : Int32) (post : Option Nat → Mem → Prop) : Prop :=
  kd μ o = 10 ∧
  wp_X10_within μ a1 (fi μ 9 3 o) (fun (r4 : Int32) (μ2 : Mem) =>
  KM μ μ2 →
  (r4 = 0 →
   post none μ2) ∧ (¬ r4 = 0 →
   ∃ x6, fr μ2 9 2 o = some x6 ∧
   kd μ2 x6 = 2 ∧
   wp_Jx4a65c_size_8abf5 μ2 x6 (fun (r9 : Int32) (μ7 : Mem) =>
   KM μ2 μ7 →
   (r9 ≤ a1 →
    post none μ7) ∧ (¬ r9 ≤ a1 →
    ∃ x13, fr μ7 9 2 o = some x13 ∧
    kd μ7 x13 = 2 ∧
    wp_Jx4a65c_get_915e3 μ7 x13 a1 (fun (r16 : Option Nat) (μ14 : Mem) =>
    KM μ7 μ14 →
    ∃ x20, r16 = some x20 ∧
    kd μ14 x20 = 9 ∧
    post (some x20) μ14)))))
set_option maxRecDepth 100000 in
set_option maxHeartbeats 4000000 in
theorem c_X7_redoAt (l : Launch) (T : Tb) (B : Nat) (μ : Mem) (o : Nat) (a1 : Int32) (post : Option Nat → Mem → Prop) (hw : wp_X7_redoAt μ o a1 post) : Met l yX7_redoAt (.code yX7_redoAt cX7_redoAt 2 (some (.object "RedoMachine$Redo")) :: G) rm_X7_redoAt (Pm (Rl T B) T B μ [.ref o, .int a1]) (va_Qq (fun r9 μ9 => post r9 μ9 ∧ KM μ μ9) (Bm (Rl T B)) (Ai B)) 0 0 (Ai B) := by
  refine mx_of RX7 rfl (by decide) (Nat.le_of_ble_eq_true rfl) ?_
  intro p e s m below meth c0 X hr hk hnm M ls hl
  have hl : lv_has ls 2 [(0, .ref o), (1, .int a1)] := hl
  unfold wp_X7_redoAt at hw
  have hKM : KM μ μ := KM.rf μ
  refine lv_iload_n X.1 X.2.1 dX7_redoAt_0 rfl (lv_at hl 1 rfl) ?_
  refine lv_aload_n X.1 X.2.1 dX7_redoAt_1 rfl (lv_at hl 0 rfl) ?_
  obtain ⟨hk1, hw⟩ := hw
  refine mx_geti (C := RX7) (F := TX7) (N := 8) (ci := 9) X M 3 rfl in_X7 (by decide) rfl (by decide) kw_157 dX7_redoAt_2 hk1 ?_
  have hw3 := hw
  clear hw
  refine mx_ci M (mx_runSN (n := 2) (As := [.int a1, .int (fi μ 9 3 o)]) (rest := []) X M (c_X10_within l T B μ a1 (fi μ 9 3 o) _ hw3) kw_510 kw_309 kw_65 kw_310 (by decide +kernel) rfl rfl ⟨Nat.le_of_ble_eq_true rfl, Nat.le_of_ble_eq_true rfl⟩ rfl hl.1 (Nat.le_of_ble_eq_true rfl) dX7_redoAt_5 ⟨by decide, by decide⟩) (fun r4 μ2 H locs ⟨hw, hKM2⟩ M => ?_)
  replace hw := hw hKM2
  have hKM2_ := hKM.tr hKM2
  have hk5 := hKM2.at hk1
  obtain ⟨hwt, hwf⟩ := hw
  refine lv_if_eq (tgt := 36) X.1 X.2.1 dX7_redoAt_8 (by decide) (fun hq => ?_) (fun hq => ?_)
  · have hw := hwt hq
    refine lv_null X.1 X.2.1 dX7_redoAt_36 ?_
    exact mx_aret (r := none) X hr (Or.inl ⟨_, rfl⟩) hk M dX7_redoAt_37 (by decide) (by decide) ⟨hw, hKM2_⟩
  · have hw := hwf hq
    refine lv_iload_n X.1 X.2.1 dX7_redoAt_11 rfl (lv_at hl 1 rfl) ?_
    refine lv_aload_n X.1 X.2.1 dX7_redoAt_12 rfl (lv_at hl 0 rfl) ?_
    obtain ⟨x6, ex6, hw⟩ := hw
    refine mx_getr (C := RX7) (F := TX7) (N := 8) (ci := 9) X M 2 rfl in_X7 (by decide) rfl (by decide) kw_156 dX7_redoAt_13 hk5 ?_
    rw [ex6]
    obtain ⟨hk10, hw⟩ := hw
    have hw8 := hw
    clear hw
    refine mx_ci M (mx_runV (n := 0) (As := []) (rest := [.int a1]) X M (c_Jx4a65c_size_8abf5 l T B μ2 x6 _ hw8) (mx_recv (C := RJx4a65c) (F := TJx4a65c) (N := 3) (ci := 1) X M rfl (by decide) hk10) kw_509 kw_299 kw_300 kw_68 kw_301 (by decide +kernel) rfl rfl ⟨Nat.le_of_ble_eq_true rfl, Nat.le_of_ble_eq_true rfl⟩ rfl hl.1 (Nat.le_of_ble_eq_true rfl) dX7_redoAt_16 ⟨by decide, by decide⟩) (fun r9 μ7 H locs ⟨hw, hKM7⟩ M => ?_)
    replace hw := hw hKM7
    have hKM7_ := hKM2_.tr hKM7
    have hk11 := hKM7.at hk5
    have hk12 := hKM7.at hk10
    obtain ⟨hwt, hwf⟩ := hw
    refine lv_icmp_ge (tgt := 36) X.1 X.2.1 dX7_redoAt_19 (by decide) (fun hq => ?_) (fun hq => ?_)
    · have hw := hwt hq
      refine lv_null X.1 X.2.1 dX7_redoAt_36 ?_
      exact mx_aret (r := none) X hr (Or.inl ⟨_, rfl⟩) hk M dX7_redoAt_37 (by decide) (by decide) ⟨hw, hKM7_⟩
    · have hw := hwf hq
      refine lv_aload_n X.1 X.2.1 dX7_redoAt_22 rfl (lv_at hl 0 rfl) ?_
      obtain ⟨x13, ex13, hw⟩ := hw
      refine mx_getr (C := RX7) (F := TX7) (N := 8) (ci := 9) X M 2 rfl in_X7 (by decide) rfl (by decide) kw_156 dX7_redoAt_23 hk11 ?_
      rw [ex13]
      refine lv_iload_n X.1 X.2.1 dX7_redoAt_26 rfl (lv_at hl 1 rfl) ?_
      obtain ⟨hk17, hw⟩ := hw
      have hw15 := hw
      clear hw
      refine mx_cq M (mx_runV (n := 1) (As := [.int a1]) (rest := []) X M (c_Jx4a65c_get_915e3 l T B μ7 x13 a1 _ hw15) (mx_recv (C := RJx4a65c) (F := TJx4a65c) (N := 3) (ci := 1) X M rfl (by decide) hk17) kw_511 kw_445 kw_446 kw_68 kw_447 (by decide +kernel) rfl rfl ⟨Nat.le_of_ble_eq_true rfl, Nat.le_of_ble_eq_true rfl⟩ rfl hl.1 (Nat.le_of_ble_eq_true rfl) dX7_redoAt_27 ⟨by decide, by decide⟩) (fun r16 μ14 H locs ⟨hw, hKM14⟩ M => ?_)
      replace hw := hw hKM14
      have hKM14_ := hKM7_.tr hKM14
      have hk18 := hKM14.at hk11
      have hk19 := hKM14.at hk17
      obtain ⟨x20, ex20, hw⟩ := hw
      subst ex20
      have hl : lv_has ls 2 [(0, .ref o), (1, .int a1)] := hl
      obtain ⟨hk21, hw⟩ := hw
      refine va_castY (C := RX6) X.1 X.2.1 X.2.2.2.1 (X.2.2.2.2.1 _ kw_581) (X.2.2.2.2.2.1.2.1 _ kw_1341) (mx_recv (C := RX6) (F := TX6) (N := 7) (ci := 8) X M rfl (by decide) hk21) dX7_redoAt_30 ?_
      refine lv_goto (tgt := 37) X.1 X.2.1 dX7_redoAt_33 (by decide) ?_
      exact mx_aret (r := (some x20)) X hr (Or.inl ⟨_, rfl⟩) hk M dX7_redoAt_37 (by decide) (by decide) ⟨hw, hKM14_⟩

abbrev rm_X7_read : Room := { frames := 2, cells := 0, slots := 0, locals := 42 }
def wp_X7_read (μ : Mem) (o : Nat) (a1 : Nat) (a2 : Int32) (post : Int64 → Mem → Prop) : Prop :=
  kd μ o = 10 ∧
  ∃ x2, fr μ 9 4 o = some x2 ∧
  kd μ a1 = 4 ∧
  kd μ x2 = 7 ∧
  wp_X4_at μ x2 ((fi μ 3 2 a1) + a2) (fun (r6 : Int64) (μ4 : Mem) =>
  KM μ μ4 →
  post r6 μ4)
set_option maxRecDepth 100000 in
set_option maxHeartbeats 4000000 in
theorem c_X7_read (l : Launch) (T : Tb) (B : Nat) (μ : Mem) (o : Nat) (a1 : Nat) (a2 : Int32) (post : Int64 → Mem → Prop) (hw : wp_X7_read μ o a1 a2 post) : Met l yX7_read (.code yX7_read cX7_read 3 (some .long) :: G) rm_X7_read (Pm (Rl T B) T B μ [.ref o, .ref a1, .int a2]) (va_Ql (fun r9 μ9 => post r9 μ9 ∧ KM μ μ9) (Bm (Rl T B)) (Ai B)) 0 0 (Ai B) := by
  refine mx_of RX7 rfl (by decide) (Nat.le_of_ble_eq_true rfl) ?_
  intro p e s m below meth c0 X hr hk hnm M ls hl
  have hl : lv_has ls 3 [(0, .ref o), (1, .ref a1), (2, .int a2)] := hl
  unfold wp_X7_read at hw
  have hKM : KM μ μ := KM.rf μ
  refine lv_aload_n X.1 X.2.1 dX7_read_0 rfl (lv_at hl 0 rfl) ?_
  obtain ⟨hk1, hw⟩ := hw
  obtain ⟨x2, ex2, hw⟩ := hw
  refine mx_getr (C := RX7) (F := TX7) (N := 8) (ci := 9) X M 4 rfl in_X7 (by decide) rfl (by decide) kw_159 dX7_read_1 hk1 ?_
  rw [ex2]
  refine lv_aload_n X.1 X.2.1 dX7_read_4 rfl (lv_at hl 1 rfl) ?_
  obtain ⟨hk3, hw⟩ := hw
  refine mx_geti (C := RX1) (F := TX1) (N := 7) (ci := 3) X M 2 rfl in_X1 (by decide) rfl (by decide) kw_523 dX7_read_5 hk3 ?_
  refine lv_iload_n X.1 X.2.1 dX7_read_8 rfl (lv_at hl 2 rfl) ?_
  refine lv_iadd X.1 X.2.1 dX7_read_9 ?_
  obtain ⟨hk7, hw⟩ := hw
  have hw5 := hw
  clear hw
  refine mx_cl M (mx_runV (n := 1) (As := [.int ((fi μ 3 2 a1) + a2)]) (rest := []) X M (c_X4_at l T B μ x2 ((fi μ 3 2 a1) + a2) _ hw5) (mx_recv (C := RX4) (F := TX4) (N := 2) (ci := 6) X M rfl (by decide) hk7) kw_582 kw_583 kw_584 kw_71 kw_585 (by decide +kernel) rfl rfl ⟨Nat.le_of_ble_eq_true rfl, Nat.le_of_ble_eq_true rfl⟩ rfl hl.1 (Nat.le_of_ble_eq_true rfl) dX7_read_10 ⟨by decide, by decide⟩) (fun r6 μ4 H locs ⟨hw, hKM4⟩ M => ?_)
  replace hw := hw hKM4
  have hKM4_ := hKM.tr hKM4
  have hk8 := hKM4.at hk1
  have hk9 := hKM4.at hk3
  have hk10 := hKM4.at hk7
  exact mx_lret X hr hk M dX7_read_13 (by decide) (by decide) ⟨hw, hKM4_⟩

abbrev rm_X7_write (c z : Nat) : Room := { frames := 4, cells := c, slots := z, locals := 85 }
def wp_X7_write (c z : Nat) (μ : Mem) (o : Nat) (a1 : Nat) (a2 : Int32) (a3 : Int64) (post : Mem → Prop) : Prop :=
  kd μ a1 = 4 ∧
  ∀ v2 : Int32, v2 = ((fi μ 3 2 a1) + a2) →
  kd μ o = 10 ∧
  wp_X7_redoAt μ o ((fi μ 9 3 o) - 1) (fun (r6 : Option Nat) (μ4 : Mem) =>
  KM μ μ4 →
  (r6 = none →
   ∃ x10, fr μ4 9 4 o = some x10 ∧
   kd μ4 x10 = 7 ∧
   wp_X4_set μ4 x10 v2 a3 (fun (μ11 : Mem) =>
   KM μ4 μ11 →
   post μ11)) ∧ (∀ x9, r6 = some x9 →
   kd μ4 x9 = 9 ∧
   ((fi μ4 8 4 x9) ≤ v2 →
    ∃ x18, fr μ4 9 4 o = some x18 ∧
    kd μ4 x18 = 7 ∧
    wp_X4_set μ4 x18 v2 a3 (fun (μ19 : Mem) =>
    KM μ4 μ19 →
    post μ19)) ∧ (¬ (fi μ4 8 4 x9) ≤ v2 →
    ∃ x26, fr μ4 9 5 o = some x26 ∧
    ∃ x27, fr μ4 9 4 o = some x27 ∧
    kd μ4 x27 = 7 ∧
    wp_X4_at μ4 x27 v2 (fun (r30 : Int64) (μ28 : Mem) =>
    KM μ4 μ28 →
    kd μ28 x26 = 7 ∧
    ∃ c37 z38, c37 ≤ c ∧ z38 ≤ z ∧
    wp_X4_push c37 z38 μ28 x26 ((r30 <<< (Int32.toInt64 16 &&& 63)) ||| (Int32.toInt64 v2)) (fun (μ36 : Mem) =>
    KM μ28 μ36 →
    ∃ x45, fr μ36 9 4 o = some x45 ∧
    kd μ36 x45 = 7 ∧
    wp_X4_set μ36 x45 v2 a3 (fun (μ46 : Mem) =>
    KM μ36 μ46 →
    post μ46))))))
set_option maxRecDepth 100000 in
set_option maxHeartbeats 4000000 in
theorem c_X7_write (l : Launch) (T : Tb) (B : Nat) (c z : Nat) (μ : Mem) (o : Nat) (a1 : Nat) (a2 : Int32) (a3 : Int64) (post : Mem → Prop) (hw : wp_X7_write c z μ o a1 a2 a3 post) : Met l yX7_write (.code yX7_write cX7_write 7 none :: G) (rm_X7_write c z) (Pm (Rl T B) T B μ [.ref o, .ref a1, .int a2, .long a3]) (va_Qv (fun μ9 => post μ9 ∧ KM μ μ9) (Bm (Rl T B)) (Ai B)) c z (Ai B) := by
  refine mx_of RX7 rfl (by decide) (Nat.le_of_ble_eq_true rfl) ?_
  intro p e s m below meth c0 X hr hk hnm M ls hl
  have hl : lv_has ls 7 [(0, .ref o), (1, .ref a1), (2, .int a2), (3, .long a3)] := hl
  unfold wp_X7_write at hw
  have hKM : KM μ μ := KM.rf μ
  have hc : 0 + c ≤ c := by omega
  have hz : 0 + z ≤ z := by omega
  refine lv_aload_n X.1 X.2.1 dX7_write_0 rfl (lv_at hl 1 rfl) ?_
  obtain ⟨hk1, hw⟩ := hw
  refine mx_geti (C := RX1) (F := TX1) (N := 7) (ci := 3) X M 2 rfl in_X1 (by decide) rfl (by decide) kw_523 dX7_write_1 hk1 ?_
  refine lv_iload_n X.1 X.2.1 dX7_write_4 rfl (lv_at hl 2 rfl) ?_
  refine lv_iadd X.1 X.2.1 dX7_write_5 ?_
  refine lv_topi (fun v2 ev2 => ?_)
  replace hw := hw v2 ev2
  refine lv_istore (lv' := [(5, .int v2), (0, .ref o), (1, .ref a1), (2, .int a2), (3, .long a3)]) X.1 X.2.1 dX7_write_6 hl (by decide) rfl (fun ls hl => ?_)
  refine lv_aload_n X.1 X.2.1 dX7_write_8 rfl (lv_at hl 1 rfl) ?_
  refine lv_aload_n X.1 X.2.1 dX7_write_9 rfl (lv_at hl 1 rfl) ?_
  obtain ⟨hk3, hw⟩ := hw
  refine mx_geti (C := RX7) (F := TX7) (N := 8) (ci := 9) X M 3 rfl in_X7 (by decide) rfl (by decide) kw_157 dX7_write_10 hk3 ?_
  refine lv_iconst (v := 1) X.1 X.2.1 dX7_write_13 (by decide) ?_
  refine lv_isub X.1 X.2.1 dX7_write_14 ?_
  have hw5 := hw
  clear hw
  refine mx_cq M (mx_runV (n := 1) (As := [.int ((fi μ 9 3 o) - 1)]) (rest := []) X M (c_X7_redoAt l T B μ o ((fi μ 9 3 o) - 1) _ hw5) (mx_recv (C := RX7) (F := TX7) (N := 8) (ci := 9) X M rfl (by decide) hk3) kw_577 kw_579 kw_8 kw_70 kw_580 (by decide +kernel) rfl rfl ⟨Nat.le_of_ble_eq_true rfl, Nat.le_of_ble_eq_true rfl⟩ rfl hl.1 (Nat.le_of_ble_eq_true rfl) dX7_write_15 ⟨(show 0 + 0 ≤ c by omega), (show 0 + 0 ≤ z by omega)⟩) (fun r6 μ4 H locs ⟨hw, hKM4⟩ M => ?_)
  replace hw := hw hKM4
  have hKM4_ := hKM.tr hKM4
  have hk7 := hKM4.at hk1
  have hk8 := hKM4.at hk3
  have hc : (0 + 0) + (c) ≤ c := by omega
  have hz : (0 + 0) + (z) ≤ z := by omega
  refine mq_astore (lv' := [(6, va_rf r6), (5, .int v2), (0, .ref o), (1, .ref a1), (2, .int a2), (3, .long a3)]) X.1 X.2.1 dX7_write_18 hl (by decide) rfl (fun ls hl => ?_)
  refine mq_aload X.1 X.2.1 dX7_write_20 (lv_at hl 0 rfl) ?_
  obtain ⟨hwn, hws⟩ := hw
  rcases r6 with _ | x9
  · have hw := hwn rfl
    have hl : lv_has ls 7 [(6, .null), (5, .int v2), (0, .ref o), (1, .ref a1), (2, .int a2), (3, .long a3)] := hl
    refine lv_ifnullN (tgt := 58) X.1 X.2.1 dX7_write_22 (by decide) ?_
    refine lv_aload_n X.1 X.2.1 dX7_write_58 rfl (lv_at hl 2 rfl) ?_
    obtain ⟨x10, ex10, hw⟩ := hw
    refine mx_getr (C := RX7) (F := TX7) (N := 8) (ci := 9) X M 4 rfl in_X7 (by decide) rfl (by decide) kw_159 dX7_write_59 hk8 ?_
    rw [ex10]
    refine lv_iload X.1 X.2.1 dX7_write_62 (lv_at hl 1 rfl) ?_
    refine lv_lload_n X.1 X.2.1 dX7_write_64 rfl (lv_at hl 5 rfl) ?_
    obtain ⟨hk13, hw⟩ := hw
    have hw12 := hw
    clear hw
    refine mx_cv M (mx_runV (n := 2) (As := [.int v2, .long a3]) (rest := []) X M (c_X4_set l T B μ4 x10 v2 a3 _ hw12) (mx_recv (C := RX4) (F := TX4) (N := 2) (ci := 6) X M rfl (by decide) hk13) kw_586 kw_587 kw_588 kw_71 kw_589 (by decide +kernel) rfl rfl ⟨Nat.le_of_ble_eq_true rfl, Nat.le_of_ble_eq_true rfl⟩ rfl hl.1 (Nat.le_of_ble_eq_true rfl) dX7_write_65 ⟨(show (0 + 0) + 0 ≤ c by omega), (show (0 + 0) + 0 ≤ z by omega)⟩) (fun μ11 H locs ⟨hw, hKM11⟩ M => ?_)
    replace hw := hw hKM11
    have hKM11_ := hKM4_.tr hKM11
    have hk14 := hKM11.at hk7
    have hk15 := hKM11.at hk8
    have hk16 := hKM11.at hk13
    have hc : ((0 + 0) + 0) + (c) ≤ c := by omega
    have hz : ((0 + 0) + 0) + (z) ≤ z := by omega
    exact mx_vret X hr hk M dX7_write_68 (by omega) (by omega) ⟨hw, hKM11_⟩
  · have hw := hws x9 rfl
    have hl : lv_has ls 7 [(6, .ref x9), (5, .int v2), (0, .ref o), (1, .ref a1), (2, .int a2), (3, .long a3)] := hl
    refine lv_ifnull X.1 X.2.1 dX7_write_22 ?_
    refine lv_iload X.1 X.2.1 dX7_write_25 (lv_at hl 1 rfl) ?_
    refine lv_aload X.1 X.2.1 dX7_write_27 (lv_at hl 0 rfl) ?_
    obtain ⟨hk17, hw⟩ := hw
    refine mx_geti (C := RX6) (F := TX6) (N := 7) (ci := 8) X M 4 rfl in_X6 (by decide) rfl (by decide) kw_757 dX7_write_29 hk17 ?_
    obtain ⟨hwt, hwf⟩ := hw
    refine lv_icmp_ge (tgt := 58) X.1 X.2.1 dX7_write_32 (by decide) (fun hq => ?_) (fun hq => ?_)
    · have hw := hwt hq
      refine lv_aload_n X.1 X.2.1 dX7_write_58 rfl (lv_at hl 2 rfl) ?_
      obtain ⟨x18, ex18, hw⟩ := hw
      refine mx_getr (C := RX7) (F := TX7) (N := 8) (ci := 9) X M 4 rfl in_X7 (by decide) rfl (by decide) kw_159 dX7_write_59 hk8 ?_
      rw [ex18]
      refine lv_iload X.1 X.2.1 dX7_write_62 (lv_at hl 1 rfl) ?_
      refine lv_lload_n X.1 X.2.1 dX7_write_64 rfl (lv_at hl 5 rfl) ?_
      obtain ⟨hk21, hw⟩ := hw
      have hw20 := hw
      clear hw
      refine mx_cv M (mx_runV (n := 2) (As := [.int v2, .long a3]) (rest := []) X M (c_X4_set l T B μ4 x18 v2 a3 _ hw20) (mx_recv (C := RX4) (F := TX4) (N := 2) (ci := 6) X M rfl (by decide) hk21) kw_586 kw_587 kw_588 kw_71 kw_589 (by decide +kernel) rfl rfl ⟨Nat.le_of_ble_eq_true rfl, Nat.le_of_ble_eq_true rfl⟩ rfl hl.1 (Nat.le_of_ble_eq_true rfl) dX7_write_65 ⟨(show (0 + 0) + 0 ≤ c by omega), (show (0 + 0) + 0 ≤ z by omega)⟩) (fun μ19 H locs ⟨hw, hKM19⟩ M => ?_)
      replace hw := hw hKM19
      have hKM19_ := hKM4_.tr hKM19
      have hk22 := hKM19.at hk7
      have hk23 := hKM19.at hk8
      have hk24 := hKM19.at hk17
      have hk25 := hKM19.at hk21
      have hc : ((0 + 0) + 0) + (c) ≤ c := by omega
      have hz : ((0 + 0) + 0) + (z) ≤ z := by omega
      exact mx_vret X hr hk M dX7_write_68 (by omega) (by omega) ⟨hw, hKM19_⟩
    · have hw := hwf hq
      refine lv_aload_n X.1 X.2.1 dX7_write_35 rfl (lv_at hl 2 rfl) ?_
      obtain ⟨x26, ex26, hw⟩ := hw
      refine mx_getr (C := RX7) (F := TX7) (N := 8) (ci := 9) X M 5 rfl in_X7 (by decide) rfl (by decide) kw_160 dX7_write_36 hk8 ?_
      rw [ex26]
      refine lv_aload_n X.1 X.2.1 dX7_write_39 rfl (lv_at hl 2 rfl) ?_
      obtain ⟨x27, ex27, hw⟩ := hw
      refine mx_getr (C := RX7) (F := TX7) (N := 8) (ci := 9) X M 4 rfl in_X7 (by decide) rfl (by decide) kw_159 dX7_write_40 hk8 ?_
      rw [ex27]
      refine lv_iload X.1 X.2.1 dX7_write_43 (lv_at hl 1 rfl) ?_
      obtain ⟨hk31, hw⟩ := hw
      have hw29 := hw
      clear hw
      refine mx_cl M (mx_runV (n := 1) (As := [.int v2]) (rest := [.ref x26]) X M (c_X4_at l T B μ4 x27 v2 _ hw29) (mx_recv (C := RX4) (F := TX4) (N := 2) (ci := 6) X M rfl (by decide) hk31) kw_582 kw_583 kw_584 kw_71 kw_585 (by decide +kernel) rfl rfl ⟨Nat.le_of_ble_eq_true rfl, Nat.le_of_ble_eq_true rfl⟩ rfl hl.1 (Nat.le_of_ble_eq_true rfl) dX7_write_45 ⟨(show (0 + 0) + 0 ≤ c by omega), (show (0 + 0) + 0 ≤ z by omega)⟩) (fun r30 μ28 H locs ⟨hw, hKM28⟩ M => ?_)
      replace hw := hw hKM28
      have hKM28_ := hKM4_.tr hKM28
      have hk32 := hKM28.at hk7
      have hk33 := hKM28.at hk8
      have hk34 := hKM28.at hk17
      have hk35 := hKM28.at hk31
      have hc : ((0 + 0) + 0) + (c) ≤ c := by omega
      have hz : ((0 + 0) + 0) + (z) ≤ z := by omega
      refine lv_bipush (v := 16) X.1 X.2.1 dX7_write_48 (by decide) ?_
      refine lv_lshl X.1 X.2.1 dX7_write_50 rfl ?_
      refine lv_iload X.1 X.2.1 dX7_write_51 (lv_at hl 1 rfl) ?_
      refine lv_i2l X.1 X.2.1 dX7_write_53 rfl ?_
      refine lv_lor X.1 X.2.1 dX7_write_54 ?_
      obtain ⟨hk40, hw⟩ := hw
      obtain ⟨c37, z38, hc37, hz38, hw⟩ := hw
      have hw39 := hw
      clear hw
      refine mx_cv M (mx_runV (n := 1) (As := [.long ((r30 <<< (Int32.toInt64 16 &&& 63)) ||| (Int32.toInt64 v2))]) (rest := []) X M (c_X4_push l T B c37 z38 μ28 x26 ((r30 <<< (Int32.toInt64 16 &&& 63)) ||| (Int32.toInt64 v2)) _ hw39) (mx_recv (C := RX4) (F := TX4) (N := 2) (ci := 6) X M rfl (by decide) hk40) kw_551 kw_552 kw_553 kw_71 kw_554 (by decide +kernel) rfl rfl ⟨Nat.le_of_ble_eq_true rfl, Nat.le_of_ble_eq_true rfl⟩ rfl hl.1 (Nat.le_of_ble_eq_true rfl) dX7_write_55 ⟨(show ((0 + 0) + 0) + c37 ≤ c by omega), (show ((0 + 0) + 0) + z38 ≤ z by omega)⟩) (fun μ36 H locs ⟨hw, hKM36⟩ M => ?_)
      replace hw := hw hKM36
      have hKM36_ := hKM28_.tr hKM36
      have hk41 := hKM36.at hk32
      have hk42 := hKM36.at hk33
      have hk43 := hKM36.at hk34
      have hk44 := hKM36.at hk40
      have hc : (((0 + 0) + 0) + c37) + (c - c37) ≤ c := by omega
      have hz : (((0 + 0) + 0) + z38) + (z - z38) ≤ z := by omega
      refine lv_aload_n X.1 X.2.1 dX7_write_58 rfl (lv_at hl 2 rfl) ?_
      obtain ⟨x45, ex45, hw⟩ := hw
      refine mx_getr (C := RX7) (F := TX7) (N := 8) (ci := 9) X M 4 rfl in_X7 (by decide) rfl (by decide) kw_159 dX7_write_59 hk42 ?_
      rw [ex45]
      refine lv_iload X.1 X.2.1 dX7_write_62 (lv_at hl 1 rfl) ?_
      refine lv_lload_n X.1 X.2.1 dX7_write_64 rfl (lv_at hl 5 rfl) ?_
      obtain ⟨hk48, hw⟩ := hw
      have hw47 := hw
      clear hw
      refine mx_cv M (mx_runV (n := 2) (As := [.int v2, .long a3]) (rest := []) X M (c_X4_set l T B μ36 x45 v2 a3 _ hw47) (mx_recv (C := RX4) (F := TX4) (N := 2) (ci := 6) X M rfl (by decide) hk48) kw_586 kw_587 kw_588 kw_71 kw_589 (by decide +kernel) rfl rfl ⟨Nat.le_of_ble_eq_true rfl, Nat.le_of_ble_eq_true rfl⟩ rfl hl.1 (Nat.le_of_ble_eq_true rfl) dX7_write_65 ⟨(show (((0 + 0) + 0) + c37) + 0 ≤ c by omega), (show (((0 + 0) + 0) + z38) + 0 ≤ z by omega)⟩) (fun μ46 H locs ⟨hw, hKM46⟩ M => ?_)
      replace hw := hw hKM46
      have hKM46_ := hKM36_.tr hKM46
      have hk49 := hKM46.at hk41
      have hk50 := hKM46.at hk42
      have hk51 := hKM46.at hk43
      have hk52 := hKM46.at hk48
      have hc : ((((0 + 0) + 0) + c37) + 0) + (c - c37) ≤ c := by omega
      have hz : ((((0 + 0) + 0) + z38) + 0) + (z - z38) ≤ z := by omega
      exact mx_vret X hr hk M dX7_write_68 (by omega) (by omega) ⟨hw, hKM46_⟩
