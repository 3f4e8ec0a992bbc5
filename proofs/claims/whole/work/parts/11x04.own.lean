abbrev rm_X7_clear : Room := { frames := 2, cells := 0, slots := 0, locals := 42 }
def wp_X7_clear (μ : Mem) (o : Nat) (a1 : Int32) (post : Mem → Prop) : Prop :=
  kd μ o = 10 ∧
  ∀ μ2 : Mem, μ2 = sfi μ 9 1 o 0 →
  ∀ μ5 : Mem, μ5 = sfi μ2 9 3 o 0 →
  ∃ x8, fr μ5 9 4 o = some x8 ∧
  kd μ5 x8 = 7 ∧
  wp_X4_shrink μ5 x8 0 (fun (μ9 : Mem) =>
  KM μ5 μ9 →
  ∃ x14, fr μ9 9 5 o = some x14 ∧
  kd μ9 x14 = 7 ∧
  wp_X4_shrink μ9 x14 0 (fun (μ15 : Mem) =>
  KM μ9 μ15 →
  ∀ μ21 : Mem, μ21 = sfi μ15 9 6 o a1 →
  ∀ μ26 : Mem, μ26 = sfi μ21 9 7 o 0 →
  post μ26))
set_option maxRecDepth 100000 in
set_option maxHeartbeats 4000000 in
theorem c_X7_clear (l : Launch) (T : Tb) (B : Nat) (μ : Mem) (o : Nat) (a1 : Int32) (post : Mem → Prop) (hw : wp_X7_clear μ o a1 post) : Met l yX7_clear (.code yX7_clear cX7_clear 2 none :: G) rm_X7_clear (Pm (Rl T B) T B μ [.ref o, .int a1]) (va_Qv (fun μ9 => post μ9 ∧ KM μ μ9) (Bm (Rl T B)) (Ai B)) 0 0 (Ai B) := by
  refine mx_of RX7 rfl (by decide) (Nat.le_of_ble_eq_true rfl) ?_
  intro p e s m below meth c0 X hr hk hnm M ls hl
  have hl : lv_has ls 2 [(0, .ref o), (1, .int a1)] := hl
  unfold wp_X7_clear at hw
  have hKM : KM μ μ := KM.rf μ
  refine lv_aload_n X.1 X.2.1 dX7_clear_0 rfl (lv_at hl 0 rfl) ?_
  refine lv_iconst (v := 0) X.1 X.2.1 dX7_clear_1 (by decide) ?_
  obtain ⟨hk1, hw⟩ := hw
  refine my_puti (C := RX7) (F := TX7) (N := 8) (ci := 9) X M 1 rfl in_X7 tyX7 tyX7_ok nmX7 (by decide) rfl (by decide) kw_158 (Or.inl rfl) dX7_clear_2 hk1 rfl rfl (fun μ2 H locs eμ2 M => ?_)
  replace hw := hw μ2 eμ2
  have hKM3 : KM μ μ2 := by rw [eμ2]; exact hKM
  have hk4 : kd μ2 o = 10 := by rw [eμ2]; exact hk1
  refine lv_aload_n X.1 X.2.1 dX7_clear_5 rfl (lv_at hl 0 rfl) ?_
  refine lv_iconst (v := 0) X.1 X.2.1 dX7_clear_6 (by decide) ?_
  refine my_puti (C := RX7) (F := TX7) (N := 8) (ci := 9) X M 3 rfl in_X7 tyX7 tyX7_ok nmX7 (by decide) rfl (by decide) kw_161 (Or.inl rfl) dX7_clear_7 hk4 rfl rfl (fun μ5 H locs eμ5 M => ?_)
  replace hw := hw μ5 eμ5
  have hKM6 : KM μ μ5 := by rw [eμ5]; exact hKM3
  have hk7 : kd μ5 o = 10 := by rw [eμ5]; exact hk4
  refine lv_aload_n X.1 X.2.1 dX7_clear_10 rfl (lv_at hl 0 rfl) ?_
  obtain ⟨x8, ex8, hw⟩ := hw
  refine mx_getr (C := RX7) (F := TX7) (N := 8) (ci := 9) X M 4 rfl in_X7 (by decide) rfl (by decide) kw_163 dX7_clear_11 hk7 ?_
  rw [ex8]
  refine lv_iconst (v := 0) X.1 X.2.1 dX7_clear_14 (by decide) ?_
  obtain ⟨hk11, hw⟩ := hw
  have hw10 := hw
  clear hw
  refine mx_cv M (mx_runV (n := 1) (As := [.int 0]) (rest := []) X M (c_X4_shrink l T B μ5 x8 0 _ hw10) (mx_recv (C := RX4) (F := TX4) (N := 2) (ci := 6) X M rfl (by decide) hk11) kw_525 kw_526 kw_527 kw_69 kw_528 (by decide +kernel) rfl rfl ⟨Nat.le_of_ble_eq_true rfl, Nat.le_of_ble_eq_true rfl⟩ rfl hl.1 (Nat.le_of_ble_eq_true rfl) dX7_clear_15 ⟨by decide, by decide⟩) (fun μ9 H locs ⟨hw, hKM9⟩ M => ?_)
  replace hw := hw hKM9
  have hKM9_ := hKM6.tr hKM9
  have hk12 := hKM9.at hk7
  have hk13 := hKM9.at hk11
  refine lv_aload_n X.1 X.2.1 dX7_clear_18 rfl (lv_at hl 0 rfl) ?_
  obtain ⟨x14, ex14, hw⟩ := hw
  refine mx_getr (C := RX7) (F := TX7) (N := 8) (ci := 9) X M 5 rfl in_X7 (by decide) rfl (by decide) kw_164 dX7_clear_19 hk12 ?_
  rw [ex14]
  refine lv_iconst (v := 0) X.1 X.2.1 dX7_clear_22 (by decide) ?_
  obtain ⟨hk17, hw⟩ := hw
  have hw16 := hw
  clear hw
  refine mx_cv M (mx_runV (n := 1) (As := [.int 0]) (rest := []) X M (c_X4_shrink l T B μ9 x14 0 _ hw16) (mx_recv (C := RX4) (F := TX4) (N := 2) (ci := 6) X M rfl (by decide) hk17) kw_525 kw_526 kw_527 kw_69 kw_528 (by decide +kernel) rfl rfl ⟨Nat.le_of_ble_eq_true rfl, Nat.le_of_ble_eq_true rfl⟩ rfl hl.1 (Nat.le_of_ble_eq_true rfl) dX7_clear_23 ⟨by decide, by decide⟩) (fun μ15 H locs ⟨hw, hKM15⟩ M => ?_)
  replace hw := hw hKM15
  have hKM15_ := hKM9_.tr hKM15
  have hk18 := hKM15.at hk12
  have hk19 := hKM15.at hk13
  have hk20 := hKM15.at hk17
  refine lv_aload_n X.1 X.2.1 dX7_clear_26 rfl (lv_at hl 0 rfl) ?_
  refine lv_iload_n X.1 X.2.1 dX7_clear_27 rfl (lv_at hl 1 rfl) ?_
  refine my_puti (C := RX7) (F := TX7) (N := 8) (ci := 9) X M 6 rfl in_X7 tyX7 tyX7_ok nmX7 (by decide) rfl (by decide) kw_165 (Or.inl rfl) dX7_clear_28 hk18 rfl rfl (fun μ21 H locs eμ21 M => ?_)
  replace hw := hw μ21 eμ21
  have hKM22 : KM μ μ21 := by rw [eμ21]; exact hKM15_
  have hk23 : kd μ21 o = 10 := by rw [eμ21]; exact hk18
  have hk24 : kd μ21 x8 = 7 := by rw [eμ21]; exact hk19
  have hk25 : kd μ21 x14 = 7 := by rw [eμ21]; exact hk20
  refine lv_aload_n X.1 X.2.1 dX7_clear_31 rfl (lv_at hl 0 rfl) ?_
  refine lv_iconst (v := 0) X.1 X.2.1 dX7_clear_32 (by decide) ?_
  refine my_puti (C := RX7) (F := TX7) (N := 8) (ci := 9) X M 7 rfl in_X7 tyX7 tyX7_ok nmX7 (by decide) rfl (by decide) kw_166 (Or.inl rfl) dX7_clear_33 hk23 rfl rfl (fun μ26 H locs eμ26 M => ?_)
  replace hw := hw μ26 eμ26
  have hKM27 : KM μ μ26 := by rw [eμ26]; exact hKM22
  have hk28 : kd μ26 o = 10 := by rw [eμ26]; exact hk23
  have hk29 : kd μ26 x8 = 7 := by rw [eμ26]; exact hk24
  have hk30 : kd μ26 x14 = 7 := by rw [eμ26]; exact hk25
  exact mx_vret X hr hk M dX7_clear_36 (by decide) (by decide) ⟨hw, hKM27⟩

abbrev rm_X7_size : Room := { frames := 1, cells := 0, slots := 0, locals := 20 }
def wp_X7_size (μ : Mem) (o : Nat) (post : Int32 → Mem → Prop) : Prop :=
  kd μ o = 10 ∧
  ∃ x2, fr μ 9 4 o = some x2 ∧
  kd μ x2 = 7 ∧
  wp_X4_size μ x2 (fun (r5 : Int32) (μ3 : Mem) =>
  KM μ μ3 →
  post ((r5 + ((2 : Int32) * (fi μ3 9 1 o))) + ((3 : Int32) * (fi μ3 9 3 o))) μ3)
set_option maxRecDepth 100000 in
set_option maxHeartbeats 4000000 in
theorem c_X7_size (l : Launch) (T : Tb) (B : Nat) (μ : Mem) (o : Nat) (post : Int32 → Mem → Prop) (hw : wp_X7_size μ o post) : Met l yX7_size (.code yX7_size cX7_size 1 (some .int) :: G) rm_X7_size (Pm (Rl T B) T B μ [.ref o]) (va_Qi (fun r9 μ9 => post r9 μ9 ∧ KM μ μ9) (Bm (Rl T B)) (Ai B)) 0 0 (Ai B) := by
  refine mx_of RX7 rfl (by decide) (Nat.le_of_ble_eq_true rfl) ?_
  intro p e s m below meth c0 X hr hk hnm M ls hl
  have hl : lv_has ls 1 [(0, .ref o)] := hl
  unfold wp_X7_size at hw
  have hKM : KM μ μ := KM.rf μ
  refine lv_aload_n X.1 X.2.1 dX7_size_0 rfl (lv_at hl 0 rfl) ?_
  obtain ⟨hk1, hw⟩ := hw
  obtain ⟨x2, ex2, hw⟩ := hw
  refine mx_getr (C := RX7) (F := TX7) (N := 8) (ci := 9) X M 4 rfl in_X7 (by decide) rfl (by decide) kw_163 dX7_size_1 hk1 ?_
  rw [ex2]
  obtain ⟨hk6, hw⟩ := hw
  have hw4 := hw
  clear hw
  refine mx_ci M (mx_runV (n := 0) (As := []) (rest := []) X M (c_X4_size l T B μ x2 _ hw4) (mx_recv (C := RX4) (F := TX4) (N := 2) (ci := 6) X M rfl (by decide) hk6) kw_577 kw_578 kw_579 kw_69 kw_580 (by decide +kernel) rfl rfl ⟨Nat.le_of_ble_eq_true rfl, Nat.le_of_ble_eq_true rfl⟩ rfl hl.1 (Nat.le_of_ble_eq_true rfl) dX7_size_4 ⟨by decide, by decide⟩) (fun r5 μ3 H locs ⟨hw, hKM3⟩ M => ?_)
  replace hw := hw hKM3
  have hKM3_ := hKM.tr hKM3
  have hk7 := hKM3.at hk1
  have hk8 := hKM3.at hk6
  refine lv_iconst (v := 2) X.1 X.2.1 dX7_size_7 (by decide) ?_
  refine lv_aload_n X.1 X.2.1 dX7_size_8 rfl (lv_at hl 0 rfl) ?_
  refine mx_geti (C := RX7) (F := TX7) (N := 8) (ci := 9) X M 1 rfl in_X7 (by decide) rfl (by decide) kw_158 dX7_size_9 hk7 ?_
  refine lv_imul X.1 X.2.1 dX7_size_12 ?_
  refine lv_iadd X.1 X.2.1 dX7_size_13 ?_
  refine lv_iconst (v := 3) X.1 X.2.1 dX7_size_14 (by decide) ?_
  refine lv_aload_n X.1 X.2.1 dX7_size_15 rfl (lv_at hl 0 rfl) ?_
  refine mx_geti (C := RX7) (F := TX7) (N := 8) (ci := 9) X M 3 rfl in_X7 (by decide) rfl (by decide) kw_161 dX7_size_16 hk7 ?_
  refine lv_imul X.1 X.2.1 dX7_size_19 ?_
  refine lv_iadd X.1 X.2.1 dX7_size_20 ?_
  exact mx_iret X hr hk M dX7_size_21 (by decide) (by decide) ⟨hw, hKM3_⟩

abbrev rm_X7_hasRoom : Room := { frames := 2, cells := 0, slots := 0, locals := 40 }
def wp_X7_hasRoom (μ : Mem) (o : Nat) (a1 : Int32) (post : Int32 → Mem → Prop) : Prop :=
  kd μ o = 10 ∧
  wp_X7_size μ o (fun (r3 : Int32) (μ1 : Mem) =>
  KM μ μ1 →
  ((fi μ1 9 6 o) < (r3 + a1) →
   post 0 μ1) ∧ (¬ (fi μ1 9 6 o) < (r3 + a1) →
   post 1 μ1))
set_option maxRecDepth 100000 in
set_option maxHeartbeats 4000000 in
theorem c_X7_hasRoom (l : Launch) (T : Tb) (B : Nat) (μ : Mem) (o : Nat) (a1 : Int32) (post : Int32 → Mem → Prop) (hw : wp_X7_hasRoom μ o a1 post) : Met l yX7_hasRoom (.code yX7_hasRoom cX7_hasRoom 2 (some .boolean) :: G) rm_X7_hasRoom (Pm (Rl T B) T B μ [.ref o, .int a1]) (va_Qi (fun r9 μ9 => post r9 μ9 ∧ KM μ μ9) (Bm (Rl T B)) (Ai B)) 0 0 (Ai B) := by
  refine mx_of RX7 rfl (by decide) (Nat.le_of_ble_eq_true rfl) ?_
  intro p e s m below meth c0 X hr hk hnm M ls hl
  have hl : lv_has ls 2 [(0, .ref o), (1, .int a1)] := hl
  unfold wp_X7_hasRoom at hw
  have hKM : KM μ μ := KM.rf μ
  refine lv_aload_n X.1 X.2.1 dX7_hasRoom_0 rfl (lv_at hl 0 rfl) ?_
  obtain ⟨hk4, hw⟩ := hw
  have hw2 := hw
  clear hw
  refine mx_ci M (mx_runV (n := 0) (As := []) (rest := []) X M (c_X7_size l T B μ o _ hw2) (mx_recv (C := RX7) (F := TX7) (N := 8) (ci := 9) X M rfl (by decide) hk4) kw_598 kw_599 kw_600 kw_68 kw_601 (by decide +kernel) rfl rfl ⟨Nat.le_of_ble_eq_true rfl, Nat.le_of_ble_eq_true rfl⟩ rfl hl.1 (Nat.le_of_ble_eq_true rfl) dX7_hasRoom_1 ⟨by decide, by decide⟩) (fun r3 μ1 H locs ⟨hw, hKM1⟩ M => ?_)
  replace hw := hw hKM1
  have hKM1_ := hKM.tr hKM1
  have hk5 := hKM1.at hk4
  refine lv_iload_n X.1 X.2.1 dX7_hasRoom_4 rfl (lv_at hl 1 rfl) ?_
  refine lv_iadd X.1 X.2.1 dX7_hasRoom_5 ?_
  refine lv_aload_n X.1 X.2.1 dX7_hasRoom_6 rfl (lv_at hl 0 rfl) ?_
  refine mx_geti (C := RX7) (F := TX7) (N := 8) (ci := 9) X M 6 rfl in_X7 (by decide) rfl (by decide) kw_165 dX7_hasRoom_7 hk5 ?_
  obtain ⟨hwt, hwf⟩ := hw
  refine lv_icmp_gt (tgt := 17) X.1 X.2.1 dX7_hasRoom_10 (by decide) (fun hq => ?_) (fun hq => ?_)
  · have hw := hwt hq
    refine lv_iconst (v := 0) X.1 X.2.1 dX7_hasRoom_17 (by decide) ?_
    exact mx_zret X hr hk M dX7_hasRoom_18 (by decide) (by decide) (by decide) ⟨hw, hKM1_⟩
  · have hw := hwf hq
    refine lv_iconst (v := 1) X.1 X.2.1 dX7_hasRoom_13 (by decide) ?_
    refine lv_goto (tgt := 18) X.1 X.2.1 dX7_hasRoom_14 (by decide) ?_
    exact mx_zret X hr hk M dX7_hasRoom_18 (by decide) (by decide) (by decide) ⟨hw, hKM1_⟩

abbrev rm_X7_noteSize : Room := { frames := 2, cells := 0, slots := 0, locals := 40 }
def wp_X7_noteSize (μ : Mem) (o : Nat) (post : Mem → Prop) : Prop :=
  kd μ o = 10 ∧
  wp_X7_size μ o (fun (r4 : Int32) (μ2 : Mem) =>
  KM μ μ2 →
  ∀ μ6 : Mem, μ6 = sfi μ2 9 7 o (if (fi μ 9 7 o) < r4 then r4 else (fi μ 9 7 o)) →
  post μ6)
set_option maxRecDepth 100000 in
set_option maxHeartbeats 4000000 in
theorem c_X7_noteSize (l : Launch) (T : Tb) (B : Nat) (μ : Mem) (o : Nat) (post : Mem → Prop) (hw : wp_X7_noteSize μ o post) : Met l yX7_noteSize (.code yX7_noteSize cX7_noteSize 1 none :: G) rm_X7_noteSize (Pm (Rl T B) T B μ [.ref o]) (va_Qv (fun μ9 => post μ9 ∧ KM μ μ9) (Bm (Rl T B)) (Ai B)) 0 0 (Ai B) := by
  refine mx_of RX7 rfl (by decide) (Nat.le_of_ble_eq_true rfl) ?_
  intro p e s m below meth c0 X hr hk hnm M ls hl
  have hl : lv_has ls 1 [(0, .ref o)] := hl
  unfold wp_X7_noteSize at hw
  have hKM : KM μ μ := KM.rf μ
  refine lv_aload_n X.1 X.2.1 dX7_noteSize_0 rfl (lv_at hl 0 rfl) ?_
  refine lv_aload_n X.1 X.2.1 dX7_noteSize_1 rfl (lv_at hl 0 rfl) ?_
  obtain ⟨hk1, hw⟩ := hw
  refine mx_geti (C := RX7) (F := TX7) (N := 8) (ci := 9) X M 7 rfl in_X7 (by decide) rfl (by decide) kw_166 dX7_noteSize_2 hk1 ?_
  refine lv_aload_n X.1 X.2.1 dX7_noteSize_5 rfl (lv_at hl 0 rfl) ?_
  have hw3 := hw
  clear hw
  refine mx_ci M (mx_runV (n := 0) (As := []) (rest := [.int (fi μ 9 7 o), .ref o]) X M (c_X7_size l T B μ o _ hw3) (mx_recv (C := RX7) (F := TX7) (N := 8) (ci := 9) X M rfl (by decide) hk1) kw_598 kw_599 kw_600 kw_68 kw_601 (by decide +kernel) rfl rfl ⟨Nat.le_of_ble_eq_true rfl, Nat.le_of_ble_eq_true rfl⟩ rfl hl.1 (Nat.le_of_ble_eq_true rfl) dX7_noteSize_6 ⟨by decide, by decide⟩) (fun r4 μ2 H locs ⟨hw, hKM2⟩ M => ?_)
  replace hw := hw hKM2
  have hKM2_ := hKM.tr hKM2
  have hk5 := hKM2.at hk1
  refine my_max X kw_602 kw_309 kw_77 kw_310 hl.1 (Nat.le_of_ble_eq_true rfl) (Nat.le_of_ble_eq_true rfl) (by decide) (by decide) dX7_noteSize_9 ?_
  refine my_puti (C := RX7) (F := TX7) (N := 8) (ci := 9) X M 7 rfl in_X7 tyX7 tyX7_ok nmX7 (by decide) rfl (by decide) kw_166 (Or.inl rfl) dX7_noteSize_12 hk5 rfl rfl (fun μ6 H locs eμ6 M => ?_)
  replace hw := hw μ6 eμ6
  have hKM7 : KM μ μ6 := by rw [eμ6]; exact hKM2_
  have hk8 : kd μ6 o = 10 := by rw [eμ6]; exact hk5
  exact mx_vret X hr hk M dX7_noteSize_15 (by decide) (by decide) ⟨hw, hKM7⟩

abbrev rm_X7_pushFrame (c z : Nat) : Room := { frames := 7, cells := c, slots := z, locals := 171 }
def wp_X7_pushFrame_103 (o : Nat) (post : Option Nat → Mem → Prop) : Nat → Nat → Nat → Mem → Nat → Nat → Int32 → Prop
  | 0, _, _, _, _, _, _ => False
  | n + 1, c, z, μ, x1, x2, x3 =>
    kd μ x1 = 8 ∧
    ((fi μ 7 1 x1) ≤ x3 →
     kd μ o = 10 ∧
     wp_X7_noteSize μ o (fun (μ74 : Mem) =>
     KM μ μ74 →
     post (some x2) μ74)) ∧ (¬ (fi μ 7 1 x1) ≤ x3 →
     kd μ o = 10 ∧
     ∃ x80, fr μ 9 4 o = some x80 ∧
     kd μ x80 = 7 ∧
     ∃ c82 z83, c82 ≤ c ∧ z83 ≤ z ∧
     wp_X4_push c82 z83 μ x80 0 (fun (μ81 : Mem) =>
     KM μ μ81 →
     ∀ v89 : Int32, v89 = x3 + 1 →
     wp_X7_pushFrame_103 o post n (c - c82) (z - z83) μ81 x1 x2 v89))
def wp_X7_pushFrame_57 (o : Nat) (post : Option Nat → Mem → Prop) (c z : Nat) (μ : Mem) (x1 : Nat) (x2 : Nat) : Prop :=
  kd μ o = 10 ∧
  ∀ μ37 : Mem, μ37 = sfi μ 9 1 o ((fi μ 9 1 o) + 1) →
  kd μ37 x2 = 4 ∧
  ∀ μ41 : Mem, μ41 = sfr μ37 3 1 x2 (some x1) →
  ∃ x45, fr μ41 9 4 o = some x45 ∧
  kd μ41 x45 = 7 ∧
  wp_X4_size μ41 x45 (fun (r48 : Int32) (μ46 : Mem) =>
  KM μ41 μ46 →
  ∀ μ53 : Mem, μ53 = sfi μ46 3 2 x2 r48 →
  ∀ μ58 : Mem, μ58 = sfr μ53 3 3 x2 none →
  ∀ μ63 : Mem, μ63 = sfr μ58 3 4 x2 none →
  ∀ μ68 : Mem, μ68 = sfi μ63 3 6 x2 (fi μ63 9 3 o) →
  ∃ n90, wp_X7_pushFrame_103 o post n90 c z μ68 x1 x2 0)
def wp_X7_pushFrame (c z : Nat) (μ : Mem) (o : Nat) (a1 : Nat) (post : Option Nat → Mem → Prop) : Prop :=
  kd μ o = 10 ∧
  ∃ x2, fr μ 9 0 o = some x2 ∧
  kd μ x2 = 2 ∧
  wp_Jx4a65c_size_8abf5 μ x2 (fun (r5 : Int32) (μ3 : Mem) =>
  KM μ μ3 →
  wp_X10_within μ3 (fi μ 9 1 o) r5 (fun (r11 : Int32) (μ9 : Mem) =>
  KM μ3 μ9 →
  (r11 = 0 →
   1 ≤ c ∧ 7 ≤ z ∧ ∀ (q14 : Nat) (μ15 : Mem), kd μ9 q14 = 0 → μ15 = nob μ9 3 q14 →
   wp_X1_init μ15 q14 (fi μ15 9 1 o) a1 (fun (μ20 : Mem) =>
   KM μ15 μ20 →
   ∃ x25, fr μ20 9 0 o = some x25 ∧
   kd μ20 x25 = 2 ∧
   ∃ c27 z28, c27 ≤ c - 1 ∧ z28 ≤ z - 7 ∧
   wp_Jx4a65c_add_9ea2d c27 z28 μ20 x25 q14 (fun (r30 : Int32) (μ26 : Mem) =>
   KM μ20 μ26 →
   wp_X7_pushFrame_57 o post ((c - 1) - c27) ((z - 7) - z28) μ26 a1 q14))) ∧ (¬ r11 = 0 →
   ∃ x91, fr μ9 9 0 o = some x91 ∧
   kd μ9 x91 = 2 ∧
   wp_Jx4a65c_get_915e3 μ9 x91 (fi μ9 9 1 o) (fun (r94 : Option Nat) (μ92 : Mem) =>
   KM μ9 μ92 →
   ∃ x99, r94 = some x99 ∧
   kd μ92 x99 = 4 ∧
   wp_X7_pushFrame_57 o post c z μ92 a1 x99))))
set_option maxRecDepth 100000 in
set_option maxHeartbeats 4000000 in
theorem b_X7_pushFrame_103 {T : Tb} {B : Nat} {p : Program} {l : Launch} {e : Env} {s : State} {m : MethodId} {args : Array Value} {below : List Frame} {meth : Method} {c0 : Code} {post : Option Nat → Mem → Prop} {μ0 : Mem} {o : Nat} {cT zT : Nat} (X : CX T B p m c0 cX7_pushFrame 4 s args RX7) (hr : meth.sig.returnType = (some (.object "RedoMachine$Frame"))) (hk : meth.locks = false) : ∀ (n : Nat) (c z cells slots : Nat) (μ : Mem) (x1 : Nat) (x2 : Nat) (x3 : Int32) (H : Heap) (locs : List Loc) (ls : Array Slot), cells + c ≤ cT → slots + z ≤ zT → KM μ0 μ → wp_X7_pushFrame_103 o post n c z μ x1 x2 x3 → MG (Rl T B) B s μ H locs → lv_has ls 4 [(0, .ref o), (1, .ref x1), (2, .ref x2), (3, .int x3)] → W p l e (rm_X7_pushFrame cT zT) s m args below meth c0 H locs cells slots (MQ below (va_Qq (fun r9 μ9 => post r9 μ9 ∧ KM μ0 μ9) (Bm (Rl T B)) (Ai B)) args s cT zT (Ai B)) (F0 m 103 ls []) := by
  intro n
  induction n with
  | zero =>
    intro c z cells slots μ x1 x2 x3 H locs ls hc hz hKM hw
    exact hw.elim
  | succ n ih =>
    intro c z cells slots μ x1 x2 x3 H locs ls hc hz hKM hw M hl
    rw [wp_X7_pushFrame_103] at hw
    refine lv_iload_n X.1 X.2.1 dX7_pushFrame_103 rfl (lv_at hl 3 rfl) ?_
    refine lv_aload_n X.1 X.2.1 dX7_pushFrame_104 rfl (lv_at hl 1 rfl) ?_
    obtain ⟨hk73, hw⟩ := hw
    refine mx_geti (C := RX5) (F := TX5) (N := 5) (ci := 7) X M 1 rfl in_X5 (by decide) rfl (by decide) kw_351 dX7_pushFrame_105 hk73 ?_
    obtain ⟨hwt, hwf⟩ := hw
    refine lv_icmp_ge (tgt := 125) X.1 X.2.1 dX7_pushFrame_108 (by decide) (fun hq => ?_) (fun hq => ?_)
    · have hw := hwt hq
      refine lv_aload_n X.1 X.2.1 dX7_pushFrame_125 rfl (lv_at hl 0 rfl) ?_
      obtain ⟨hk76, hw⟩ := hw
      have hw75 := hw
      clear hw
      refine mx_cv M (mx_runV (n := 0) (As := []) (rest := []) X M (c_X7_noteSize l T B μ o _ hw75) (mx_recv (C := RX7) (F := TX7) (N := 8) (ci := 9) X M rfl (by decide) hk76) kw_594 kw_596 kw_7 kw_68 kw_597 (by decide +kernel) rfl rfl ⟨Nat.le_of_ble_eq_true rfl, Nat.le_of_ble_eq_true rfl⟩ rfl hl.1 (Nat.le_of_ble_eq_true rfl) dX7_pushFrame_126 ⟨(show cells + 0 ≤ cT by omega), (show slots + 0 ≤ zT by omega)⟩) (fun μ74 H locs ⟨hw, hKM74⟩ M => ?_)
      replace hw := hw hKM74
      have hKM74_ := hKM.tr hKM74
      have hk77 := hKM74.at hk73
      have hk78 := hKM74.at hk76
      have hc : (cells + 0) + (c) ≤ cT := by omega
      have hz : (slots + 0) + (z) ≤ zT := by omega
      refine lv_aload_n X.1 X.2.1 dX7_pushFrame_129 rfl (lv_at hl 2 rfl) ?_
      exact mx_aret (r := (some x2)) X hr (Or.inl ⟨_, rfl⟩) hk M dX7_pushFrame_130 (by omega) (by omega) ⟨hw, hKM74_⟩
    · have hw := hwf hq
      refine lv_aload_n X.1 X.2.1 dX7_pushFrame_111 rfl (lv_at hl 0 rfl) ?_
      obtain ⟨hk79, hw⟩ := hw
      obtain ⟨x80, ex80, hw⟩ := hw
      refine mx_getr (C := RX7) (F := TX7) (N := 8) (ci := 9) X M 4 rfl in_X7 (by decide) rfl (by decide) kw_163 dX7_pushFrame_112 hk79 ?_
      rw [ex80]
      refine lv_lconst (v := 0) X.1 X.2.1 dX7_pushFrame_115 (by decide) ?_
      obtain ⟨hk85, hw⟩ := hw
      obtain ⟨c82, z83, hc82, hz83, hw⟩ := hw
      have hw84 := hw
      clear hw
      refine mx_cv M (mx_runV (n := 1) (As := [.long 0]) (rest := []) X M (c_X4_push l T B c82 z83 μ x80 0 _ hw84) (mx_recv (C := RX4) (F := TX4) (N := 2) (ci := 6) X M rfl (by decide) hk85) kw_581 kw_582 kw_583 kw_69 kw_584 (by decide +kernel) rfl rfl ⟨Nat.le_of_ble_eq_true rfl, Nat.le_of_ble_eq_true rfl⟩ rfl hl.1 (Nat.le_of_ble_eq_true rfl) dX7_pushFrame_116 ⟨(show cells + c82 ≤ cT by omega), (show slots + z83 ≤ zT by omega)⟩) (fun μ81 H locs ⟨hw, hKM81⟩ M => ?_)
      replace hw := hw hKM81
      have hKM81_ := hKM.tr hKM81
      have hk86 := hKM81.at hk73
      have hk87 := hKM81.at hk79
      have hk88 := hKM81.at hk85
      have hc : (cells + c82) + (c - c82) ≤ cT := by omega
      have hz : (slots + z83) + (z - z83) ≤ zT := by omega
      obtain ⟨v89, ev89⟩ : ∃ y : Int32, y = x3 + 1 := ⟨_, rfl⟩
      replace hw := hw v89 ev89
      refine lv_iinc (v := v89) (lv' := [(3, .int v89), (0, .ref o), (1, .ref x1), (2, .ref x2)]) X.1 X.2.1 dX7_pushFrame_119 hl (k := 3) rfl (by rw [ev89]; rfl) (by decide) rfl (fun ls hl => ?_)
      refine lv_goto (tgt := 103) X.1 X.2.1 dX7_pushFrame_122 (by decide) ?_
      exact ih _ _ _ _ μ81 x1 x2 v89 _ _ _ (by omega) (by omega) hKM81_ hw M (lv_sub hl [1, 2, 3, 0] rfl)
set_option maxRecDepth 100000 in
set_option maxHeartbeats 4000000 in
theorem b_X7_pushFrame_57 {T : Tb} {B : Nat} {p : Program} {l : Launch} {e : Env} {s : State} {m : MethodId} {args : Array Value} {below : List Frame} {meth : Method} {c0 : Code} {post : Option Nat → Mem → Prop} {μ0 : Mem} {o : Nat} {cT zT : Nat} (X : CX T B p m c0 cX7_pushFrame 4 s args RX7) (hr : meth.sig.returnType = (some (.object "RedoMachine$Frame"))) (hk : meth.locks = false) : ∀ (c z cells slots : Nat) (μ : Mem) (x1 : Nat) (x2 : Nat) (H : Heap) (locs : List Loc) (ls : Array Slot), cells + c ≤ cT → slots + z ≤ zT → KM μ0 μ → wp_X7_pushFrame_57 o post c z μ x1 x2 → MG (Rl T B) B s μ H locs → lv_has ls 4 [(0, .ref o), (1, .ref x1), (2, .ref x2)] → W p l e (rm_X7_pushFrame cT zT) s m args below meth c0 H locs cells slots (MQ below (va_Qq (fun r9 μ9 => post r9 μ9 ∧ KM μ0 μ9) (Bm (Rl T B)) (Ai B)) args s cT zT (Ai B)) (F0 m 57 ls []) := by
  intro c z cells slots μ x1 x2 H locs ls hc hz hKM hw M hl
  unfold wp_X7_pushFrame_57 at hw
  refine lv_aload_n X.1 X.2.1 dX7_pushFrame_57 rfl (lv_at hl 0 rfl) ?_
  refine lv_dup X.1 X.2.1 dX7_pushFrame_58 rfl ?_
  obtain ⟨hk36, hw⟩ := hw
  refine mx_geti (C := RX7) (F := TX7) (N := 8) (ci := 9) X M 1 rfl in_X7 (by decide) rfl (by decide) kw_158 dX7_pushFrame_59 hk36 ?_
  refine lv_iconst (v := 1) X.1 X.2.1 dX7_pushFrame_62 (by decide) ?_
  refine lv_iadd X.1 X.2.1 dX7_pushFrame_63 ?_
  refine my_puti (C := RX7) (F := TX7) (N := 8) (ci := 9) X M 1 rfl in_X7 tyX7 tyX7_ok nmX7 (by decide) rfl (by decide) kw_158 (Or.inl rfl) dX7_pushFrame_64 hk36 rfl rfl (fun μ37 H locs eμ37 M => ?_)
  replace hw := hw μ37 eμ37
  have hKM38 : KM μ0 μ37 := by rw [eμ37]; exact hKM
  have hk39 : kd μ37 o = 10 := by rw [eμ37]; exact hk36
  refine lv_aload_n X.1 X.2.1 dX7_pushFrame_67 rfl (lv_at hl 2 rfl) ?_
  refine lv_aload_n X.1 X.2.1 dX7_pushFrame_68 rfl (lv_at hl 1 rfl) ?_
  obtain ⟨hk40, hw⟩ := hw
  refine my_putr (C := RX1) (F := TX1) (N := 7) (ci := 3) X M 1 rfl in_X1 tyX1 tyX1_ok nmX1 (by decide) rfl (by decide) kw_552 (Or.inl rfl) dX7_pushFrame_69 hk40 (some x1) (mq_no _ _) (mq_fo _ _) (fun μ41 H locs eμ41 M => ?_)
  replace hw := hw μ41 eμ41
  have hKM42 : KM μ0 μ41 := by rw [eμ41]; exact hKM38
  have hk43 : kd μ41 o = 10 := by rw [eμ41]; exact hk39
  have hk44 : kd μ41 x2 = 4 := by rw [eμ41]; exact hk40
  refine lv_aload_n X.1 X.2.1 dX7_pushFrame_72 rfl (lv_at hl 2 rfl) ?_
  refine lv_aload_n X.1 X.2.1 dX7_pushFrame_73 rfl (lv_at hl 0 rfl) ?_
  obtain ⟨x45, ex45, hw⟩ := hw
  refine mx_getr (C := RX7) (F := TX7) (N := 8) (ci := 9) X M 4 rfl in_X7 (by decide) rfl (by decide) kw_163 dX7_pushFrame_74 hk43 ?_
  rw [ex45]
  obtain ⟨hk49, hw⟩ := hw
  have hw47 := hw
  clear hw
  refine mx_ci M (mx_runV (n := 0) (As := []) (rest := [.ref x2]) X M (c_X4_size l T B μ41 x45 _ hw47) (mx_recv (C := RX4) (F := TX4) (N := 2) (ci := 6) X M rfl (by decide) hk49) kw_577 kw_578 kw_579 kw_69 kw_580 (by decide +kernel) rfl rfl ⟨Nat.le_of_ble_eq_true rfl, Nat.le_of_ble_eq_true rfl⟩ rfl hl.1 (Nat.le_of_ble_eq_true rfl) dX7_pushFrame_77 ⟨(show cells + 0 ≤ cT by omega), (show slots + 0 ≤ zT by omega)⟩) (fun r48 μ46 H locs ⟨hw, hKM46⟩ M => ?_)
  replace hw := hw hKM46
  have hKM46_ := hKM42.tr hKM46
  have hk50 := hKM46.at hk43
  have hk51 := hKM46.at hk44
  have hk52 := hKM46.at hk49
  have hc : (cells + 0) + (c) ≤ cT := by omega
  have hz : (slots + 0) + (z) ≤ zT := by omega
  refine my_puti (C := RX1) (F := TX1) (N := 7) (ci := 3) X M 2 rfl in_X1 tyX1 tyX1_ok nmX1 (by decide) rfl (by decide) kw_553 (Or.inl rfl) dX7_pushFrame_80 hk51 rfl rfl (fun μ53 H locs eμ53 M => ?_)
  replace hw := hw μ53 eμ53
  have hKM54 : KM μ0 μ53 := by rw [eμ53]; exact hKM46_
  have hk55 : kd μ53 o = 10 := by rw [eμ53]; exact hk50
  have hk56 : kd μ53 x2 = 4 := by rw [eμ53]; exact hk51
  have hk57 : kd μ53 x45 = 7 := by rw [eμ53]; exact hk52
  refine lv_aload_n X.1 X.2.1 dX7_pushFrame_83 rfl (lv_at hl 2 rfl) ?_
  refine lv_null X.1 X.2.1 dX7_pushFrame_84 ?_
  refine my_putr (C := RX1) (F := TX1) (N := 7) (ci := 3) X M 3 rfl in_X1 tyX1 tyX1_ok nmX1 (by decide) rfl (by decide) kw_554 (Or.inl rfl) dX7_pushFrame_85 hk56 none (mq_no _ _) (mq_fo _ _) (fun μ58 H locs eμ58 M => ?_)
  replace hw := hw μ58 eμ58
  have hKM59 : KM μ0 μ58 := by rw [eμ58]; exact hKM54
  have hk60 : kd μ58 o = 10 := by rw [eμ58]; exact hk55
  have hk61 : kd μ58 x2 = 4 := by rw [eμ58]; exact hk56
  have hk62 : kd μ58 x45 = 7 := by rw [eμ58]; exact hk57
  refine lv_aload_n X.1 X.2.1 dX7_pushFrame_88 rfl (lv_at hl 2 rfl) ?_
  refine lv_null X.1 X.2.1 dX7_pushFrame_89 ?_
  refine my_putr (C := RX1) (F := TX1) (N := 7) (ci := 3) X M 4 rfl in_X1 tyX1 tyX1_ok nmX1 (by decide) rfl (by decide) kw_556 (Or.inl rfl) dX7_pushFrame_90 hk61 none (mq_no _ _) (mq_fo _ _) (fun μ63 H locs eμ63 M => ?_)
  replace hw := hw μ63 eμ63
  have hKM64 : KM μ0 μ63 := by rw [eμ63]; exact hKM59
  have hk65 : kd μ63 o = 10 := by rw [eμ63]; exact hk60
  have hk66 : kd μ63 x2 = 4 := by rw [eμ63]; exact hk61
  have hk67 : kd μ63 x45 = 7 := by rw [eμ63]; exact hk62
  refine lv_aload_n X.1 X.2.1 dX7_pushFrame_93 rfl (lv_at hl 2 rfl) ?_
  refine lv_aload_n X.1 X.2.1 dX7_pushFrame_94 rfl (lv_at hl 0 rfl) ?_
  refine mx_geti (C := RX7) (F := TX7) (N := 8) (ci := 9) X M 3 rfl in_X7 (by decide) rfl (by decide) kw_161 dX7_pushFrame_95 hk65 ?_
  refine my_puti (C := RX1) (F := TX1) (N := 7) (ci := 3) X M 6 rfl in_X1 tyX1 tyX1_ok nmX1 (by decide) rfl (by decide) kw_559 (Or.inl rfl) dX7_pushFrame_98 hk66 rfl rfl (fun μ68 H locs eμ68 M => ?_)
  replace hw := hw μ68 eμ68
  have hKM69 : KM μ0 μ68 := by rw [eμ68]; exact hKM64
  have hk70 : kd μ68 o = 10 := by rw [eμ68]; exact hk65
  have hk71 : kd μ68 x2 = 4 := by rw [eμ68]; exact hk66
  have hk72 : kd μ68 x45 = 7 := by rw [eμ68]; exact hk67
  refine lv_iconst (v := 0) X.1 X.2.1 dX7_pushFrame_101 (by decide) ?_
  refine lv_istore_n (lv' := [(3, .int 0), (0, .ref o), (1, .ref x1), (2, .ref x2)]) X.1 X.2.1 dX7_pushFrame_102 rfl hl (by decide) rfl (fun ls hl => ?_)
  obtain ⟨n90, hw⟩ := hw
  exact b_X7_pushFrame_103 X hr hk n90 _ _ _ _ μ68 x1 x2 0 _ _ _ (by omega) (by omega) hKM69 hw M (lv_sub hl [1, 2, 3, 0] rfl)
set_option maxRecDepth 100000 in
set_option maxHeartbeats 4000000 in
theorem c_X7_pushFrame (l : Launch) (T : Tb) (B : Nat) (c z : Nat) (μ : Mem) (o : Nat) (a1 : Nat) (post : Option Nat → Mem → Prop) (hw : wp_X7_pushFrame c z μ o a1 post) : Met l yX7_pushFrame (.code yX7_pushFrame cX7_pushFrame 4 (some (.object "RedoMachine$Frame")) :: G) (rm_X7_pushFrame c z) (Pm (Rl T B) T B μ [.ref o, .ref a1]) (va_Qq (fun r9 μ9 => post r9 μ9 ∧ KM μ μ9) (Bm (Rl T B)) (Ai B)) c z (Ai B) := by
  refine mx_of RX7 rfl (by decide) (Nat.le_of_ble_eq_true rfl) ?_
  intro p e s m below meth c0 X hr hk hnm M ls hl
  have hl : lv_has ls 4 [(0, .ref o), (1, .ref a1)] := hl
  unfold wp_X7_pushFrame at hw
  have hKM : KM μ μ := KM.rf μ
  have hc : 0 + c ≤ c := by omega
  have hz : 0 + z ≤ z := by omega
  refine lv_aload_n X.1 X.2.1 dX7_pushFrame_0 rfl (lv_at hl 0 rfl) ?_
  obtain ⟨hk1, hw⟩ := hw
  refine mx_geti (C := RX7) (F := TX7) (N := 8) (ci := 9) X M 1 rfl in_X7 (by decide) rfl (by decide) kw_158 dX7_pushFrame_1 hk1 ?_
  refine lv_aload_n X.1 X.2.1 dX7_pushFrame_4 rfl (lv_at hl 0 rfl) ?_
  obtain ⟨x2, ex2, hw⟩ := hw
  refine mx_getr (C := RX7) (F := TX7) (N := 8) (ci := 9) X M 0 rfl in_X7 (by decide) rfl (by decide) kw_157 dX7_pushFrame_5 hk1 ?_
  rw [ex2]
  obtain ⟨hk6, hw⟩ := hw
  have hw4 := hw
  clear hw
  refine mx_ci M (mx_runV (n := 0) (As := []) (rest := [.int (fi μ 9 1 o)]) X M (c_Jx4a65c_size_8abf5 l T B μ x2 _ hw4) (mx_recv (C := RJx4a65c) (F := TJx4a65c) (N := 3) (ci := 1) X M rfl (by decide) hk6) kw_539 kw_328 kw_329 kw_66 kw_330 (by decide +kernel) rfl rfl ⟨Nat.le_of_ble_eq_true rfl, Nat.le_of_ble_eq_true rfl⟩ rfl hl.1 (Nat.le_of_ble_eq_true rfl) dX7_pushFrame_8 ⟨(show 0 + 0 ≤ c by omega), (show 0 + 0 ≤ z by omega)⟩) (fun r5 μ3 H locs ⟨hw, hKM3⟩ M => ?_)
  replace hw := hw hKM3
  have hKM3_ := hKM.tr hKM3
  have hk7 := hKM3.at hk1
  have hk8 := hKM3.at hk6
  have hc : (0 + 0) + (c) ≤ c := by omega
  have hz : (0 + 0) + (z) ≤ z := by omega
  have hw10 := hw
  clear hw
  refine mx_ci M (mx_runSN (n := 2) (As := [.int (fi μ 9 1 o), .int r5]) (rest := []) X M (c_X10_within l T B μ3 (fi μ 9 1 o) r5 _ hw10) kw_540 kw_338 kw_63 kw_339 (by decide +kernel) rfl rfl ⟨Nat.le_of_ble_eq_true rfl, Nat.le_of_ble_eq_true rfl⟩ rfl hl.1 (Nat.le_of_ble_eq_true rfl) dX7_pushFrame_11 ⟨(show (0 + 0) + 0 ≤ c by omega), (show (0 + 0) + 0 ≤ z by omega)⟩) (fun r11 μ9 H locs ⟨hw, hKM9⟩ M => ?_)
  replace hw := hw hKM9
  have hKM9_ := hKM3_.tr hKM9
  have hk12 := hKM9.at hk7
  have hk13 := hKM9.at hk8
  have hc : ((0 + 0) + 0) + (c) ≤ c := by omega
  have hz : ((0 + 0) + 0) + (z) ≤ z := by omega
  obtain ⟨hwt, hwf⟩ := hw
  refine lv_if_eq (tgt := 35) X.1 X.2.1 dX7_pushFrame_14 (by decide) (fun hq => ?_) (fun hq => ?_)
  · have hw := hwt hq
    obtain ⟨hb1, hb2, hw⟩ := hw
    refine my_new (C := RX1) (F := TX1) (N := 7) (ci := 3) X M rfl in_X1 tyX1 tyX1_ok df_X1 (by decide) kw_542 kw_543 kw_85 dX7_pushFrame_35 (show ((0 + 0) + 0) + 1 ≤ c by omega) (show ((0 + 0) + 0) + 7 ≤ z by omega) (fun q14 μ15 H hq14 eμ15 M => ?_)
    replace hw := hw q14 μ15 hq14 eμ15
    have hKM16 : KM μ μ15 := by rw [eμ15]; exact hKM9_.tr (KM_nob hq14)
    have hk17 : kd μ15 o = 10 := by rw [eμ15]; exact (KM_nob hq14).at hk12
    have hk18 : kd μ15 x2 = 2 := by rw [eμ15]; exact (KM_nob hq14).at hk13
    have hk19 : kd μ15 q14 = 4 := by rw [eμ15]; exact kd_nob
    have hc : (((0 + 0) + 0) + 1) + (c - 1) ≤ c := by omega
    have hz : (((0 + 0) + 0) + 7) + (z - 7) ≤ z := by omega
    refine lv_dup X.1 X.2.1 dX7_pushFrame_38 rfl ?_
    refine lv_aload_n X.1 X.2.1 dX7_pushFrame_39 rfl (lv_at hl 0 rfl) ?_
    refine mx_geti (C := RX7) (F := TX7) (N := 8) (ci := 9) X M 1 rfl in_X7 (by decide) rfl (by decide) kw_158 dX7_pushFrame_40 hk17 ?_
    refine lv_aload_n X.1 X.2.1 dX7_pushFrame_43 rfl (lv_at hl 1 rfl) ?_
    have hw21 := hw
    clear hw
    refine mx_cv M (mx_runI (n := 2) (As := [.int (fi μ15 9 1 o), .ref a1]) (rest := [.ref q14]) X M (c_X1_init l T B μ15 q14 (fi μ15 9 1 o) a1 _ hw21) kw_544 kw_545 rfl kw_85 kw_546 (by decide +kernel) rfl rfl ⟨Nat.le_of_ble_eq_true rfl, Nat.le_of_ble_eq_true rfl⟩ rfl hl.1 (Nat.le_of_ble_eq_true rfl) dX7_pushFrame_44 ⟨(show (((0 + 0) + 0) + 1) + 0 ≤ c by omega), (show (((0 + 0) + 0) + 7) + 0 ≤ z by omega)⟩) (fun μ20 H locs ⟨hw, hKM20⟩ M => ?_)
    replace hw := hw hKM20
    have hKM20_ := hKM16.tr hKM20
    have hk22 := hKM20.at hk17
    have hk23 := hKM20.at hk18
    have hk24 := hKM20.at hk19
    have hc : ((((0 + 0) + 0) + 1) + 0) + (c - 1) ≤ c := by omega
    have hz : ((((0 + 0) + 0) + 7) + 0) + (z - 7) ≤ z := by omega
    refine lv_astore_n (lv' := [(2, .ref q14), (0, .ref o), (1, .ref a1)]) X.1 X.2.1 dX7_pushFrame_47 rfl hl (by decide) rfl (fun ls hl => ?_)
    refine lv_aload_n X.1 X.2.1 dX7_pushFrame_48 rfl (lv_at hl 1 rfl) ?_
    obtain ⟨x25, ex25, hw⟩ := hw
    refine mx_getr (C := RX7) (F := TX7) (N := 8) (ci := 9) X M 0 rfl in_X7 (by decide) rfl (by decide) kw_157 dX7_pushFrame_49 hk22 ?_
    rw [ex25]
    refine lv_aload_n X.1 X.2.1 dX7_pushFrame_52 rfl (lv_at hl 0 rfl) ?_
    obtain ⟨hk31, hw⟩ := hw
    obtain ⟨c27, z28, hc27, hz28, hw⟩ := hw
    have hw29 := hw
    clear hw
    refine mx_ci M (mx_runV (n := 1) (As := [.ref q14]) (rest := []) X M (c_Jx4a65c_add_9ea2d l T B c27 z28 μ20 x25 q14 _ hw29) (mx_recv (C := RJx4a65c) (F := TJx4a65c) (N := 3) (ci := 1) X M rfl (by decide) hk31) kw_576 kw_371 kw_372 kw_66 kw_373 (by decide +kernel) rfl rfl ⟨Nat.le_of_ble_eq_true rfl, Nat.le_of_ble_eq_true rfl⟩ rfl hl.1 (Nat.le_of_ble_eq_true rfl) dX7_pushFrame_53 ⟨(show ((((0 + 0) + 0) + 1) + 0) + c27 ≤ c by omega), (show ((((0 + 0) + 0) + 7) + 0) + z28 ≤ z by omega)⟩) (fun r30 μ26 H locs ⟨hw, hKM26⟩ M => ?_)
    replace hw := hw hKM26
    have hKM26_ := hKM20_.tr hKM26
    have hk32 := hKM26.at hk22
    have hk33 := hKM26.at hk23
    have hk34 := hKM26.at hk24
    have hk35 := hKM26.at hk31
    have hc : (((((0 + 0) + 0) + 1) + 0) + c27) + ((c - 1) - c27) ≤ c := by omega
    have hz : (((((0 + 0) + 0) + 7) + 0) + z28) + ((z - 7) - z28) ≤ z := by omega
    refine lv_pop X.1 X.2.1 dX7_pushFrame_56 rfl ?_
    exact b_X7_pushFrame_57 X hr hk _ _ _ _ μ26 a1 q14 _ _ _ (by omega) (by omega) hKM26_ hw M (lv_sub hl [1, 2, 0] rfl)
  · have hw := hwf hq
    refine lv_aload_n X.1 X.2.1 dX7_pushFrame_17 rfl (lv_at hl 0 rfl) ?_
    obtain ⟨x91, ex91, hw⟩ := hw
    refine mx_getr (C := RX7) (F := TX7) (N := 8) (ci := 9) X M 0 rfl in_X7 (by decide) rfl (by decide) kw_157 dX7_pushFrame_18 hk12 ?_
    rw [ex91]
    refine lv_aload_n X.1 X.2.1 dX7_pushFrame_21 rfl (lv_at hl 0 rfl) ?_
    refine mx_geti (C := RX7) (F := TX7) (N := 8) (ci := 9) X M 1 rfl in_X7 (by decide) rfl (by decide) kw_158 dX7_pushFrame_22 hk12 ?_
    obtain ⟨hk95, hw⟩ := hw
    have hw93 := hw
    clear hw
    refine mx_cq M (mx_runV (n := 1) (As := [.int (fi μ9 9 1 o)]) (rest := []) X M (c_Jx4a65c_get_915e3 l T B μ9 x91 (fi μ9 9 1 o) _ hw93) (mx_recv (C := RJx4a65c) (F := TJx4a65c) (N := 3) (ci := 1) X M rfl (by decide) hk95) kw_541 kw_475 kw_476 kw_66 kw_477 (by decide +kernel) rfl rfl ⟨Nat.le_of_ble_eq_true rfl, Nat.le_of_ble_eq_true rfl⟩ rfl hl.1 (Nat.le_of_ble_eq_true rfl) dX7_pushFrame_25 ⟨(show ((0 + 0) + 0) + 0 ≤ c by omega), (show ((0 + 0) + 0) + 0 ≤ z by omega)⟩) (fun r94 μ92 H locs ⟨hw, hKM92⟩ M => ?_)
    replace hw := hw hKM92
    have hKM92_ := hKM9_.tr hKM92
    have hk96 := hKM92.at hk12
    have hk97 := hKM92.at hk13
    have hk98 := hKM92.at hk95
    have hc : (((0 + 0) + 0) + 0) + (c) ≤ c := by omega
    have hz : (((0 + 0) + 0) + 0) + (z) ≤ z := by omega
    obtain ⟨x99, ex99, hw⟩ := hw
    subst ex99
    have hl : lv_has ls 4 [(0, .ref o), (1, .ref a1)] := hl
    obtain ⟨hk100, hw⟩ := hw
    refine va_castY (C := RX1) X.1 X.2.1 X.2.2.2.1 (X.2.2.2.2.1 _ kw_542) (X.2.2.2.2.2.1.2.1 _ kw_1513) (mx_recv (C := RX1) (F := TX1) (N := 7) (ci := 3) X M rfl (by decide) hk100) dX7_pushFrame_28 ?_
    refine lv_astore_n (lv' := [(2, .ref x99), (0, .ref o), (1, .ref a1)]) X.1 X.2.1 dX7_pushFrame_31 rfl hl (by decide) rfl (fun ls hl => ?_)
    refine lv_goto (tgt := 57) X.1 X.2.1 dX7_pushFrame_32 (by decide) ?_
    exact b_X7_pushFrame_57 X hr hk _ _ _ _ μ92 a1 x99 _ _ _ (by omega) (by omega) hKM92_ hw M (lv_sub hl [1, 2, 0] rfl)

abbrev rm_X7_pushRedo (c z : Nat) : Room := { frames := 7, cells := c, slots := z, locals := 171 }
def wp_X7_pushRedo_56 (o : Nat) (post : Mem → Prop) (c z : Nat) (μ : Mem) (x1 : Nat) (x2 : Int32) (x3 : Int32) (x4 : Nat) : Prop :=
  kd μ o = 10 ∧
  ∀ μ37 : Mem, μ37 = sfi μ 9 3 o ((fi μ 9 3 o) + 1) →
  kd μ37 x4 = 9 ∧
  ∀ μ41 : Mem, μ41 = sfr μ37 8 0 x4 (some x1) →
  ∀ μ45 : Mem, μ45 = sfi μ41 8 1 x4 x2 →
  ∀ μ49 : Mem, μ49 = sfi μ45 8 2 x4 0 →
  ∀ μ53 : Mem, μ53 = sfi μ49 8 3 x4 (fi μ49 9 1 o) →
  ∃ x57, fr μ53 9 4 o = some x57 ∧
  kd μ53 x57 = 7 ∧
  wp_X4_size μ53 x57 (fun (r60 : Int32) (μ58 : Mem) =>
  KM μ53 μ58 →
  ∀ μ65 : Mem, μ65 = sfi μ58 8 4 x4 r60 →
  ∃ x70, fr μ65 9 5 o = some x70 ∧
  kd μ65 x70 = 7 ∧
  wp_X4_size μ65 x70 (fun (r73 : Int32) (μ71 : Mem) =>
  KM μ65 μ71 →
  ∀ μ79 : Mem, μ79 = sfi μ71 8 5 x4 r73 →
  ∀ μ85 : Mem, μ85 = sfi μ79 8 6 x4 x3 →
  wp_X7_noteSize μ85 o (fun (μ91 : Mem) =>
  KM μ85 μ91 →
  post μ91)))
def wp_X7_pushRedo (c z : Nat) (μ : Mem) (o : Nat) (a1 : Nat) (a2 : Int32) (a3 : Int32) (post : Mem → Prop) : Prop :=
  kd μ o = 10 ∧
  ∃ x2, fr μ 9 2 o = some x2 ∧
  kd μ x2 = 2 ∧
  wp_Jx4a65c_size_8abf5 μ x2 (fun (r5 : Int32) (μ3 : Mem) =>
  KM μ μ3 →
  wp_X10_within μ3 (fi μ 9 3 o) r5 (fun (r11 : Int32) (μ9 : Mem) =>
  KM μ3 μ9 →
  (r11 = 0 →
   1 ≤ c ∧ 7 ≤ z ∧ ∀ (q14 : Nat) (μ15 : Mem), kd μ9 q14 = 0 → μ15 = nob μ9 8 q14 →
   wp_X6_init μ15 q14 a1 (fun (μ20 : Mem) =>
   KM μ15 μ20 →
   ∃ x25, fr μ20 9 2 o = some x25 ∧
   kd μ20 x25 = 2 ∧
   ∃ c27 z28, c27 ≤ c - 1 ∧ z28 ≤ z - 7 ∧
   wp_Jx4a65c_add_9ea2d c27 z28 μ20 x25 q14 (fun (r30 : Int32) (μ26 : Mem) =>
   KM μ20 μ26 →
   wp_X7_pushRedo_56 o post ((c - 1) - c27) ((z - 7) - z28) μ26 a1 a2 a3 q14))) ∧ (¬ r11 = 0 →
   ∃ x97, fr μ9 9 2 o = some x97 ∧
   kd μ9 x97 = 2 ∧
   wp_Jx4a65c_get_915e3 μ9 x97 (fi μ9 9 3 o) (fun (r100 : Option Nat) (μ98 : Mem) =>
   KM μ9 μ98 →
   ∃ x105, r100 = some x105 ∧
   kd μ98 x105 = 9 ∧
   wp_X7_pushRedo_56 o post c z μ98 a1 a2 a3 x105))))
set_option maxRecDepth 100000 in
set_option maxHeartbeats 4000000 in
theorem b_X7_pushRedo_56 {T : Tb} {B : Nat} {p : Program} {l : Launch} {e : Env} {s : State} {m : MethodId} {args : Array Value} {below : List Frame} {meth : Method} {c0 : Code} {post : Mem → Prop} {μ0 : Mem} {o : Nat} {cT zT : Nat} (X : CX T B p m c0 cX7_pushRedo 5 s args RX7) (hr : meth.sig.returnType = none) (hk : meth.locks = false) : ∀ (c z cells slots : Nat) (μ : Mem) (x1 : Nat) (x2 : Int32) (x3 : Int32) (x4 : Nat) (H : Heap) (locs : List Loc) (ls : Array Slot), cells + c ≤ cT → slots + z ≤ zT → KM μ0 μ → wp_X7_pushRedo_56 o post c z μ x1 x2 x3 x4 → MG (Rl T B) B s μ H locs → lv_has ls 5 [(0, .ref o), (1, .ref x1), (2, .int x2), (3, .int x3), (4, .ref x4)] → W p l e (rm_X7_pushRedo cT zT) s m args below meth c0 H locs cells slots (MQ below (va_Qv (fun μ9 => post μ9 ∧ KM μ0 μ9) (Bm (Rl T B)) (Ai B)) args s cT zT (Ai B)) (F0 m 56 ls []) := by
  intro c z cells slots μ x1 x2 x3 x4 H locs ls hc hz hKM hw M hl
  unfold wp_X7_pushRedo_56 at hw
  refine lv_aload_n X.1 X.2.1 dX7_pushRedo_56 rfl (lv_at hl 0 rfl) ?_
  refine lv_dup X.1 X.2.1 dX7_pushRedo_57 rfl ?_
  obtain ⟨hk36, hw⟩ := hw
  refine mx_geti (C := RX7) (F := TX7) (N := 8) (ci := 9) X M 3 rfl in_X7 (by decide) rfl (by decide) kw_161 dX7_pushRedo_58 hk36 ?_
  refine lv_iconst (v := 1) X.1 X.2.1 dX7_pushRedo_61 (by decide) ?_
  refine lv_iadd X.1 X.2.1 dX7_pushRedo_62 ?_
  refine my_puti (C := RX7) (F := TX7) (N := 8) (ci := 9) X M 3 rfl in_X7 tyX7 tyX7_ok nmX7 (by decide) rfl (by decide) kw_161 (Or.inl rfl) dX7_pushRedo_63 hk36 rfl rfl (fun μ37 H locs eμ37 M => ?_)
  replace hw := hw μ37 eμ37
  have hKM38 : KM μ0 μ37 := by rw [eμ37]; exact hKM
  have hk39 : kd μ37 o = 10 := by rw [eμ37]; exact hk36
  refine lv_aload X.1 X.2.1 dX7_pushRedo_66 (lv_at hl 4 rfl) ?_
  refine lv_aload_n X.1 X.2.1 dX7_pushRedo_68 rfl (lv_at hl 1 rfl) ?_
  obtain ⟨hk40, hw⟩ := hw
  refine my_putr (C := RX6) (F := TX6) (N := 7) (ci := 8) X M 0 rfl in_X6 tyX6 tyX6_ok nmX6 (by decide) rfl (by decide) kw_780 (Or.inl rfl) dX7_pushRedo_69 hk40 (some x1) (mq_no _ _) (mq_fo _ _) (fun μ41 H locs eμ41 M => ?_)
  replace hw := hw μ41 eμ41
  have hKM42 : KM μ0 μ41 := by rw [eμ41]; exact hKM38
  have hk43 : kd μ41 o = 10 := by rw [eμ41]; exact hk39
  have hk44 : kd μ41 x4 = 9 := by rw [eμ41]; exact hk40
  refine lv_aload X.1 X.2.1 dX7_pushRedo_72 (lv_at hl 4 rfl) ?_
  refine lv_iload_n X.1 X.2.1 dX7_pushRedo_74 rfl (lv_at hl 2 rfl) ?_
  refine my_puti (C := RX6) (F := TX6) (N := 7) (ci := 8) X M 1 rfl in_X6 tyX6 tyX6_ok nmX6 (by decide) rfl (by decide) kw_782 (Or.inl rfl) dX7_pushRedo_75 hk44 rfl rfl (fun μ45 H locs eμ45 M => ?_)
  replace hw := hw μ45 eμ45
  have hKM46 : KM μ0 μ45 := by rw [eμ45]; exact hKM42
  have hk47 : kd μ45 o = 10 := by rw [eμ45]; exact hk43
  have hk48 : kd μ45 x4 = 9 := by rw [eμ45]; exact hk44
  refine lv_aload X.1 X.2.1 dX7_pushRedo_78 (lv_at hl 4 rfl) ?_
  refine lv_iconst (v := 0) X.1 X.2.1 dX7_pushRedo_80 (by decide) ?_
  refine my_puti (C := RX6) (F := TX6) (N := 7) (ci := 8) X M 2 rfl in_X6 tyX6 tyX6_ok nmX6 (by decide) rfl (by decide) kw_784 (Or.inl rfl) dX7_pushRedo_81 hk48 (by decide) (by decide) (fun μ49 H locs eμ49 M => ?_)
  replace hw := hw μ49 eμ49
  have hKM50 : KM μ0 μ49 := by rw [eμ49]; exact hKM46
  have hk51 : kd μ49 o = 10 := by rw [eμ49]; exact hk47
  have hk52 : kd μ49 x4 = 9 := by rw [eμ49]; exact hk48
  refine lv_aload X.1 X.2.1 dX7_pushRedo_84 (lv_at hl 4 rfl) ?_
  refine lv_aload_n X.1 X.2.1 dX7_pushRedo_86 rfl (lv_at hl 0 rfl) ?_
  refine mx_geti (C := RX7) (F := TX7) (N := 8) (ci := 9) X M 1 rfl in_X7 (by decide) rfl (by decide) kw_158 dX7_pushRedo_87 hk51 ?_
  refine my_puti (C := RX6) (F := TX6) (N := 7) (ci := 8) X M 3 rfl in_X6 tyX6 tyX6_ok nmX6 (by decide) rfl (by decide) kw_786 (Or.inl rfl) dX7_pushRedo_90 hk52 rfl rfl (fun μ53 H locs eμ53 M => ?_)
  replace hw := hw μ53 eμ53
  have hKM54 : KM μ0 μ53 := by rw [eμ53]; exact hKM50
  have hk55 : kd μ53 o = 10 := by rw [eμ53]; exact hk51
  have hk56 : kd μ53 x4 = 9 := by rw [eμ53]; exact hk52
  refine lv_aload X.1 X.2.1 dX7_pushRedo_93 (lv_at hl 4 rfl) ?_
  refine lv_aload_n X.1 X.2.1 dX7_pushRedo_95 rfl (lv_at hl 0 rfl) ?_
  obtain ⟨x57, ex57, hw⟩ := hw
  refine mx_getr (C := RX7) (F := TX7) (N := 8) (ci := 9) X M 4 rfl in_X7 (by decide) rfl (by decide) kw_163 dX7_pushRedo_96 hk55 ?_
  rw [ex57]
  obtain ⟨hk61, hw⟩ := hw
  have hw59 := hw
  clear hw
  refine mx_ci M (mx_runV (n := 0) (As := []) (rest := [.ref x4]) X M (c_X4_size l T B μ53 x57 _ hw59) (mx_recv (C := RX4) (F := TX4) (N := 2) (ci := 6) X M rfl (by decide) hk61) kw_577 kw_578 kw_579 kw_69 kw_580 (by decide +kernel) rfl rfl ⟨Nat.le_of_ble_eq_true rfl, Nat.le_of_ble_eq_true rfl⟩ rfl hl.1 (Nat.le_of_ble_eq_true rfl) dX7_pushRedo_99 ⟨(show cells + 0 ≤ cT by omega), (show slots + 0 ≤ zT by omega)⟩) (fun r60 μ58 H locs ⟨hw, hKM58⟩ M => ?_)
  replace hw := hw hKM58
  have hKM58_ := hKM54.tr hKM58
  have hk62 := hKM58.at hk55
  have hk63 := hKM58.at hk56
  have hk64 := hKM58.at hk61
  have hc : (cells + 0) + (c) ≤ cT := by omega
  have hz : (slots + 0) + (z) ≤ zT := by omega
  refine my_puti (C := RX6) (F := TX6) (N := 7) (ci := 8) X M 4 rfl in_X6 tyX6 tyX6_ok nmX6 (by decide) rfl (by decide) kw_787 (Or.inl rfl) dX7_pushRedo_102 hk63 rfl rfl (fun μ65 H locs eμ65 M => ?_)
  replace hw := hw μ65 eμ65
  have hKM66 : KM μ0 μ65 := by rw [eμ65]; exact hKM58_
  have hk67 : kd μ65 o = 10 := by rw [eμ65]; exact hk62
  have hk68 : kd μ65 x4 = 9 := by rw [eμ65]; exact hk63
  have hk69 : kd μ65 x57 = 7 := by rw [eμ65]; exact hk64
  refine lv_aload X.1 X.2.1 dX7_pushRedo_105 (lv_at hl 4 rfl) ?_
  refine lv_aload_n X.1 X.2.1 dX7_pushRedo_107 rfl (lv_at hl 0 rfl) ?_
  obtain ⟨x70, ex70, hw⟩ := hw
  refine mx_getr (C := RX7) (F := TX7) (N := 8) (ci := 9) X M 5 rfl in_X7 (by decide) rfl (by decide) kw_164 dX7_pushRedo_108 hk67 ?_
  rw [ex70]
  obtain ⟨hk74, hw⟩ := hw
  have hw72 := hw
  clear hw
  refine mx_ci M (mx_runV (n := 0) (As := []) (rest := [.ref x4]) X M (c_X4_size l T B μ65 x70 _ hw72) (mx_recv (C := RX4) (F := TX4) (N := 2) (ci := 6) X M rfl (by decide) hk74) kw_577 kw_578 kw_579 kw_69 kw_580 (by decide +kernel) rfl rfl ⟨Nat.le_of_ble_eq_true rfl, Nat.le_of_ble_eq_true rfl⟩ rfl hl.1 (Nat.le_of_ble_eq_true rfl) dX7_pushRedo_111 ⟨(show (cells + 0) + 0 ≤ cT by omega), (show (slots + 0) + 0 ≤ zT by omega)⟩) (fun r73 μ71 H locs ⟨hw, hKM71⟩ M => ?_)
  replace hw := hw hKM71
  have hKM71_ := hKM66.tr hKM71
  have hk75 := hKM71.at hk67
  have hk76 := hKM71.at hk68
  have hk77 := hKM71.at hk69
  have hk78 := hKM71.at hk74
  have hc : ((cells + 0) + 0) + (c) ≤ cT := by omega
  have hz : ((slots + 0) + 0) + (z) ≤ zT := by omega
  refine my_puti (C := RX6) (F := TX6) (N := 7) (ci := 8) X M 5 rfl in_X6 tyX6 tyX6_ok nmX6 (by decide) rfl (by decide) kw_788 (Or.inl rfl) dX7_pushRedo_114 hk76 rfl rfl (fun μ79 H locs eμ79 M => ?_)
  replace hw := hw μ79 eμ79
  have hKM80 : KM μ0 μ79 := by rw [eμ79]; exact hKM71_
  have hk81 : kd μ79 o = 10 := by rw [eμ79]; exact hk75
  have hk82 : kd μ79 x4 = 9 := by rw [eμ79]; exact hk76
  have hk83 : kd μ79 x57 = 7 := by rw [eμ79]; exact hk77
  have hk84 : kd μ79 x70 = 7 := by rw [eμ79]; exact hk78
  refine lv_aload X.1 X.2.1 dX7_pushRedo_117 (lv_at hl 4 rfl) ?_
  refine lv_iload_n X.1 X.2.1 dX7_pushRedo_119 rfl (lv_at hl 3 rfl) ?_
  refine my_puti (C := RX6) (F := TX6) (N := 7) (ci := 8) X M 6 rfl in_X6 tyX6 tyX6_ok nmX6 (by decide) rfl (by decide) kw_789 (Or.inl rfl) dX7_pushRedo_120 hk82 rfl rfl (fun μ85 H locs eμ85 M => ?_)
  replace hw := hw μ85 eμ85
  have hKM86 : KM μ0 μ85 := by rw [eμ85]; exact hKM80
  have hk87 : kd μ85 o = 10 := by rw [eμ85]; exact hk81
  have hk88 : kd μ85 x4 = 9 := by rw [eμ85]; exact hk82
  have hk89 : kd μ85 x57 = 7 := by rw [eμ85]; exact hk83
  have hk90 : kd μ85 x70 = 7 := by rw [eμ85]; exact hk84
  refine lv_aload_n X.1 X.2.1 dX7_pushRedo_123 rfl (lv_at hl 0 rfl) ?_
  have hw92 := hw
  clear hw
  refine mx_cv M (mx_runV (n := 0) (As := []) (rest := []) X M (c_X7_noteSize l T B μ85 o _ hw92) (mx_recv (C := RX7) (F := TX7) (N := 8) (ci := 9) X M rfl (by decide) hk87) kw_594 kw_596 kw_7 kw_68 kw_597 (by decide +kernel) rfl rfl ⟨Nat.le_of_ble_eq_true rfl, Nat.le_of_ble_eq_true rfl⟩ rfl hl.1 (Nat.le_of_ble_eq_true rfl) dX7_pushRedo_124 ⟨(show ((cells + 0) + 0) + 0 ≤ cT by omega), (show ((slots + 0) + 0) + 0 ≤ zT by omega)⟩) (fun μ91 H locs ⟨hw, hKM91⟩ M => ?_)
  replace hw := hw hKM91
  have hKM91_ := hKM86.tr hKM91
  have hk93 := hKM91.at hk87
  have hk94 := hKM91.at hk88
  have hk95 := hKM91.at hk89
  have hk96 := hKM91.at hk90
  have hc : (((cells + 0) + 0) + 0) + (c) ≤ cT := by omega
  have hz : (((slots + 0) + 0) + 0) + (z) ≤ zT := by omega
  exact mx_vret X hr hk M dX7_pushRedo_127 (by omega) (by omega) ⟨hw, hKM91_⟩
set_option maxRecDepth 100000 in
set_option maxHeartbeats 4000000 in
theorem c_X7_pushRedo (l : Launch) (T : Tb) (B : Nat) (c z : Nat) (μ : Mem) (o : Nat) (a1 : Nat) (a2 : Int32) (a3 : Int32) (post : Mem → Prop) (hw : wp_X7_pushRedo c z μ o a1 a2 a3 post) : Met l yX7_pushRedo (.code yX7_pushRedo cX7_pushRedo 5 none :: G) (rm_X7_pushRedo c z) (Pm (Rl T B) T B μ [.ref o, .ref a1, .int a2, .int a3]) (va_Qv (fun μ9 => post μ9 ∧ KM μ μ9) (Bm (Rl T B)) (Ai B)) c z (Ai B) := by
  refine mx_of RX7 rfl (by decide) (Nat.le_of_ble_eq_true rfl) ?_
  intro p e s m below meth c0 X hr hk hnm M ls hl
  have hl : lv_has ls 5 [(0, .ref o), (1, .ref a1), (2, .int a2), (3, .int a3)] := hl
  unfold wp_X7_pushRedo at hw
  have hKM : KM μ μ := KM.rf μ
  have hc : 0 + c ≤ c := by omega
  have hz : 0 + z ≤ z := by omega
  refine lv_aload_n X.1 X.2.1 dX7_pushRedo_0 rfl (lv_at hl 0 rfl) ?_
  obtain ⟨hk1, hw⟩ := hw
  refine mx_geti (C := RX7) (F := TX7) (N := 8) (ci := 9) X M 3 rfl in_X7 (by decide) rfl (by decide) kw_161 dX7_pushRedo_1 hk1 ?_
  refine lv_aload_n X.1 X.2.1 dX7_pushRedo_4 rfl (lv_at hl 0 rfl) ?_
  obtain ⟨x2, ex2, hw⟩ := hw
  refine mx_getr (C := RX7) (F := TX7) (N := 8) (ci := 9) X M 2 rfl in_X7 (by decide) rfl (by decide) kw_160 dX7_pushRedo_5 hk1 ?_
  rw [ex2]
  obtain ⟨hk6, hw⟩ := hw
  have hw4 := hw
  clear hw
  refine mx_ci M (mx_runV (n := 0) (As := []) (rest := [.int (fi μ 9 3 o)]) X M (c_Jx4a65c_size_8abf5 l T B μ x2 _ hw4) (mx_recv (C := RJx4a65c) (F := TJx4a65c) (N := 3) (ci := 1) X M rfl (by decide) hk6) kw_539 kw_328 kw_329 kw_66 kw_330 (by decide +kernel) rfl rfl ⟨Nat.le_of_ble_eq_true rfl, Nat.le_of_ble_eq_true rfl⟩ rfl hl.1 (Nat.le_of_ble_eq_true rfl) dX7_pushRedo_8 ⟨(show 0 + 0 ≤ c by omega), (show 0 + 0 ≤ z by omega)⟩) (fun r5 μ3 H locs ⟨hw, hKM3⟩ M => ?_)
  replace hw := hw hKM3
  have hKM3_ := hKM.tr hKM3
  have hk7 := hKM3.at hk1
  have hk8 := hKM3.at hk6
  have hc : (0 + 0) + (c) ≤ c := by omega
  have hz : (0 + 0) + (z) ≤ z := by omega
  have hw10 := hw
  clear hw
  refine mx_ci M (mx_runSN (n := 2) (As := [.int (fi μ 9 3 o), .int r5]) (rest := []) X M (c_X10_within l T B μ3 (fi μ 9 3 o) r5 _ hw10) kw_540 kw_338 kw_63 kw_339 (by decide +kernel) rfl rfl ⟨Nat.le_of_ble_eq_true rfl, Nat.le_of_ble_eq_true rfl⟩ rfl hl.1 (Nat.le_of_ble_eq_true rfl) dX7_pushRedo_11 ⟨(show (0 + 0) + 0 ≤ c by omega), (show (0 + 0) + 0 ≤ z by omega)⟩) (fun r11 μ9 H locs ⟨hw, hKM9⟩ M => ?_)
  replace hw := hw hKM9
  have hKM9_ := hKM3_.tr hKM9
  have hk12 := hKM9.at hk7
  have hk13 := hKM9.at hk8
  have hc : ((0 + 0) + 0) + (c) ≤ c := by omega
  have hz : ((0 + 0) + 0) + (z) ≤ z := by omega
  obtain ⟨hwt, hwf⟩ := hw
  refine lv_if_eq (tgt := 36) X.1 X.2.1 dX7_pushRedo_14 (by decide) (fun hq => ?_) (fun hq => ?_)
  · have hw := hwt hq
    obtain ⟨hb1, hb2, hw⟩ := hw
    refine my_new (C := RX6) (F := TX6) (N := 7) (ci := 8) X M rfl in_X6 tyX6 tyX6_ok df_X6 (by decide) kw_611 kw_774 kw_87 dX7_pushRedo_36 (show ((0 + 0) + 0) + 1 ≤ c by omega) (show ((0 + 0) + 0) + 7 ≤ z by omega) (fun q14 μ15 H hq14 eμ15 M => ?_)
    replace hw := hw q14 μ15 hq14 eμ15
    have hKM16 : KM μ μ15 := by rw [eμ15]; exact hKM9_.tr (KM_nob hq14)
    have hk17 : kd μ15 o = 10 := by rw [eμ15]; exact (KM_nob hq14).at hk12
    have hk18 : kd μ15 x2 = 2 := by rw [eμ15]; exact (KM_nob hq14).at hk13
    have hk19 : kd μ15 q14 = 9 := by rw [eμ15]; exact kd_nob
    have hc : (((0 + 0) + 0) + 1) + (c - 1) ≤ c := by omega
    have hz : (((0 + 0) + 0) + 7) + (z - 7) ≤ z := by omega
    refine lv_dup X.1 X.2.1 dX7_pushRedo_39 rfl ?_
    refine lv_aload_n X.1 X.2.1 dX7_pushRedo_40 rfl (lv_at hl 1 rfl) ?_
    have hw21 := hw
    clear hw
    refine mx_cv M (mx_runI (n := 1) (As := [.ref a1]) (rest := [.ref q14]) X M (c_X6_init l T B μ15 q14 a1 _ hw21) kw_775 kw_776 rfl kw_87 kw_777 (by decide +kernel) rfl rfl ⟨Nat.le_of_ble_eq_true rfl, Nat.le_of_ble_eq_true rfl⟩ rfl hl.1 (Nat.le_of_ble_eq_true rfl) dX7_pushRedo_41 ⟨(show (((0 + 0) + 0) + 1) + 0 ≤ c by omega), (show (((0 + 0) + 0) + 7) + 0 ≤ z by omega)⟩) (fun μ20 H locs ⟨hw, hKM20⟩ M => ?_)
    replace hw := hw hKM20
    have hKM20_ := hKM16.tr hKM20
    have hk22 := hKM20.at hk17
    have hk23 := hKM20.at hk18
    have hk24 := hKM20.at hk19
    have hc : ((((0 + 0) + 0) + 1) + 0) + (c - 1) ≤ c := by omega
    have hz : ((((0 + 0) + 0) + 7) + 0) + (z - 7) ≤ z := by omega
    refine lv_astore (lv' := [(4, .ref q14), (0, .ref o), (1, .ref a1), (2, .int a2), (3, .int a3)]) X.1 X.2.1 dX7_pushRedo_44 hl (by decide) rfl (fun ls hl => ?_)
    refine lv_aload_n X.1 X.2.1 dX7_pushRedo_46 rfl (lv_at hl 1 rfl) ?_
    obtain ⟨x25, ex25, hw⟩ := hw
    refine mx_getr (C := RX7) (F := TX7) (N := 8) (ci := 9) X M 2 rfl in_X7 (by decide) rfl (by decide) kw_160 dX7_pushRedo_47 hk22 ?_
    rw [ex25]
    refine lv_aload X.1 X.2.1 dX7_pushRedo_50 (lv_at hl 0 rfl) ?_
    obtain ⟨hk31, hw⟩ := hw
    obtain ⟨c27, z28, hc27, hz28, hw⟩ := hw
    have hw29 := hw
    clear hw
    refine mx_ci M (mx_runV (n := 1) (As := [.ref q14]) (rest := []) X M (c_Jx4a65c_add_9ea2d l T B c27 z28 μ20 x25 q14 _ hw29) (mx_recv (C := RJx4a65c) (F := TJx4a65c) (N := 3) (ci := 1) X M rfl (by decide) hk31) kw_576 kw_371 kw_372 kw_66 kw_373 (by decide +kernel) rfl rfl ⟨Nat.le_of_ble_eq_true rfl, Nat.le_of_ble_eq_true rfl⟩ rfl hl.1 (Nat.le_of_ble_eq_true rfl) dX7_pushRedo_52 ⟨(show ((((0 + 0) + 0) + 1) + 0) + c27 ≤ c by omega), (show ((((0 + 0) + 0) + 7) + 0) + z28 ≤ z by omega)⟩) (fun r30 μ26 H locs ⟨hw, hKM26⟩ M => ?_)
    replace hw := hw hKM26
    have hKM26_ := hKM20_.tr hKM26
    have hk32 := hKM26.at hk22
    have hk33 := hKM26.at hk23
    have hk34 := hKM26.at hk24
    have hk35 := hKM26.at hk31
    have hc : (((((0 + 0) + 0) + 1) + 0) + c27) + ((c - 1) - c27) ≤ c := by omega
    have hz : (((((0 + 0) + 0) + 7) + 0) + z28) + ((z - 7) - z28) ≤ z := by omega
    refine lv_pop X.1 X.2.1 dX7_pushRedo_55 rfl ?_
    exact b_X7_pushRedo_56 X hr hk _ _ _ _ μ26 a1 a2 a3 q14 _ _ _ (by omega) (by omega) hKM26_ hw M (lv_sub hl [1, 2, 3, 4, 0] rfl)
  · have hw := hwf hq
    refine lv_aload_n X.1 X.2.1 dX7_pushRedo_17 rfl (lv_at hl 0 rfl) ?_
    obtain ⟨x97, ex97, hw⟩ := hw
    refine mx_getr (C := RX7) (F := TX7) (N := 8) (ci := 9) X M 2 rfl in_X7 (by decide) rfl (by decide) kw_160 dX7_pushRedo_18 hk12 ?_
    rw [ex97]
    refine lv_aload_n X.1 X.2.1 dX7_pushRedo_21 rfl (lv_at hl 0 rfl) ?_
    refine mx_geti (C := RX7) (F := TX7) (N := 8) (ci := 9) X M 3 rfl in_X7 (by decide) rfl (by decide) kw_161 dX7_pushRedo_22 hk12 ?_
    obtain ⟨hk101, hw⟩ := hw
    have hw99 := hw
    clear hw
    refine mx_cq M (mx_runV (n := 1) (As := [.int (fi μ9 9 3 o)]) (rest := []) X M (c_Jx4a65c_get_915e3 l T B μ9 x97 (fi μ9 9 3 o) _ hw99) (mx_recv (C := RJx4a65c) (F := TJx4a65c) (N := 3) (ci := 1) X M rfl (by decide) hk101) kw_541 kw_475 kw_476 kw_66 kw_477 (by decide +kernel) rfl rfl ⟨Nat.le_of_ble_eq_true rfl, Nat.le_of_ble_eq_true rfl⟩ rfl hl.1 (Nat.le_of_ble_eq_true rfl) dX7_pushRedo_25 ⟨(show ((0 + 0) + 0) + 0 ≤ c by omega), (show ((0 + 0) + 0) + 0 ≤ z by omega)⟩) (fun r100 μ98 H locs ⟨hw, hKM98⟩ M => ?_)
    replace hw := hw hKM98
    have hKM98_ := hKM9_.tr hKM98
    have hk102 := hKM98.at hk12
    have hk103 := hKM98.at hk13
    have hk104 := hKM98.at hk101
    have hc : (((0 + 0) + 0) + 0) + (c) ≤ c := by omega
    have hz : (((0 + 0) + 0) + 0) + (z) ≤ z := by omega
    obtain ⟨x105, ex105, hw⟩ := hw
    subst ex105
    have hl : lv_has ls 5 [(0, .ref o), (1, .ref a1), (2, .int a2), (3, .int a3)] := hl
    obtain ⟨hk106, hw⟩ := hw
    refine va_castY (C := RX6) X.1 X.2.1 X.2.2.2.1 (X.2.2.2.2.1 _ kw_611) (X.2.2.2.2.2.1.2.1 _ kw_1514) (mx_recv (C := RX6) (F := TX6) (N := 7) (ci := 8) X M rfl (by decide) hk106) dX7_pushRedo_28 ?_
    refine lv_astore (lv' := [(4, .ref x105), (0, .ref o), (1, .ref a1), (2, .int a2), (3, .int a3)]) X.1 X.2.1 dX7_pushRedo_31 hl (by decide) rfl (fun ls hl => ?_)
    refine lv_goto (tgt := 56) X.1 X.2.1 dX7_pushRedo_33 (by decide) ?_
    exact b_X7_pushRedo_56 X hr hk _ _ _ _ μ98 a1 a2 a3 x105 _ _ _ (by omega) (by omega) hKM98_ hw M (lv_sub hl [1, 2, 3, 4, 0] rfl)

abbrev rm_X7_redoAt : Room := { frames := 3, cells := 0, slots := 0, locals := 64 }
def wp_X7_redoAt (μ : Mem) (o : Nat) (a1 : Int32) (post : Option Nat → Mem → Prop) : Prop :=
  kd μ o = 10 ∧
  wp_X10_within μ a1 (fi μ 9 3 o) (fun (r4 : Int32) (μ2 : Mem) =>
  KM μ μ2 →
  (r4 = 0 →
   post none μ2) ∧ (¬ r4 = 0 →
   ∃ x6, fr μ2 9 2 o = some x6 ∧
   kd μ2 x6 = 2 ∧
   wp_Jx4a65c_size_8abf5 μ2 x6 (fun (r9 : Int32) (μ7 : Mem) =>
   KM μ2 μ7 →
   (r9 ≤ a1 →
    post none μ7) ∧ (¬ r9 ≤ a1 →
    ∃ x13, fr μ7 9 2 o = some x13 ∧
    kd μ7 x13 = 2 ∧
    wp_Jx4a65c_get_915e3 μ7 x13 a1 (fun (r16 : Option Nat) (μ14 : Mem) =>
    KM μ7 μ14 →
    ∃ x21, r16 = some x21 ∧
    kd μ14 x21 = 9 ∧
    post (some x21) μ14)))))
set_option maxRecDepth 100000 in
set_option maxHeartbeats 4000000 in
theorem c_X7_redoAt (l : Launch) (T : Tb) (B : Nat) (μ : Mem) (o : Nat) (a1 : Int32) (post : Option Nat → Mem → Prop) (hw : wp_X7_redoAt μ o a1 post) : Met l yX7_redoAt (.code yX7_redoAt cX7_redoAt 2 (some (.object "RedoMachine$Redo")) :: G) rm_X7_redoAt (Pm (Rl T B) T B μ [.ref o, .int a1]) (va_Qq (fun r9 μ9 => post r9 μ9 ∧ KM μ μ9) (Bm (Rl T B)) (Ai B)) 0 0 (Ai B) := by
  refine mx_of RX7 rfl (by decide) (Nat.le_of_ble_eq_true rfl) ?_
  intro p e s m below meth c0 X hr hk hnm M ls hl
  have hl : lv_has ls 2 [(0, .ref o), (1, .int a1)] := hl
  unfold wp_X7_redoAt at hw
  have hKM : KM μ μ := KM.rf μ
  refine lv_iload_n X.1 X.2.1 dX7_redoAt_0 rfl (lv_at hl 1 rfl) ?_
  refine lv_aload_n X.1 X.2.1 dX7_redoAt_1 rfl (lv_at hl 0 rfl) ?_
  obtain ⟨hk1, hw⟩ := hw
  refine mx_geti (C := RX7) (F := TX7) (N := 8) (ci := 9) X M 3 rfl in_X7 (by decide) rfl (by decide) kw_161 dX7_redoAt_2 hk1 ?_
  have hw3 := hw
  clear hw
  refine mx_ci M (mx_runSN (n := 2) (As := [.int a1, .int (fi μ 9 3 o)]) (rest := []) X M (c_X10_within l T B μ a1 (fi μ 9 3 o) _ hw3) kw_540 kw_338 kw_63 kw_339 (by decide +kernel) rfl rfl ⟨Nat.le_of_ble_eq_true rfl, Nat.le_of_ble_eq_true rfl⟩ rfl hl.1 (Nat.le_of_ble_eq_true rfl) dX7_redoAt_5 ⟨by decide, by decide⟩) (fun r4 μ2 H locs ⟨hw, hKM2⟩ M => ?_)
  replace hw := hw hKM2
  have hKM2_ := hKM.tr hKM2
  have hk5 := hKM2.at hk1
  obtain ⟨hwt, hwf⟩ := hw
  refine lv_if_eq (tgt := 36) X.1 X.2.1 dX7_redoAt_8 (by decide) (fun hq => ?_) (fun hq => ?_)
  · have hw := hwt hq
    refine lv_null X.1 X.2.1 dX7_redoAt_36 ?_
    exact mx_aret (r := none) X hr (Or.inl ⟨_, rfl⟩) hk M dX7_redoAt_37 (by decide) (by decide) ⟨hw, hKM2_⟩
  · have hw := hwf hq
    refine lv_iload_n X.1 X.2.1 dX7_redoAt_11 rfl (lv_at hl 1 rfl) ?_
    refine lv_aload_n X.1 X.2.1 dX7_redoAt_12 rfl (lv_at hl 0 rfl) ?_
    obtain ⟨x6, ex6, hw⟩ := hw
    refine mx_getr (C := RX7) (F := TX7) (N := 8) (ci := 9) X M 2 rfl in_X7 (by decide) rfl (by decide) kw_160 dX7_redoAt_13 hk5 ?_
    rw [ex6]
    obtain ⟨hk10, hw⟩ := hw
    have hw8 := hw
    clear hw
    refine mx_ci M (mx_runV (n := 0) (As := []) (rest := [.int a1]) X M (c_Jx4a65c_size_8abf5 l T B μ2 x6 _ hw8) (mx_recv (C := RJx4a65c) (F := TJx4a65c) (N := 3) (ci := 1) X M rfl (by decide) hk10) kw_539 kw_328 kw_329 kw_66 kw_330 (by decide +kernel) rfl rfl ⟨Nat.le_of_ble_eq_true rfl, Nat.le_of_ble_eq_true rfl⟩ rfl hl.1 (Nat.le_of_ble_eq_true rfl) dX7_redoAt_16 ⟨by decide, by decide⟩) (fun r9 μ7 H locs ⟨hw, hKM7⟩ M => ?_)
    replace hw := hw hKM7
    have hKM7_ := hKM2_.tr hKM7
    have hk11 := hKM7.at hk5
    have hk12 := hKM7.at hk10
    obtain ⟨hwt, hwf⟩ := hw
    refine lv_icmp_ge (tgt := 36) X.1 X.2.1 dX7_redoAt_19 (by decide) (fun hq => ?_) (fun hq => ?_)
    · have hw := hwt hq
      refine lv_null X.1 X.2.1 dX7_redoAt_36 ?_
      exact mx_aret (r := none) X hr (Or.inl ⟨_, rfl⟩) hk M dX7_redoAt_37 (by decide) (by decide) ⟨hw, hKM7_⟩
    · have hw := hwf hq
      refine lv_aload_n X.1 X.2.1 dX7_redoAt_22 rfl (lv_at hl 0 rfl) ?_
      obtain ⟨x13, ex13, hw⟩ := hw
      refine mx_getr (C := RX7) (F := TX7) (N := 8) (ci := 9) X M 2 rfl in_X7 (by decide) rfl (by decide) kw_160 dX7_redoAt_23 hk11 ?_
      rw [ex13]
      refine lv_iload_n X.1 X.2.1 dX7_redoAt_26 rfl (lv_at hl 1 rfl) ?_
      obtain ⟨hk17, hw⟩ := hw
      have hw15 := hw
      clear hw
      refine mx_cq M (mx_runV (n := 1) (As := [.int a1]) (rest := []) X M (c_Jx4a65c_get_915e3 l T B μ7 x13 a1 _ hw15) (mx_recv (C := RJx4a65c) (F := TJx4a65c) (N := 3) (ci := 1) X M rfl (by decide) hk17) kw_541 kw_475 kw_476 kw_66 kw_477 (by decide +kernel) rfl rfl ⟨Nat.le_of_ble_eq_true rfl, Nat.le_of_ble_eq_true rfl⟩ rfl hl.1 (Nat.le_of_ble_eq_true rfl) dX7_redoAt_27 ⟨by decide, by decide⟩) (fun r16 μ14 H locs ⟨hw, hKM14⟩ M => ?_)
      replace hw := hw hKM14
      have hKM14_ := hKM7_.tr hKM14
      have hk18 := hKM14.at hk11
      have hk19 := hKM14.at hk12
      have hk20 := hKM14.at hk17
      obtain ⟨x21, ex21, hw⟩ := hw
      subst ex21
      have hl : lv_has ls 2 [(0, .ref o), (1, .int a1)] := hl
      obtain ⟨hk22, hw⟩ := hw
      refine va_castY (C := RX6) X.1 X.2.1 X.2.2.2.1 (X.2.2.2.2.1 _ kw_611) (X.2.2.2.2.2.1.2.1 _ kw_1514) (mx_recv (C := RX6) (F := TX6) (N := 7) (ci := 8) X M rfl (by decide) hk22) dX7_redoAt_30 ?_
      refine lv_goto (tgt := 37) X.1 X.2.1 dX7_redoAt_33 (by decide) ?_
      exact mx_aret (r := (some x21)) X hr (Or.inl ⟨_, rfl⟩) hk M dX7_redoAt_37 (by decide) (by decide) ⟨hw, hKM14_⟩

abbrev rm_X7_read : Room := { frames := 2, cells := 0, slots := 0, locals := 42 }
def wp_X7_read (μ : Mem) (o : Nat) (a1 : Nat) (a2 : Int32) (post : Int64 → Mem → Prop) : Prop :=
  kd μ o = 10 ∧
  ∃ x2, fr μ 9 4 o = some x2 ∧
  kd μ a1 = 4 ∧
  kd μ x2 = 7 ∧
  wp_X4_at μ x2 ((fi μ 3 2 a1) + a2) (fun (r6 : Int64) (μ4 : Mem) =>
  KM μ μ4 →
  post r6 μ4)
set_option maxRecDepth 100000 in
set_option maxHeartbeats 4000000 in
theorem c_X7_read (l : Launch) (T : Tb) (B : Nat) (μ : Mem) (o : Nat) (a1 : Nat) (a2 : Int32) (post : Int64 → Mem → Prop) (hw : wp_X7_read μ o a1 a2 post) : Met l yX7_read (.code yX7_read cX7_read 3 (some .long) :: G) rm_X7_read (Pm (Rl T B) T B μ [.ref o, .ref a1, .int a2]) (va_Ql (fun r9 μ9 => post r9 μ9 ∧ KM μ μ9) (Bm (Rl T B)) (Ai B)) 0 0 (Ai B) := by
  refine mx_of RX7 rfl (by decide) (Nat.le_of_ble_eq_true rfl) ?_
  intro p e s m below meth c0 X hr hk hnm M ls hl
  have hl : lv_has ls 3 [(0, .ref o), (1, .ref a1), (2, .int a2)] := hl
  unfold wp_X7_read at hw
  have hKM : KM μ μ := KM.rf μ
  refine lv_aload_n X.1 X.2.1 dX7_read_0 rfl (lv_at hl 0 rfl) ?_
  obtain ⟨hk1, hw⟩ := hw
  obtain ⟨x2, ex2, hw⟩ := hw
  refine mx_getr (C := RX7) (F := TX7) (N := 8) (ci := 9) X M 4 rfl in_X7 (by decide) rfl (by decide) kw_163 dX7_read_1 hk1 ?_
  rw [ex2]
  refine lv_aload_n X.1 X.2.1 dX7_read_4 rfl (lv_at hl 1 rfl) ?_
  obtain ⟨hk3, hw⟩ := hw
  refine mx_geti (C := RX1) (F := TX1) (N := 7) (ci := 3) X M 2 rfl in_X1 (by decide) rfl (by decide) kw_553 dX7_read_5 hk3 ?_
  refine lv_iload_n X.1 X.2.1 dX7_read_8 rfl (lv_at hl 2 rfl) ?_
  refine lv_iadd X.1 X.2.1 dX7_read_9 ?_
  obtain ⟨hk7, hw⟩ := hw
  have hw5 := hw
  clear hw
  refine mx_cl M (mx_runV (n := 1) (As := [.int ((fi μ 3 2 a1) + a2)]) (rest := []) X M (c_X4_at l T B μ x2 ((fi μ 3 2 a1) + a2) _ hw5) (mx_recv (C := RX4) (F := TX4) (N := 2) (ci := 6) X M rfl (by decide) hk7) kw_612 kw_613 kw_614 kw_69 kw_615 (by decide +kernel) rfl rfl ⟨Nat.le_of_ble_eq_true rfl, Nat.le_of_ble_eq_true rfl⟩ rfl hl.1 (Nat.le_of_ble_eq_true rfl) dX7_read_10 ⟨by decide, by decide⟩) (fun r6 μ4 H locs ⟨hw, hKM4⟩ M => ?_)
  replace hw := hw hKM4
  have hKM4_ := hKM.tr hKM4
  have hk8 := hKM4.at hk1
  have hk9 := hKM4.at hk3
  have hk10 := hKM4.at hk7
  exact mx_lret X hr hk M dX7_read_13 (by decide) (by decide) ⟨hw, hKM4_⟩
