abbrev rm_X2_init (c z : Nat) : Room := { frames := 2, cells := c, slots := z, locals := 40 }
def wp_X2_init (c z : Nat) (μ : Mem) (o : Nat) (post : Mem → Prop) : Prop :=
  1 ≤ c ∧ 2 ≤ z ∧ ∀ (q1 : Nat) (μ2 : Mem), kd μ q1 = 0 → μ2 = nob μ 6 q1 →
  ∃ c6 z7, c6 ≤ c - 1 ∧ z7 ≤ z - 2 ∧
  wp_X4_init c6 z7 μ2 q1 (fun (μ5 : Mem) =>
  KM μ2 μ5 →
  kd μ5 o = 5 ∧
  ∀ μ11 : Mem, μ11 = sfr μ5 4 0 o (some q1) →
  1 ≤ (c - 1) - c6 ∧ 2 ≤ (z - 2) - z7 ∧ ∀ (q15 : Nat) (μ16 : Mem), kd μ11 q15 = 0 → μ16 = nob μ11 6 q15 →
  ∃ c22 z23, c22 ≤ ((c - 1) - c6) - 1 ∧ z23 ≤ ((z - 2) - z7) - 2 ∧
  wp_X4_init c22 z23 μ16 q15 (fun (μ21 : Mem) =>
  KM μ16 μ21 →
  ∀ μ28 : Mem, μ28 = sfr μ21 4 1 o (some q15) →
  post μ28))
set_option maxRecDepth 100000 in
set_option maxHeartbeats 4000000 in
theorem c_X2_init (l : Launch) (T : Tb) (B : Nat) (c z : Nat) (μ : Mem) (o : Nat) (post : Mem → Prop) (hw : wp_X2_init c z μ o post) : Met l yX2_init (.code yX2_init cX2_init 1 none :: G) (rm_X2_init c z) (Pm (Rl T B) T B μ [.ref o]) (va_Qv (fun μ9 => post μ9 ∧ KM μ μ9) (Bm (Rl T B)) (Ai B)) c z (Ai B) := by
  refine mx_of RX2 rfl (by decide) (Nat.le_of_ble_eq_true rfl) ?_
  intro p e s m below meth c0 X hr hk hnm M ls hl
  have hl : lv_has ls 1 [(0, .ref o)] := hl
  unfold wp_X2_init at hw
  have hKM : KM μ μ := KM.rf μ
  have hc : 0 + c ≤ c := by omega
  have hz : 0 + z ≤ z := by omega
  refine lv_aload_n X.1 X.2.1 dX2_init_0 rfl (lv_at hl 0 rfl) ?_
  refine my_obj X kw_190 kw_100 kw_101 hl.1 (Nat.le_of_ble_eq_true rfl) (Nat.le_of_ble_eq_true rfl) (Nat.le_of_ble_eq_true rfl) dX2_init_1 ?_
  refine lv_aload_n X.1 X.2.1 dX2_init_4 rfl (lv_at hl 0 rfl) ?_
  obtain ⟨hb1, hb2, hw⟩ := hw
  refine my_new (C := RX4) (F := TX4) (N := 2) (ci := 6) X M rfl in_X4 tyX4 tyX4_ok df_X4 (by decide) kw_191 kw_144 kw_69 dX2_init_5 (show 0 + 1 ≤ c by omega) (show 0 + 2 ≤ z by omega) (fun q1 μ2 H hq1 eμ2 M => ?_)
  replace hw := hw q1 μ2 hq1 eμ2
  have hKM3 : KM μ μ2 := by rw [eμ2]; exact hKM.tr (KM_nob hq1)
  have hk4 : kd μ2 q1 = 7 := by rw [eμ2]; exact kd_nob
  have hc : (0 + 1) + (c - 1) ≤ c := by omega
  have hz : (0 + 2) + (z - 2) ≤ z := by omega
  refine lv_dup X.1 X.2.1 dX2_init_8 rfl ?_
  obtain ⟨c6, z7, hc6, hz7, hw⟩ := hw
  have hw8 := hw
  clear hw
  refine mx_cv M (mx_runIN (n := 0) (As := []) (rest := [.ref q1, .ref o]) X M (c_X4_init l T B c6 z7 μ2 q1 _ hw8) kw_192 kw_146 rfl kw_69 kw_147 (by decide +kernel) rfl rfl ⟨Nat.le_of_ble_eq_true rfl, Nat.le_of_ble_eq_true rfl⟩ rfl hl.1 (Nat.le_of_ble_eq_true rfl) dX2_init_9 ⟨(show (0 + 1) + c6 ≤ c by omega), (show (0 + 2) + z7 ≤ z by omega)⟩) (fun μ5 H locs ⟨hw, hKM5⟩ M => ?_)
  replace hw := hw hKM5
  have hKM5_ := hKM3.tr hKM5
  have hk9 := hKM5.at hk4
  have hc : ((0 + 1) + c6) + ((c - 1) - c6) ≤ c := by omega
  have hz : ((0 + 2) + z7) + ((z - 2) - z7) ≤ z := by omega
  obtain ⟨hk10, hw⟩ := hw
  refine my_putr (C := RX2) (F := TX2) (N := 4) (ci := 4) X M 0 rfl in_X2 tyX2 tyX2_ok nmX2 (by decide) rfl (by decide) kw_193 (Or.inr ⟨hnm, rfl⟩) dX2_init_12 hk10 (some q1) (mq_no _ _) (mq_fo _ _) (fun μ11 H locs eμ11 M => ?_)
  replace hw := hw μ11 eμ11
  have hKM12 : KM μ μ11 := by rw [eμ11]; exact hKM5_
  have hk13 : kd μ11 q1 = 7 := by rw [eμ11]; exact hk9
  have hk14 : kd μ11 o = 5 := by rw [eμ11]; exact hk10
  refine lv_aload_n X.1 X.2.1 dX2_init_15 rfl (lv_at hl 0 rfl) ?_
  obtain ⟨hb1, hb2, hw⟩ := hw
  refine my_new (C := RX4) (F := TX4) (N := 2) (ci := 6) X M rfl in_X4 tyX4 tyX4_ok df_X4 (by decide) kw_191 kw_144 kw_69 dX2_init_16 (show ((0 + 1) + c6) + 1 ≤ c by omega) (show ((0 + 2) + z7) + 2 ≤ z by omega) (fun q15 μ16 H hq15 eμ16 M => ?_)
  replace hw := hw q15 μ16 hq15 eμ16
  have hKM17 : KM μ μ16 := by rw [eμ16]; exact hKM12.tr (KM_nob hq15)
  have hk18 : kd μ16 q1 = 7 := by rw [eμ16]; exact (KM_nob hq15).at hk13
  have hk19 : kd μ16 o = 5 := by rw [eμ16]; exact (KM_nob hq15).at hk14
  have hk20 : kd μ16 q15 = 7 := by rw [eμ16]; exact kd_nob
  have hc : (((0 + 1) + c6) + 1) + (((c - 1) - c6) - 1) ≤ c := by omega
  have hz : (((0 + 2) + z7) + 2) + (((z - 2) - z7) - 2) ≤ z := by omega
  refine lv_dup X.1 X.2.1 dX2_init_19 rfl ?_
  obtain ⟨c22, z23, hc22, hz23, hw⟩ := hw
  have hw24 := hw
  clear hw
  refine mx_cv M (mx_runIN (n := 0) (As := []) (rest := [.ref q15, .ref o]) X M (c_X4_init l T B c22 z23 μ16 q15 _ hw24) kw_192 kw_146 rfl kw_69 kw_147 (by decide +kernel) rfl rfl ⟨Nat.le_of_ble_eq_true rfl, Nat.le_of_ble_eq_true rfl⟩ rfl hl.1 (Nat.le_of_ble_eq_true rfl) dX2_init_20 ⟨(show (((0 + 1) + c6) + 1) + c22 ≤ c by omega), (show (((0 + 2) + z7) + 2) + z23 ≤ z by omega)⟩) (fun μ21 H locs ⟨hw, hKM21⟩ M => ?_)
  replace hw := hw hKM21
  have hKM21_ := hKM17.tr hKM21
  have hk25 := hKM21.at hk18
  have hk26 := hKM21.at hk19
  have hk27 := hKM21.at hk20
  have hc : ((((0 + 1) + c6) + 1) + c22) + ((((c - 1) - c6) - 1) - c22) ≤ c := by omega
  have hz : ((((0 + 2) + z7) + 2) + z23) + ((((z - 2) - z7) - 2) - z23) ≤ z := by omega
  refine my_putr (C := RX2) (F := TX2) (N := 4) (ci := 4) X M 1 rfl in_X2 tyX2 tyX2_ok nmX2 (by decide) rfl (by decide) kw_194 (Or.inr ⟨hnm, rfl⟩) dX2_init_23 hk26 (some q15) (mq_no _ _) (mq_fo _ _) (fun μ28 H locs eμ28 M => ?_)
  replace hw := hw μ28 eμ28
  have hKM29 : KM μ μ28 := by rw [eμ28]; exact hKM21_
  have hk30 : kd μ28 q1 = 7 := by rw [eμ28]; exact hk25
  have hk31 : kd μ28 o = 5 := by rw [eμ28]; exact hk26
  have hk32 : kd μ28 q15 = 7 := by rw [eμ28]; exact hk27
  exact mx_vret X hr hk M dX2_init_26 (by omega) (by omega) ⟨hw, hKM29⟩

abbrev rm_X2_clear : Room := { frames := 2, cells := 0, slots := 0, locals := 42 }
def wp_X2_clear (μ : Mem) (o : Nat) (a1 : Int32) (post : Mem → Prop) : Prop :=
  kd μ o = 5 ∧
  ∃ x2, fr μ 4 0 o = some x2 ∧
  kd μ x2 = 7 ∧
  wp_X4_shrink μ x2 0 (fun (μ3 : Mem) =>
  KM μ μ3 →
  ∀ μ8 : Mem, μ8 = sfi μ3 4 2 o a1 →
  ∀ μ12 : Mem, μ12 = sfi μ8 4 3 o 0 →
  post μ12)
set_option maxRecDepth 100000 in
set_option maxHeartbeats 4000000 in
theorem c_X2_clear (l : Launch) (T : Tb) (B : Nat) (μ : Mem) (o : Nat) (a1 : Int32) (post : Mem → Prop) (hw : wp_X2_clear μ o a1 post) : Met l yX2_clear (.code yX2_clear cX2_clear 2 none :: G) rm_X2_clear (Pm (Rl T B) T B μ [.ref o, .int a1]) (va_Qv (fun μ9 => post μ9 ∧ KM μ μ9) (Bm (Rl T B)) (Ai B)) 0 0 (Ai B) := by
  refine mx_of RX2 rfl (by decide) (Nat.le_of_ble_eq_true rfl) ?_
  intro p e s m below meth c0 X hr hk hnm M ls hl
  have hl : lv_has ls 2 [(0, .ref o), (1, .int a1)] := hl
  unfold wp_X2_clear at hw
  have hKM : KM μ μ := KM.rf μ
  refine lv_aload_n X.1 X.2.1 dX2_clear_0 rfl (lv_at hl 0 rfl) ?_
  obtain ⟨hk1, hw⟩ := hw
  obtain ⟨x2, ex2, hw⟩ := hw
  refine mx_getr (C := RX2) (F := TX2) (N := 4) (ci := 4) X M 0 rfl in_X2 (by decide) rfl (by decide) kw_193 dX2_clear_1 hk1 ?_
  rw [ex2]
  refine lv_iconst (v := 0) X.1 X.2.1 dX2_clear_4 (by decide) ?_
  obtain ⟨hk5, hw⟩ := hw
  have hw4 := hw
  clear hw
  refine mx_cv M (mx_runV (n := 1) (As := [.int 0]) (rest := []) X M (c_X4_shrink l T B μ x2 0 _ hw4) (mx_recv (C := RX4) (F := TX4) (N := 2) (ci := 6) X M rfl (by decide) hk5) kw_534 kw_526 kw_527 kw_69 kw_528 (by decide +kernel) rfl rfl ⟨Nat.le_of_ble_eq_true rfl, Nat.le_of_ble_eq_true rfl⟩ rfl hl.1 (Nat.le_of_ble_eq_true rfl) dX2_clear_5 ⟨by decide, by decide⟩) (fun μ3 H locs ⟨hw, hKM3⟩ M => ?_)
  replace hw := hw hKM3
  have hKM3_ := hKM.tr hKM3
  have hk6 := hKM3.at hk1
  have hk7 := hKM3.at hk5
  refine lv_aload_n X.1 X.2.1 dX2_clear_8 rfl (lv_at hl 0 rfl) ?_
  refine lv_iload_n X.1 X.2.1 dX2_clear_9 rfl (lv_at hl 1 rfl) ?_
  refine my_puti (C := RX2) (F := TX2) (N := 4) (ci := 4) X M 2 rfl in_X2 tyX2 tyX2_ok nmX2 (by decide) rfl (by decide) kw_195 (Or.inl rfl) dX2_clear_10 hk6 rfl rfl (fun μ8 H locs eμ8 M => ?_)
  replace hw := hw μ8 eμ8
  have hKM9 : KM μ μ8 := by rw [eμ8]; exact hKM3_
  have hk10 : kd μ8 o = 5 := by rw [eμ8]; exact hk6
  have hk11 : kd μ8 x2 = 7 := by rw [eμ8]; exact hk7
  refine lv_aload_n X.1 X.2.1 dX2_clear_13 rfl (lv_at hl 0 rfl) ?_
  refine lv_iconst (v := 0) X.1 X.2.1 dX2_clear_14 (by decide) ?_
  refine my_puti (C := RX2) (F := TX2) (N := 4) (ci := 4) X M 3 rfl in_X2 tyX2 tyX2_ok nmX2 (by decide) rfl (by decide) kw_196 (Or.inl rfl) dX2_clear_15 hk10 rfl rfl (fun μ12 H locs eμ12 M => ?_)
  replace hw := hw μ12 eμ12
  have hKM13 : KM μ μ12 := by rw [eμ12]; exact hKM9
  have hk14 : kd μ12 o = 5 := by rw [eμ12]; exact hk10
  have hk15 : kd μ12 x2 = 7 := by rw [eμ12]; exact hk11
  exact mx_vret X hr hk M dX2_clear_18 (by decide) (by decide) ⟨hw, hKM13⟩

abbrev rm_X2_used : Room := { frames := 1, cells := 0, slots := 0, locals := 20 }
def wp_X2_used (μ : Mem) (o : Nat) (post : Int32 → Mem → Prop) : Prop :=
  kd μ o = 5 ∧
  ∃ x2, fr μ 4 0 o = some x2 ∧
  kd μ x2 = 7 ∧
  wp_X4_size μ x2 (fun (r5 : Int32) (μ3 : Mem) =>
  KM μ μ3 →
  post r5 μ3)
set_option maxRecDepth 100000 in
set_option maxHeartbeats 4000000 in
theorem c_X2_used (l : Launch) (T : Tb) (B : Nat) (μ : Mem) (o : Nat) (post : Int32 → Mem → Prop) (hw : wp_X2_used μ o post) : Met l yX2_used (.code yX2_used cX2_used 1 (some .int) :: G) rm_X2_used (Pm (Rl T B) T B μ [.ref o]) (va_Qi (fun r9 μ9 => post r9 μ9 ∧ KM μ μ9) (Bm (Rl T B)) (Ai B)) 0 0 (Ai B) := by
  refine mx_of RX2 rfl (by decide) (Nat.le_of_ble_eq_true rfl) ?_
  intro p e s m below meth c0 X hr hk hnm M ls hl
  have hl : lv_has ls 1 [(0, .ref o)] := hl
  unfold wp_X2_used at hw
  have hKM : KM μ μ := KM.rf μ
  refine lv_aload_n X.1 X.2.1 dX2_used_0 rfl (lv_at hl 0 rfl) ?_
  obtain ⟨hk1, hw⟩ := hw
  obtain ⟨x2, ex2, hw⟩ := hw
  refine mx_getr (C := RX2) (F := TX2) (N := 4) (ci := 4) X M 0 rfl in_X2 (by decide) rfl (by decide) kw_193 dX2_used_1 hk1 ?_
  rw [ex2]
  obtain ⟨hk6, hw⟩ := hw
  have hw4 := hw
  clear hw
  refine mx_ci M (mx_runV (n := 0) (As := []) (rest := []) X M (c_X4_size l T B μ x2 _ hw4) (mx_recv (C := RX4) (F := TX4) (N := 2) (ci := 6) X M rfl (by decide) hk6) kw_681 kw_578 kw_579 kw_69 kw_580 (by decide +kernel) rfl rfl ⟨Nat.le_of_ble_eq_true rfl, Nat.le_of_ble_eq_true rfl⟩ rfl hl.1 (Nat.le_of_ble_eq_true rfl) dX2_used_4 ⟨by decide, by decide⟩) (fun r5 μ3 H locs ⟨hw, hKM3⟩ M => ?_)
  replace hw := hw hKM3
  have hKM3_ := hKM.tr hKM3
  have hk7 := hKM3.at hk1
  have hk8 := hKM3.at hk6
  exact mx_iret X hr hk M dX2_used_7 (by decide) (by decide) ⟨hw, hKM3_⟩

abbrev rm_X2_goBackTo : Room := { frames := 2, cells := 0, slots := 0, locals := 42 }
def wp_X2_goBackTo (μ : Mem) (o : Nat) (a1 : Int32) (post : Mem → Prop) : Prop :=
  kd μ o = 5 ∧
  ∃ x2, fr μ 4 0 o = some x2 ∧
  kd μ x2 = 7 ∧
  wp_X4_shrink μ x2 a1 (fun (μ3 : Mem) =>
  KM μ μ3 →
  post μ3)
set_option maxRecDepth 100000 in
set_option maxHeartbeats 4000000 in
theorem c_X2_goBackTo (l : Launch) (T : Tb) (B : Nat) (μ : Mem) (o : Nat) (a1 : Int32) (post : Mem → Prop) (hw : wp_X2_goBackTo μ o a1 post) : Met l yX2_goBackTo (.code yX2_goBackTo cX2_goBackTo 2 none :: G) rm_X2_goBackTo (Pm (Rl T B) T B μ [.ref o, .int a1]) (va_Qv (fun μ9 => post μ9 ∧ KM μ μ9) (Bm (Rl T B)) (Ai B)) 0 0 (Ai B) := by
  refine mx_of RX2 rfl (by decide) (Nat.le_of_ble_eq_true rfl) ?_
  intro p e s m below meth c0 X hr hk hnm M ls hl
  have hl : lv_has ls 2 [(0, .ref o), (1, .int a1)] := hl
  unfold wp_X2_goBackTo at hw
  have hKM : KM μ μ := KM.rf μ
  refine lv_aload_n X.1 X.2.1 dX2_goBackTo_0 rfl (lv_at hl 0 rfl) ?_
  obtain ⟨hk1, hw⟩ := hw
  obtain ⟨x2, ex2, hw⟩ := hw
  refine mx_getr (C := RX2) (F := TX2) (N := 4) (ci := 4) X M 0 rfl in_X2 (by decide) rfl (by decide) kw_193 dX2_goBackTo_1 hk1 ?_
  rw [ex2]
  refine lv_iload_n X.1 X.2.1 dX2_goBackTo_4 rfl (lv_at hl 1 rfl) ?_
  obtain ⟨hk5, hw⟩ := hw
  have hw4 := hw
  clear hw
  refine mx_cv M (mx_runV (n := 1) (As := [.int a1]) (rest := []) X M (c_X4_shrink l T B μ x2 a1 _ hw4) (mx_recv (C := RX4) (F := TX4) (N := 2) (ci := 6) X M rfl (by decide) hk5) kw_534 kw_526 kw_527 kw_69 kw_528 (by decide +kernel) rfl rfl ⟨Nat.le_of_ble_eq_true rfl, Nat.le_of_ble_eq_true rfl⟩ rfl hl.1 (Nat.le_of_ble_eq_true rfl) dX2_goBackTo_5 ⟨by decide, by decide⟩) (fun μ3 H locs ⟨hw, hKM3⟩ M => ?_)
  replace hw := hw hKM3
  have hKM3_ := hKM.tr hKM3
  have hk6 := hKM3.at hk1
  have hk7 := hKM3.at hk5
  exact mx_vret X hr hk M dX2_goBackTo_8 (by decide) (by decide) ⟨hw, hKM3_⟩

abbrev rm_X2_hasRoom : Room := { frames := 1, cells := 0, slots := 0, locals := 20 }
def wp_X2_hasRoom (μ : Mem) (o : Nat) (a1 : Int32) (post : Int32 → Mem → Prop) : Prop :=
  (a1 = 0 →
   post 1 μ) ∧ (¬ a1 = 0 →
   kd μ o = 5 ∧
   ∃ x2, fr μ 4 0 o = some x2 ∧
   kd μ x2 = 7 ∧
   wp_X4_size μ x2 (fun (r5 : Int32) (μ3 : Mem) =>
   KM μ μ3 →
   ((fi μ3 4 2 o) < ((r5 + 1) + a1) →
    post 0 μ3) ∧ (¬ (fi μ3 4 2 o) < ((r5 + 1) + a1) →
    post 1 μ3)))
set_option maxRecDepth 100000 in
set_option maxHeartbeats 4000000 in
theorem c_X2_hasRoom (l : Launch) (T : Tb) (B : Nat) (μ : Mem) (o : Nat) (a1 : Int32) (post : Int32 → Mem → Prop) (hw : wp_X2_hasRoom μ o a1 post) : Met l yX2_hasRoom (.code yX2_hasRoom cX2_hasRoom 2 (some .boolean) :: G) rm_X2_hasRoom (Pm (Rl T B) T B μ [.ref o, .int a1]) (va_Qi (fun r9 μ9 => post r9 μ9 ∧ KM μ μ9) (Bm (Rl T B)) (Ai B)) 0 0 (Ai B) := by
  refine mx_of RX2 rfl (by decide) (Nat.le_of_ble_eq_true rfl) ?_
  intro p e s m below meth c0 X hr hk hnm M ls hl
  have hl : lv_has ls 2 [(0, .ref o), (1, .int a1)] := hl
  unfold wp_X2_hasRoom at hw
  have hKM : KM μ μ := KM.rf μ
  refine lv_iload_n X.1 X.2.1 dX2_hasRoom_0 rfl (lv_at hl 1 rfl) ?_
  obtain ⟨hwt, hwf⟩ := hw
  refine lv_if_eq (tgt := 22) X.1 X.2.1 dX2_hasRoom_1 (by decide) (fun hq => ?_) (fun hq => ?_)
  · have hw := hwt hq
    refine lv_iconst (v := 1) X.1 X.2.1 dX2_hasRoom_22 (by decide) ?_
    refine lv_goto (tgt := 27) X.1 X.2.1 dX2_hasRoom_23 (by decide) ?_
    exact mx_zret X hr hk M dX2_hasRoom_27 (by decide) (by decide) (by decide) ⟨hw, hKM⟩
  · have hw := hwf hq
    refine lv_aload_n X.1 X.2.1 dX2_hasRoom_4 rfl (lv_at hl 0 rfl) ?_
    obtain ⟨hk1, hw⟩ := hw
    obtain ⟨x2, ex2, hw⟩ := hw
    refine mx_getr (C := RX2) (F := TX2) (N := 4) (ci := 4) X M 0 rfl in_X2 (by decide) rfl (by decide) kw_193 dX2_hasRoom_5 hk1 ?_
    rw [ex2]
    obtain ⟨hk6, hw⟩ := hw
    have hw4 := hw
    clear hw
    refine mx_ci M (mx_runV (n := 0) (As := []) (rest := []) X M (c_X4_size l T B μ x2 _ hw4) (mx_recv (C := RX4) (F := TX4) (N := 2) (ci := 6) X M rfl (by decide) hk6) kw_681 kw_578 kw_579 kw_69 kw_580 (by decide +kernel) rfl rfl ⟨Nat.le_of_ble_eq_true rfl, Nat.le_of_ble_eq_true rfl⟩ rfl hl.1 (Nat.le_of_ble_eq_true rfl) dX2_hasRoom_8 ⟨by decide, by decide⟩) (fun r5 μ3 H locs ⟨hw, hKM3⟩ M => ?_)
    replace hw := hw hKM3
    have hKM3_ := hKM.tr hKM3
    have hk7 := hKM3.at hk1
    have hk8 := hKM3.at hk6
    refine lv_iconst (v := 1) X.1 X.2.1 dX2_hasRoom_11 (by decide) ?_
    refine lv_iadd X.1 X.2.1 dX2_hasRoom_12 ?_
    refine lv_iload_n X.1 X.2.1 dX2_hasRoom_13 rfl (lv_at hl 1 rfl) ?_
    refine lv_iadd X.1 X.2.1 dX2_hasRoom_14 ?_
    refine lv_aload_n X.1 X.2.1 dX2_hasRoom_15 rfl (lv_at hl 0 rfl) ?_
    refine mx_geti (C := RX2) (F := TX2) (N := 4) (ci := 4) X M 2 rfl in_X2 (by decide) rfl (by decide) kw_195 dX2_hasRoom_16 hk7 ?_
    obtain ⟨hwt, hwf⟩ := hw
    refine lv_icmp_gt (tgt := 26) X.1 X.2.1 dX2_hasRoom_19 (by decide) (fun hq => ?_) (fun hq => ?_)
    · have hw := hwt hq
      refine lv_iconst (v := 0) X.1 X.2.1 dX2_hasRoom_26 (by decide) ?_
      exact mx_zret X hr hk M dX2_hasRoom_27 (by decide) (by decide) (by decide) ⟨hw, hKM3_⟩
    · have hw := hwf hq
      refine lv_iconst (v := 1) X.1 X.2.1 dX2_hasRoom_22 (by decide) ?_
      refine lv_goto (tgt := 27) X.1 X.2.1 dX2_hasRoom_23 (by decide) ?_
      exact mx_zret X hr hk M dX2_hasRoom_27 (by decide) (by decide) (by decide) ⟨hw, hKM3_⟩

abbrev rm_X2_open (c z : Nat) : Room := { frames := 3, cells := c, slots := z, locals := 84 }
def wp_X2_open (c z : Nat) (μ : Mem) (o : Nat) (a1 : Int32) (a2 : Int32) (post : Int64 → Mem → Prop) : Prop :=
  (a2 = 0 →
   wp_X9_cell μ a1 0 0 (fun (r25 : Int64) (μ23 : Mem) =>
   KM μ μ23 →
   post r25 μ23)) ∧ (¬ a2 = 0 →
   kd μ o = 5 ∧
   ∃ x2, fr μ 4 0 o = some x2 ∧
   kd μ x2 = 7 ∧
   wp_X4_size μ x2 (fun (r5 : Int32) (μ3 : Mem) =>
   KM μ μ3 →
   wp_X9_cell μ3 a1 a2 r5 (fun (r11 : Int64) (μ9 : Mem) =>
   KM μ3 μ9 →
   ∃ x14, fr μ9 4 0 o = some x14 ∧
   kd μ9 x14 = 7 ∧
   ∃ c16 z17, c16 ≤ c ∧ z17 ≤ z ∧
   wp_X4_push c16 z17 μ9 x14 (Int32.toInt64 a1) (fun (μ15 : Mem) =>
   KM μ9 μ15 →
   post r11 μ15))))
set_option maxRecDepth 100000 in
set_option maxHeartbeats 4000000 in
theorem c_X2_open (l : Launch) (T : Tb) (B : Nat) (c z : Nat) (μ : Mem) (o : Nat) (a1 : Int32) (a2 : Int32) (post : Int64 → Mem → Prop) (hw : wp_X2_open c z μ o a1 a2 post) : Met l yX2_open (.code yX2_open cX2_open 5 (some .long) :: G) (rm_X2_open c z) (Pm (Rl T B) T B μ [.ref o, .int a1, .int a2]) (va_Ql (fun r9 μ9 => post r9 μ9 ∧ KM μ μ9) (Bm (Rl T B)) (Ai B)) c z (Ai B) := by
  refine mx_of RX2 rfl (by decide) (Nat.le_of_ble_eq_true rfl) ?_
  intro p e s m below meth c0 X hr hk hnm M ls hl
  have hl : lv_has ls 5 [(0, .ref o), (1, .int a1), (2, .int a2)] := hl
  unfold wp_X2_open at hw
  have hKM : KM μ μ := KM.rf μ
  have hc : 0 + c ≤ c := by omega
  have hz : 0 + z ≤ z := by omega
  refine lv_iload_n X.1 X.2.1 dX2_open_0 rfl (lv_at hl 2 rfl) ?_
  obtain ⟨hwf, hwt⟩ := hw
  refine lv_if_ne (tgt := 11) X.1 X.2.1 dX2_open_1 (by decide) (fun hq => ?_) (fun hq => ?_)
  · have hw := hwt hq
    refine lv_iload_n X.1 X.2.1 dX2_open_11 rfl (lv_at hl 1 rfl) ?_
    refine lv_iload_n X.1 X.2.1 dX2_open_12 rfl (lv_at hl 2 rfl) ?_
    refine lv_aload_n X.1 X.2.1 dX2_open_13 rfl (lv_at hl 0 rfl) ?_
    obtain ⟨hk1, hw⟩ := hw
    obtain ⟨x2, ex2, hw⟩ := hw
    refine mx_getr (C := RX2) (F := TX2) (N := 4) (ci := 4) X M 0 rfl in_X2 (by decide) rfl (by decide) kw_193 dX2_open_14 hk1 ?_
    rw [ex2]
    obtain ⟨hk6, hw⟩ := hw
    have hw4 := hw
    clear hw
    refine mx_ci M (mx_runV (n := 0) (As := []) (rest := [.int a2, .int a1]) X M (c_X4_size l T B μ x2 _ hw4) (mx_recv (C := RX4) (F := TX4) (N := 2) (ci := 6) X M rfl (by decide) hk6) kw_681 kw_578 kw_579 kw_69 kw_580 (by decide +kernel) rfl rfl ⟨Nat.le_of_ble_eq_true rfl, Nat.le_of_ble_eq_true rfl⟩ rfl hl.1 (Nat.le_of_ble_eq_true rfl) dX2_open_17 ⟨(show 0 + 0 ≤ c by omega), (show 0 + 0 ≤ z by omega)⟩) (fun r5 μ3 H locs ⟨hw, hKM3⟩ M => ?_)
    replace hw := hw hKM3
    have hKM3_ := hKM.tr hKM3
    have hk7 := hKM3.at hk1
    have hk8 := hKM3.at hk6
    have hc : (0 + 0) + (c) ≤ c := by omega
    have hz : (0 + 0) + (z) ≤ z := by omega
    have hw10 := hw
    clear hw
    refine mx_cl M (mx_runS (n := 3) (As := [.int a1, .int a2, .int r5]) (rest := []) X M (c_X9_cell l T B μ3 a1 a2 r5 _ hw10) kw_686 kw_687 kw_86 kw_688 (by decide +kernel) rfl rfl ⟨Nat.le_of_ble_eq_true rfl, Nat.le_of_ble_eq_true rfl⟩ rfl hl.1 (Nat.le_of_ble_eq_true rfl) dX2_open_20 ⟨(show (0 + 0) + 0 ≤ c by omega), (show (0 + 0) + 0 ≤ z by omega)⟩) (fun r11 μ9 H locs ⟨hw, hKM9⟩ M => ?_)
    replace hw := hw hKM9
    have hKM9_ := hKM3_.tr hKM9
    have hk12 := hKM9.at hk7
    have hk13 := hKM9.at hk8
    have hc : ((0 + 0) + 0) + (c) ≤ c := by omega
    have hz : ((0 + 0) + 0) + (z) ≤ z := by omega
    refine lv_lstore_n (lv' := [(3, .long r11), (0, .ref o), (1, .int a1), (2, .int a2)]) X.1 X.2.1 dX2_open_23 rfl hl (by decide) rfl (fun ls hl => ?_)
    refine lv_aload_n X.1 X.2.1 dX2_open_24 rfl (lv_at hl 1 rfl) ?_
    obtain ⟨x14, ex14, hw⟩ := hw
    refine mx_getr (C := RX2) (F := TX2) (N := 4) (ci := 4) X M 0 rfl in_X2 (by decide) rfl (by decide) kw_193 dX2_open_25 hk12 ?_
    rw [ex14]
    refine lv_iload_n X.1 X.2.1 dX2_open_28 rfl (lv_at hl 2 rfl) ?_
    refine lv_i2l X.1 X.2.1 dX2_open_29 rfl ?_
    obtain ⟨hk19, hw⟩ := hw
    obtain ⟨c16, z17, hc16, hz17, hw⟩ := hw
    have hw18 := hw
    clear hw
    refine mx_cv M (mx_runV (n := 1) (As := [.long (Int32.toInt64 a1)]) (rest := []) X M (c_X4_push l T B c16 z17 μ9 x14 (Int32.toInt64 a1) _ hw18) (mx_recv (C := RX4) (F := TX4) (N := 2) (ci := 6) X M rfl (by decide) hk19) kw_690 kw_582 kw_583 kw_69 kw_584 (by decide +kernel) rfl rfl ⟨Nat.le_of_ble_eq_true rfl, Nat.le_of_ble_eq_true rfl⟩ rfl hl.1 (Nat.le_of_ble_eq_true rfl) dX2_open_30 ⟨(show ((0 + 0) + 0) + c16 ≤ c by omega), (show ((0 + 0) + 0) + z17 ≤ z by omega)⟩) (fun μ15 H locs ⟨hw, hKM15⟩ M => ?_)
    replace hw := hw hKM15
    have hKM15_ := hKM9_.tr hKM15
    have hk20 := hKM15.at hk12
    have hk21 := hKM15.at hk13
    have hk22 := hKM15.at hk19
    have hc : (((0 + 0) + 0) + c16) + (c - c16) ≤ c := by omega
    have hz : (((0 + 0) + 0) + z17) + (z - z17) ≤ z := by omega
    refine lv_lload_n X.1 X.2.1 dX2_open_33 rfl (lv_at hl 0 rfl) ?_
    exact mx_lret X hr hk M dX2_open_34 (by omega) (by omega) ⟨hw, hKM15_⟩
  · have hw := hwf hq
    refine lv_iload_n X.1 X.2.1 dX2_open_4 rfl (lv_at hl 1 rfl) ?_
    refine lv_iconst (v := 0) X.1 X.2.1 dX2_open_5 (by decide) ?_
    refine lv_iconst (v := 0) X.1 X.2.1 dX2_open_6 (by decide) ?_
    have hw24 := hw
    clear hw
    refine mx_cl M (mx_runS (n := 3) (As := [.int a1, .int 0, .int 0]) (rest := []) X M (c_X9_cell l T B μ a1 0 0 _ hw24) kw_686 kw_687 kw_86 kw_688 (by decide +kernel) rfl rfl ⟨Nat.le_of_ble_eq_true rfl, Nat.le_of_ble_eq_true rfl⟩ rfl hl.1 (Nat.le_of_ble_eq_true rfl) dX2_open_7 ⟨(show 0 + 0 ≤ c by omega), (show 0 + 0 ≤ z by omega)⟩) (fun r25 μ23 H locs ⟨hw, hKM23⟩ M => ?_)
    replace hw := hw hKM23
    have hKM23_ := hKM.tr hKM23
    have hc : (0 + 0) + (c) ≤ c := by omega
    have hz : (0 + 0) + (z) ≤ z := by omega
    exact mx_lret X hr hk M dX2_open_10 (by omega) (by omega) ⟨hw, hKM23_⟩

abbrev rm_X2_fill (c z : Nat) : Room := { frames := 3, cells := c, slots := z, locals := 84 }
def wp_X2_fill (c z : Nat) (μ : Mem) (o : Nat) (a1 : Int64) (post : Mem → Prop) : Prop :=
  kd μ o = 5 ∧
  ∃ x2, fr μ 4 0 o = some x2 ∧
  kd μ x2 = 7 ∧
  ∃ c4 z5, c4 ≤ c ∧ z5 ≤ z ∧
  wp_X4_push c4 z5 μ x2 a1 (fun (μ3 : Mem) =>
  KM μ μ3 →
  ∃ x10, fr μ3 4 0 o = some x10 ∧
  kd μ3 x10 = 7 ∧
  wp_X4_size μ3 x10 (fun (r13 : Int32) (μ11 : Mem) =>
  KM μ3 μ11 →
  ∀ μ18 : Mem, μ18 = sfi μ11 4 3 o (if (fi μ3 4 3 o) < r13 then r13 else (fi μ3 4 3 o)) →
  post μ18))
set_option maxRecDepth 100000 in
set_option maxHeartbeats 4000000 in
theorem c_X2_fill (l : Launch) (T : Tb) (B : Nat) (c z : Nat) (μ : Mem) (o : Nat) (a1 : Int64) (post : Mem → Prop) (hw : wp_X2_fill c z μ o a1 post) : Met l yX2_fill (.code yX2_fill cX2_fill 3 none :: G) (rm_X2_fill c z) (Pm (Rl T B) T B μ [.ref o, .long a1]) (va_Qv (fun μ9 => post μ9 ∧ KM μ μ9) (Bm (Rl T B)) (Ai B)) c z (Ai B) := by
  refine mx_of RX2 rfl (by decide) (Nat.le_of_ble_eq_true rfl) ?_
  intro p e s m below meth c0 X hr hk hnm M ls hl
  have hl : lv_has ls 3 [(0, .ref o), (1, .long a1)] := hl
  unfold wp_X2_fill at hw
  have hKM : KM μ μ := KM.rf μ
  have hc : 0 + c ≤ c := by omega
  have hz : 0 + z ≤ z := by omega
  refine lv_aload_n X.1 X.2.1 dX2_fill_0 rfl (lv_at hl 0 rfl) ?_
  obtain ⟨hk1, hw⟩ := hw
  obtain ⟨x2, ex2, hw⟩ := hw
  refine mx_getr (C := RX2) (F := TX2) (N := 4) (ci := 4) X M 0 rfl in_X2 (by decide) rfl (by decide) kw_193 dX2_fill_1 hk1 ?_
  rw [ex2]
  refine lv_lload_n X.1 X.2.1 dX2_fill_4 rfl (lv_at hl 1 rfl) ?_
  obtain ⟨hk7, hw⟩ := hw
  obtain ⟨c4, z5, hc4, hz5, hw⟩ := hw
  have hw6 := hw
  clear hw
  refine mx_cv M (mx_runV (n := 1) (As := [.long a1]) (rest := []) X M (c_X4_push l T B c4 z5 μ x2 a1 _ hw6) (mx_recv (C := RX4) (F := TX4) (N := 2) (ci := 6) X M rfl (by decide) hk7) kw_690 kw_582 kw_583 kw_69 kw_584 (by decide +kernel) rfl rfl ⟨Nat.le_of_ble_eq_true rfl, Nat.le_of_ble_eq_true rfl⟩ rfl hl.1 (Nat.le_of_ble_eq_true rfl) dX2_fill_5 ⟨(show 0 + c4 ≤ c by omega), (show 0 + z5 ≤ z by omega)⟩) (fun μ3 H locs ⟨hw, hKM3⟩ M => ?_)
  replace hw := hw hKM3
  have hKM3_ := hKM.tr hKM3
  have hk8 := hKM3.at hk1
  have hk9 := hKM3.at hk7
  have hc : (0 + c4) + (c - c4) ≤ c := by omega
  have hz : (0 + z5) + (z - z5) ≤ z := by omega
  refine lv_aload_n X.1 X.2.1 dX2_fill_8 rfl (lv_at hl 0 rfl) ?_
  refine lv_aload_n X.1 X.2.1 dX2_fill_9 rfl (lv_at hl 0 rfl) ?_
  refine mx_geti (C := RX2) (F := TX2) (N := 4) (ci := 4) X M 3 rfl in_X2 (by decide) rfl (by decide) kw_196 dX2_fill_10 hk8 ?_
  refine lv_aload_n X.1 X.2.1 dX2_fill_13 rfl (lv_at hl 0 rfl) ?_
  obtain ⟨x10, ex10, hw⟩ := hw
  refine mx_getr (C := RX2) (F := TX2) (N := 4) (ci := 4) X M 0 rfl in_X2 (by decide) rfl (by decide) kw_193 dX2_fill_14 hk8 ?_
  rw [ex10]
  obtain ⟨hk14, hw⟩ := hw
  have hw12 := hw
  clear hw
  refine mx_ci M (mx_runV (n := 0) (As := []) (rest := [.int (fi μ3 4 3 o), .ref o]) X M (c_X4_size l T B μ3 x10 _ hw12) (mx_recv (C := RX4) (F := TX4) (N := 2) (ci := 6) X M rfl (by decide) hk14) kw_681 kw_578 kw_579 kw_69 kw_580 (by decide +kernel) rfl rfl ⟨Nat.le_of_ble_eq_true rfl, Nat.le_of_ble_eq_true rfl⟩ rfl hl.1 (Nat.le_of_ble_eq_true rfl) dX2_fill_17 ⟨(show (0 + c4) + 0 ≤ c by omega), (show (0 + z5) + 0 ≤ z by omega)⟩) (fun r13 μ11 H locs ⟨hw, hKM11⟩ M => ?_)
  replace hw := hw hKM11
  have hKM11_ := hKM3_.tr hKM11
  have hk15 := hKM11.at hk8
  have hk16 := hKM11.at hk9
  have hk17 := hKM11.at hk14
  have hc : ((0 + c4) + 0) + (c - c4) ≤ c := by omega
  have hz : ((0 + z5) + 0) + (z - z5) ≤ z := by omega
  refine my_max X kw_695 kw_309 kw_77 kw_310 hl.1 (Nat.le_of_ble_eq_true rfl) (Nat.le_of_ble_eq_true rfl) (show ((0 + c4) + 0) ≤ c by omega) (show ((0 + z5) + 0) ≤ z by omega) dX2_fill_20 ?_
  refine my_puti (C := RX2) (F := TX2) (N := 4) (ci := 4) X M 3 rfl in_X2 tyX2 tyX2_ok nmX2 (by decide) rfl (by decide) kw_196 (Or.inl rfl) dX2_fill_23 hk15 rfl rfl (fun μ18 H locs eμ18 M => ?_)
  replace hw := hw μ18 eμ18
  have hKM19 : KM μ μ18 := by rw [eμ18]; exact hKM11_
  have hk20 : kd μ18 o = 5 := by rw [eμ18]; exact hk15
  have hk21 : kd μ18 x2 = 7 := by rw [eμ18]; exact hk16
  have hk22 : kd μ18 x10 = 7 := by rw [eμ18]; exact hk17
  exact mx_vret X hr hk M dX2_fill_26 (by omega) (by omega) ⟨hw, hKM19⟩

abbrev rm_X2_field : Room := { frames := 2, cells := 0, slots := 0, locals := 42 }
def wp_X2_field (μ : Mem) (o : Nat) (a1 : Int64) (a2 : Int32) (post : Int64 → Mem → Prop) : Prop :=
  kd μ o = 5 ∧
  ∃ x2, fr μ 4 0 o = some x2 ∧
  wp_X9_place μ a1 (fun (r5 : Int32) (μ3 : Mem) =>
  KM μ μ3 →
  kd μ3 x2 = 7 ∧
  wp_X4_at μ3 x2 ((r5 + 1) + a2) (fun (r9 : Int64) (μ7 : Mem) =>
  KM μ3 μ7 →
  post r9 μ7))
set_option maxRecDepth 100000 in
set_option maxHeartbeats 4000000 in
theorem c_X2_field (l : Launch) (T : Tb) (B : Nat) (μ : Mem) (o : Nat) (a1 : Int64) (a2 : Int32) (post : Int64 → Mem → Prop) (hw : wp_X2_field μ o a1 a2 post) : Met l yX2_field (.code yX2_field cX2_field 4 (some .long) :: G) rm_X2_field (Pm (Rl T B) T B μ [.ref o, .long a1, .int a2]) (va_Ql (fun r9 μ9 => post r9 μ9 ∧ KM μ μ9) (Bm (Rl T B)) (Ai B)) 0 0 (Ai B) := by
  refine mx_of RX2 rfl (by decide) (Nat.le_of_ble_eq_true rfl) ?_
  intro p e s m below meth c0 X hr hk hnm M ls hl
  have hl : lv_has ls 4 [(0, .ref o), (1, .long a1), (3, .int a2)] := hl
  unfold wp_X2_field at hw
  have hKM : KM μ μ := KM.rf μ
  refine lv_aload_n X.1 X.2.1 dX2_field_0 rfl (lv_at hl 0 rfl) ?_
  obtain ⟨hk1, hw⟩ := hw
  obtain ⟨x2, ex2, hw⟩ := hw
  refine mx_getr (C := RX2) (F := TX2) (N := 4) (ci := 4) X M 0 rfl in_X2 (by decide) rfl (by decide) kw_193 dX2_field_1 hk1 ?_
  rw [ex2]
  refine lv_lload_n X.1 X.2.1 dX2_field_4 rfl (lv_at hl 1 rfl) ?_
  have hw4 := hw
  clear hw
  refine mx_ci M (mx_runS (n := 1) (As := [.long a1]) (rest := [.ref x2]) X M (c_X9_place l T B μ a1 _ hw4) kw_718 kw_719 kw_86 kw_720 (by decide +kernel) rfl rfl ⟨Nat.le_of_ble_eq_true rfl, Nat.le_of_ble_eq_true rfl⟩ rfl hl.1 (Nat.le_of_ble_eq_true rfl) dX2_field_5 ⟨by decide, by decide⟩) (fun r5 μ3 H locs ⟨hw, hKM3⟩ M => ?_)
  replace hw := hw hKM3
  have hKM3_ := hKM.tr hKM3
  have hk6 := hKM3.at hk1
  refine lv_iconst (v := 1) X.1 X.2.1 dX2_field_8 (by decide) ?_
  refine lv_iadd X.1 X.2.1 dX2_field_9 ?_
  refine lv_iload_n X.1 X.2.1 dX2_field_10 rfl (lv_at hl 2 rfl) ?_
  refine lv_iadd X.1 X.2.1 dX2_field_11 ?_
  obtain ⟨hk10, hw⟩ := hw
  have hw8 := hw
  clear hw
  refine mx_cl M (mx_runV (n := 1) (As := [.int ((r5 + 1) + a2)]) (rest := []) X M (c_X4_at l T B μ3 x2 ((r5 + 1) + a2) _ hw8) (mx_recv (C := RX4) (F := TX4) (N := 2) (ci := 6) X M rfl (by decide) hk10) kw_722 kw_613 kw_614 kw_69 kw_615 (by decide +kernel) rfl rfl ⟨Nat.le_of_ble_eq_true rfl, Nat.le_of_ble_eq_true rfl⟩ rfl hl.1 (Nat.le_of_ble_eq_true rfl) dX2_field_12 ⟨by decide, by decide⟩) (fun r9 μ7 H locs ⟨hw, hKM7⟩ M => ?_)
  replace hw := hw hKM7
  have hKM7_ := hKM3_.tr hKM7
  have hk11 := hKM7.at hk6
  have hk12 := hKM7.at hk10
  exact mx_lret X hr hk M dX2_field_15 (by decide) (by decide) ⟨hw, hKM7_⟩

abbrev rm_X2_awaitFields (c z : Nat) : Room := { frames := 3, cells := c, slots := z, locals := 84 }
def wp_X2_awaitFields_16 (o : Nat) (post : Mem → Prop) : Nat → Nat → Nat → Mem → Int64 → Int64 → Int32 → Prop
  | 0, _, _, _, _, _, _ => False
  | n + 1, c, z, μ, x1, x3, x5 =>
    (x5 < 0 →
     post μ) ∧ (¬ x5 < 0 →
     kd μ o = 5 ∧
     ∃ x9, fr μ 4 1 o = some x9 ∧
     wp_X2_field μ o x1 x5 (fun (r12 : Int64) (μ10 : Mem) =>
     KM μ μ10 →
     kd μ10 x9 = 7 ∧
     ∃ c15 z16, c15 ≤ c ∧ z16 ≤ z ∧
     wp_X4_push c15 z16 μ10 x9 r12 (fun (μ14 : Mem) =>
     KM μ10 μ14 →
     ∃ x21, fr μ14 4 1 o = some x21 ∧
     wp_X2_field μ14 o x3 x5 (fun (r24 : Int64) (μ22 : Mem) =>
     KM μ14 μ22 →
     kd μ22 x21 = 7 ∧
     ∃ c28 z29, c28 ≤ c - c15 ∧ z29 ≤ z - z16 ∧
     wp_X4_push c28 z29 μ22 x21 r24 (fun (μ27 : Mem) =>
     KM μ22 μ27 →
     ∀ v35 : Int32, v35 = x5 + (-1) →
     wp_X2_awaitFields_16 o post n ((c - c15) - c28) ((z - z16) - z29) μ27 x1 x3 v35)))))
def wp_X2_awaitFields (c z : Nat) (μ : Mem) (o : Nat) (a1 : Int64) (a2 : Int64) (post : Mem → Prop) : Prop :=
  wp_X9_isCell μ a1 (fun (r3 : Int32) (μ1 : Mem) =>
  KM μ μ1 →
  (r3 = 0 →
   post μ1) ∧ (¬ r3 = 0 →
   wp_X9_fields μ1 a1 (fun (r6 : Int32) (μ4 : Mem) =>
   KM μ1 μ4 →
   ∀ v7 : Int32, v7 = r6 - 1 →
   ∃ n36, wp_X2_awaitFields_16 o post n36 c z μ4 a1 a2 v7)))
set_option maxRecDepth 100000 in
set_option maxHeartbeats 4000000 in
theorem b_X2_awaitFields_16 {T : Tb} {B : Nat} {p : Program} {l : Launch} {e : Env} {s : State} {m : MethodId} {args : Array Value} {below : List Frame} {meth : Method} {c0 : Code} {post : Mem → Prop} {μ0 : Mem} {o : Nat} {cT zT : Nat} (X : CX T B p m c0 cX2_awaitFields 6 s args RX2) (hr : meth.sig.returnType = none) (hk : meth.locks = false) : ∀ (n : Nat) (c z cells slots : Nat) (μ : Mem) (x1 : Int64) (x3 : Int64) (x5 : Int32) (H : Heap) (locs : List Loc) (ls : Array Slot), cells + c ≤ cT → slots + z ≤ zT → KM μ0 μ → wp_X2_awaitFields_16 o post n c z μ x1 x3 x5 → MG (Rl T B) B s μ H locs → lv_has ls 6 [(0, .ref o), (1, .long x1), (3, .long x3), (5, .int x5)] → W p l e (rm_X2_awaitFields cT zT) s m args below meth c0 H locs cells slots (MQ below (va_Qv (fun μ9 => post μ9 ∧ KM μ0 μ9) (Bm (Rl T B)) (Ai B)) args s cT zT (Ai B)) (F0 m 16 ls []) := by
  intro n
  induction n with
  | zero =>
    intro c z cells slots μ x1 x3 x5 H locs ls hc hz hKM hw
    exact hw.elim
  | succ n ih =>
    intro c z cells slots μ x1 x3 x5 H locs ls hc hz hKM hw M hl
    rw [wp_X2_awaitFields_16] at hw
    refine lv_iload X.1 X.2.1 dX2_awaitFields_16 (lv_at hl 3 rfl) ?_
    obtain ⟨hwt, hwf⟩ := hw
    refine lv_if_lt (tgt := 55) X.1 X.2.1 dX2_awaitFields_18 (by decide) (fun hq => ?_) (fun hq => ?_)
    · have hw := hwt hq
      exact mx_vret X hr hk M dX2_awaitFields_55 (by omega) (by omega) ⟨hw, hKM⟩
    · have hw := hwf hq
      refine lv_aload_n X.1 X.2.1 dX2_awaitFields_21 rfl (lv_at hl 0 rfl) ?_
      obtain ⟨hk8, hw⟩ := hw
      obtain ⟨x9, ex9, hw⟩ := hw
      refine mx_getr (C := RX2) (F := TX2) (N := 4) (ci := 4) X M 1 rfl in_X2 (by decide) rfl (by decide) kw_194 dX2_awaitFields_22 hk8 ?_
      rw [ex9]
      refine lv_aload_n X.1 X.2.1 dX2_awaitFields_25 rfl (lv_at hl 0 rfl) ?_
      refine lv_lload_n X.1 X.2.1 dX2_awaitFields_26 rfl (lv_at hl 1 rfl) ?_
      refine lv_iload X.1 X.2.1 dX2_awaitFields_27 (lv_at hl 3 rfl) ?_
      have hw11 := hw
      clear hw
      refine mx_cl M (mx_runV (n := 2) (As := [.long x1, .int x5]) (rest := [.ref x9]) X M (c_X2_field l T B μ o x1 x5 _ hw11) (mx_recv (C := RX2) (F := TX2) (N := 4) (ci := 4) X M rfl (by decide) hk8) kw_738 kw_715 kw_716 kw_70 kw_717 (by decide +kernel) rfl rfl ⟨Nat.le_of_ble_eq_true rfl, Nat.le_of_ble_eq_true rfl⟩ rfl hl.1 (Nat.le_of_ble_eq_true rfl) dX2_awaitFields_29 ⟨(show cells + 0 ≤ cT by omega), (show slots + 0 ≤ zT by omega)⟩) (fun r12 μ10 H locs ⟨hw, hKM10⟩ M => ?_)
      replace hw := hw hKM10
      have hKM10_ := hKM.tr hKM10
      have hk13 := hKM10.at hk8
      have hc : (cells + 0) + (c) ≤ cT := by omega
      have hz : (slots + 0) + (z) ≤ zT := by omega
      obtain ⟨hk18, hw⟩ := hw
      obtain ⟨c15, z16, hc15, hz16, hw⟩ := hw
      have hw17 := hw
      clear hw
      refine mx_cv M (mx_runV (n := 1) (As := [.long r12]) (rest := []) X M (c_X4_push l T B c15 z16 μ10 x9 r12 _ hw17) (mx_recv (C := RX4) (F := TX4) (N := 2) (ci := 6) X M rfl (by decide) hk18) kw_690 kw_582 kw_583 kw_69 kw_584 (by decide +kernel) rfl rfl ⟨Nat.le_of_ble_eq_true rfl, Nat.le_of_ble_eq_true rfl⟩ rfl hl.1 (Nat.le_of_ble_eq_true rfl) dX2_awaitFields_32 ⟨(show (cells + 0) + c15 ≤ cT by omega), (show (slots + 0) + z16 ≤ zT by omega)⟩) (fun μ14 H locs ⟨hw, hKM14⟩ M => ?_)
      replace hw := hw hKM14
      have hKM14_ := hKM10_.tr hKM14
      have hk19 := hKM14.at hk13
      have hk20 := hKM14.at hk18
      have hc : ((cells + 0) + c15) + (c - c15) ≤ cT := by omega
      have hz : ((slots + 0) + z16) + (z - z16) ≤ zT := by omega
      refine lv_aload_n X.1 X.2.1 dX2_awaitFields_35 rfl (lv_at hl 0 rfl) ?_
      obtain ⟨x21, ex21, hw⟩ := hw
      refine mx_getr (C := RX2) (F := TX2) (N := 4) (ci := 4) X M 1 rfl in_X2 (by decide) rfl (by decide) kw_194 dX2_awaitFields_36 hk19 ?_
      rw [ex21]
      refine lv_aload_n X.1 X.2.1 dX2_awaitFields_39 rfl (lv_at hl 0 rfl) ?_
      refine lv_lload_n X.1 X.2.1 dX2_awaitFields_40 rfl (lv_at hl 2 rfl) ?_
      refine lv_iload X.1 X.2.1 dX2_awaitFields_41 (lv_at hl 3 rfl) ?_
      have hw23 := hw
      clear hw
      refine mx_cl M (mx_runV (n := 2) (As := [.long x3, .int x5]) (rest := [.ref x21]) X M (c_X2_field l T B μ14 o x3 x5 _ hw23) (mx_recv (C := RX2) (F := TX2) (N := 4) (ci := 4) X M rfl (by decide) hk19) kw_738 kw_715 kw_716 kw_70 kw_717 (by decide +kernel) rfl rfl ⟨Nat.le_of_ble_eq_true rfl, Nat.le_of_ble_eq_true rfl⟩ rfl hl.1 (Nat.le_of_ble_eq_true rfl) dX2_awaitFields_43 ⟨(show ((cells + 0) + c15) + 0 ≤ cT by omega), (show ((slots + 0) + z16) + 0 ≤ zT by omega)⟩) (fun r24 μ22 H locs ⟨hw, hKM22⟩ M => ?_)
      replace hw := hw hKM22
      have hKM22_ := hKM14_.tr hKM22
      have hk25 := hKM22.at hk19
      have hk26 := hKM22.at hk20
      have hc : (((cells + 0) + c15) + 0) + (c - c15) ≤ cT := by omega
      have hz : (((slots + 0) + z16) + 0) + (z - z16) ≤ zT := by omega
      obtain ⟨hk31, hw⟩ := hw
      obtain ⟨c28, z29, hc28, hz29, hw⟩ := hw
      have hw30 := hw
      clear hw
      refine mx_cv M (mx_runV (n := 1) (As := [.long r24]) (rest := []) X M (c_X4_push l T B c28 z29 μ22 x21 r24 _ hw30) (mx_recv (C := RX4) (F := TX4) (N := 2) (ci := 6) X M rfl (by decide) hk31) kw_690 kw_582 kw_583 kw_69 kw_584 (by decide +kernel) rfl rfl ⟨Nat.le_of_ble_eq_true rfl, Nat.le_of_ble_eq_true rfl⟩ rfl hl.1 (Nat.le_of_ble_eq_true rfl) dX2_awaitFields_46 ⟨(show (((cells + 0) + c15) + 0) + c28 ≤ cT by omega), (show (((slots + 0) + z16) + 0) + z29 ≤ zT by omega)⟩) (fun μ27 H locs ⟨hw, hKM27⟩ M => ?_)
      replace hw := hw hKM27
      have hKM27_ := hKM22_.tr hKM27
      have hk32 := hKM27.at hk25
      have hk33 := hKM27.at hk26
      have hk34 := hKM27.at hk31
      have hc : ((((cells + 0) + c15) + 0) + c28) + ((c - c15) - c28) ≤ cT := by omega
      have hz : ((((slots + 0) + z16) + 0) + z29) + ((z - z16) - z29) ≤ zT := by omega
      obtain ⟨v35, ev35⟩ : ∃ y : Int32, y = x5 + (-1) := ⟨_, rfl⟩
      replace hw := hw v35 ev35
      refine lv_iinc (v := v35) (lv' := [(5, .int v35), (0, .ref o), (1, .long x1), (3, .long x3)]) X.1 X.2.1 dX2_awaitFields_49 hl (k := 3) rfl (by rw [ev35]; rfl) (by decide) rfl (fun ls hl => ?_)
      refine lv_goto (tgt := 16) X.1 X.2.1 dX2_awaitFields_52 (by decide) ?_
      exact ih _ _ _ _ μ27 x1 x3 v35 _ _ _ (by omega) (by omega) hKM27_ hw M (lv_sub hl [1, 2, 3, 0] rfl)
set_option maxRecDepth 100000 in
set_option maxHeartbeats 4000000 in
theorem c_X2_awaitFields (l : Launch) (T : Tb) (B : Nat) (c z : Nat) (μ : Mem) (o : Nat) (a1 : Int64) (a2 : Int64) (post : Mem → Prop) (hw : wp_X2_awaitFields c z μ o a1 a2 post) : Met l yX2_awaitFields (.code yX2_awaitFields cX2_awaitFields 6 none :: G) (rm_X2_awaitFields c z) (Pm (Rl T B) T B μ [.ref o, .long a1, .long a2]) (va_Qv (fun μ9 => post μ9 ∧ KM μ μ9) (Bm (Rl T B)) (Ai B)) c z (Ai B) := by
  refine mx_of RX2 rfl (by decide) (Nat.le_of_ble_eq_true rfl) ?_
  intro p e s m below meth c0 X hr hk hnm M ls hl
  have hl : lv_has ls 6 [(0, .ref o), (1, .long a1), (3, .long a2)] := hl
  unfold wp_X2_awaitFields at hw
  have hKM : KM μ μ := KM.rf μ
  have hc : 0 + c ≤ c := by omega
  have hz : 0 + z ≤ z := by omega
  refine lv_lload_n X.1 X.2.1 dX2_awaitFields_0 rfl (lv_at hl 1 rfl) ?_
  have hw2 := hw
  clear hw
  refine mx_ci M (mx_runS (n := 1) (As := [.long a1]) (rest := []) X M (c_X9_isCell l T B μ a1 _ hw2) kw_736 kw_704 kw_86 kw_705 (by decide +kernel) rfl rfl ⟨Nat.le_of_ble_eq_true rfl, Nat.le_of_ble_eq_true rfl⟩ rfl hl.1 (Nat.le_of_ble_eq_true rfl) dX2_awaitFields_1 ⟨(show 0 + 0 ≤ c by omega), (show 0 + 0 ≤ z by omega)⟩) (fun r3 μ1 H locs ⟨hw, hKM1⟩ M => ?_)
  replace hw := hw hKM1
  have hKM1_ := hKM.tr hKM1
  have hc : (0 + 0) + (c) ≤ c := by omega
  have hz : (0 + 0) + (z) ≤ z := by omega
  obtain ⟨hwf, hwt⟩ := hw
  refine lv_if_ne (tgt := 8) X.1 X.2.1 dX2_awaitFields_4 (by decide) (fun hq => ?_) (fun hq => ?_)
  · have hw := hwt hq
    refine lv_lload_n X.1 X.2.1 dX2_awaitFields_8 rfl (lv_at hl 1 rfl) ?_
    have hw5 := hw
    clear hw
    refine mx_ci M (mx_runS (n := 1) (As := [.long a1]) (rest := []) X M (c_X9_fields l T B μ1 a1 _ hw5) kw_737 kw_711 kw_86 kw_712 (by decide +kernel) rfl rfl ⟨Nat.le_of_ble_eq_true rfl, Nat.le_of_ble_eq_true rfl⟩ rfl hl.1 (Nat.le_of_ble_eq_true rfl) dX2_awaitFields_9 ⟨(show (0 + 0) + 0 ≤ c by omega), (show (0 + 0) + 0 ≤ z by omega)⟩) (fun r6 μ4 H locs ⟨hw, hKM4⟩ M => ?_)
    replace hw := hw hKM4
    have hKM4_ := hKM1_.tr hKM4
    have hc : ((0 + 0) + 0) + (c) ≤ c := by omega
    have hz : ((0 + 0) + 0) + (z) ≤ z := by omega
    refine lv_iconst (v := 1) X.1 X.2.1 dX2_awaitFields_12 (by decide) ?_
    refine lv_isub X.1 X.2.1 dX2_awaitFields_13 ?_
    refine lv_topi (fun v7 ev7 => ?_)
    replace hw := hw v7 ev7
    refine lv_istore (lv' := [(5, .int v7), (0, .ref o), (1, .long a1), (3, .long a2)]) X.1 X.2.1 dX2_awaitFields_14 hl (by decide) rfl (fun ls hl => ?_)
    obtain ⟨n36, hw⟩ := hw
    exact b_X2_awaitFields_16 X hr hk n36 _ _ _ _ μ4 a1 a2 v7 _ _ _ (by omega) (by omega) hKM4_ hw M (lv_sub hl [1, 2, 3, 0] rfl)
  · have hw := hwf hq
    exact mx_vret X hr hk M dX2_awaitFields_7 (by omega) (by omega) ⟨hw, hKM1_⟩

abbrev rm_X2_compare (c z : Nat) : Room := { frames := 4, cells := c, slots := z, locals := 109 }
def wp_X2_compare_27 (o : Nat) (post : Int32 → Mem → Prop) : Nat → Nat → Nat → Mem → Int32 → Prop
  | 0, _, _, _, _ => False
  | n + 1, c, z, μ, x5 =>
    (5000 ≤ x5 →
     kd μ o = 5 ∧
     ∃ x28, fr μ 4 1 o = some x28 ∧
     kd μ x28 = 7 ∧
     wp_X4_size μ x28 (fun (r31 : Int32) (μ29 : Mem) =>
     KM μ μ29 →
     (r31 ≤ 0 →
      post 0 μ29) ∧ (¬ r31 ≤ 0 →
      post 6 μ29))) ∧ (¬ 5000 ≤ x5 →
     kd μ o = 5 ∧
     ∃ x36, fr μ 4 1 o = some x36 ∧
     kd μ x36 = 7 ∧
     wp_X4_size μ x36 (fun (r39 : Int32) (μ37 : Mem) =>
     KM μ μ37 →
     (r39 ≤ 0 →
      ∃ x43, fr μ37 4 1 o = some x43 ∧
      kd μ37 x43 = 7 ∧
      wp_X4_size μ37 x43 (fun (r46 : Int32) (μ44 : Mem) =>
      KM μ37 μ44 →
      (r46 ≤ 0 →
       post 0 μ44) ∧ (¬ r46 ≤ 0 →
       post 6 μ44))) ∧ (¬ r39 ≤ 0 →
      ∃ x51, fr μ37 4 1 o = some x51 ∧
      kd μ37 x51 = 7 ∧
      wp_X4_pop μ37 x51 (fun (r54 : Int64) (μ52 : Mem) =>
      KM μ37 μ52 →
      ∃ x59, fr μ52 4 1 o = some x59 ∧
      kd μ52 x59 = 7 ∧
      wp_X4_pop μ52 x59 (fun (r62 : Int64) (μ60 : Mem) =>
      KM μ52 μ60 →
      wp_X9_differ μ60 r62 r54 (fun (r70 : Int32) (μ68 : Mem) =>
      KM μ60 μ68 →
      (r70 = 0 →
       ∃ c76 z77, c76 ≤ c ∧ z77 ≤ z ∧
       wp_X2_awaitFields c76 z77 μ68 o r62 r54 (fun (μ75 : Mem) =>
       KM μ68 μ75 →
       ∀ v83 : Int32, v83 = x5 + 1 →
       wp_X2_compare_27 o post n (c - c76) (z - z77) μ75 v83)) ∧ (¬ r70 = 0 →
       post 7 μ68)))))))
def wp_X2_compare (c z : Nat) (μ : Mem) (o : Nat) (a1 : Int64) (a2 : Int64) (post : Int32 → Mem → Prop) : Prop :=
  kd μ o = 5 ∧
  ∃ x2, fr μ 4 1 o = some x2 ∧
  kd μ x2 = 7 ∧
  wp_X4_shrink μ x2 0 (fun (μ3 : Mem) =>
  KM μ μ3 →
  ∃ x8, fr μ3 4 1 o = some x8 ∧
  kd μ3 x8 = 7 ∧
  ∃ c10 z11, c10 ≤ c ∧ z11 ≤ z ∧
  wp_X4_push c10 z11 μ3 x8 a1 (fun (μ9 : Mem) =>
  KM μ3 μ9 →
  ∃ x17, fr μ9 4 1 o = some x17 ∧
  kd μ9 x17 = 7 ∧
  ∃ c19 z20, c19 ≤ c - c10 ∧ z20 ≤ z - z11 ∧
  wp_X4_push c19 z20 μ9 x17 a2 (fun (μ18 : Mem) =>
  KM μ9 μ18 →
  ∃ n84, wp_X2_compare_27 o post n84 ((c - c10) - c19) ((z - z11) - z20) μ18 0)))
set_option maxRecDepth 100000 in
set_option maxHeartbeats 4000000 in
theorem b_X2_compare_27 {T : Tb} {B : Nat} {p : Program} {l : Launch} {e : Env} {s : State} {m : MethodId} {args : Array Value} {below : List Frame} {meth : Method} {c0 : Code} {post : Int32 → Mem → Prop} {μ0 : Mem} {o : Nat} {cT zT : Nat} (X : CX T B p m c0 cX2_compare 10 s args RX2) (hr : meth.sig.returnType = (some .int)) (hk : meth.locks = false) : ∀ (n : Nat) (c z cells slots : Nat) (μ : Mem) (x5 : Int32) (H : Heap) (locs : List Loc) (ls : Array Slot), cells + c ≤ cT → slots + z ≤ zT → KM μ0 μ → wp_X2_compare_27 o post n c z μ x5 → MG (Rl T B) B s μ H locs → lv_has ls 10 [(0, .ref o), (5, .int x5)] → W p l e (rm_X2_compare cT zT) s m args below meth c0 H locs cells slots (MQ below (va_Qi (fun r9 μ9 => post r9 μ9 ∧ KM μ0 μ9) (Bm (Rl T B)) (Ai B)) args s cT zT (Ai B)) (F0 m 27 ls []) := by
  intro n
  induction n with
  | zero =>
    intro c z cells slots μ x5 H locs ls hc hz hKM hw
    exact hw.elim
  | succ n ih =>
    intro c z cells slots μ x5 H locs ls hc hz hKM hw M hl
    rw [wp_X2_compare_27] at hw
    refine lv_iload X.1 X.2.1 dX2_compare_27 (lv_at hl 1 rfl) ?_
    refine lv_sipush (v := 5000) X.1 X.2.1 dX2_compare_29 (by decide) ?_
    obtain ⟨hwt, hwf⟩ := hw
    refine lv_icmp_ge (tgt := 90) X.1 X.2.1 dX2_compare_32 (by decide) (fun hq => ?_) (fun hq => ?_)
    · have hw := hwt hq
      refine lv_aload_n X.1 X.2.1 dX2_compare_90 rfl (lv_at hl 0 rfl) ?_
      obtain ⟨hk27, hw⟩ := hw
      obtain ⟨x28, ex28, hw⟩ := hw
      refine mx_getr (C := RX2) (F := TX2) (N := 4) (ci := 4) X M 1 rfl in_X2 (by decide) rfl (by decide) kw_194 dX2_compare_91 hk27 ?_
      rw [ex28]
      obtain ⟨hk32, hw⟩ := hw
      have hw30 := hw
      clear hw
      refine mx_ci M (mx_runV (n := 0) (As := []) (rest := []) X M (c_X4_size l T B μ x28 _ hw30) (mx_recv (C := RX4) (F := TX4) (N := 2) (ci := 6) X M rfl (by decide) hk32) kw_681 kw_578 kw_579 kw_69 kw_580 (by decide +kernel) rfl rfl ⟨Nat.le_of_ble_eq_true rfl, Nat.le_of_ble_eq_true rfl⟩ rfl hl.1 (Nat.le_of_ble_eq_true rfl) dX2_compare_94 ⟨(show cells + 0 ≤ cT by omega), (show slots + 0 ≤ zT by omega)⟩) (fun r31 μ29 H locs ⟨hw, hKM29⟩ M => ?_)
      replace hw := hw hKM29
      have hKM29_ := hKM.tr hKM29
      have hk33 := hKM29.at hk27
      have hk34 := hKM29.at hk32
      have hc : (cells + 0) + (c) ≤ cT := by omega
      have hz : (slots + 0) + (z) ≤ zT := by omega
      obtain ⟨hwt, hwf⟩ := hw
      refine lv_if_le (tgt := 105) X.1 X.2.1 dX2_compare_97 (by decide) (fun hq => ?_) (fun hq => ?_)
      · have hw := hwt hq
        refine lv_iconst (v := 0) X.1 X.2.1 dX2_compare_105 (by decide) ?_
        exact mx_iret X hr hk M dX2_compare_106 (by omega) (by omega) ⟨hw, hKM29_⟩
      · have hw := hwf hq
        refine lv_bipush (v := 6) X.1 X.2.1 dX2_compare_100 (by decide) ?_
        refine lv_goto (tgt := 106) X.1 X.2.1 dX2_compare_102 (by decide) ?_
        exact mx_iret X hr hk M dX2_compare_106 (by omega) (by omega) ⟨hw, hKM29_⟩
    · have hw := hwf hq
      refine lv_aload_n X.1 X.2.1 dX2_compare_35 rfl (lv_at hl 0 rfl) ?_
      obtain ⟨hk35, hw⟩ := hw
      obtain ⟨x36, ex36, hw⟩ := hw
      refine mx_getr (C := RX2) (F := TX2) (N := 4) (ci := 4) X M 1 rfl in_X2 (by decide) rfl (by decide) kw_194 dX2_compare_36 hk35 ?_
      rw [ex36]
      obtain ⟨hk40, hw⟩ := hw
      have hw38 := hw
      clear hw
      refine mx_ci M (mx_runV (n := 0) (As := []) (rest := []) X M (c_X4_size l T B μ x36 _ hw38) (mx_recv (C := RX4) (F := TX4) (N := 2) (ci := 6) X M rfl (by decide) hk40) kw_681 kw_578 kw_579 kw_69 kw_580 (by decide +kernel) rfl rfl ⟨Nat.le_of_ble_eq_true rfl, Nat.le_of_ble_eq_true rfl⟩ rfl hl.1 (Nat.le_of_ble_eq_true rfl) dX2_compare_39 ⟨(show cells + 0 ≤ cT by omega), (show slots + 0 ≤ zT by omega)⟩) (fun r39 μ37 H locs ⟨hw, hKM37⟩ M => ?_)
      replace hw := hw hKM37
      have hKM37_ := hKM.tr hKM37
      have hk41 := hKM37.at hk35
      have hk42 := hKM37.at hk40
      have hc : (cells + 0) + (c) ≤ cT := by omega
      have hz : (slots + 0) + (z) ≤ zT := by omega
      obtain ⟨hwt, hwf⟩ := hw
      refine lv_if_le (tgt := 90) X.1 X.2.1 dX2_compare_42 (by decide) (fun hq => ?_) (fun hq => ?_)
      · have hw := hwt hq
        refine lv_aload_n X.1 X.2.1 dX2_compare_90 rfl (lv_at hl 0 rfl) ?_
        obtain ⟨x43, ex43, hw⟩ := hw
        refine mx_getr (C := RX2) (F := TX2) (N := 4) (ci := 4) X M 1 rfl in_X2 (by decide) rfl (by decide) kw_194 dX2_compare_91 hk41 ?_
        rw [ex43]
        obtain ⟨hk47, hw⟩ := hw
        have hw45 := hw
        clear hw
        refine mx_ci M (mx_runV (n := 0) (As := []) (rest := []) X M (c_X4_size l T B μ37 x43 _ hw45) (mx_recv (C := RX4) (F := TX4) (N := 2) (ci := 6) X M rfl (by decide) hk47) kw_681 kw_578 kw_579 kw_69 kw_580 (by decide +kernel) rfl rfl ⟨Nat.le_of_ble_eq_true rfl, Nat.le_of_ble_eq_true rfl⟩ rfl hl.1 (Nat.le_of_ble_eq_true rfl) dX2_compare_94 ⟨(show (cells + 0) + 0 ≤ cT by omega), (show (slots + 0) + 0 ≤ zT by omega)⟩) (fun r46 μ44 H locs ⟨hw, hKM44⟩ M => ?_)
        replace hw := hw hKM44
        have hKM44_ := hKM37_.tr hKM44
        have hk48 := hKM44.at hk41
        have hk49 := hKM44.at hk42
        have hk50 := hKM44.at hk47
        have hc : ((cells + 0) + 0) + (c) ≤ cT := by omega
        have hz : ((slots + 0) + 0) + (z) ≤ zT := by omega
        obtain ⟨hwt, hwf⟩ := hw
        refine lv_if_le (tgt := 105) X.1 X.2.1 dX2_compare_97 (by decide) (fun hq => ?_) (fun hq => ?_)
        · have hw := hwt hq
          refine lv_iconst (v := 0) X.1 X.2.1 dX2_compare_105 (by decide) ?_
          exact mx_iret X hr hk M dX2_compare_106 (by omega) (by omega) ⟨hw, hKM44_⟩
        · have hw := hwf hq
          refine lv_bipush (v := 6) X.1 X.2.1 dX2_compare_100 (by decide) ?_
          refine lv_goto (tgt := 106) X.1 X.2.1 dX2_compare_102 (by decide) ?_
          exact mx_iret X hr hk M dX2_compare_106 (by omega) (by omega) ⟨hw, hKM44_⟩
      · have hw := hwf hq
        refine lv_aload_n X.1 X.2.1 dX2_compare_45 rfl (lv_at hl 0 rfl) ?_
        obtain ⟨x51, ex51, hw⟩ := hw
        refine mx_getr (C := RX2) (F := TX2) (N := 4) (ci := 4) X M 1 rfl in_X2 (by decide) rfl (by decide) kw_194 dX2_compare_46 hk41 ?_
        rw [ex51]
        obtain ⟨hk55, hw⟩ := hw
        have hw53 := hw
        clear hw
        refine mx_cl M (mx_runV (n := 0) (As := []) (rest := []) X M (c_X4_pop l T B μ37 x51 _ hw53) (mx_recv (C := RX4) (F := TX4) (N := 2) (ci := 6) X M rfl (by decide) hk55) kw_727 kw_645 kw_646 kw_69 kw_647 (by decide +kernel) rfl rfl ⟨Nat.le_of_ble_eq_true rfl, Nat.le_of_ble_eq_true rfl⟩ rfl hl.1 (Nat.le_of_ble_eq_true rfl) dX2_compare_49 ⟨(show (cells + 0) + 0 ≤ cT by omega), (show (slots + 0) + 0 ≤ zT by omega)⟩) (fun r54 μ52 H locs ⟨hw, hKM52⟩ M => ?_)
        replace hw := hw hKM52
        have hKM52_ := hKM37_.tr hKM52
        have hk56 := hKM52.at hk41
        have hk57 := hKM52.at hk42
        have hk58 := hKM52.at hk55
        have hc : ((cells + 0) + 0) + (c) ≤ cT := by omega
        have hz : ((slots + 0) + 0) + (z) ≤ zT := by omega
        refine lv_lstore (lv' := [(6, .long r54), (0, .ref o), (5, .int x5)]) X.1 X.2.1 dX2_compare_52 hl (by decide) rfl (fun ls hl => ?_)
        refine lv_aload_n X.1 X.2.1 dX2_compare_54 rfl (lv_at hl 1 rfl) ?_
        obtain ⟨x59, ex59, hw⟩ := hw
        refine mx_getr (C := RX2) (F := TX2) (N := 4) (ci := 4) X M 1 rfl in_X2 (by decide) rfl (by decide) kw_194 dX2_compare_55 hk56 ?_
        rw [ex59]
        obtain ⟨hk63, hw⟩ := hw
        have hw61 := hw
        clear hw
        refine mx_cl M (mx_runV (n := 0) (As := []) (rest := []) X M (c_X4_pop l T B μ52 x59 _ hw61) (mx_recv (C := RX4) (F := TX4) (N := 2) (ci := 6) X M rfl (by decide) hk63) kw_727 kw_645 kw_646 kw_69 kw_647 (by decide +kernel) rfl rfl ⟨Nat.le_of_ble_eq_true rfl, Nat.le_of_ble_eq_true rfl⟩ rfl hl.1 (Nat.le_of_ble_eq_true rfl) dX2_compare_58 ⟨(show ((cells + 0) + 0) + 0 ≤ cT by omega), (show ((slots + 0) + 0) + 0 ≤ zT by omega)⟩) (fun r62 μ60 H locs ⟨hw, hKM60⟩ M => ?_)
        replace hw := hw hKM60
        have hKM60_ := hKM52_.tr hKM60
        have hk64 := hKM60.at hk56
        have hk65 := hKM60.at hk57
        have hk66 := hKM60.at hk58
        have hk67 := hKM60.at hk63
        have hc : (((cells + 0) + 0) + 0) + (c) ≤ cT := by omega
        have hz : (((slots + 0) + 0) + 0) + (z) ≤ zT := by omega
        refine lv_lstore (lv' := [(8, .long r62), (6, .long r54), (0, .ref o), (5, .int x5)]) X.1 X.2.1 dX2_compare_61 hl (by decide) rfl (fun ls hl => ?_)
        refine lv_lload X.1 X.2.1 dX2_compare_63 (lv_at hl 0 rfl) ?_
        refine lv_lload X.1 X.2.1 dX2_compare_65 (lv_at hl 1 rfl) ?_
        have hw69 := hw
        clear hw
        refine mx_ci M (mx_runS (n := 2) (As := [.long r62, .long r54]) (rest := []) X M (c_X9_differ l T B μ60 r62 r54 _ hw69) kw_728 kw_729 kw_86 kw_730 (by decide +kernel) rfl rfl ⟨Nat.le_of_ble_eq_true rfl, Nat.le_of_ble_eq_true rfl⟩ rfl hl.1 (Nat.le_of_ble_eq_true rfl) dX2_compare_67 ⟨(show (((cells + 0) + 0) + 0) + 0 ≤ cT by omega), (show (((slots + 0) + 0) + 0) + 0 ≤ zT by omega)⟩) (fun r70 μ68 H locs ⟨hw, hKM68⟩ M => ?_)
        replace hw := hw hKM68
        have hKM68_ := hKM60_.tr hKM68
        have hk71 := hKM68.at hk64
        have hk72 := hKM68.at hk65
        have hk73 := hKM68.at hk66
        have hk74 := hKM68.at hk67
        have hc : ((((cells + 0) + 0) + 0) + 0) + (c) ≤ cT := by omega
        have hz : ((((slots + 0) + 0) + 0) + 0) + (z) ≤ zT := by omega
        obtain ⟨hwt, hwf⟩ := hw
        refine lv_if_eq (tgt := 76) X.1 X.2.1 dX2_compare_70 (by decide) (fun hq => ?_) (fun hq => ?_)
        · have hw := hwt hq
          refine lv_aload_n X.1 X.2.1 dX2_compare_76 rfl (lv_at hl 2 rfl) ?_
          refine lv_lload X.1 X.2.1 dX2_compare_77 (lv_at hl 0 rfl) ?_
          refine lv_lload X.1 X.2.1 dX2_compare_79 (lv_at hl 1 rfl) ?_
          obtain ⟨c76, z77, hc76, hz77, hw⟩ := hw
          have hw78 := hw
          clear hw
          refine mx_cv M (mx_runV (n := 2) (As := [.long r62, .long r54]) (rest := []) X M (c_X2_awaitFields l T B c76 z77 μ68 o r62 r54 _ hw78) (mx_recv (C := RX2) (F := TX2) (N := 4) (ci := 4) X M rfl (by decide) hk71) kw_732 kw_734 kw_15 kw_70 kw_735 (by decide +kernel) rfl rfl ⟨Nat.le_of_ble_eq_true rfl, Nat.le_of_ble_eq_true rfl⟩ rfl hl.1 (Nat.le_of_ble_eq_true rfl) dX2_compare_81 ⟨(show ((((cells + 0) + 0) + 0) + 0) + c76 ≤ cT by omega), (show ((((slots + 0) + 0) + 0) + 0) + z77 ≤ zT by omega)⟩) (fun μ75 H locs ⟨hw, hKM75⟩ M => ?_)
          replace hw := hw hKM75
          have hKM75_ := hKM68_.tr hKM75
          have hk79 := hKM75.at hk71
          have hk80 := hKM75.at hk72
          have hk81 := hKM75.at hk73
          have hk82 := hKM75.at hk74
          have hc : (((((cells + 0) + 0) + 0) + 0) + c76) + (c - c76) ≤ cT := by omega
          have hz : (((((slots + 0) + 0) + 0) + 0) + z77) + (z - z77) ≤ zT := by omega
          obtain ⟨v83, ev83⟩ : ∃ y : Int32, y = x5 + 1 := ⟨_, rfl⟩
          replace hw := hw v83 ev83
          refine lv_iinc (v := v83) (lv' := [(5, .int v83), (8, .long r62), (6, .long r54), (0, .ref o)]) X.1 X.2.1 dX2_compare_84 hl (k := 3) rfl (by rw [ev83]; rfl) (by decide) rfl (fun ls hl => ?_)
          refine lv_goto (tgt := 27) X.1 X.2.1 dX2_compare_87 (by decide) ?_
          exact ih _ _ _ _ μ75 v83 _ _ _ (by omega) (by omega) hKM75_ hw M (lv_sub hl [3, 0] rfl)
        · have hw := hwf hq
          refine lv_bipush (v := 7) X.1 X.2.1 dX2_compare_73 (by decide) ?_
          exact mx_iret X hr hk M dX2_compare_75 (by omega) (by omega) ⟨hw, hKM68_⟩
set_option maxRecDepth 100000 in
set_option maxHeartbeats 4000000 in
theorem c_X2_compare (l : Launch) (T : Tb) (B : Nat) (c z : Nat) (μ : Mem) (o : Nat) (a1 : Int64) (a2 : Int64) (post : Int32 → Mem → Prop) (hw : wp_X2_compare c z μ o a1 a2 post) : Met l yX2_compare (.code yX2_compare cX2_compare 10 (some .int) :: G) (rm_X2_compare c z) (Pm (Rl T B) T B μ [.ref o, .long a1, .long a2]) (va_Qi (fun r9 μ9 => post r9 μ9 ∧ KM μ μ9) (Bm (Rl T B)) (Ai B)) c z (Ai B) := by
  refine mx_of RX2 rfl (by decide) (Nat.le_of_ble_eq_true rfl) ?_
  intro p e s m below meth c0 X hr hk hnm M ls hl
  have hl : lv_has ls 10 [(0, .ref o), (1, .long a1), (3, .long a2)] := hl
  unfold wp_X2_compare at hw
  have hKM : KM μ μ := KM.rf μ
  have hc : 0 + c ≤ c := by omega
  have hz : 0 + z ≤ z := by omega
  refine lv_aload_n X.1 X.2.1 dX2_compare_0 rfl (lv_at hl 0 rfl) ?_
  obtain ⟨hk1, hw⟩ := hw
  obtain ⟨x2, ex2, hw⟩ := hw
  refine mx_getr (C := RX2) (F := TX2) (N := 4) (ci := 4) X M 1 rfl in_X2 (by decide) rfl (by decide) kw_194 dX2_compare_1 hk1 ?_
  rw [ex2]
  refine lv_iconst (v := 0) X.1 X.2.1 dX2_compare_4 (by decide) ?_
  obtain ⟨hk5, hw⟩ := hw
  have hw4 := hw
  clear hw
  refine mx_cv M (mx_runV (n := 1) (As := [.int 0]) (rest := []) X M (c_X4_shrink l T B μ x2 0 _ hw4) (mx_recv (C := RX4) (F := TX4) (N := 2) (ci := 6) X M rfl (by decide) hk5) kw_534 kw_526 kw_527 kw_69 kw_528 (by decide +kernel) rfl rfl ⟨Nat.le_of_ble_eq_true rfl, Nat.le_of_ble_eq_true rfl⟩ rfl hl.1 (Nat.le_of_ble_eq_true rfl) dX2_compare_5 ⟨(show 0 + 0 ≤ c by omega), (show 0 + 0 ≤ z by omega)⟩) (fun μ3 H locs ⟨hw, hKM3⟩ M => ?_)
  replace hw := hw hKM3
  have hKM3_ := hKM.tr hKM3
  have hk6 := hKM3.at hk1
  have hk7 := hKM3.at hk5
  have hc : (0 + 0) + (c) ≤ c := by omega
  have hz : (0 + 0) + (z) ≤ z := by omega
  refine lv_aload_n X.1 X.2.1 dX2_compare_8 rfl (lv_at hl 0 rfl) ?_
  obtain ⟨x8, ex8, hw⟩ := hw
  refine mx_getr (C := RX2) (F := TX2) (N := 4) (ci := 4) X M 1 rfl in_X2 (by decide) rfl (by decide) kw_194 dX2_compare_9 hk6 ?_
  rw [ex8]
  refine lv_lload_n X.1 X.2.1 dX2_compare_12 rfl (lv_at hl 1 rfl) ?_
  obtain ⟨hk13, hw⟩ := hw
  obtain ⟨c10, z11, hc10, hz11, hw⟩ := hw
  have hw12 := hw
  clear hw
  refine mx_cv M (mx_runV (n := 1) (As := [.long a1]) (rest := []) X M (c_X4_push l T B c10 z11 μ3 x8 a1 _ hw12) (mx_recv (C := RX4) (F := TX4) (N := 2) (ci := 6) X M rfl (by decide) hk13) kw_690 kw_582 kw_583 kw_69 kw_584 (by decide +kernel) rfl rfl ⟨Nat.le_of_ble_eq_true rfl, Nat.le_of_ble_eq_true rfl⟩ rfl hl.1 (Nat.le_of_ble_eq_true rfl) dX2_compare_13 ⟨(show (0 + 0) + c10 ≤ c by omega), (show (0 + 0) + z11 ≤ z by omega)⟩) (fun μ9 H locs ⟨hw, hKM9⟩ M => ?_)
  replace hw := hw hKM9
  have hKM9_ := hKM3_.tr hKM9
  have hk14 := hKM9.at hk6
  have hk15 := hKM9.at hk7
  have hk16 := hKM9.at hk13
  have hc : ((0 + 0) + c10) + (c - c10) ≤ c := by omega
  have hz : ((0 + 0) + z11) + (z - z11) ≤ z := by omega
  refine lv_aload_n X.1 X.2.1 dX2_compare_16 rfl (lv_at hl 0 rfl) ?_
  obtain ⟨x17, ex17, hw⟩ := hw
  refine mx_getr (C := RX2) (F := TX2) (N := 4) (ci := 4) X M 1 rfl in_X2 (by decide) rfl (by decide) kw_194 dX2_compare_17 hk14 ?_
  rw [ex17]
  refine lv_lload_n X.1 X.2.1 dX2_compare_20 rfl (lv_at hl 2 rfl) ?_
  obtain ⟨hk22, hw⟩ := hw
  obtain ⟨c19, z20, hc19, hz20, hw⟩ := hw
  have hw21 := hw
  clear hw
  refine mx_cv M (mx_runV (n := 1) (As := [.long a2]) (rest := []) X M (c_X4_push l T B c19 z20 μ9 x17 a2 _ hw21) (mx_recv (C := RX4) (F := TX4) (N := 2) (ci := 6) X M rfl (by decide) hk22) kw_690 kw_582 kw_583 kw_69 kw_584 (by decide +kernel) rfl rfl ⟨Nat.le_of_ble_eq_true rfl, Nat.le_of_ble_eq_true rfl⟩ rfl hl.1 (Nat.le_of_ble_eq_true rfl) dX2_compare_21 ⟨(show ((0 + 0) + c10) + c19 ≤ c by omega), (show ((0 + 0) + z11) + z20 ≤ z by omega)⟩) (fun μ18 H locs ⟨hw, hKM18⟩ M => ?_)
  replace hw := hw hKM18
  have hKM18_ := hKM9_.tr hKM18
  have hk23 := hKM18.at hk14
  have hk24 := hKM18.at hk15
  have hk25 := hKM18.at hk16
  have hk26 := hKM18.at hk22
  have hc : (((0 + 0) + c10) + c19) + ((c - c10) - c19) ≤ c := by omega
  have hz : (((0 + 0) + z11) + z20) + ((z - z11) - z20) ≤ z := by omega
  refine lv_iconst (v := 0) X.1 X.2.1 dX2_compare_24 (by decide) ?_
  refine lv_istore (lv' := [(5, .int 0), (0, .ref o), (1, .long a1), (3, .long a2)]) X.1 X.2.1 dX2_compare_25 hl (by decide) rfl (fun ls hl => ?_)
  obtain ⟨n84, hw⟩ := hw
  exact b_X2_compare_27 X hr hk n84 _ _ _ _ μ18 0 _ _ _ (by omega) (by omega) hKM18_ hw M (lv_sub hl [1, 0] rfl)

abbrev rm_X7_init (c z : Nat) : Room := { frames := 4, cells := c, slots := z, locals := 80 }
def wp_X7_init (c z : Nat) (μ : Mem) (o : Nat) (post : Mem → Prop) : Prop :=
  1 ≤ c ∧ 3 ≤ z ∧ ∀ (q1 : Nat) (μ2 : Mem), kd μ q1 = 0 → μ2 = nob μ 1 q1 →
  wp_Jx4a65c_init_da8c8 μ2 q1 (fun (μ5 : Mem) =>
  KM μ2 μ5 →
  kd μ5 o = 10 ∧
  ∀ μ9 : Mem, μ9 = sfr μ5 9 0 o (some q1) →
  1 ≤ c - 1 ∧ 3 ≤ z - 3 ∧ ∀ (q13 : Nat) (μ14 : Mem), kd μ9 q13 = 0 → μ14 = nob μ9 1 q13 →
  wp_Jx4a65c_init_da8c8 μ14 q13 (fun (μ19 : Mem) =>
  KM μ14 μ19 →
  ∀ μ24 : Mem, μ24 = sfr μ19 9 2 o (some q13) →
  1 ≤ (c - 1) - 1 ∧ 2 ≤ (z - 3) - 3 ∧ ∀ (q29 : Nat) (μ30 : Mem), kd μ24 q29 = 0 → μ30 = nob μ24 6 q29 →
  ∃ c37 z38, c37 ≤ ((c - 1) - 1) - 1 ∧ z38 ≤ ((z - 3) - 3) - 2 ∧
  wp_X4_init c37 z38 μ30 q29 (fun (μ36 : Mem) =>
  KM μ30 μ36 →
  ∀ μ44 : Mem, μ44 = sfr μ36 9 4 o (some q29) →
  1 ≤ (((c - 1) - 1) - 1) - c37 ∧ 2 ≤ (((z - 3) - 3) - 2) - z38 ∧ ∀ (q50 : Nat) (μ51 : Mem), kd μ44 q50 = 0 → μ51 = nob μ44 6 q50 →
  ∃ c59 z60, c59 ≤ ((((c - 1) - 1) - 1) - c37) - 1 ∧ z60 ≤ ((((z - 3) - 3) - 2) - z38) - 2 ∧
  wp_X4_init c59 z60 μ51 q50 (fun (μ58 : Mem) =>
  KM μ51 μ58 →
  ∀ μ67 : Mem, μ67 = sfr μ58 9 5 o (some q50) →
  post μ67))))
set_option maxRecDepth 100000 in
set_option maxHeartbeats 4000000 in
theorem c_X7_init (l : Launch) (T : Tb) (B : Nat) (c z : Nat) (μ : Mem) (o : Nat) (post : Mem → Prop) (hw : wp_X7_init c z μ o post) : Met l yX7_init (.code yX7_init cX7_init 1 none :: G) (rm_X7_init c z) (Pm (Rl T B) T B μ [.ref o]) (va_Qv (fun μ9 => post μ9 ∧ KM μ μ9) (Bm (Rl T B)) (Ai B)) c z (Ai B) := by
  refine mx_of RX7 rfl (by decide) (Nat.le_of_ble_eq_true rfl) ?_
  intro p e s m below meth c0 X hr hk hnm M ls hl
  have hl : lv_has ls 1 [(0, .ref o)] := hl
  unfold wp_X7_init at hw
  have hKM : KM μ μ := KM.rf μ
  have hc : 0 + c ≤ c := by omega
  have hz : 0 + z ≤ z := by omega
  refine lv_aload_n X.1 X.2.1 dX7_init_0 rfl (lv_at hl 0 rfl) ?_
  refine my_obj X kw_140 kw_100 kw_101 hl.1 (Nat.le_of_ble_eq_true rfl) (Nat.le_of_ble_eq_true rfl) (Nat.le_of_ble_eq_true rfl) dX7_init_1 ?_
  refine lv_aload_n X.1 X.2.1 dX7_init_4 rfl (lv_at hl 0 rfl) ?_
  obtain ⟨hb1, hb2, hw⟩ := hw
  refine my_new (C := RJx4a65c) (F := TJx4a65c) (N := 3) (ci := 1) X M rfl in_Jx4a65c tyJx4a65c tyJx4a65c_ok df_Jx4a65c (by decide) kw_141 kw_103 kw_66 dX7_init_5 (show 0 + 1 ≤ c by omega) (show 0 + 3 ≤ z by omega) (fun q1 μ2 H hq1 eμ2 M => ?_)
  replace hw := hw q1 μ2 hq1 eμ2
  have hKM3 : KM μ μ2 := by rw [eμ2]; exact hKM.tr (KM_nob hq1)
  have hk4 : kd μ2 q1 = 2 := by rw [eμ2]; exact kd_nob
  have hc : (0 + 1) + (c - 1) ≤ c := by omega
  have hz : (0 + 3) + (z - 3) ≤ z := by omega
  refine lv_dup X.1 X.2.1 dX7_init_8 rfl ?_
  have hw6 := hw
  clear hw
  refine mx_cv M (mx_runI (n := 0) (As := []) (rest := [.ref q1, .ref o]) X M (c_Jx4a65c_init_da8c8 l T B μ2 q1 _ hw6) kw_142 kw_105 rfl kw_66 kw_106 (by decide +kernel) rfl rfl ⟨Nat.le_of_ble_eq_true rfl, Nat.le_of_ble_eq_true rfl⟩ rfl hl.1 (Nat.le_of_ble_eq_true rfl) dX7_init_9 ⟨(show (0 + 1) + 0 ≤ c by omega), (show (0 + 3) + 0 ≤ z by omega)⟩) (fun μ5 H locs ⟨hw, hKM5⟩ M => ?_)
  replace hw := hw hKM5
  have hKM5_ := hKM3.tr hKM5
  have hk7 := hKM5.at hk4
  have hc : ((0 + 1) + 0) + (c - 1) ≤ c := by omega
  have hz : ((0 + 3) + 0) + (z - 3) ≤ z := by omega
  obtain ⟨hk8, hw⟩ := hw
  refine my_putr (C := RX7) (F := TX7) (N := 8) (ci := 9) X M 0 rfl in_X7 tyX7 tyX7_ok nmX7 (by decide) rfl (by decide) kw_157 (Or.inr ⟨hnm, rfl⟩) dX7_init_12 hk8 (some q1) (mq_no _ _) (mq_fo _ _) (fun μ9 H locs eμ9 M => ?_)
  replace hw := hw μ9 eμ9
  have hKM10 : KM μ μ9 := by rw [eμ9]; exact hKM5_
  have hk11 : kd μ9 q1 = 2 := by rw [eμ9]; exact hk7
  have hk12 : kd μ9 o = 10 := by rw [eμ9]; exact hk8
  refine lv_aload_n X.1 X.2.1 dX7_init_15 rfl (lv_at hl 0 rfl) ?_
  obtain ⟨hb1, hb2, hw⟩ := hw
  refine my_new (C := RJx4a65c) (F := TJx4a65c) (N := 3) (ci := 1) X M rfl in_Jx4a65c tyJx4a65c tyJx4a65c_ok df_Jx4a65c (by decide) kw_141 kw_103 kw_66 dX7_init_16 (show ((0 + 1) + 0) + 1 ≤ c by omega) (show ((0 + 3) + 0) + 3 ≤ z by omega) (fun q13 μ14 H hq13 eμ14 M => ?_)
  replace hw := hw q13 μ14 hq13 eμ14
  have hKM15 : KM μ μ14 := by rw [eμ14]; exact hKM10.tr (KM_nob hq13)
  have hk16 : kd μ14 q1 = 2 := by rw [eμ14]; exact (KM_nob hq13).at hk11
  have hk17 : kd μ14 o = 10 := by rw [eμ14]; exact (KM_nob hq13).at hk12
  have hk18 : kd μ14 q13 = 2 := by rw [eμ14]; exact kd_nob
  have hc : (((0 + 1) + 0) + 1) + ((c - 1) - 1) ≤ c := by omega
  have hz : (((0 + 3) + 0) + 3) + ((z - 3) - 3) ≤ z := by omega
  refine lv_dup X.1 X.2.1 dX7_init_19 rfl ?_
  have hw20 := hw
  clear hw
  refine mx_cv M (mx_runI (n := 0) (As := []) (rest := [.ref q13, .ref o]) X M (c_Jx4a65c_init_da8c8 l T B μ14 q13 _ hw20) kw_142 kw_105 rfl kw_66 kw_106 (by decide +kernel) rfl rfl ⟨Nat.le_of_ble_eq_true rfl, Nat.le_of_ble_eq_true rfl⟩ rfl hl.1 (Nat.le_of_ble_eq_true rfl) dX7_init_20 ⟨(show (((0 + 1) + 0) + 1) + 0 ≤ c by omega), (show (((0 + 3) + 0) + 3) + 0 ≤ z by omega)⟩) (fun μ19 H locs ⟨hw, hKM19⟩ M => ?_)
  replace hw := hw hKM19
  have hKM19_ := hKM15.tr hKM19
  have hk21 := hKM19.at hk16
  have hk22 := hKM19.at hk17
  have hk23 := hKM19.at hk18
  have hc : ((((0 + 1) + 0) + 1) + 0) + ((c - 1) - 1) ≤ c := by omega
  have hz : ((((0 + 3) + 0) + 3) + 0) + ((z - 3) - 3) ≤ z := by omega
  refine my_putr (C := RX7) (F := TX7) (N := 8) (ci := 9) X M 2 rfl in_X7 tyX7 tyX7_ok nmX7 (by decide) rfl (by decide) kw_160 (Or.inr ⟨hnm, rfl⟩) dX7_init_23 hk22 (some q13) (mq_no _ _) (mq_fo _ _) (fun μ24 H locs eμ24 M => ?_)
  replace hw := hw μ24 eμ24
  have hKM25 : KM μ μ24 := by rw [eμ24]; exact hKM19_
  have hk26 : kd μ24 q1 = 2 := by rw [eμ24]; exact hk21
  have hk27 : kd μ24 o = 10 := by rw [eμ24]; exact hk22
  have hk28 : kd μ24 q13 = 2 := by rw [eμ24]; exact hk23
  refine lv_aload_n X.1 X.2.1 dX7_init_26 rfl (lv_at hl 0 rfl) ?_
  obtain ⟨hb1, hb2, hw⟩ := hw
  refine my_new (C := RX4) (F := TX4) (N := 2) (ci := 6) X M rfl in_X4 tyX4 tyX4_ok df_X4 (by decide) kw_143 kw_144 kw_69 dX7_init_27 (show ((((0 + 1) + 0) + 1) + 0) + 1 ≤ c by omega) (show ((((0 + 3) + 0) + 3) + 0) + 2 ≤ z by omega) (fun q29 μ30 H hq29 eμ30 M => ?_)
  replace hw := hw q29 μ30 hq29 eμ30
  have hKM31 : KM μ μ30 := by rw [eμ30]; exact hKM25.tr (KM_nob hq29)
  have hk32 : kd μ30 q1 = 2 := by rw [eμ30]; exact (KM_nob hq29).at hk26
  have hk33 : kd μ30 o = 10 := by rw [eμ30]; exact (KM_nob hq29).at hk27
  have hk34 : kd μ30 q13 = 2 := by rw [eμ30]; exact (KM_nob hq29).at hk28
  have hk35 : kd μ30 q29 = 7 := by rw [eμ30]; exact kd_nob
  have hc : (((((0 + 1) + 0) + 1) + 0) + 1) + (((c - 1) - 1) - 1) ≤ c := by omega
  have hz : (((((0 + 3) + 0) + 3) + 0) + 2) + (((z - 3) - 3) - 2) ≤ z := by omega
  refine lv_dup X.1 X.2.1 dX7_init_30 rfl ?_
  obtain ⟨c37, z38, hc37, hz38, hw⟩ := hw
  have hw39 := hw
  clear hw
  refine mx_cv M (mx_runIN (n := 0) (As := []) (rest := [.ref q29, .ref o]) X M (c_X4_init l T B c37 z38 μ30 q29 _ hw39) kw_145 kw_146 rfl kw_69 kw_147 (by decide +kernel) rfl rfl ⟨Nat.le_of_ble_eq_true rfl, Nat.le_of_ble_eq_true rfl⟩ rfl hl.1 (Nat.le_of_ble_eq_true rfl) dX7_init_31 ⟨(show (((((0 + 1) + 0) + 1) + 0) + 1) + c37 ≤ c by omega), (show (((((0 + 3) + 0) + 3) + 0) + 2) + z38 ≤ z by omega)⟩) (fun μ36 H locs ⟨hw, hKM36⟩ M => ?_)
  replace hw := hw hKM36
  have hKM36_ := hKM31.tr hKM36
  have hk40 := hKM36.at hk32
  have hk41 := hKM36.at hk33
  have hk42 := hKM36.at hk34
  have hk43 := hKM36.at hk35
  have hc : ((((((0 + 1) + 0) + 1) + 0) + 1) + c37) + ((((c - 1) - 1) - 1) - c37) ≤ c := by omega
  have hz : ((((((0 + 3) + 0) + 3) + 0) + 2) + z38) + ((((z - 3) - 3) - 2) - z38) ≤ z := by omega
  refine my_putr (C := RX7) (F := TX7) (N := 8) (ci := 9) X M 4 rfl in_X7 tyX7 tyX7_ok nmX7 (by decide) rfl (by decide) kw_163 (Or.inr ⟨hnm, rfl⟩) dX7_init_34 hk41 (some q29) (mq_no _ _) (mq_fo _ _) (fun μ44 H locs eμ44 M => ?_)
  replace hw := hw μ44 eμ44
  have hKM45 : KM μ μ44 := by rw [eμ44]; exact hKM36_
  have hk46 : kd μ44 q1 = 2 := by rw [eμ44]; exact hk40
  have hk47 : kd μ44 o = 10 := by rw [eμ44]; exact hk41
  have hk48 : kd μ44 q13 = 2 := by rw [eμ44]; exact hk42
  have hk49 : kd μ44 q29 = 7 := by rw [eμ44]; exact hk43
  refine lv_aload_n X.1 X.2.1 dX7_init_37 rfl (lv_at hl 0 rfl) ?_
  obtain ⟨hb1, hb2, hw⟩ := hw
  refine my_new (C := RX4) (F := TX4) (N := 2) (ci := 6) X M rfl in_X4 tyX4 tyX4_ok df_X4 (by decide) kw_143 kw_144 kw_69 dX7_init_38 (show ((((((0 + 1) + 0) + 1) + 0) + 1) + c37) + 1 ≤ c by omega) (show ((((((0 + 3) + 0) + 3) + 0) + 2) + z38) + 2 ≤ z by omega) (fun q50 μ51 H hq50 eμ51 M => ?_)
  replace hw := hw q50 μ51 hq50 eμ51
  have hKM52 : KM μ μ51 := by rw [eμ51]; exact hKM45.tr (KM_nob hq50)
  have hk53 : kd μ51 q1 = 2 := by rw [eμ51]; exact (KM_nob hq50).at hk46
  have hk54 : kd μ51 o = 10 := by rw [eμ51]; exact (KM_nob hq50).at hk47
  have hk55 : kd μ51 q13 = 2 := by rw [eμ51]; exact (KM_nob hq50).at hk48
  have hk56 : kd μ51 q29 = 7 := by rw [eμ51]; exact (KM_nob hq50).at hk49
  have hk57 : kd μ51 q50 = 7 := by rw [eμ51]; exact kd_nob
  have hc : (((((((0 + 1) + 0) + 1) + 0) + 1) + c37) + 1) + (((((c - 1) - 1) - 1) - c37) - 1) ≤ c := by omega
  have hz : (((((((0 + 3) + 0) + 3) + 0) + 2) + z38) + 2) + (((((z - 3) - 3) - 2) - z38) - 2) ≤ z := by omega
  refine lv_dup X.1 X.2.1 dX7_init_41 rfl ?_
  obtain ⟨c59, z60, hc59, hz60, hw⟩ := hw
  have hw61 := hw
  clear hw
  refine mx_cv M (mx_runIN (n := 0) (As := []) (rest := [.ref q50, .ref o]) X M (c_X4_init l T B c59 z60 μ51 q50 _ hw61) kw_145 kw_146 rfl kw_69 kw_147 (by decide +kernel) rfl rfl ⟨Nat.le_of_ble_eq_true rfl, Nat.le_of_ble_eq_true rfl⟩ rfl hl.1 (Nat.le_of_ble_eq_true rfl) dX7_init_42 ⟨(show (((((((0 + 1) + 0) + 1) + 0) + 1) + c37) + 1) + c59 ≤ c by omega), (show (((((((0 + 3) + 0) + 3) + 0) + 2) + z38) + 2) + z60 ≤ z by omega)⟩) (fun μ58 H locs ⟨hw, hKM58⟩ M => ?_)
  replace hw := hw hKM58
  have hKM58_ := hKM52.tr hKM58
  have hk62 := hKM58.at hk53
  have hk63 := hKM58.at hk54
  have hk64 := hKM58.at hk55
  have hk65 := hKM58.at hk56
  have hk66 := hKM58.at hk57
  have hc : ((((((((0 + 1) + 0) + 1) + 0) + 1) + c37) + 1) + c59) + ((((((c - 1) - 1) - 1) - c37) - 1) - c59) ≤ c := by omega
  have hz : ((((((((0 + 3) + 0) + 3) + 0) + 2) + z38) + 2) + z60) + ((((((z - 3) - 3) - 2) - z38) - 2) - z60) ≤ z := by omega
  refine my_putr (C := RX7) (F := TX7) (N := 8) (ci := 9) X M 5 rfl in_X7 tyX7 tyX7_ok nmX7 (by decide) rfl (by decide) kw_164 (Or.inr ⟨hnm, rfl⟩) dX7_init_45 hk63 (some q50) (mq_no _ _) (mq_fo _ _) (fun μ67 H locs eμ67 M => ?_)
  replace hw := hw μ67 eμ67
  have hKM68 : KM μ μ67 := by rw [eμ67]; exact hKM58_
  have hk69 : kd μ67 q1 = 2 := by rw [eμ67]; exact hk62
  have hk70 : kd μ67 o = 10 := by rw [eμ67]; exact hk63
  have hk71 : kd μ67 q13 = 2 := by rw [eμ67]; exact hk64
  have hk72 : kd μ67 q29 = 7 := by rw [eμ67]; exact hk65
  have hk73 : kd μ67 q50 = 7 := by rw [eμ67]; exact hk66
  exact mx_vret X hr hk M dX7_init_48 (by omega) (by omega) ⟨hw, hKM68⟩
