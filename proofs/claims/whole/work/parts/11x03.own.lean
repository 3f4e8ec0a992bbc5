abbrev rm_X2_init (c z : Nat) : Room := { frames := 2, cells := c, slots := z, locals := 40 }
def wp_X2_init (c z : Nat) (μ : Mem) (o : Nat) (post : Mem → Prop) : Prop :=
  1 ≤ c ∧ 2 ≤ z ∧ ∀ (q1 : Nat) (μ2 : Mem), kd μ q1 = 0 → μ2 = nob μ 6 q1 →
  ∃ c6 z7, c6 ≤ c - 1 ∧ z7 ≤ z - 2 ∧
  wp_X4_init c6 z7 μ2 q1 (fun (μ5 : Mem) =>
  KM μ2 μ5 →
  kd μ5 o = 5 ∧
  ∀ μ11 : Mem, μ11 = sfr μ5 4 0 o (some q1) →
  1 ≤ (c - 1) - c6 ∧ 2 ≤ (z - 2) - z7 ∧ ∀ (q15 : Nat) (μ16 : Mem), kd μ11 q15 = 0 → μ16 = nob μ11 6 q15 →
  ∃ c21 z22, c21 ≤ ((c - 1) - c6) - 1 ∧ z22 ≤ ((z - 2) - z7) - 2 ∧
  wp_X4_init c21 z22 μ16 q15 (fun (μ20 : Mem) =>
  KM μ16 μ20 →
  ∀ μ26 : Mem, μ26 = sfr μ20 4 1 o (some q15) →
  post μ26))
set_option maxRecDepth 100000 in
set_option maxHeartbeats 4000000 in
theorem c_X2_init (l : Launch) (T : Tb) (B : Nat) (c z : Nat) (μ : Mem) (o : Nat) (post : Mem → Prop) (hw : wp_X2_init c z μ o post) : Met l yX2_init (.code yX2_init cX2_init 1 none :: G) (rm_X2_init c z) (Pm (Rl T B) T B μ [.ref o]) (va_Qv (fun μ9 => post μ9 ∧ KM μ μ9) (Bm (Rl T B)) (Ai B)) c z (Ai B) := by
  refine mx_of RX2 rfl (by decide) (Nat.le_of_ble_eq_true rfl) ?_
  intro p e s m below meth c0 X hr hk hnm M ls hl
  have hl : lv_has ls 1 [(0, .ref o)] := hl
  unfold wp_X2_init at hw
  have hKM : KM μ μ := KM.rf μ
  have hc : 0 + c ≤ c := by omega
  have hz : 0 + z ≤ z := by omega
  refine lv_aload_n X.1 X.2.1 dX2_init_0 rfl (lv_at hl 0 rfl) ?_
  refine my_obj X kw_186 kw_96 kw_97 hl.1 (Nat.le_of_ble_eq_true rfl) (Nat.le_of_ble_eq_true rfl) (Nat.le_of_ble_eq_true rfl) dX2_init_1 ?_
  refine lv_aload_n X.1 X.2.1 dX2_init_4 rfl (lv_at hl 0 rfl) ?_
  obtain ⟨hb1, hb2, hw⟩ := hw
  refine my_new (C := RX4) (F := TX4) (N := 2) (ci := 6) X M rfl in_X4 tyX4 tyX4_ok df_X4 (by decide) kw_187 kw_140 kw_71 dX2_init_5 (show 0 + 1 ≤ c by omega) (show 0 + 2 ≤ z by omega) (fun q1 μ2 H hq1 eμ2 M => ?_)
  replace hw := hw q1 μ2 hq1 eμ2
  have hKM3 : KM μ μ2 := by rw [eμ2]; exact hKM.tr (KM_nob hq1)
  have hk4 : kd μ2 q1 = 7 := by rw [eμ2]; exact kd_nob
  have hc : (0 + 1) + (c - 1) ≤ c := by omega
  have hz : (0 + 2) + (z - 2) ≤ z := by omega
  refine lv_dup X.1 X.2.1 dX2_init_8 rfl ?_
  obtain ⟨c6, z7, hc6, hz7, hw⟩ := hw
  have hw8 := hw
  clear hw
  refine mx_cv M (mx_runIN (n := 0) (As := []) (rest := [.ref q1, .ref o]) X M (c_X4_init l T B c6 z7 μ2 q1 _ hw8) kw_188 kw_142 rfl kw_71 kw_143 (by decide +kernel) rfl rfl ⟨Nat.le_of_ble_eq_true rfl, Nat.le_of_ble_eq_true rfl⟩ rfl hl.1 (Nat.le_of_ble_eq_true rfl) dX2_init_9 ⟨(show (0 + 1) + c6 ≤ c by omega), (show (0 + 2) + z7 ≤ z by omega)⟩) (fun μ5 H locs ⟨hw, hKM5⟩ M => ?_)
  replace hw := hw hKM5
  have hKM5_ := hKM3.tr hKM5
  have hk9 := hKM5.at hk4
  have hc : ((0 + 1) + c6) + ((c - 1) - c6) ≤ c := by omega
  have hz : ((0 + 2) + z7) + ((z - 2) - z7) ≤ z := by omega
  obtain ⟨hk10, hw⟩ := hw
  refine my_putr (C := RX2) (F := TX2) (N := 4) (ci := 4) X M 0 rfl in_X2 tyX2 tyX2_ok nmX2 (by decide) rfl (by decide) kw_189 (Or.inr ⟨hnm, rfl⟩) dX2_init_12 hk10 (some q1) (mq_no _ _) (mq_fo _ _) (fun μ11 H locs eμ11 M => ?_)
  replace hw := hw μ11 eμ11
  have hKM12 : KM μ μ11 := by rw [eμ11]; exact hKM5_
  have hk13 : kd μ11 q1 = 7 := by rw [eμ11]; exact hk9
  have hk14 : kd μ11 o = 5 := by rw [eμ11]; exact hk10
  refine lv_aload_n X.1 X.2.1 dX2_init_15 rfl (lv_at hl 0 rfl) ?_
  obtain ⟨hb1, hb2, hw⟩ := hw
  refine my_new (C := RX4) (F := TX4) (N := 2) (ci := 6) X M rfl in_X4 tyX4 tyX4_ok df_X4 (by decide) kw_187 kw_140 kw_71 dX2_init_16 (show ((0 + 1) + c6) + 1 ≤ c by omega) (show ((0 + 2) + z7) + 2 ≤ z by omega) (fun q15 μ16 H hq15 eμ16 M => ?_)
  replace hw := hw q15 μ16 hq15 eμ16
  have hKM17 : KM μ μ16 := by rw [eμ16]; exact hKM12.tr (KM_nob hq15)
  have hk18 : kd μ16 o = 5 := by rw [eμ16]; exact (KM_nob hq15).at hk14
  have hk19 : kd μ16 q15 = 7 := by rw [eμ16]; exact kd_nob
  have hc : (((0 + 1) + c6) + 1) + (((c - 1) - c6) - 1) ≤ c := by omega
  have hz : (((0 + 2) + z7) + 2) + (((z - 2) - z7) - 2) ≤ z := by omega
  refine lv_dup X.1 X.2.1 dX2_init_19 rfl ?_
  obtain ⟨c21, z22, hc21, hz22, hw⟩ := hw
  have hw23 := hw
  clear hw
  refine mx_cv M (mx_runIN (n := 0) (As := []) (rest := [.ref q15, .ref o]) X M (c_X4_init l T B c21 z22 μ16 q15 _ hw23) kw_188 kw_142 rfl kw_71 kw_143 (by decide +kernel) rfl rfl ⟨Nat.le_of_ble_eq_true rfl, Nat.le_of_ble_eq_true rfl⟩ rfl hl.1 (Nat.le_of_ble_eq_true rfl) dX2_init_20 ⟨(show (((0 + 1) + c6) + 1) + c21 ≤ c by omega), (show (((0 + 2) + z7) + 2) + z22 ≤ z by omega)⟩) (fun μ20 H locs ⟨hw, hKM20⟩ M => ?_)
  replace hw := hw hKM20
  have hKM20_ := hKM17.tr hKM20
  have hk24 := hKM20.at hk18
  have hk25 := hKM20.at hk19
  have hc : ((((0 + 1) + c6) + 1) + c21) + ((((c - 1) - c6) - 1) - c21) ≤ c := by omega
  have hz : ((((0 + 2) + z7) + 2) + z22) + ((((z - 2) - z7) - 2) - z22) ≤ z := by omega
  refine my_putr (C := RX2) (F := TX2) (N := 4) (ci := 4) X M 1 rfl in_X2 tyX2 tyX2_ok nmX2 (by decide) rfl (by decide) kw_190 (Or.inr ⟨hnm, rfl⟩) dX2_init_23 hk24 (some q15) (mq_no _ _) (mq_fo _ _) (fun μ26 H locs eμ26 M => ?_)
  replace hw := hw μ26 eμ26
  have hKM27 : KM μ μ26 := by rw [eμ26]; exact hKM20_
  have hk28 : kd μ26 o = 5 := by rw [eμ26]; exact hk24
  have hk29 : kd μ26 q15 = 7 := by rw [eμ26]; exact hk25
  exact mx_vret X hr hk M dX2_init_26 (by omega) (by omega) ⟨hw, hKM27⟩

abbrev rm_X2_clear : Room := { frames := 2, cells := 0, slots := 0, locals := 42 }
def wp_X2_clear (μ : Mem) (o : Nat) (a1 : Int32) (post : Mem → Prop) : Prop :=
  kd μ o = 5 ∧
  ∃ x2, fr μ 4 0 o = some x2 ∧
  kd μ x2 = 7 ∧
  wp_X4_shrink μ x2 0 (fun (μ3 : Mem) =>
  KM μ μ3 →
  ∀ μ8 : Mem, μ8 = sfi μ3 4 2 o a1 →
  ∀ μ11 : Mem, μ11 = sfi μ8 4 3 o 0 →
  post μ11)
set_option maxRecDepth 100000 in
set_option maxHeartbeats 4000000 in
theorem c_X2_clear (l : Launch) (T : Tb) (B : Nat) (μ : Mem) (o : Nat) (a1 : Int32) (post : Mem → Prop) (hw : wp_X2_clear μ o a1 post) : Met l yX2_clear (.code yX2_clear cX2_clear 2 none :: G) rm_X2_clear (Pm (Rl T B) T B μ [.ref o, .int a1]) (va_Qv (fun μ9 => post μ9 ∧ KM μ μ9) (Bm (Rl T B)) (Ai B)) 0 0 (Ai B) := by
  refine mx_of RX2 rfl (by decide) (Nat.le_of_ble_eq_true rfl) ?_
  intro p e s m below meth c0 X hr hk hnm M ls hl
  have hl : lv_has ls 2 [(0, .ref o), (1, .int a1)] := hl
  unfold wp_X2_clear at hw
  have hKM : KM μ μ := KM.rf μ
  refine lv_aload_n X.1 X.2.1 dX2_clear_0 rfl (lv_at hl 0 rfl) ?_
  obtain ⟨hk1, hw⟩ := hw
  obtain ⟨x2, ex2, hw⟩ := hw
  refine mx_getr (C := RX2) (F := TX2) (N := 4) (ci := 4) X M 0 rfl in_X2 (by decide) rfl (by decide) kw_189 dX2_clear_1 hk1 ?_
  rw [ex2]
  refine lv_iconst (v := 0) X.1 X.2.1 dX2_clear_4 (by decide) ?_
  obtain ⟨hk5, hw⟩ := hw
  have hw4 := hw
  clear hw
  refine mx_cv M (mx_runV (n := 1) (As := [.int 0]) (rest := []) X M (c_X4_shrink l T B μ x2 0 _ hw4) (mx_recv (C := RX4) (F := TX4) (N := 2) (ci := 6) X M rfl (by decide) hk5) kw_504 kw_496 kw_497 kw_71 kw_498 (by decide +kernel) rfl rfl ⟨Nat.le_of_ble_eq_true rfl, Nat.le_of_ble_eq_true rfl⟩ rfl hl.1 (Nat.le_of_ble_eq_true rfl) dX2_clear_5 ⟨by decide, by decide⟩) (fun μ3 H locs ⟨hw, hKM3⟩ M => ?_)
  replace hw := hw hKM3
  have hKM3_ := hKM.tr hKM3
  have hk6 := hKM3.at hk1
  have hk7 := hKM3.at hk5
  refine lv_aload_n X.1 X.2.1 dX2_clear_8 rfl (lv_at hl 0 rfl) ?_
  refine lv_iload_n X.1 X.2.1 dX2_clear_9 rfl (lv_at hl 1 rfl) ?_
  refine my_puti (C := RX2) (F := TX2) (N := 4) (ci := 4) X M 2 rfl in_X2 tyX2 tyX2_ok nmX2 (by decide) rfl (by decide) kw_191 (Or.inl rfl) dX2_clear_10 hk6 rfl rfl (fun μ8 H locs eμ8 M => ?_)
  replace hw := hw μ8 eμ8
  have hKM9 : KM μ μ8 := by rw [eμ8]; exact hKM3_
  have hk10 : kd μ8 o = 5 := by rw [eμ8]; exact hk6
  refine lv_aload_n X.1 X.2.1 dX2_clear_13 rfl (lv_at hl 0 rfl) ?_
  refine lv_iconst (v := 0) X.1 X.2.1 dX2_clear_14 (by decide) ?_
  refine my_puti (C := RX2) (F := TX2) (N := 4) (ci := 4) X M 3 rfl in_X2 tyX2 tyX2_ok nmX2 (by decide) rfl (by decide) kw_192 (Or.inl rfl) dX2_clear_15 hk10 rfl rfl (fun μ11 H locs eμ11 M => ?_)
  replace hw := hw μ11 eμ11
  have hKM12 : KM μ μ11 := by rw [eμ11]; exact hKM9
  have hk13 : kd μ11 o = 5 := by rw [eμ11]; exact hk10
  exact mx_vret X hr hk M dX2_clear_18 (by decide) (by decide) ⟨hw, hKM12⟩

abbrev rm_X2_used : Room := { frames := 1, cells := 0, slots := 0, locals := 20 }
def wp_X2_used (μ : Mem) (o : Nat) (post : Int32 → Mem → Prop) : Prop :=
  kd μ o = 5 ∧
  ∃ x2, fr μ 4 0 o = some x2 ∧
  kd μ x2 = 7 ∧
  wp_X4_size μ x2 (fun (r5 : Int32) (μ3 : Mem) =>
  KM μ μ3 →
  post r5 μ3)
set_option maxRecDepth 100000 in
set_option maxHeartbeats 4000000 in
theorem c_X2_used (l : Launch) (T : Tb) (B : Nat) (μ : Mem) (o : Nat) (post : Int32 → Mem → Prop) (hw : wp_X2_used μ o post) : Met l yX2_used (.code yX2_used cX2_used 1 (some .int) :: G) rm_X2_used (Pm (Rl T B) T B μ [.ref o]) (va_Qi (fun r9 μ9 => post r9 μ9 ∧ KM μ μ9) (Bm (Rl T B)) (Ai B)) 0 0 (Ai B) := by
  refine mx_of RX2 rfl (by decide) (Nat.le_of_ble_eq_true rfl) ?_
  intro p e s m below meth c0 X hr hk hnm M ls hl
  have hl : lv_has ls 1 [(0, .ref o)] := hl
  unfold wp_X2_used at hw
  have hKM : KM μ μ := KM.rf μ
  refine lv_aload_n X.1 X.2.1 dX2_used_0 rfl (lv_at hl 0 rfl) ?_
  obtain ⟨hk1, hw⟩ := hw
  obtain ⟨x2, ex2, hw⟩ := hw
  refine mx_getr (C := RX2) (F := TX2) (N := 4) (ci := 4) X M 0 rfl in_X2 (by decide) rfl (by decide) kw_189 dX2_used_1 hk1 ?_
  rw [ex2]
  obtain ⟨hk6, hw⟩ := hw
  have hw4 := hw
  clear hw
  refine mx_ci M (mx_runV (n := 0) (As := []) (rest := []) X M (c_X4_size l T B μ x2 _ hw4) (mx_recv (C := RX4) (F := TX4) (N := 2) (ci := 6) X M rfl (by decide) hk6) kw_651 kw_548 kw_549 kw_71 kw_550 (by decide +kernel) rfl rfl ⟨Nat.le_of_ble_eq_true rfl, Nat.le_of_ble_eq_true rfl⟩ rfl hl.1 (Nat.le_of_ble_eq_true rfl) dX2_used_4 ⟨by decide, by decide⟩) (fun r5 μ3 H locs ⟨hw, hKM3⟩ M => ?_)
  replace hw := hw hKM3
  have hKM3_ := hKM.tr hKM3
  have hk7 := hKM3.at hk1
  have hk8 := hKM3.at hk6
  exact mx_iret X hr hk M dX2_used_7 (by decide) (by decide) ⟨hw, hKM3_⟩

abbrev rm_X2_goBackTo : Room := { frames := 2, cells := 0, slots := 0, locals := 42 }
def wp_X2_goBackTo (μ : Mem) (o : Nat) (a1 : Int32) (post : Mem → Prop) : Prop :=
  kd μ o = 5 ∧
  ∃ x2, fr μ 4 0 o = some x2 ∧
  kd μ x2 = 7 ∧
  wp_X4_shrink μ x2 a1 (fun (μ3 : Mem) =>
  KM μ μ3 →
  post μ3)
set_option maxRecDepth 100000 in
set_option maxHeartbeats 4000000 in
theorem c_X2_goBackTo (l : Launch) (T : Tb) (B : Nat) (μ : Mem) (o : Nat) (a1 : Int32) (post : Mem → Prop) (hw : wp_X2_goBackTo μ o a1 post) : Met l yX2_goBackTo (.code yX2_goBackTo cX2_goBackTo 2 none :: G) rm_X2_goBackTo (Pm (Rl T B) T B μ [.ref o, .int a1]) (va_Qv (fun μ9 => post μ9 ∧ KM μ μ9) (Bm (Rl T B)) (Ai B)) 0 0 (Ai B) := by
  refine mx_of RX2 rfl (by decide) (Nat.le_of_ble_eq_true rfl) ?_
  intro p e s m below meth c0 X hr hk hnm M ls hl
  have hl : lv_has ls 2 [(0, .ref o), (1, .int a1)] := hl
  unfold wp_X2_goBackTo at hw
  have hKM : KM μ μ := KM.rf μ
  refine lv_aload_n X.1 X.2.1 dX2_goBackTo_0 rfl (lv_at hl 0 rfl) ?_
  obtain ⟨hk1, hw⟩ := hw
  obtain ⟨x2, ex2, hw⟩ := hw
  refine mx_getr (C := RX2) (F := TX2) (N := 4) (ci := 4) X M 0 rfl in_X2 (by decide) rfl (by decide) kw_189 dX2_goBackTo_1 hk1 ?_
  rw [ex2]
  refine lv_iload_n X.1 X.2.1 dX2_goBackTo_4 rfl (lv_at hl 1 rfl) ?_
  obtain ⟨hk5, hw⟩ := hw
  have hw4 := hw
  clear hw
  refine mx_cv M (mx_runV (n := 1) (As := [.int a1]) (rest := []) X M (c_X4_shrink l T B μ x2 a1 _ hw4) (mx_recv (C := RX4) (F := TX4) (N := 2) (ci := 6) X M rfl (by decide) hk5) kw_504 kw_496 kw_497 kw_71 kw_498 (by decide +kernel) rfl rfl ⟨Nat.le_of_ble_eq_true rfl, Nat.le_of_ble_eq_true rfl⟩ rfl hl.1 (Nat.le_of_ble_eq_true rfl) dX2_goBackTo_5 ⟨by decide, by decide⟩) (fun μ3 H locs ⟨hw, hKM3⟩ M => ?_)
  replace hw := hw hKM3
  have hKM3_ := hKM.tr hKM3
  have hk6 := hKM3.at hk1
  have hk7 := hKM3.at hk5
  exact mx_vret X hr hk M dX2_goBackTo_8 (by decide) (by decide) ⟨hw, hKM3_⟩

abbrev rm_X2_hasRoom : Room := { frames := 1, cells := 0, slots := 0, locals := 20 }
def wp_X2_hasRoom (μ : Mem) (o : Nat) (a1 : Int32) (post : Int32 → Mem → Prop) : Prop :=
  (a1 = 0 →
   post 1 μ) ∧ (¬ a1 = 0 →
   kd μ o = 5 ∧
   ∃ x2, fr μ 4 0 o = some x2 ∧
   kd μ x2 = 7 ∧
   wp_X4_size μ x2 (fun (r5 : Int32) (μ3 : Mem) =>
   KM μ μ3 →
   ((fi μ3 4 2 o) < ((r5 + 1) + a1) →
    post 0 μ3) ∧ (¬ (fi μ3 4 2 o) < ((r5 + 1) + a1) →
    post 1 μ3)))
set_option maxRecDepth 100000 in
set_option maxHeartbeats 4000000 in
theorem c_X2_hasRoom (l : Launch) (T : Tb) (B : Nat) (μ : Mem) (o : Nat) (a1 : Int32) (post : Int32 → Mem → Prop) (hw : wp_X2_hasRoom μ o a1 post) : Met l yX2_hasRoom (.code yX2_hasRoom cX2_hasRoom 2 (some .boolean) :: G) rm_X2_hasRoom (Pm (Rl T B) T B μ [.ref o, .int a1]) (va_Qi (fun r9 μ9 => post r9 μ9 ∧ KM μ μ9) (Bm (Rl T B)) (Ai B)) 0 0 (Ai B) := by
  refine mx_of RX2 rfl (by decide) (Nat.le_of_ble_eq_true rfl) ?_
  intro p e s m below meth c0 X hr hk hnm M ls hl
  have hl : lv_has ls 2 [(0, .ref o), (1, .int a1)] := hl
  unfold wp_X2_hasRoom at hw
  have hKM : KM μ μ := KM.rf μ
  refine lv_iload_n X.1 X.2.1 dX2_hasRoom_0 rfl (lv_at hl 1 rfl) ?_
  obtain ⟨hwt, hwf⟩ := hw
  refine lv_if_eq (tgt := 22) X.1 X.2.1 dX2_hasRoom_1 (by decide) (fun hq => ?_) (fun hq => ?_)
  · have hw := hwt hq
    refine lv_iconst (v := 1) X.1 X.2.1 dX2_hasRoom_22 (by decide) ?_
    refine lv_goto (tgt := 27) X.1 X.2.1 dX2_hasRoom_23 (by decide) ?_
    exact mx_zret X hr hk M dX2_hasRoom_27 (by decide) (by decide) (by decide) ⟨hw, hKM⟩
  · have hw := hwf hq
    refine lv_aload_n X.1 X.2.1 dX2_hasRoom_4 rfl (lv_at hl 0 rfl) ?_
    obtain ⟨hk1, hw⟩ := hw
    obtain ⟨x2, ex2, hw⟩ := hw
    refine mx_getr (C := RX2) (F := TX2) (N := 4) (ci := 4) X M 0 rfl in_X2 (by decide) rfl (by decide) kw_189 dX2_hasRoom_5 hk1 ?_
    rw [ex2]
    obtain ⟨hk6, hw⟩ := hw
    have hw4 := hw
    clear hw
    refine mx_ci M (mx_runV (n := 0) (As := []) (rest := []) X M (c_X4_size l T B μ x2 _ hw4) (mx_recv (C := RX4) (F := TX4) (N := 2) (ci := 6) X M rfl (by decide) hk6) kw_651 kw_548 kw_549 kw_71 kw_550 (by decide +kernel) rfl rfl ⟨Nat.le_of_ble_eq_true rfl, Nat.le_of_ble_eq_true rfl⟩ rfl hl.1 (Nat.le_of_ble_eq_true rfl) dX2_hasRoom_8 ⟨by decide, by decide⟩) (fun r5 μ3 H locs ⟨hw, hKM3⟩ M => ?_)
    replace hw := hw hKM3
    have hKM3_ := hKM.tr hKM3
    have hk7 := hKM3.at hk1
    have hk8 := hKM3.at hk6
    refine lv_iconst (v := 1) X.1 X.2.1 dX2_hasRoom_11 (by decide) ?_
    refine lv_iadd X.1 X.2.1 dX2_hasRoom_12 ?_
    refine lv_iload_n X.1 X.2.1 dX2_hasRoom_13 rfl (lv_at hl 1 rfl) ?_
    refine lv_iadd X.1 X.2.1 dX2_hasRoom_14 ?_
    refine lv_aload_n X.1 X.2.1 dX2_hasRoom_15 rfl (lv_at hl 0 rfl) ?_
    refine mx_geti (C := RX2) (F := TX2) (N := 4) (ci := 4) X M 2 rfl in_X2 (by decide) rfl (by decide) kw_191 dX2_hasRoom_16 hk7 ?_
    obtain ⟨hwt, hwf⟩ := hw
    refine lv_icmp_gt (tgt := 26) X.1 X.2.1 dX2_hasRoom_19 (by decide) (fun hq => ?_) (fun hq => ?_)
    · have hw := hwt hq
      refine lv_iconst (v := 0) X.1 X.2.1 dX2_hasRoom_26 (by decide) ?_
      exact mx_zret X hr hk M dX2_hasRoom_27 (by decide) (by decide) (by decide) ⟨hw, hKM3_⟩
    · have hw := hwf hq
      refine lv_iconst (v := 1) X.1 X.2.1 dX2_hasRoom_22 (by decide) ?_
      refine lv_goto (tgt := 27) X.1 X.2.1 dX2_hasRoom_23 (by decide) ?_
      exact mx_zret X hr hk M dX2_hasRoom_27 (by decide) (by decide) (by decide) ⟨hw, hKM3_⟩

abbrev rm_X2_open (c z : Nat) : Room := { frames := 3, cells := c, slots := z, locals := 84 }
def wp_X2_open (c z : Nat) (μ : Mem) (o : Nat) (a1 : Int32) (a2 : Int32) (post : Int64 → Mem → Prop) : Prop :=
  (a2 = 0 →
   wp_X9_cell μ a1 0 0 (fun (r23 : Int64) (μ21 : Mem) =>
   KM μ μ21 →
   post r23 μ21)) ∧ (¬ a2 = 0 →
   kd μ o = 5 ∧
   ∃ x2, fr μ 4 0 o = some x2 ∧
   kd μ x2 = 7 ∧
   wp_X4_size μ x2 (fun (r5 : Int32) (μ3 : Mem) =>
   KM μ μ3 →
   wp_X9_cell μ3 a1 a2 r5 (fun (r11 : Int64) (μ9 : Mem) =>
   KM μ3 μ9 →
   ∃ x13, fr μ9 4 0 o = some x13 ∧
   kd μ9 x13 = 7 ∧
   ∃ c15 z16, c15 ≤ c ∧ z16 ≤ z ∧
   wp_X4_push c15 z16 μ9 x13 (Int32.toInt64 a1) (fun (μ14 : Mem) =>
   KM μ9 μ14 →
   post r11 μ14))))
set_option maxRecDepth 100000 in
set_option maxHeartbeats 4000000 in
theorem c_X2_open (l : Launch) (T : Tb) (B : Nat) (c z : Nat) (μ : Mem) (o : Nat) (a1 : Int32) (a2 : Int32) (post : Int64 → Mem → Prop) (hw : wp_X2_open c z μ o a1 a2 post) : Met l yX2_open (.code yX2_open cX2_open 5 (some .long) :: G) (rm_X2_open c z) (Pm (Rl T B) T B μ [.ref o, .int a1, .int a2]) (va_Ql (fun r9 μ9 => post r9 μ9 ∧ KM μ μ9) (Bm (Rl T B)) (Ai B)) c z (Ai B) := by
  refine mx_of RX2 rfl (by decide) (Nat.le_of_ble_eq_true rfl) ?_
  intro p e s m below meth c0 X hr hk hnm M ls hl
  have hl : lv_has ls 5 [(0, .ref o), (1, .int a1), (2, .int a2)] := hl
  unfold wp_X2_open at hw
  have hKM : KM μ μ := KM.rf μ
  have hc : 0 + c ≤ c := by omega
  have hz : 0 + z ≤ z := by omega
  refine lv_iload_n X.1 X.2.1 dX2_open_0 rfl (lv_at hl 2 rfl) ?_
  obtain ⟨hwf, hwt⟩ := hw
  refine lv_if_ne (tgt := 11) X.1 X.2.1 dX2_open_1 (by decide) (fun hq => ?_) (fun hq => ?_)
  · have hw := hwt hq
    refine lv_iload_n X.1 X.2.1 dX2_open_11 rfl (lv_at hl 1 rfl) ?_
    refine lv_iload_n X.1 X.2.1 dX2_open_12 rfl (lv_at hl 2 rfl) ?_
    refine lv_aload_n X.1 X.2.1 dX2_open_13 rfl (lv_at hl 0 rfl) ?_
    obtain ⟨hk1, hw⟩ := hw
    obtain ⟨x2, ex2, hw⟩ := hw
    refine mx_getr (C := RX2) (F := TX2) (N := 4) (ci := 4) X M 0 rfl in_X2 (by decide) rfl (by decide) kw_189 dX2_open_14 hk1 ?_
    rw [ex2]
    obtain ⟨hk6, hw⟩ := hw
    have hw4 := hw
    clear hw
    refine mx_ci M (mx_runV (n := 0) (As := []) (rest := [.int a2, .int a1]) X M (c_X4_size l T B μ x2 _ hw4) (mx_recv (C := RX4) (F := TX4) (N := 2) (ci := 6) X M rfl (by decide) hk6) kw_651 kw_548 kw_549 kw_71 kw_550 (by decide +kernel) rfl rfl ⟨Nat.le_of_ble_eq_true rfl, Nat.le_of_ble_eq_true rfl⟩ rfl hl.1 (Nat.le_of_ble_eq_true rfl) dX2_open_17 ⟨(show 0 + 0 ≤ c by omega), (show 0 + 0 ≤ z by omega)⟩) (fun r5 μ3 H locs ⟨hw, hKM3⟩ M => ?_)
    replace hw := hw hKM3
    have hKM3_ := hKM.tr hKM3
    have hk7 := hKM3.at hk1
    have hk8 := hKM3.at hk6
    have hc : (0 + 0) + (c) ≤ c := by omega
    have hz : (0 + 0) + (z) ≤ z := by omega
    have hw10 := hw
    clear hw
    refine mx_cl M (mx_runS (n := 3) (As := [.int a1, .int a2, .int r5]) (rest := []) X M (c_X9_cell l T B μ3 a1 a2 r5 _ hw10) kw_656 kw_657 kw_84 kw_658 (by decide +kernel) rfl rfl ⟨Nat.le_of_ble_eq_true rfl, Nat.le_of_ble_eq_true rfl⟩ rfl hl.1 (Nat.le_of_ble_eq_true rfl) dX2_open_20 ⟨(show (0 + 0) + 0 ≤ c by omega), (show (0 + 0) + 0 ≤ z by omega)⟩) (fun r11 μ9 H locs ⟨hw, hKM9⟩ M => ?_)
    replace hw := hw hKM9
    have hKM9_ := hKM3_.tr hKM9
    have hk12 := hKM9.at hk7
    have hc : ((0 + 0) + 0) + (c) ≤ c := by omega
    have hz : ((0 + 0) + 0) + (z) ≤ z := by omega
    refine lv_lstore_n (lv' := [(3, .long r11), (0, .ref o), (1, .int a1), (2, .int a2)]) X.1 X.2.1 dX2_open_23 rfl hl (by decide) rfl (fun ls hl => ?_)
    refine lv_aload_n X.1 X.2.1 dX2_open_24 rfl (lv_at hl 1 rfl) ?_
    obtain ⟨x13, ex13, hw⟩ := hw
    refine mx_getr (C := RX2) (F := TX2) (N := 4) (ci := 4) X M 0 rfl in_X2 (by decide) rfl (by decide) kw_189 dX2_open_25 hk12 ?_
    rw [ex13]
    refine lv_iload_n X.1 X.2.1 dX2_open_28 rfl (lv_at hl 2 rfl) ?_
    refine lv_i2l X.1 X.2.1 dX2_open_29 rfl ?_
    obtain ⟨hk18, hw⟩ := hw
    obtain ⟨c15, z16, hc15, hz16, hw⟩ := hw
    have hw17 := hw
    clear hw
    refine mx_cv M (mx_runV (n := 1) (As := [.long (Int32.toInt64 a1)]) (rest := []) X M (c_X4_push l T B c15 z16 μ9 x13 (Int32.toInt64 a1) _ hw17) (mx_recv (C := RX4) (F := TX4) (N := 2) (ci := 6) X M rfl (by decide) hk18) kw_660 kw_552 kw_553 kw_71 kw_554 (by decide +kernel) rfl rfl ⟨Nat.le_of_ble_eq_true rfl, Nat.le_of_ble_eq_true rfl⟩ rfl hl.1 (Nat.le_of_ble_eq_true rfl) dX2_open_30 ⟨(show ((0 + 0) + 0) + c15 ≤ c by omega), (show ((0 + 0) + 0) + z16 ≤ z by omega)⟩) (fun μ14 H locs ⟨hw, hKM14⟩ M => ?_)
    replace hw := hw hKM14
    have hKM14_ := hKM9_.tr hKM14
    have hk19 := hKM14.at hk12
    have hk20 := hKM14.at hk18
    have hc : (((0 + 0) + 0) + c15) + (c - c15) ≤ c := by omega
    have hz : (((0 + 0) + 0) + z16) + (z - z16) ≤ z := by omega
    refine lv_lload_n X.1 X.2.1 dX2_open_33 rfl (lv_at hl 0 rfl) ?_
    exact mx_lret X hr hk M dX2_open_34 (by omega) (by omega) ⟨hw, hKM14_⟩
  · have hw := hwf hq
    refine lv_iload_n X.1 X.2.1 dX2_open_4 rfl (lv_at hl 1 rfl) ?_
    refine lv_iconst (v := 0) X.1 X.2.1 dX2_open_5 (by decide) ?_
    refine lv_iconst (v := 0) X.1 X.2.1 dX2_open_6 (by decide) ?_
    have hw22 := hw
    clear hw
    refine mx_cl M (mx_runS (n := 3) (As := [.int a1, .int 0, .int 0]) (rest := []) X M (c_X9_cell l T B μ a1 0 0 _ hw22) kw_656 kw_657 kw_84 kw_658 (by decide +kernel) rfl rfl ⟨Nat.le_of_ble_eq_true rfl, Nat.le_of_ble_eq_true rfl⟩ rfl hl.1 (Nat.le_of_ble_eq_true rfl) dX2_open_7 ⟨(show 0 + 0 ≤ c by omega), (show 0 + 0 ≤ z by omega)⟩) (fun r23 μ21 H locs ⟨hw, hKM21⟩ M => ?_)
    replace hw := hw hKM21
    have hKM21_ := hKM.tr hKM21
    have hc : (0 + 0) + (c) ≤ c := by omega
    have hz : (0 + 0) + (z) ≤ z := by omega
    exact mx_lret X hr hk M dX2_open_10 (by omega) (by omega) ⟨hw, hKM21_⟩

abbrev rm_X2_fill (c z : Nat) : Room := { frames := 3, cells := c, slots := z, locals := 84 }
def wp_X2_fill (c z : Nat) (μ : Mem) (o : Nat) (a1 : Int64) (post : Mem → Prop) : Prop :=
  kd μ o = 5 ∧
  ∃ x2, fr μ 4 0 o = some x2 ∧
  kd μ x2 = 7 ∧
  ∃ c4 z5, c4 ≤ c ∧ z5 ≤ z ∧
  wp_X4_push c4 z5 μ x2 a1 (fun (μ3 : Mem) =>
  KM μ μ3 →
  ∃ x10, fr μ3 4 0 o = some x10 ∧
  kd μ3 x10 = 7 ∧
  wp_X4_size μ3 x10 (fun (r13 : Int32) (μ11 : Mem) =>
  KM μ3 μ11 →
  ∀ μ17 : Mem, μ17 = sfi μ11 4 3 o (if (fi μ3 4 3 o) < r13 then r13 else (fi μ3 4 3 o)) →
  post μ17))
set_option maxRecDepth 100000 in
set_option maxHeartbeats 4000000 in
theorem c_X2_fill (l : Launch) (T : Tb) (B : Nat) (c z : Nat) (μ : Mem) (o : Nat) (a1 : Int64) (post : Mem → Prop) (hw : wp_X2_fill c z μ o a1 post) : Met l yX2_fill (.code yX2_fill cX2_fill 3 none :: G) (rm_X2_fill c z) (Pm (Rl T B) T B μ [.ref o, .long a1]) (va_Qv (fun μ9 => post μ9 ∧ KM μ μ9) (Bm (Rl T B)) (Ai B)) c z (Ai B) := by
  refine mx_of RX2 rfl (by decide) (Nat.le_of_ble_eq_true rfl) ?_
  intro p e s m below meth c0 X hr hk hnm M ls hl
  have hl : lv_has ls 3 [(0, .ref o), (1, .long a1)] := hl
  unfold wp_X2_fill at hw
  have hKM : KM μ μ := KM.rf μ
  have hc : 0 + c ≤ c := by omega
  have hz : 0 + z ≤ z := by omega
  refine lv_aload_n X.1 X.2.1 dX2_fill_0 rfl (lv_at hl 0 rfl) ?_
  obtain ⟨hk1, hw⟩ := hw
  obtain ⟨x2, ex2, hw⟩ := hw
  refine mx_getr (C := RX2) (F := TX2) (N := 4) (ci := 4) X M 0 rfl in_X2 (by decide) rfl (by decide) kw_189 dX2_fill_1 hk1 ?_
  rw [ex2]
  refine lv_lload_n X.1 X.2.1 dX2_fill_4 rfl (lv_at hl 1 rfl) ?_
  obtain ⟨hk7, hw⟩ := hw
  obtain ⟨c4, z5, hc4, hz5, hw⟩ := hw
  have hw6 := hw
  clear hw
  refine mx_cv M (mx_runV (n := 1) (As := [.long a1]) (rest := []) X M (c_X4_push l T B c4 z5 μ x2 a1 _ hw6) (mx_recv (C := RX4) (F := TX4) (N := 2) (ci := 6) X M rfl (by decide) hk7) kw_660 kw_552 kw_553 kw_71 kw_554 (by decide +kernel) rfl rfl ⟨Nat.le_of_ble_eq_true rfl, Nat.le_of_ble_eq_true rfl⟩ rfl hl.1 (Nat.le_of_ble_eq_true rfl) dX2_fill_5 ⟨(show 0 + c4 ≤ c by omega), (show 0 + z5 ≤ z by omega)⟩) (fun μ3 H locs ⟨hw, hKM3⟩ M => ?_)
  replace hw := hw hKM3
  have hKM3_ := hKM.tr hKM3
  have hk8 := hKM3.at hk1
  have hk9 := hKM3.at hk7
  have hc : (0 + c4) + (c - c4) ≤ c := by omega
  have hz : (0 + z5) + (z - z5) ≤ z := by omega
  refine lv_aload_n X.1 X.2.1 dX2_fill_8 rfl (lv_at hl 0 rfl) ?_
  refine lv_aload_n X.1 X.2.1 dX2_fill_9 rfl (lv_at hl 0 rfl) ?_
  refine mx_geti (C := RX2) (F := TX2) (N := 4) (ci := 4) X M 3 rfl in_X2 (by decide) rfl (by decide) kw_192 dX2_fill_10 hk8 ?_
  refine lv_aload_n X.1 X.2.1 dX2_fill_13 rfl (lv_at hl 0 rfl) ?_
  obtain ⟨x10, ex10, hw⟩ := hw
  refine mx_getr (C := RX2) (F := TX2) (N := 4) (ci := 4) X M 0 rfl in_X2 (by decide) rfl (by decide) kw_189 dX2_fill_14 hk8 ?_
  rw [ex10]
  obtain ⟨hk14, hw⟩ := hw
  have hw12 := hw
  clear hw
  refine mx_ci M (mx_runV (n := 0) (As := []) (rest := [.int (fi μ3 4 3 o), .ref o]) X M (c_X4_size l T B μ3 x10 _ hw12) (mx_recv (C := RX4) (F := TX4) (N := 2) (ci := 6) X M rfl (by decide) hk14) kw_651 kw_548 kw_549 kw_71 kw_550 (by decide +kernel) rfl rfl ⟨Nat.le_of_ble_eq_true rfl, Nat.le_of_ble_eq_true rfl⟩ rfl hl.1 (Nat.le_of_ble_eq_true rfl) dX2_fill_17 ⟨(show (0 + c4) + 0 ≤ c by omega), (show (0 + z5) + 0 ≤ z by omega)⟩) (fun r13 μ11 H locs ⟨hw, hKM11⟩ M => ?_)
  replace hw := hw hKM11
  have hKM11_ := hKM3_.tr hKM11
  have hk15 := hKM11.at hk8
  have hk16 := hKM11.at hk14
  have hc : ((0 + c4) + 0) + (c - c4) ≤ c := by omega
  have hz : ((0 + z5) + 0) + (z - z5) ≤ z := by omega
  refine my_max X kw_665 kw_280 kw_75 kw_281 hl.1 (Nat.le_of_ble_eq_true rfl) (Nat.le_of_ble_eq_true rfl) (show ((0 + c4) + 0) ≤ c by omega) (show ((0 + z5) + 0) ≤ z by omega) dX2_fill_20 ?_
  refine my_puti (C := RX2) (F := TX2) (N := 4) (ci := 4) X M 3 rfl in_X2 tyX2 tyX2_ok nmX2 (by decide) rfl (by decide) kw_192 (Or.inl rfl) dX2_fill_23 hk15 rfl rfl (fun μ17 H locs eμ17 M => ?_)
  replace hw := hw μ17 eμ17
  have hKM18 : KM μ μ17 := by rw [eμ17]; exact hKM11_
  have hk19 : kd μ17 o = 5 := by rw [eμ17]; exact hk15
  exact mx_vret X hr hk M dX2_fill_26 (by omega) (by omega) ⟨hw, hKM18⟩

abbrev rm_X2_field : Room := { frames := 2, cells := 0, slots := 0, locals := 42 }
def wp_X2_field (μ : Mem) (o : Nat) (a1 : Int64) (a2 : Int32) (post : Int64 → Mem → Prop) : Prop :=
  kd μ o = 5 ∧
  ∃ x2, fr μ 4 0 o = some x2 ∧
  wp_X9_place μ a1 (fun (r5 : Int32) (μ3 : Mem) =>
  KM μ μ3 →
  kd μ3 x2 = 7 ∧
  wp_X4_at μ3 x2 ((r5 + 1) + a2) (fun (r9 : Int64) (μ7 : Mem) =>
  KM μ3 μ7 →
  post r9 μ7))
set_option maxRecDepth 100000 in
set_option maxHeartbeats 4000000 in
theorem c_X2_field (l : Launch) (T : Tb) (B : Nat) (μ : Mem) (o : Nat) (a1 : Int64) (a2 : Int32) (post : Int64 → Mem → Prop) (hw : wp_X2_field μ o a1 a2 post) : Met l yX2_field (.code yX2_field cX2_field 4 (some .long) :: G) rm_X2_field (Pm (Rl T B) T B μ [.ref o, .long a1, .int a2]) (va_Ql (fun r9 μ9 => post r9 μ9 ∧ KM μ μ9) (Bm (Rl T B)) (Ai B)) 0 0 (Ai B) := by
  refine mx_of RX2 rfl (by decide) (Nat.le_of_ble_eq_true rfl) ?_
  intro p e s m below meth c0 X hr hk hnm M ls hl
  have hl : lv_has ls 4 [(0, .ref o), (1, .long a1), (3, .int a2)] := hl
  unfold wp_X2_field at hw
  have hKM : KM μ μ := KM.rf μ
  refine lv_aload_n X.1 X.2.1 dX2_field_0 rfl (lv_at hl 0 rfl) ?_
  obtain ⟨hk1, hw⟩ := hw
  obtain ⟨x2, ex2, hw⟩ := hw
  refine mx_getr (C := RX2) (F := TX2) (N := 4) (ci := 4) X M 0 rfl in_X2 (by decide) rfl (by decide) kw_189 dX2_field_1 hk1 ?_
  rw [ex2]
  refine lv_lload_n X.1 X.2.1 dX2_field_4 rfl (lv_at hl 1 rfl) ?_
  have hw4 := hw
  clear hw
  refine mx_ci M (mx_runS (n := 1) (As := [.long a1]) (rest := [.ref x2]) X M (c_X9_place l T B μ a1 _ hw4) kw_688 kw_689 kw_84 kw_690 (by decide +kernel) rfl rfl ⟨Nat.le_of_ble_eq_true rfl, Nat.le_of_ble_eq_true rfl⟩ rfl hl.1 (Nat.le_of_ble_eq_true rfl) dX2_field_5 ⟨by decide, by decide⟩) (fun r5 μ3 H locs ⟨hw, hKM3⟩ M => ?_)
  replace hw := hw hKM3
  have hKM3_ := hKM.tr hKM3
  have hk6 := hKM3.at hk1
  refine lv_iconst (v := 1) X.1 X.2.1 dX2_field_8 (by decide) ?_
  refine lv_iadd X.1 X.2.1 dX2_field_9 ?_
  refine lv_iload_n X.1 X.2.1 dX2_field_10 rfl (lv_at hl 2 rfl) ?_
  refine lv_iadd X.1 X.2.1 dX2_field_11 ?_
  obtain ⟨hk10, hw⟩ := hw
  have hw8 := hw
  clear hw
  refine mx_cl M (mx_runV (n := 1) (As := [.int ((r5 + 1) + a2)]) (rest := []) X M (c_X4_at l T B μ3 x2 ((r5 + 1) + a2) _ hw8) (mx_recv (C := RX4) (F := TX4) (N := 2) (ci := 6) X M rfl (by decide) hk10) kw_692 kw_583 kw_584 kw_71 kw_585 (by decide +kernel) rfl rfl ⟨Nat.le_of_ble_eq_true rfl, Nat.le_of_ble_eq_true rfl⟩ rfl hl.1 (Nat.le_of_ble_eq_true rfl) dX2_field_12 ⟨by decide, by decide⟩) (fun r9 μ7 H locs ⟨hw, hKM7⟩ M => ?_)
  replace hw := hw hKM7
  have hKM7_ := hKM3_.tr hKM7
  have hk11 := hKM7.at hk6
  have hk12 := hKM7.at hk10
  exact mx_lret X hr hk M dX2_field_15 (by decide) (by decide) ⟨hw, hKM7_⟩

abbrev rm_X2_awaitFields (c z : Nat) : Room := { frames := 3, cells := c, slots := z, locals := 84 }
def wp_X2_awaitFields_16 (o : Nat) (post : Mem → Prop) : Nat → Nat → Nat → Mem → Int64 → Int64 → Int32 → Prop
  | 0, _, _, _, _, _, _ => False
  | n + 1, c, z, μ, x1, x3, x5 =>
    (x5 < 0 →
     post μ) ∧ (¬ x5 < 0 →
     kd μ o = 5 ∧
     ∃ x9, fr μ 4 1 o = some x9 ∧
     wp_X2_field μ o x1 x5 (fun (r12 : Int64) (μ10 : Mem) =>
     KM μ μ10 →
     kd μ10 x9 = 7 ∧
     ∃ c15 z16, c15 ≤ c ∧ z16 ≤ z ∧
     wp_X4_push c15 z16 μ10 x9 r12 (fun (μ14 : Mem) =>
     KM μ10 μ14 →
     ∃ x21, fr μ14 4 1 o = some x21 ∧
     wp_X2_field μ14 o x3 x5 (fun (r24 : Int64) (μ22 : Mem) =>
     KM μ14 μ22 →
     kd μ22 x21 = 7 ∧
     ∃ c27 z28, c27 ≤ c - c15 ∧ z28 ≤ z - z16 ∧
     wp_X4_push c27 z28 μ22 x21 r24 (fun (μ26 : Mem) =>
     KM μ22 μ26 →
     ∀ v33 : Int32, v33 = x5 + (-1) →
     wp_X2_awaitFields_16 o post n ((c - c15) - c27) ((z - z16) - z28) μ26 x1 x3 v33)))))
def wp_X2_awaitFields (c z : Nat) (μ : Mem) (o : Nat) (a1 : Int64) (a2 : Int64) (post : Mem → Prop) : Prop :=
  wp_X9_isCell μ a1 (fun (r3 : Int32) (μ1 : Mem) =>
  KM μ μ1 →
  (r3 = 0 →
   post μ1) ∧ (¬ r3 = 0 →
   wp_X9_fields μ1 a1 (fun (r6 : Int32) (μ4 : Mem) =>
   KM μ1 μ4 →
   ∀ v7 : Int32, v7 = (r6 - 1) →
   ∃ n34, wp_X2_awaitFields_16 o post n34 c z μ4 a1 a2 v7)))
set_option maxRecDepth 100000 in
set_option maxHeartbeats 4000000 in
theorem b_X2_awaitFields_16 {T : Tb} {B : Nat} {p : Program} {l : Launch} {e : Env} {s : State} {m : MethodId} {args : Array Value} {below : List Frame} {meth : Method} {c0 : Code} {post : Mem → Prop} {μ0 : Mem} {o : Nat} {cT zT : Nat} (X : CX T B p m c0 cX2_awaitFields 6 s args RX2) (hr : meth.sig.returnType = none) (hk : meth.locks = false) : ∀ (n : Nat) (c z cells slots : Nat) (μ : Mem) (x1 : Int64) (x3 : Int64) (x5 : Int32) (H : Heap) (locs : List Loc) (ls : Array Slot), cells + c ≤ cT → slots + z ≤ zT → KM μ0 μ → wp_X2_awaitFields_16 o post n c z μ x1 x3 x5 → MG (Rl T B) B s μ H locs → lv_has ls 6 [(0, .ref o), (1, .long x1), (3, .long x3), (5, .int x5)] → W p l e (rm_X2_awaitFields cT zT) s m args below meth c0 H locs cells slots (MQ below (va_Qv (fun μ9 => post μ9 ∧ KM μ0 μ9) (Bm (Rl T B)) (Ai B)) args s cT zT (Ai B)) (F0 m 16 ls []) := by
  intro n
  induction n with
  | zero =>
    intro c z cells slots μ x1 x3 x5 H locs ls hc hz hKM hw
    exact hw.elim
  | succ n ih =>
    intro c z cells slots μ x1 x3 x5 H locs ls hc hz hKM hw M hl
    rw [wp_X2_awaitFields_16] at hw
    refine lv_iload X.1 X.2.1 dX2_awaitFields_16 (lv_at hl 3 rfl) ?_
    obtain ⟨hwt, hwf⟩ := hw
    refine lv_if_lt (tgt := 55) X.1 X.2.1 dX2_awaitFields_18 (by decide) (fun hq => ?_) (fun hq => ?_)
    · have hw := hwt hq
      exact mx_vret X hr hk M dX2_awaitFields_55 (by omega) (by omega) ⟨hw, hKM⟩
    · have hw := hwf hq
      refine lv_aload_n X.1 X.2.1 dX2_awaitFields_21 rfl (lv_at hl 0 rfl) ?_
      obtain ⟨hk8, hw⟩ := hw
      obtain ⟨x9, ex9, hw⟩ := hw
      refine mx_getr (C := RX2) (F := TX2) (N := 4) (ci := 4) X M 1 rfl in_X2 (by decide) rfl (by decide) kw_190 dX2_awaitFields_22 hk8 ?_
      rw [ex9]
      refine lv_aload_n X.1 X.2.1 dX2_awaitFields_25 rfl (lv_at hl 0 rfl) ?_
      refine lv_lload_n X.1 X.2.1 dX2_awaitFields_26 rfl (lv_at hl 1 rfl) ?_
      refine lv_iload X.1 X.2.1 dX2_awaitFields_27 (lv_at hl 3 rfl) ?_
      have hw11 := hw
      clear hw
      refine mx_cl M (mx_runV (n := 2) (As := [.long x1, .int x5]) (rest := [.ref x9]) X M (c_X2_field l T B μ o x1 x5 _ hw11) (mx_recv (C := RX2) (F := TX2) (N := 4) (ci := 4) X M rfl (by decide) hk8) kw_708 kw_685 kw_686 kw_72 kw_687 (by decide +kernel) rfl rfl ⟨Nat.le_of_ble_eq_true rfl, Nat.le_of_ble_eq_true rfl⟩ rfl hl.1 (Nat.le_of_ble_eq_true rfl) dX2_awaitFields_29 ⟨(show cells + 0 ≤ cT by omega), (show slots + 0 ≤ zT by omega)⟩) (fun r12 μ10 H locs ⟨hw, hKM10⟩ M => ?_)
      replace hw := hw hKM10
      have hKM10_ := hKM.tr hKM10
      have hk13 := hKM10.at hk8
      have hc : (cells + 0) + (c) ≤ cT := by omega
      have hz : (slots + 0) + (z) ≤ zT := by omega
      obtain ⟨hk18, hw⟩ := hw
      obtain ⟨c15, z16, hc15, hz16, hw⟩ := hw
      have hw17 := hw
      clear hw
      refine mx_cv M (mx_runV (n := 1) (As := [.long r12]) (rest := []) X M (c_X4_push l T B c15 z16 μ10 x9 r12 _ hw17) (mx_recv (C := RX4) (F := TX4) (N := 2) (ci := 6) X M rfl (by decide) hk18) kw_660 kw_552 kw_553 kw_71 kw_554 (by decide +kernel) rfl rfl ⟨Nat.le_of_ble_eq_true rfl, Nat.le_of_ble_eq_true rfl⟩ rfl hl.1 (Nat.le_of_ble_eq_true rfl) dX2_awaitFields_32 ⟨(show (cells + 0) + c15 ≤ cT by omega), (show (slots + 0) + z16 ≤ zT by omega)⟩) (fun μ14 H locs ⟨hw, hKM14⟩ M => ?_)
      replace hw := hw hKM14
      have hKM14_ := hKM10_.tr hKM14
      have hk19 := hKM14.at hk13
      have hk20 := hKM14.at hk18
      have hc : ((cells + 0) + c15) + (c - c15) ≤ cT := by omega
      have hz : ((slots + 0) + z16) + (z - z16) ≤ zT := by omega
      refine lv_aload_n X.1 X.2.1 dX2_awaitFields_35 rfl (lv_at hl 0 rfl) ?_
      obtain ⟨x21, ex21, hw⟩ := hw
      refine mx_getr (C := RX2) (F := TX2) (N := 4) (ci := 4) X M 1 rfl in_X2 (by decide) rfl (by decide) kw_190 dX2_awaitFields_36 hk19 ?_
      rw [ex21]
      refine lv_aload_n X.1 X.2.1 dX2_awaitFields_39 rfl (lv_at hl 0 rfl) ?_
      refine lv_lload_n X.1 X.2.1 dX2_awaitFields_40 rfl (lv_at hl 2 rfl) ?_
      refine lv_iload X.1 X.2.1 dX2_awaitFields_41 (lv_at hl 3 rfl) ?_
      have hw23 := hw
      clear hw
      refine mx_cl M (mx_runV (n := 2) (As := [.long x3, .int x5]) (rest := [.ref x21]) X M (c_X2_field l T B μ14 o x3 x5 _ hw23) (mx_recv (C := RX2) (F := TX2) (N := 4) (ci := 4) X M rfl (by decide) hk19) kw_708 kw_685 kw_686 kw_72 kw_687 (by decide +kernel) rfl rfl ⟨Nat.le_of_ble_eq_true rfl, Nat.le_of_ble_eq_true rfl⟩ rfl hl.1 (Nat.le_of_ble_eq_true rfl) dX2_awaitFields_43 ⟨(show ((cells + 0) + c15) + 0 ≤ cT by omega), (show ((slots + 0) + z16) + 0 ≤ zT by omega)⟩) (fun r24 μ22 H locs ⟨hw, hKM22⟩ M => ?_)
      replace hw := hw hKM22
      have hKM22_ := hKM14_.tr hKM22
      have hk25 := hKM22.at hk19
      have hc : (((cells + 0) + c15) + 0) + (c - c15) ≤ cT := by omega
      have hz : (((slots + 0) + z16) + 0) + (z - z16) ≤ zT := by omega
      obtain ⟨hk30, hw⟩ := hw
      obtain ⟨c27, z28, hc27, hz28, hw⟩ := hw
      have hw29 := hw
      clear hw
      refine mx_cv M (mx_runV (n := 1) (As := [.long r24]) (rest := []) X M (c_X4_push l T B c27 z28 μ22 x21 r24 _ hw29) (mx_recv (C := RX4) (F := TX4) (N := 2) (ci := 6) X M rfl (by decide) hk30) kw_660 kw_552 kw_553 kw_71 kw_554 (by decide +kernel) rfl rfl ⟨Nat.le_of_ble_eq_true rfl, Nat.le_of_ble_eq_true rfl⟩ rfl hl.1 (Nat.le_of_ble_eq_true rfl) dX2_awaitFields_46 ⟨(show (((cells + 0) + c15) + 0) + c27 ≤ cT by omega), (show (((slots + 0) + z16) + 0) + z28 ≤ zT by omega)⟩) (fun μ26 H locs ⟨hw, hKM26⟩ M => ?_)
      replace hw := hw hKM26
      have hKM26_ := hKM22_.tr hKM26
      have hk31 := hKM26.at hk25
      have hk32 := hKM26.at hk30
      have hc : ((((cells + 0) + c15) + 0) + c27) + ((c - c15) - c27) ≤ cT := by omega
      have hz : ((((slots + 0) + z16) + 0) + z28) + ((z - z16) - z28) ≤ zT := by omega
      obtain ⟨v33, ev33⟩ : ∃ y : Int32, y = x5 + (-1) := ⟨_, rfl⟩
      replace hw := hw v33 ev33
      refine lv_iinc (v := v33) (lv' := [(5, .int v33), (0, .ref o), (1, .long x1), (3, .long x3)]) X.1 X.2.1 dX2_awaitFields_49 hl (k := 3) rfl (by rw [ev33]; rfl) (by decide) rfl (fun ls hl => ?_)
      refine lv_goto (tgt := 16) X.1 X.2.1 dX2_awaitFields_52 (by decide) ?_
      exact ih _ _ _ _ μ26 x1 x3 v33 _ _ _ (by omega) (by omega) hKM26_ hw M (lv_sub hl [1, 2, 3, 0] rfl)
set_option maxRecDepth 100000 in
set_option maxHeartbeats 4000000 in
theorem c_X2_awaitFields (l : Launch) (T : Tb) (B : Nat) (c z : Nat) (μ : Mem) (o : Nat) (a1 : Int64) (a2 : Int64) (post : Mem → Prop) (hw : wp_X2_awaitFields c z μ o a1 a2 post) : Met l yX2_awaitFields (.code yX2_awaitFields cX2_awaitFields 6 none :: G) (rm_X2_awaitFields c z) (Pm (Rl T B) T B μ [.ref o, .long a1, .long a2]) (va_Qv (fun μ9 => post μ9 ∧ KM μ μ9) (Bm (Rl T B)) (Ai B)) c z (Ai B) := by
  refine mx_of RX2 rfl (by decide) (Nat.le_of_ble_eq_true rfl) ?_
  intro p e s m below meth c0 X hr hk hnm M ls hl
  have hl : lv_has ls 6 [(0, .ref o), (1, .long a1), (3, .long a2)] := hl
  unfold wp_X2_awaitFields at hw
  have hKM : KM μ μ := KM.rf μ
  have hc : 0 + c ≤ c := by omega
  have hz : 0 + z ≤ z := by omega
  refine lv_lload_n X.1 X.2.1 dX2_awaitFields_0 rfl (lv_at hl 1 rfl) ?_
  have hw2 := hw
  clear hw
  refine mx_ci M (mx_runS (n := 1) (As := [.long a1]) (rest := []) X M (c_X9_isCell l T B μ a1 _ hw2) kw_706 kw_674 kw_84 kw_675 (by decide +kernel) rfl rfl ⟨Nat.le_of_ble_eq_true rfl, Nat.le_of_ble_eq_true rfl⟩ rfl hl.1 (Nat.le_of_ble_eq_true rfl) dX2_awaitFields_1 ⟨(show 0 + 0 ≤ c by omega), (show 0 + 0 ≤ z by omega)⟩) (fun r3 μ1 H locs ⟨hw, hKM1⟩ M => ?_)
  replace hw := hw hKM1
  have hKM1_ := hKM.tr hKM1
  have hc : (0 + 0) + (c) ≤ c := by omega
  have hz : (0 + 0) + (z) ≤ z := by omega
  obtain ⟨hwf, hwt⟩ := hw
  refine lv_if_ne (tgt := 8) X.1 X.2.1 dX2_awaitFields_4 (by decide) (fun hq => ?_) (fun hq => ?_)
  · have hw := hwt hq
    refine lv_lload_n X.1 X.2.1 dX2_awaitFields_8 rfl (lv_at hl 1 rfl) ?_
    have hw5 := hw
    clear hw
    refine mx_ci M (mx_runS (n := 1) (As := [.long a1]) (rest := []) X M (c_X9_fields l T B μ1 a1 _ hw5) kw_707 kw_681 kw_84 kw_682 (by decide +kernel) rfl rfl ⟨Nat.le_of_ble_eq_true rfl, Nat.le_of_ble_eq_true rfl⟩ rfl hl.1 (Nat.le_of_ble_eq_true rfl) dX2_awaitFields_9 ⟨(show (0 + 0) + 0 ≤ c by omega), (show (0 + 0) + 0 ≤ z by omega)⟩) (fun r6 μ4 H locs ⟨hw, hKM4⟩ M => ?_)
    replace hw := hw hKM4
    have hKM4_ := hKM1_.tr hKM4
    have hc : ((0 + 0) + 0) + (c) ≤ c := by omega
    have hz : ((0 + 0) + 0) + (z) ≤ z := by omega
    refine lv_iconst (v := 1) X.1 X.2.1 dX2_awaitFields_12 (by decide) ?_
    refine lv_isub X.1 X.2.1 dX2_awaitFields_13 ?_
    refine lv_topi (fun v7 ev7 => ?_)
    replace hw := hw v7 ev7
    refine lv_istore (lv' := [(5, .int v7), (0, .ref o), (1, .long a1), (3, .long a2)]) X.1 X.2.1 dX2_awaitFields_14 hl (by decide) rfl (fun ls hl => ?_)
    obtain ⟨n34, hw⟩ := hw
    exact b_X2_awaitFields_16 X hr hk n34 _ _ _ _ μ4 a1 a2 v7 _ _ _ (by omega) (by omega) hKM4_ hw M (lv_sub hl [1, 2, 3, 0] rfl)
  · have hw := hwf hq
    exact mx_vret X hr hk M dX2_awaitFields_7 (by omega) (by omega) ⟨hw, hKM1_⟩

abbrev rm_X2_compare (c z : Nat) : Room := { frames := 4, cells := c, slots := z, locals := 109 }
def wp_X2_compare_27 (o : Nat) (post : Int32 → Mem → Prop) : Nat → Nat → Nat → Mem → Int32 → Prop
  | 0, _, _, _, _ => False
  | n + 1, c, z, μ, x5 =>
    (5000 ≤ x5 →
     kd μ o = 5 ∧
     ∃ x25, fr μ 4 1 o = some x25 ∧
     kd μ x25 = 7 ∧
     wp_X4_size μ x25 (fun (r28 : Int32) (μ26 : Mem) =>
     KM μ μ26 →
     (r28 ≤ 0 →
      post 0 μ26) ∧ (¬ r28 ≤ 0 →
      post 6 μ26))) ∧ (¬ 5000 ≤ x5 →
     kd μ o = 5 ∧
     ∃ x33, fr μ 4 1 o = some x33 ∧
     kd μ x33 = 7 ∧
     wp_X4_size μ x33 (fun (r36 : Int32) (μ34 : Mem) =>
     KM μ μ34 →
     (r36 ≤ 0 →
      ∃ x40, fr μ34 4 1 o = some x40 ∧
      kd μ34 x40 = 7 ∧
      wp_X4_size μ34 x40 (fun (r43 : Int32) (μ41 : Mem) =>
      KM μ34 μ41 →
      (r43 ≤ 0 →
       post 0 μ41) ∧ (¬ r43 ≤ 0 →
       post 6 μ41))) ∧ (¬ r36 ≤ 0 →
      ∃ x47, fr μ34 4 1 o = some x47 ∧
      kd μ34 x47 = 7 ∧
      wp_X4_pop μ34 x47 (fun (r50 : Int64) (μ48 : Mem) =>
      KM μ34 μ48 →
      ∃ x54, fr μ48 4 1 o = some x54 ∧
      kd μ48 x54 = 7 ∧
      wp_X4_pop μ48 x54 (fun (r57 : Int64) (μ55 : Mem) =>
      KM μ48 μ55 →
      wp_X9_differ μ55 r57 r50 (fun (r63 : Int32) (μ61 : Mem) =>
      KM μ55 μ61 →
      (r63 = 0 →
       ∃ c66 z67, c66 ≤ c ∧ z67 ≤ z ∧
       wp_X2_awaitFields c66 z67 μ61 o r57 r50 (fun (μ65 : Mem) =>
       KM μ61 μ65 →
       ∀ v70 : Int32, v70 = x5 + 1 →
       wp_X2_compare_27 o post n (c - c66) (z - z67) μ65 v70)) ∧ (¬ r63 = 0 →
       post 7 μ61)))))))
def wp_X2_compare (c z : Nat) (μ : Mem) (o : Nat) (a1 : Int64) (a2 : Int64) (post : Int32 → Mem → Prop) : Prop :=
  kd μ o = 5 ∧
  ∃ x2, fr μ 4 1 o = some x2 ∧
  kd μ x2 = 7 ∧
  wp_X4_shrink μ x2 0 (fun (μ3 : Mem) =>
  KM μ μ3 →
  ∃ x8, fr μ3 4 1 o = some x8 ∧
  kd μ3 x8 = 7 ∧
  ∃ c10 z11, c10 ≤ c ∧ z11 ≤ z ∧
  wp_X4_push c10 z11 μ3 x8 a1 (fun (μ9 : Mem) =>
  KM μ3 μ9 →
  ∃ x16, fr μ9 4 1 o = some x16 ∧
  kd μ9 x16 = 7 ∧
  ∃ c18 z19, c18 ≤ c - c10 ∧ z19 ≤ z - z11 ∧
  wp_X4_push c18 z19 μ9 x16 a2 (fun (μ17 : Mem) =>
  KM μ9 μ17 →
  ∃ n71, wp_X2_compare_27 o post n71 ((c - c10) - c18) ((z - z11) - z19) μ17 0)))
set_option maxRecDepth 100000 in
set_option maxHeartbeats 4000000 in
theorem b_X2_compare_27 {T : Tb} {B : Nat} {p : Program} {l : Launch} {e : Env} {s : State} {m : MethodId} {args : Array Value} {below : List Frame} {meth : Method} {c0 : Code} {post : Int32 → Mem → Prop} {μ0 : Mem} {o : Nat} {cT zT : Nat} (X : CX T B p m c0 cX2_compare 10 s args RX2) (hr : meth.sig.returnType = (some .int)) (hk : meth.locks = false) : ∀ (n : Nat) (c z cells slots : Nat) (μ : Mem) (x5 : Int32) (H : Heap) (locs : List Loc) (ls : Array Slot), cells + c ≤ cT → slots + z ≤ zT → KM μ0 μ → wp_X2_compare_27 o post n c z μ x5 → MG (Rl T B) B s μ H locs → lv_has ls 10 [(0, .ref o), (5, .int x5)] → W p l e (rm_X2_compare cT zT) s m args below meth c0 H locs cells slots (MQ below (va_Qi (fun r9 μ9 => post r9 μ9 ∧ KM μ0 μ9) (Bm (Rl T B)) (Ai B)) args s cT zT (Ai B)) (F0 m 27 ls []) := by
  intro n
  induction n with
  | zero =>
    intro c z cells slots μ x5 H locs ls hc hz hKM hw
    exact hw.elim
  | succ n ih =>
    intro c z cells slots μ x5 H locs ls hc hz hKM hw M hl
    rw [wp_X2_compare_27] at hw
    refine lv_iload X.1 X.2.1 dX2_compare_27 (lv_at hl 1 rfl) ?_
    refine lv_sipush (v := 5000) X.1 X.2.1 dX2_compare_29 (by decide) ?_
    obtain ⟨hwt, hwf⟩ := hw
    refine lv_icmp_ge (tgt := 90) X.1 X.2.1 dX2_compare_32 (by decide) (fun hq => ?_) (fun hq => ?_)
    · have hw := hwt hq
      refine lv_aload_n X.1 X.2.1 dX2_compare_90 rfl (lv_at hl 0 rfl) ?_
      obtain ⟨hk24, hw⟩ := hw
      obtain ⟨x25, ex25, hw⟩ := hw
      refine mx_getr (C := RX2) (F := TX2) (N := 4) (ci := 4) X M 1 rfl in_X2 (by decide) rfl (by decide) kw_190 dX2_compare_91 hk24 ?_
      rw [ex25]
      obtain ⟨hk29, hw⟩ := hw
      have hw27 := hw
      clear hw
      refine mx_ci M (mx_runV (n := 0) (As := []) (rest := []) X M (c_X4_size l T B μ x25 _ hw27) (mx_recv (C := RX4) (F := TX4) (N := 2) (ci := 6) X M rfl (by decide) hk29) kw_651 kw_548 kw_549 kw_71 kw_550 (by decide +kernel) rfl rfl ⟨Nat.le_of_ble_eq_true rfl, Nat.le_of_ble_eq_true rfl⟩ rfl hl.1 (Nat.le_of_ble_eq_true rfl) dX2_compare_94 ⟨(show cells + 0 ≤ cT by omega), (show slots + 0 ≤ zT by omega)⟩) (fun r28 μ26 H locs ⟨hw, hKM26⟩ M => ?_)
      replace hw := hw hKM26
      have hKM26_ := hKM.tr hKM26
      have hk30 := hKM26.at hk24
      have hk31 := hKM26.at hk29
      have hc : (cells + 0) + (c) ≤ cT := by omega
      have hz : (slots + 0) + (z) ≤ zT := by omega
      obtain ⟨hwt, hwf⟩ := hw
      refine lv_if_le (tgt := 105) X.1 X.2.1 dX2_compare_97 (by decide) (fun hq => ?_) (fun hq => ?_)
      · have hw := hwt hq
        refine lv_iconst (v := 0) X.1 X.2.1 dX2_compare_105 (by decide) ?_
        exact mx_iret X hr hk M dX2_compare_106 (by omega) (by omega) ⟨hw, hKM26_⟩
      · have hw := hwf hq
        refine lv_bipush (v := 6) X.1 X.2.1 dX2_compare_100 (by decide) ?_
        refine lv_goto (tgt := 106) X.1 X.2.1 dX2_compare_102 (by decide) ?_
        exact mx_iret X hr hk M dX2_compare_106 (by omega) (by omega) ⟨hw, hKM26_⟩
    · have hw := hwf hq
      refine lv_aload_n X.1 X.2.1 dX2_compare_35 rfl (lv_at hl 0 rfl) ?_
      obtain ⟨hk32, hw⟩ := hw
      obtain ⟨x33, ex33, hw⟩ := hw
      refine mx_getr (C := RX2) (F := TX2) (N := 4) (ci := 4) X M 1 rfl in_X2 (by decide) rfl (by decide) kw_190 dX2_compare_36 hk32 ?_
      rw [ex33]
      obtain ⟨hk37, hw⟩ := hw
      have hw35 := hw
      clear hw
      refine mx_ci M (mx_runV (n := 0) (As := []) (rest := []) X M (c_X4_size l T B μ x33 _ hw35) (mx_recv (C := RX4) (F := TX4) (N := 2) (ci := 6) X M rfl (by decide) hk37) kw_651 kw_548 kw_549 kw_71 kw_550 (by decide +kernel) rfl rfl ⟨Nat.le_of_ble_eq_true rfl, Nat.le_of_ble_eq_true rfl⟩ rfl hl.1 (Nat.le_of_ble_eq_true rfl) dX2_compare_39 ⟨(show cells + 0 ≤ cT by omega), (show slots + 0 ≤ zT by omega)⟩) (fun r36 μ34 H locs ⟨hw, hKM34⟩ M => ?_)
      replace hw := hw hKM34
      have hKM34_ := hKM.tr hKM34
      have hk38 := hKM34.at hk32
      have hk39 := hKM34.at hk37
      have hc : (cells + 0) + (c) ≤ cT := by omega
      have hz : (slots + 0) + (z) ≤ zT := by omega
      obtain ⟨hwt, hwf⟩ := hw
      refine lv_if_le (tgt := 90) X.1 X.2.1 dX2_compare_42 (by decide) (fun hq => ?_) (fun hq => ?_)
      · have hw := hwt hq
        refine lv_aload_n X.1 X.2.1 dX2_compare_90 rfl (lv_at hl 0 rfl) ?_
        obtain ⟨x40, ex40, hw⟩ := hw
        refine mx_getr (C := RX2) (F := TX2) (N := 4) (ci := 4) X M 1 rfl in_X2 (by decide) rfl (by decide) kw_190 dX2_compare_91 hk38 ?_
        rw [ex40]
        obtain ⟨hk44, hw⟩ := hw
        have hw42 := hw
        clear hw
        refine mx_ci M (mx_runV (n := 0) (As := []) (rest := []) X M (c_X4_size l T B μ34 x40 _ hw42) (mx_recv (C := RX4) (F := TX4) (N := 2) (ci := 6) X M rfl (by decide) hk44) kw_651 kw_548 kw_549 kw_71 kw_550 (by decide +kernel) rfl rfl ⟨Nat.le_of_ble_eq_true rfl, Nat.le_of_ble_eq_true rfl⟩ rfl hl.1 (Nat.le_of_ble_eq_true rfl) dX2_compare_94 ⟨(show (cells + 0) + 0 ≤ cT by omega), (show (slots + 0) + 0 ≤ zT by omega)⟩) (fun r43 μ41 H locs ⟨hw, hKM41⟩ M => ?_)
        replace hw := hw hKM41
        have hKM41_ := hKM34_.tr hKM41
        have hk45 := hKM41.at hk38
        have hk46 := hKM41.at hk44
        have hc : ((cells + 0) + 0) + (c) ≤ cT := by omega
        have hz : ((slots + 0) + 0) + (z) ≤ zT := by omega
        obtain ⟨hwt, hwf⟩ := hw
        refine lv_if_le (tgt := 105) X.1 X.2.1 dX2_compare_97 (by decide) (fun hq => ?_) (fun hq => ?_)
        · have hw := hwt hq
          refine lv_iconst (v := 0) X.1 X.2.1 dX2_compare_105 (by decide) ?_
          exact mx_iret X hr hk M dX2_compare_106 (by omega) (by omega) ⟨hw, hKM41_⟩
        · have hw := hwf hq
          refine lv_bipush (v := 6) X.1 X.2.1 dX2_compare_100 (by decide) ?_
          refine lv_goto (tgt := 106) X.1 X.2.1 dX2_compare_102 (by decide) ?_
          exact mx_iret X hr hk M dX2_compare_106 (by omega) (by omega) ⟨hw, hKM41_⟩
      · have hw := hwf hq
        refine lv_aload_n X.1 X.2.1 dX2_compare_45 rfl (lv_at hl 0 rfl) ?_
        obtain ⟨x47, ex47, hw⟩ := hw
        refine mx_getr (C := RX2) (F := TX2) (N := 4) (ci := 4) X M 1 rfl in_X2 (by decide) rfl (by decide) kw_190 dX2_compare_46 hk38 ?_
        rw [ex47]
        obtain ⟨hk51, hw⟩ := hw
        have hw49 := hw
        clear hw
        refine mx_cl M (mx_runV (n := 0) (As := []) (rest := []) X M (c_X4_pop l T B μ34 x47 _ hw49) (mx_recv (C := RX4) (F := TX4) (N := 2) (ci := 6) X M rfl (by decide) hk51) kw_697 kw_615 kw_616 kw_71 kw_617 (by decide +kernel) rfl rfl ⟨Nat.le_of_ble_eq_true rfl, Nat.le_of_ble_eq_true rfl⟩ rfl hl.1 (Nat.le_of_ble_eq_true rfl) dX2_compare_49 ⟨(show (cells + 0) + 0 ≤ cT by omega), (show (slots + 0) + 0 ≤ zT by omega)⟩) (fun r50 μ48 H locs ⟨hw, hKM48⟩ M => ?_)
        replace hw := hw hKM48
        have hKM48_ := hKM34_.tr hKM48
        have hk52 := hKM48.at hk38
        have hk53 := hKM48.at hk51
        have hc : ((cells + 0) + 0) + (c) ≤ cT := by omega
        have hz : ((slots + 0) + 0) + (z) ≤ zT := by omega
        refine lv_lstore (lv' := [(6, .long r50), (0, .ref o), (5, .int x5)]) X.1 X.2.1 dX2_compare_52 hl (by decide) rfl (fun ls hl => ?_)
        refine lv_aload_n X.1 X.2.1 dX2_compare_54 rfl (lv_at hl 1 rfl) ?_
        obtain ⟨x54, ex54, hw⟩ := hw
        refine mx_getr (C := RX2) (F := TX2) (N := 4) (ci := 4) X M 1 rfl in_X2 (by decide) rfl (by decide) kw_190 dX2_compare_55 hk52 ?_
        rw [ex54]
        obtain ⟨hk58, hw⟩ := hw
        have hw56 := hw
        clear hw
        refine mx_cl M (mx_runV (n := 0) (As := []) (rest := []) X M (c_X4_pop l T B μ48 x54 _ hw56) (mx_recv (C := RX4) (F := TX4) (N := 2) (ci := 6) X M rfl (by decide) hk58) kw_697 kw_615 kw_616 kw_71 kw_617 (by decide +kernel) rfl rfl ⟨Nat.le_of_ble_eq_true rfl, Nat.le_of_ble_eq_true rfl⟩ rfl hl.1 (Nat.le_of_ble_eq_true rfl) dX2_compare_58 ⟨(show ((cells + 0) + 0) + 0 ≤ cT by omega), (show ((slots + 0) + 0) + 0 ≤ zT by omega)⟩) (fun r57 μ55 H locs ⟨hw, hKM55⟩ M => ?_)
        replace hw := hw hKM55
        have hKM55_ := hKM48_.tr hKM55
        have hk59 := hKM55.at hk52
        have hk60 := hKM55.at hk58
        have hc : (((cells + 0) + 0) + 0) + (c) ≤ cT := by omega
        have hz : (((slots + 0) + 0) + 0) + (z) ≤ zT := by omega
        refine lv_lstore (lv' := [(8, .long r57), (6, .long r50), (0, .ref o), (5, .int x5)]) X.1 X.2.1 dX2_compare_61 hl (by decide) rfl (fun ls hl => ?_)
        refine lv_lload X.1 X.2.1 dX2_compare_63 (lv_at hl 0 rfl) ?_
        refine lv_lload X.1 X.2.1 dX2_compare_65 (lv_at hl 1 rfl) ?_
        have hw62 := hw
        clear hw
        refine mx_ci M (mx_runS (n := 2) (As := [.long r57, .long r50]) (rest := []) X M (c_X9_differ l T B μ55 r57 r50 _ hw62) kw_698 kw_699 kw_84 kw_700 (by decide +kernel) rfl rfl ⟨Nat.le_of_ble_eq_true rfl, Nat.le_of_ble_eq_true rfl⟩ rfl hl.1 (Nat.le_of_ble_eq_true rfl) dX2_compare_67 ⟨(show (((cells + 0) + 0) + 0) + 0 ≤ cT by omega), (show (((slots + 0) + 0) + 0) + 0 ≤ zT by omega)⟩) (fun r63 μ61 H locs ⟨hw, hKM61⟩ M => ?_)
        replace hw := hw hKM61
        have hKM61_ := hKM55_.tr hKM61
        have hk64 := hKM61.at hk59
        have hc : ((((cells + 0) + 0) + 0) + 0) + (c) ≤ cT := by omega
        have hz : ((((slots + 0) + 0) + 0) + 0) + (z) ≤ zT := by omega
        obtain ⟨hwt, hwf⟩ := hw
        refine lv_if_eq (tgt := 76) X.1 X.2.1 dX2_compare_70 (by decide) (fun hq => ?_) (fun hq => ?_)
        · have hw := hwt hq
          refine lv_aload_n X.1 X.2.1 dX2_compare_76 rfl (lv_at hl 2 rfl) ?_
          refine lv_lload X.1 X.2.1 dX2_compare_77 (lv_at hl 0 rfl) ?_
          refine lv_lload X.1 X.2.1 dX2_compare_79 (lv_at hl 1 rfl) ?_
          obtain ⟨c66, z67, hc66, hz67, hw⟩ := hw
          have hw68 := hw
          clear hw
          refine mx_cv M (mx_runV (n := 2) (As := [.long r57, .long r50]) (rest := []) X M (c_X2_awaitFields l T B c66 z67 μ61 o r57 r50 _ hw68) (mx_recv (C := RX2) (F := TX2) (N := 4) (ci := 4) X M rfl (by decide) hk64) kw_702 kw_704 kw_15 kw_72 kw_705 (by decide +kernel) rfl rfl ⟨Nat.le_of_ble_eq_true rfl, Nat.le_of_ble_eq_true rfl⟩ rfl hl.1 (Nat.le_of_ble_eq_true rfl) dX2_compare_81 ⟨(show ((((cells + 0) + 0) + 0) + 0) + c66 ≤ cT by omega), (show ((((slots + 0) + 0) + 0) + 0) + z67 ≤ zT by omega)⟩) (fun μ65 H locs ⟨hw, hKM65⟩ M => ?_)
          replace hw := hw hKM65
          have hKM65_ := hKM61_.tr hKM65
          have hk69 := hKM65.at hk64
          have hc : (((((cells + 0) + 0) + 0) + 0) + c66) + (c - c66) ≤ cT := by omega
          have hz : (((((slots + 0) + 0) + 0) + 0) + z67) + (z - z67) ≤ zT := by omega
          obtain ⟨v70, ev70⟩ : ∃ y : Int32, y = x5 + 1 := ⟨_, rfl⟩
          replace hw := hw v70 ev70
          refine lv_iinc (v := v70) (lv' := [(5, .int v70), (8, .long r57), (6, .long r50), (0, .ref o)]) X.1 X.2.1 dX2_compare_84 hl (k := 3) rfl (by rw [ev70]; rfl) (by decide) rfl (fun ls hl => ?_)
          refine lv_goto (tgt := 27) X.1 X.2.1 dX2_compare_87 (by decide) ?_
          exact ih _ _ _ _ μ65 v70 _ _ _ (by omega) (by omega) hKM65_ hw M (lv_sub hl [3, 0] rfl)
        · have hw := hwf hq
          refine lv_bipush (v := 7) X.1 X.2.1 dX2_compare_73 (by decide) ?_
          exact mx_iret X hr hk M dX2_compare_75 (by omega) (by omega) ⟨hw, hKM61_⟩
set_option maxRecDepth 100000 in
set_option maxHeartbeats 4000000 in
theorem c_X2_compare (l : Launch) (T : Tb) (B : Nat) (c z : Nat) (μ : Mem) (o : Nat) (a1 : Int64) (a2 : Int64) (post : Int32 → Mem → Prop) (hw : wp_X2_compare c z μ o a1 a2 post) : Met l yX2_compare (.code yX2_compare cX2_compare 10 (some .int) :: G) (rm_X2_compare c z) (Pm (Rl T B) T B μ [.ref o, .long a1, .long a2]) (va_Qi (fun r9 μ9 => post r9 μ9 ∧ KM μ μ9) (Bm (Rl T B)) (Ai B)) c z (Ai B) := by
  refine mx_of RX2 rfl (by decide) (Nat.le_of_ble_eq_true rfl) ?_
  intro p e s m below meth c0 X hr hk hnm M ls hl
  have hl : lv_has ls 10 [(0, .ref o), (1, .long a1), (3, .long a2)] := hl
  unfold wp_X2_compare at hw
  have hKM : KM μ μ := KM.rf μ
  have hc : 0 + c ≤ c := by omega
  have hz : 0 + z ≤ z := by omega
  refine lv_aload_n X.1 X.2.1 dX2_compare_0 rfl (lv_at hl 0 rfl) ?_
  obtain ⟨hk1, hw⟩ := hw
  obtain ⟨x2, ex2, hw⟩ := hw
  refine mx_getr (C := RX2) (F := TX2) (N := 4) (ci := 4) X M 1 rfl in_X2 (by decide) rfl (by decide) kw_190 dX2_compare_1 hk1 ?_
  rw [ex2]
  refine lv_iconst (v := 0) X.1 X.2.1 dX2_compare_4 (by decide) ?_
  obtain ⟨hk5, hw⟩ := hw
  have hw4 := hw
  clear hw
  refine mx_cv M (mx_runV (n := 1) (As := [.int 0]) (rest := []) X M (c_X4_shrink l T B μ x2 0 _ hw4) (mx_recv (C := RX4) (F := TX4) (N := 2) (ci := 6) X M rfl (by decide) hk5) kw_504 kw_496 kw_497 kw_71 kw_498 (by decide +kernel) rfl rfl ⟨Nat.le_of_ble_eq_true rfl, Nat.le_of_ble_eq_true rfl⟩ rfl hl.1 (Nat.le_of_ble_eq_true rfl) dX2_compare_5 ⟨(show 0 + 0 ≤ c by omega), (show 0 + 0 ≤ z by omega)⟩) (fun μ3 H locs ⟨hw, hKM3⟩ M => ?_)
  replace hw := hw hKM3
  have hKM3_ := hKM.tr hKM3
  have hk6 := hKM3.at hk1
  have hk7 := hKM3.at hk5
  have hc : (0 + 0) + (c) ≤ c := by omega
  have hz : (0 + 0) + (z) ≤ z := by omega
  refine lv_aload_n X.1 X.2.1 dX2_compare_8 rfl (lv_at hl 0 rfl) ?_
  obtain ⟨x8, ex8, hw⟩ := hw
  refine mx_getr (C := RX2) (F := TX2) (N := 4) (ci := 4) X M 1 rfl in_X2 (by decide) rfl (by decide) kw_190 dX2_compare_9 hk6 ?_
  rw [ex8]
  refine lv_lload_n X.1 X.2.1 dX2_compare_12 rfl (lv_at hl 1 rfl) ?_
  obtain ⟨hk13, hw⟩ := hw
  obtain ⟨c10, z11, hc10, hz11, hw⟩ := hw
  have hw12 := hw
  clear hw
  refine mx_cv M (mx_runV (n := 1) (As := [.long a1]) (rest := []) X M (c_X4_push l T B c10 z11 μ3 x8 a1 _ hw12) (mx_recv (C := RX4) (F := TX4) (N := 2) (ci := 6) X M rfl (by decide) hk13) kw_660 kw_552 kw_553 kw_71 kw_554 (by decide +kernel) rfl rfl ⟨Nat.le_of_ble_eq_true rfl, Nat.le_of_ble_eq_true rfl⟩ rfl hl.1 (Nat.le_of_ble_eq_true rfl) dX2_compare_13 ⟨(show (0 + 0) + c10 ≤ c by omega), (show (0 + 0) + z11 ≤ z by omega)⟩) (fun μ9 H locs ⟨hw, hKM9⟩ M => ?_)
  replace hw := hw hKM9
  have hKM9_ := hKM3_.tr hKM9
  have hk14 := hKM9.at hk6
  have hk15 := hKM9.at hk13
  have hc : ((0 + 0) + c10) + (c - c10) ≤ c := by omega
  have hz : ((0 + 0) + z11) + (z - z11) ≤ z := by omega
  refine lv_aload_n X.1 X.2.1 dX2_compare_16 rfl (lv_at hl 0 rfl) ?_
  obtain ⟨x16, ex16, hw⟩ := hw
  refine mx_getr (C := RX2) (F := TX2) (N := 4) (ci := 4) X M 1 rfl in_X2 (by decide) rfl (by decide) kw_190 dX2_compare_17 hk14 ?_
  rw [ex16]
  refine lv_lload_n X.1 X.2.1 dX2_compare_20 rfl (lv_at hl 2 rfl) ?_
  obtain ⟨hk21, hw⟩ := hw
  obtain ⟨c18, z19, hc18, hz19, hw⟩ := hw
  have hw20 := hw
  clear hw
  refine mx_cv M (mx_runV (n := 1) (As := [.long a2]) (rest := []) X M (c_X4_push l T B c18 z19 μ9 x16 a2 _ hw20) (mx_recv (C := RX4) (F := TX4) (N := 2) (ci := 6) X M rfl (by decide) hk21) kw_660 kw_552 kw_553 kw_71 kw_554 (by decide +kernel) rfl rfl ⟨Nat.le_of_ble_eq_true rfl, Nat.le_of_ble_eq_true rfl⟩ rfl hl.1 (Nat.le_of_ble_eq_true rfl) dX2_compare_21 ⟨(show ((0 + 0) + c10) + c18 ≤ c by omega), (show ((0 + 0) + z11) + z19 ≤ z by omega)⟩) (fun μ17 H locs ⟨hw, hKM17⟩ M => ?_)
  replace hw := hw hKM17
  have hKM17_ := hKM9_.tr hKM17
  have hk22 := hKM17.at hk14
  have hk23 := hKM17.at hk21
  have hc : (((0 + 0) + c10) + c18) + ((c - c10) - c18) ≤ c := by omega
  have hz : (((0 + 0) + z11) + z19) + ((z - z11) - z19) ≤ z := by omega
  refine lv_iconst (v := 0) X.1 X.2.1 dX2_compare_24 (by decide) ?_
  refine lv_istore (lv' := [(5, .int 0), (0, .ref o), (1, .long a1), (3, .long a2)]) X.1 X.2.1 dX2_compare_25 hl (by decide) rfl (fun ls hl => ?_)
  obtain ⟨n71, hw⟩ := hw
  exact b_X2_compare_27 X hr hk n71 _ _ _ _ μ17 0 _ _ _ (by omega) (by omega) hKM17_ hw M (lv_sub hl [1, 0] rfl)

abbrev rm_X7_init (c z : Nat) : Room := { frames := 4, cells := c, slots := z, locals := 80 }
def wp_X7_init (c z : Nat) (μ : Mem) (o : Nat) (post : Mem → Prop) : Prop :=
  1 ≤ c ∧ 3 ≤ z ∧ ∀ (q1 : Nat) (μ2 : Mem), kd μ q1 = 0 → μ2 = nob μ 1 q1 →
  wp_Jx4a65c_init_da8c8 μ2 q1 (fun (μ5 : Mem) =>
  KM μ2 μ5 →
  kd μ5 o = 10 ∧
  ∀ μ9 : Mem, μ9 = sfr μ5 9 0 o (some q1) →
  1 ≤ c - 1 ∧ 3 ≤ z - 3 ∧ ∀ (q13 : Nat) (μ14 : Mem), kd μ9 q13 = 0 → μ14 = nob μ9 1 q13 →
  wp_Jx4a65c_init_da8c8 μ14 q13 (fun (μ18 : Mem) =>
  KM μ14 μ18 →
  ∀ μ22 : Mem, μ22 = sfr μ18 9 2 o (some q13) →
  1 ≤ (c - 1) - 1 ∧ 2 ≤ (z - 3) - 3 ∧ ∀ (q26 : Nat) (μ27 : Mem), kd μ22 q26 = 0 → μ27 = nob μ22 6 q26 →
  ∃ c32 z33, c32 ≤ ((c - 1) - 1) - 1 ∧ z33 ≤ ((z - 3) - 3) - 2 ∧
  wp_X4_init c32 z33 μ27 q26 (fun (μ31 : Mem) =>
  KM μ27 μ31 →
  ∀ μ37 : Mem, μ37 = sfr μ31 9 4 o (some q26) →
  1 ≤ (((c - 1) - 1) - 1) - c32 ∧ 2 ≤ (((z - 3) - 3) - 2) - z33 ∧ ∀ (q41 : Nat) (μ42 : Mem), kd μ37 q41 = 0 → μ42 = nob μ37 6 q41 →
  ∃ c47 z48, c47 ≤ ((((c - 1) - 1) - 1) - c32) - 1 ∧ z48 ≤ ((((z - 3) - 3) - 2) - z33) - 2 ∧
  wp_X4_init c47 z48 μ42 q41 (fun (μ46 : Mem) =>
  KM μ42 μ46 →
  ∀ μ52 : Mem, μ52 = sfr μ46 9 5 o (some q41) →
  post μ52))))
set_option maxRecDepth 100000 in
set_option maxHeartbeats 4000000 in
theorem c_X7_init (l : Launch) (T : Tb) (B : Nat) (c z : Nat) (μ : Mem) (o : Nat) (post : Mem → Prop) (hw : wp_X7_init c z μ o post) : Met l yX7_init (.code yX7_init cX7_init 1 none :: G) (rm_X7_init c z) (Pm (Rl T B) T B μ [.ref o]) (va_Qv (fun μ9 => post μ9 ∧ KM μ μ9) (Bm (Rl T B)) (Ai B)) c z (Ai B) := by
  refine mx_of RX7 rfl (by decide) (Nat.le_of_ble_eq_true rfl) ?_
  intro p e s m below meth c0 X hr hk hnm M ls hl
  have hl : lv_has ls 1 [(0, .ref o)] := hl
  unfold wp_X7_init at hw
  have hKM : KM μ μ := KM.rf μ
  have hc : 0 + c ≤ c := by omega
  have hz : 0 + z ≤ z := by omega
  refine lv_aload_n X.1 X.2.1 dX7_init_0 rfl (lv_at hl 0 rfl) ?_
  refine my_obj X kw_136 kw_96 kw_97 hl.1 (Nat.le_of_ble_eq_true rfl) (Nat.le_of_ble_eq_true rfl) (Nat.le_of_ble_eq_true rfl) dX7_init_1 ?_
  refine lv_aload_n X.1 X.2.1 dX7_init_4 rfl (lv_at hl 0 rfl) ?_
  obtain ⟨hb1, hb2, hw⟩ := hw
  refine my_new (C := RJx4a65c) (F := TJx4a65c) (N := 3) (ci := 1) X M rfl in_Jx4a65c tyJx4a65c tyJx4a65c_ok df_Jx4a65c (by decide) kw_137 kw_99 kw_68 dX7_init_5 (show 0 + 1 ≤ c by omega) (show 0 + 3 ≤ z by omega) (fun q1 μ2 H hq1 eμ2 M => ?_)
  replace hw := hw q1 μ2 hq1 eμ2
  have hKM3 : KM μ μ2 := by rw [eμ2]; exact hKM.tr (KM_nob hq1)
  have hk4 : kd μ2 q1 = 2 := by rw [eμ2]; exact kd_nob
  have hc : (0 + 1) + (c - 1) ≤ c := by omega
  have hz : (0 + 3) + (z - 3) ≤ z := by omega
  refine lv_dup X.1 X.2.1 dX7_init_8 rfl ?_
  have hw6 := hw
  clear hw
  refine mx_cv M (mx_runI (n := 0) (As := []) (rest := [.ref q1, .ref o]) X M (c_Jx4a65c_init_da8c8 l T B μ2 q1 _ hw6) kw_138 kw_101 rfl kw_68 kw_102 (by decide +kernel) rfl rfl ⟨Nat.le_of_ble_eq_true rfl, Nat.le_of_ble_eq_true rfl⟩ rfl hl.1 (Nat.le_of_ble_eq_true rfl) dX7_init_9 ⟨(show (0 + 1) + 0 ≤ c by omega), (show (0 + 3) + 0 ≤ z by omega)⟩) (fun μ5 H locs ⟨hw, hKM5⟩ M => ?_)
  replace hw := hw hKM5
  have hKM5_ := hKM3.tr hKM5
  have hk7 := hKM5.at hk4
  have hc : ((0 + 1) + 0) + (c - 1) ≤ c := by omega
  have hz : ((0 + 3) + 0) + (z - 3) ≤ z := by omega
  obtain ⟨hk8, hw⟩ := hw
  refine my_putr (C := RX7) (F := TX7) (N := 8) (ci := 9) X M 0 rfl in_X7 tyX7 tyX7_ok nmX7 (by decide) rfl (by decide) kw_153 (Or.inr ⟨hnm, rfl⟩) dX7_init_12 hk8 (some q1) (mq_no _ _) (mq_fo _ _) (fun μ9 H locs eμ9 M => ?_)
  replace hw := hw μ9 eμ9
  have hKM10 : KM μ μ9 := by rw [eμ9]; exact hKM5_
  have hk11 : kd μ9 q1 = 2 := by rw [eμ9]; exact hk7
  have hk12 : kd μ9 o = 10 := by rw [eμ9]; exact hk8
  refine lv_aload_n X.1 X.2.1 dX7_init_15 rfl (lv_at hl 0 rfl) ?_
  obtain ⟨hb1, hb2, hw⟩ := hw
  refine my_new (C := RJx4a65c) (F := TJx4a65c) (N := 3) (ci := 1) X M rfl in_Jx4a65c tyJx4a65c tyJx4a65c_ok df_Jx4a65c (by decide) kw_137 kw_99 kw_68 dX7_init_16 (show ((0 + 1) + 0) + 1 ≤ c by omega) (show ((0 + 3) + 0) + 3 ≤ z by omega) (fun q13 μ14 H hq13 eμ14 M => ?_)
  replace hw := hw q13 μ14 hq13 eμ14
  have hKM15 : KM μ μ14 := by rw [eμ14]; exact hKM10.tr (KM_nob hq13)
  have hk16 : kd μ14 o = 10 := by rw [eμ14]; exact (KM_nob hq13).at hk12
  have hk17 : kd μ14 q13 = 2 := by rw [eμ14]; exact kd_nob
  have hc : (((0 + 1) + 0) + 1) + ((c - 1) - 1) ≤ c := by omega
  have hz : (((0 + 3) + 0) + 3) + ((z - 3) - 3) ≤ z := by omega
  refine lv_dup X.1 X.2.1 dX7_init_19 rfl ?_
  have hw19 := hw
  clear hw
  refine mx_cv M (mx_runI (n := 0) (As := []) (rest := [.ref q13, .ref o]) X M (c_Jx4a65c_init_da8c8 l T B μ14 q13 _ hw19) kw_138 kw_101 rfl kw_68 kw_102 (by decide +kernel) rfl rfl ⟨Nat.le_of_ble_eq_true rfl, Nat.le_of_ble_eq_true rfl⟩ rfl hl.1 (Nat.le_of_ble_eq_true rfl) dX7_init_20 ⟨(show (((0 + 1) + 0) + 1) + 0 ≤ c by omega), (show (((0 + 3) + 0) + 3) + 0 ≤ z by omega)⟩) (fun μ18 H locs ⟨hw, hKM18⟩ M => ?_)
  replace hw := hw hKM18
  have hKM18_ := hKM15.tr hKM18
  have hk20 := hKM18.at hk16
  have hk21 := hKM18.at hk17
  have hc : ((((0 + 1) + 0) + 1) + 0) + ((c - 1) - 1) ≤ c := by omega
  have hz : ((((0 + 3) + 0) + 3) + 0) + ((z - 3) - 3) ≤ z := by omega
  refine my_putr (C := RX7) (F := TX7) (N := 8) (ci := 9) X M 2 rfl in_X7 tyX7 tyX7_ok nmX7 (by decide) rfl (by decide) kw_156 (Or.inr ⟨hnm, rfl⟩) dX7_init_23 hk20 (some q13) (mq_no _ _) (mq_fo _ _) (fun μ22 H locs eμ22 M => ?_)
  replace hw := hw μ22 eμ22
  have hKM23 : KM μ μ22 := by rw [eμ22]; exact hKM18_
  have hk24 : kd μ22 o = 10 := by rw [eμ22]; exact hk20
  have hk25 : kd μ22 q13 = 2 := by rw [eμ22]; exact hk21
  refine lv_aload_n X.1 X.2.1 dX7_init_26 rfl (lv_at hl 0 rfl) ?_
  obtain ⟨hb1, hb2, hw⟩ := hw
  refine my_new (C := RX4) (F := TX4) (N := 2) (ci := 6) X M rfl in_X4 tyX4 tyX4_ok df_X4 (by decide) kw_139 kw_140 kw_71 dX7_init_27 (show ((((0 + 1) + 0) + 1) + 0) + 1 ≤ c by omega) (show ((((0 + 3) + 0) + 3) + 0) + 2 ≤ z by omega) (fun q26 μ27 H hq26 eμ27 M => ?_)
  replace hw := hw q26 μ27 hq26 eμ27
  have hKM28 : KM μ μ27 := by rw [eμ27]; exact hKM23.tr (KM_nob hq26)
  have hk29 : kd μ27 o = 10 := by rw [eμ27]; exact (KM_nob hq26).at hk24
  have hk30 : kd μ27 q26 = 7 := by rw [eμ27]; exact kd_nob
  have hc : (((((0 + 1) + 0) + 1) + 0) + 1) + (((c - 1) - 1) - 1) ≤ c := by omega
  have hz : (((((0 + 3) + 0) + 3) + 0) + 2) + (((z - 3) - 3) - 2) ≤ z := by omega
  refine lv_dup X.1 X.2.1 dX7_init_30 rfl ?_
  obtain ⟨c32, z33, hc32, hz33, hw⟩ := hw
  have hw34 := hw
  clear hw
  refine mx_cv M (mx_runIN (n := 0) (As := []) (rest := [.ref q26, .ref o]) X M (c_X4_init l T B c32 z33 μ27 q26 _ hw34) kw_141 kw_142 rfl kw_71 kw_143 (by decide +kernel) rfl rfl ⟨Nat.le_of_ble_eq_true rfl, Nat.le_of_ble_eq_true rfl⟩ rfl hl.1 (Nat.le_of_ble_eq_true rfl) dX7_init_31 ⟨(show (((((0 + 1) + 0) + 1) + 0) + 1) + c32 ≤ c by omega), (show (((((0 + 3) + 0) + 3) + 0) + 2) + z33 ≤ z by omega)⟩) (fun μ31 H locs ⟨hw, hKM31⟩ M => ?_)
  replace hw := hw hKM31
  have hKM31_ := hKM28.tr hKM31
  have hk35 := hKM31.at hk29
  have hk36 := hKM31.at hk30
  have hc : ((((((0 + 1) + 0) + 1) + 0) + 1) + c32) + ((((c - 1) - 1) - 1) - c32) ≤ c := by omega
  have hz : ((((((0 + 3) + 0) + 3) + 0) + 2) + z33) + ((((z - 3) - 3) - 2) - z33) ≤ z := by omega
  refine my_putr (C := RX7) (F := TX7) (N := 8) (ci := 9) X M 4 rfl in_X7 tyX7 tyX7_ok nmX7 (by decide) rfl (by decide) kw_159 (Or.inr ⟨hnm, rfl⟩) dX7_init_34 hk35 (some q26) (mq_no _ _) (mq_fo _ _) (fun μ37 H locs eμ37 M => ?_)
  replace hw := hw μ37 eμ37
  have hKM38 : KM μ μ37 := by rw [eμ37]; exact hKM31_
  have hk39 : kd μ37 o = 10 := by rw [eμ37]; exact hk35
  have hk40 : kd μ37 q26 = 7 := by rw [eμ37]; exact hk36
  refine lv_aload_n X.1 X.2.1 dX7_init_37 rfl (lv_at hl 0 rfl) ?_
  obtain ⟨hb1, hb2, hw⟩ := hw
  refine my_new (C := RX4) (F := TX4) (N := 2) (ci := 6) X M rfl in_X4 tyX4 tyX4_ok df_X4 (by decide) kw_139 kw_140 kw_71 dX7_init_38 (show ((((((0 + 1) + 0) + 1) + 0) + 1) + c32) + 1 ≤ c by omega) (show ((((((0 + 3) + 0) + 3) + 0) + 2) + z33) + 2 ≤ z by omega) (fun q41 μ42 H hq41 eμ42 M => ?_)
  replace hw := hw q41 μ42 hq41 eμ42
  have hKM43 : KM μ μ42 := by rw [eμ42]; exact hKM38.tr (KM_nob hq41)
  have hk44 : kd μ42 o = 10 := by rw [eμ42]; exact (KM_nob hq41).at hk39
  have hk45 : kd μ42 q41 = 7 := by rw [eμ42]; exact kd_nob
  have hc : (((((((0 + 1) + 0) + 1) + 0) + 1) + c32) + 1) + (((((c - 1) - 1) - 1) - c32) - 1) ≤ c := by omega
  have hz : (((((((0 + 3) + 0) + 3) + 0) + 2) + z33) + 2) + (((((z - 3) - 3) - 2) - z33) - 2) ≤ z := by omega
  refine lv_dup X.1 X.2.1 dX7_init_41 rfl ?_
  obtain ⟨c47, z48, hc47, hz48, hw⟩ := hw
  have hw49 := hw
  clear hw
  refine mx_cv M (mx_runIN (n := 0) (As := []) (rest := [.ref q41, .ref o]) X M (c_X4_init l T B c47 z48 μ42 q41 _ hw49) kw_141 kw_142 rfl kw_71 kw_143 (by decide +kernel) rfl rfl ⟨Nat.le_of_ble_eq_true rfl, Nat.le_of_ble_eq_true rfl⟩ rfl hl.1 (Nat.le_of_ble_eq_true rfl) dX7_init_42 ⟨(show (((((((0 + 1) + 0) + 1) + 0) + 1) + c32) + 1) + c47 ≤ c by omega), (show (((((((0 + 3) + 0) + 3) + 0) + 2) + z33) + 2) + z48 ≤ z by omega)⟩) (fun μ46 H locs ⟨hw, hKM46⟩ M => ?_)
  replace hw := hw hKM46
  have hKM46_ := hKM43.tr hKM46
  have hk50 := hKM46.at hk44
  have hk51 := hKM46.at hk45
  have hc : ((((((((0 + 1) + 0) + 1) + 0) + 1) + c32) + 1) + c47) + ((((((c - 1) - 1) - 1) - c32) - 1) - c47) ≤ c := by omega
  have hz : ((((((((0 + 3) + 0) + 3) + 0) + 2) + z33) + 2) + z48) + ((((((z - 3) - 3) - 2) - z33) - 2) - z48) ≤ z := by omega
  refine my_putr (C := RX7) (F := TX7) (N := 8) (ci := 9) X M 5 rfl in_X7 tyX7 tyX7_ok nmX7 (by decide) rfl (by decide) kw_160 (Or.inr ⟨hnm, rfl⟩) dX7_init_45 hk50 (some q41) (mq_no _ _) (mq_fo _ _) (fun μ52 H locs eμ52 M => ?_)
  replace hw := hw μ52 eμ52
  have hKM53 : KM μ μ52 := by rw [eμ52]; exact hKM46_
  have hk54 : kd μ52 o = 10 := by rw [eμ52]; exact hk50
  have hk55 : kd μ52 q41 = 7 := by rw [eμ52]; exact hk51
  exact mx_vret X hr hk M dX7_init_48 (by omega) (by omega) ⟨hw, hKM53⟩
