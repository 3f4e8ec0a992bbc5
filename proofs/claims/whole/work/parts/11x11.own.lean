abbrev rm_X8_characterAt : Room := { frames := 4, cells := 0, slots := 0, locals := 88 }
def wp_X8_characterAt (μ : Mem) (o : Nat) (a1 : Int32) (post : Int32 → Mem → Prop) : Prop :=
  kd μ o = 11 ∧
  ∃ x2, fr μ 10 0 o = some x2 ∧
  kd μ x2 = 1 ∧
  wp_J4_length_8abf5 μ x2 (fun (r5 : Int32) (μ3 : Mem) =>
  KM μ μ3 →
  wp_X10_within μ3 a1 r5 (fun (r11 : Int32) (μ9 : Mem) =>
  KM μ3 μ9 →
  (r11 = 0 →
   post (-1) μ9) ∧ (¬ r11 = 0 →
   ∃ x13, fr μ9 10 0 o = some x13 ∧
   kd μ9 x13 = 1 ∧
   wp_J4_charAt_5068e μ9 x13 a1 (fun (r16 : Int32) (μ14 : Mem) =>
   KM μ9 μ14 →
   post r16 μ14))))
set_option maxRecDepth 100000 in
set_option maxHeartbeats 4000000 in
theorem c_X8_characterAt (l : Launch) (T : Tb) (B : Nat) (μ : Mem) (o : Nat) (a1 : Int32) (post : Int32 → Mem → Prop) (hw : wp_X8_characterAt μ o a1 post) : Met l yX8_characterAt (.code yX8_characterAt cX8_characterAt 2 (some .int) :: G) rm_X8_characterAt (Pm (Rl T B) T B μ [.ref o, .int a1]) (va_Qi (fun r9 μ9 => post r9 μ9 ∧ KM μ μ9) (Bm (Rl T B)) (Ai B)) 0 0 (Ai B) := by
  refine mx_of RX8 rfl (by decide) (Nat.le_of_ble_eq_true rfl) ?_
  intro p e s m below meth c0 X hr hk hnm M ls hl
  have hl : lv_has ls 2 [(0, .ref o), (1, .int a1)] := hl
  unfold wp_X8_characterAt at hw
  have hKM : KM μ μ := KM.rf μ
  refine lv_iload_n X.1 X.2.1 dX8_characterAt_0 rfl (lv_at hl 1 rfl) ?_
  refine lv_aload_n X.1 X.2.1 dX8_characterAt_1 rfl (lv_at hl 0 rfl) ?_
  obtain ⟨hk1, hw⟩ := hw
  obtain ⟨x2, ex2, hw⟩ := hw
  refine mx_getr (C := RX8) (F := TX8) (N := 2) (ci := 10) X M 0 rfl in_X8 (by decide) rfl (by decide) kw_270 dX8_characterAt_2 hk1 ?_
  rw [ex2]
  obtain ⟨hk6, hw⟩ := hw
  have hw4 := hw
  clear hw
  refine mx_ci M (mx_runV (n := 0) (As := []) (rest := [.int a1]) X M (c_J4_length_8abf5 l T B μ x2 _ hw4) (mx_recv (C := RJ4) (F := TJ4) (N := 4) (ci := 0) X M rfl (by decide) hk6) kw_857 kw_858 kw_859 kw_73 kw_860 (by decide +kernel) rfl rfl ⟨Nat.le_of_ble_eq_true rfl, Nat.le_of_ble_eq_true rfl⟩ rfl hl.1 (Nat.le_of_ble_eq_true rfl) dX8_characterAt_5 ⟨by decide, by decide⟩) (fun r5 μ3 H locs ⟨hw, hKM3⟩ M => ?_)
  replace hw := hw hKM3
  have hKM3_ := hKM.tr hKM3
  have hk7 := hKM3.at hk1
  have hk8 := hKM3.at hk6
  have hw10 := hw
  clear hw
  refine mx_ci M (mx_runSN (n := 2) (As := [.int a1, .int r5]) (rest := []) X M (c_X10_within l T B μ3 a1 r5 _ hw10) kw_864 kw_338 kw_63 kw_339 (by decide +kernel) rfl rfl ⟨Nat.le_of_ble_eq_true rfl, Nat.le_of_ble_eq_true rfl⟩ rfl hl.1 (Nat.le_of_ble_eq_true rfl) dX8_characterAt_8 ⟨by decide, by decide⟩) (fun r11 μ9 H locs ⟨hw, hKM9⟩ M => ?_)
  replace hw := hw hKM9
  have hKM9_ := hKM3_.tr hKM9
  have hk12 := hKM9.at hk7
  obtain ⟨hwt, hwf⟩ := hw
  refine lv_if_eq (tgt := 25) X.1 X.2.1 dX8_characterAt_11 (by decide) (fun hq => ?_) (fun hq => ?_)
  · have hw := hwt hq
    refine lv_iconst (v := (-1)) X.1 X.2.1 dX8_characterAt_25 (by decide) ?_
    exact mx_iret X hr hk M dX8_characterAt_26 (by decide) (by decide) ⟨hw, hKM9_⟩
  · have hw := hwf hq
    refine lv_aload_n X.1 X.2.1 dX8_characterAt_14 rfl (lv_at hl 0 rfl) ?_
    obtain ⟨x13, ex13, hw⟩ := hw
    refine mx_getr (C := RX8) (F := TX8) (N := 2) (ci := 10) X M 0 rfl in_X8 (by decide) rfl (by decide) kw_270 dX8_characterAt_15 hk12 ?_
    rw [ex13]
    refine lv_iload_n X.1 X.2.1 dX8_characterAt_18 rfl (lv_at hl 1 rfl) ?_
    obtain ⟨hk17, hw⟩ := hw
    have hw15 := hw
    clear hw
    refine mx_ci M (mx_runV (n := 1) (As := [.int a1]) (rest := []) X M (c_J4_charAt_5068e l T B μ9 x13 a1 _ hw15) (mx_recv (C := RJ4) (F := TJ4) (N := 4) (ci := 0) X M rfl (by decide) hk17) kw_865 kw_866 kw_867 kw_73 kw_868 (by decide +kernel) rfl rfl ⟨Nat.le_of_ble_eq_true rfl, Nat.le_of_ble_eq_true rfl⟩ rfl hl.1 (Nat.le_of_ble_eq_true rfl) dX8_characterAt_19 ⟨by decide, by decide⟩) (fun r16 μ14 H locs ⟨hw, hKM14⟩ M => ?_)
    replace hw := hw hKM14
    have hKM14_ := hKM9_.tr hKM14
    have hk18 := hKM14.at hk12
    have hk19 := hKM14.at hk17
    refine lv_goto (tgt := 26) X.1 X.2.1 dX8_characterAt_22 (by decide) ?_
    exact mx_iret X hr hk M dX8_characterAt_26 (by decide) (by decide) ⟨hw, hKM14_⟩

abbrev rm_X10_init (c z : Nat) : Room := { frames := 6, cells := c, slots := z, locals := 120 }
def wp_X10_init (c z : Nat) (μ : Mem) (o : Nat) (post : Mem → Prop) : Prop :=
  ¬ (10 : Int32) < 0 ∧ (Int32.toNatClampNeg 10) ≤ 1048576 ∧ 1 ≤ c ∧ (Int32.toNatClampNeg 10) ≤ z ∧ ∀ (q1 : Nat) (μ2 : Mem), kd μ q1 = 0 → μ2 = nar μ 102 q1 (Int32.toNatClampNeg 10) →
  kd μ2 o = 12 ∧
  ∀ μ6 : Mem, μ6 = sfr μ2 11 0 o (some q1) →
  1 ≤ c - 1 ∧ 3 ≤ z - (Int32.toNatClampNeg 10) ∧ ∀ (q10 : Nat) (μ11 : Mem), kd μ6 q10 = 0 → μ11 = nob μ6 1 q10 →
  wp_Jx4a65c_init_da8c8 μ11 q10 (fun (μ15 : Mem) =>
  KM μ11 μ15 →
  ∀ μ19 : Mem, μ19 = sfr μ15 11 2 o (some q10) →
  1 ≤ (c - 1) - 1 ∧ 7 ≤ (z - (Int32.toNatClampNeg 10)) - 3 ∧ ∀ (q23 : Nat) (μ24 : Mem), kd μ19 q23 = 0 → μ24 = nob μ19 2 q23 →
  ∃ c29 z30, c29 ≤ ((c - 1) - 1) - 1 ∧ z30 ≤ ((z - (Int32.toNatClampNeg 10)) - 3) - 7 ∧
  wp_X0_init c29 z30 μ24 q23 (fun (μ28 : Mem) =>
  KM μ24 μ28 →
  ∀ μ34 : Mem, μ34 = sfr μ28 11 4 o (some q23) →
  1 ≤ (((c - 1) - 1) - 1) - c29 ∧ 2 ≤ (((z - (Int32.toNatClampNeg 10)) - 3) - 7) - z30 ∧ ∀ (q38 : Nat) (μ39 : Mem), kd μ34 q38 = 0 → μ39 = nob μ34 10 q38 →
  ∃ c44 z45, c44 ≤ ((((c - 1) - 1) - 1) - c29) - 1 ∧ z45 ≤ ((((z - (Int32.toNatClampNeg 10)) - 3) - 7) - z30) - 2 ∧
  wp_X8_init c44 z45 μ39 q38 (fun (μ43 : Mem) =>
  KM μ39 μ43 →
  ∀ μ49 : Mem, μ49 = sfr μ43 11 5 o (some q38) →
  post μ49)))
set_option maxRecDepth 100000 in
set_option maxHeartbeats 4000000 in
theorem c_X10_init (l : Launch) (T : Tb) (B : Nat) (c z : Nat) (μ : Mem) (o : Nat) (post : Mem → Prop) (hw : wp_X10_init c z μ o post) : Met l yX10_init (.code yX10_init cX10_init 1 none :: G) (rm_X10_init c z) (Pm (Rl T B) T B μ [.ref o]) (va_Qv (fun μ9 => post μ9 ∧ KM μ μ9) (Bm (Rl T B)) (Ai B)) c z (Ai B) := by
  refine mx_of RX10 rfl (by decide) (Nat.le_of_ble_eq_true rfl) ?_
  intro p e s m below meth c0 X hr hk hnm M ls hl
  have hl : lv_has ls 1 [(0, .ref o)] := hl
  unfold wp_X10_init at hw
  have hKM : KM μ μ := KM.rf μ
  have hc : 0 + c ≤ c := by omega
  have hz : 0 + z ≤ z := by omega
  refine lv_aload_n X.1 X.2.1 dX10_init_0 rfl (lv_at hl 0 rfl) ?_
  refine my_obj X kw_99 kw_100 kw_101 hl.1 (Nat.le_of_ble_eq_true rfl) (Nat.le_of_ble_eq_true rfl) (Nat.le_of_ble_eq_true rfl) dX10_init_1 ?_
  refine lv_aload_n X.1 X.2.1 dX10_init_4 rfl (lv_at hl 0 rfl) ?_
  refine lv_bipush (v := 10) X.1 X.2.1 dX10_init_5 (by decide) ?_
  obtain ⟨hb0, hb3, hb1, hb2, hw⟩ := hw
  refine my_newI X M kw_128 dX10_init_7 hb0 hb3 (show 0 + 1 ≤ c by omega) (show 0 + (Int32.toNatClampNeg 10) ≤ z by omega) (fun q1 μ2 H hq1 eμ2 M => ?_)
  replace hw := hw q1 μ2 hq1 eμ2
  have hKM3 : KM μ μ2 := by rw [eμ2]; exact hKM.tr (KM_nar hq1)
  have hk4 : kd μ2 q1 = 102 := by rw [eμ2]; exact kd_nar
  have hc : (0 + 1) + (c - 1) ≤ c := by omega
  have hz : (0 + (Int32.toNatClampNeg 10)) + (z - (Int32.toNatClampNeg 10)) ≤ z := by omega
  obtain ⟨hk5, hw⟩ := hw
  refine my_putr (C := RX10) (F := TX10) (N := 6) (ci := 11) X M 0 rfl in_X10 tyX10 tyX10_ok nmX10 (by decide) rfl (by decide) kw_277 (Or.inr ⟨hnm, rfl⟩) dX10_init_9 hk5 (some q1) (mq_na _ _) (mq_fa _ _) (fun μ6 H locs eμ6 M => ?_)
  replace hw := hw μ6 eμ6
  have hKM7 : KM μ μ6 := by rw [eμ6]; exact hKM3
  have hk8 : kd μ6 q1 = 102 := by rw [eμ6]; exact hk4
  have hk9 : kd μ6 o = 12 := by rw [eμ6]; exact hk5
  refine lv_aload_n X.1 X.2.1 dX10_init_12 rfl (lv_at hl 0 rfl) ?_
  obtain ⟨hb1, hb2, hw⟩ := hw
  refine my_new (C := RJx4a65c) (F := TJx4a65c) (N := 3) (ci := 1) X M rfl in_Jx4a65c tyJx4a65c tyJx4a65c_ok df_Jx4a65c (by decide) kw_102 kw_103 kw_66 dX10_init_13 (show (0 + 1) + 1 ≤ c by omega) (show (0 + (Int32.toNatClampNeg 10)) + 3 ≤ z by omega) (fun q10 μ11 H hq10 eμ11 M => ?_)
  replace hw := hw q10 μ11 hq10 eμ11
  have hKM12 : KM μ μ11 := by rw [eμ11]; exact hKM7.tr (KM_nob hq10)
  have hk13 : kd μ11 o = 12 := by rw [eμ11]; exact (KM_nob hq10).at hk9
  have hk14 : kd μ11 q10 = 2 := by rw [eμ11]; exact kd_nob
  have hc : ((0 + 1) + 1) + ((c - 1) - 1) ≤ c := by omega
  have hz : ((0 + (Int32.toNatClampNeg 10)) + 3) + ((z - (Int32.toNatClampNeg 10)) - 3) ≤ z := by omega
  refine lv_dup X.1 X.2.1 dX10_init_16 rfl ?_
  have hw16 := hw
  clear hw
  refine mx_cv M (mx_runI (n := 0) (As := []) (rest := [.ref q10, .ref o]) X M (c_Jx4a65c_init_da8c8 l T B μ11 q10 _ hw16) kw_104 kw_105 rfl kw_66 kw_106 (by decide +kernel) rfl rfl ⟨Nat.le_of_ble_eq_true rfl, Nat.le_of_ble_eq_true rfl⟩ rfl hl.1 (Nat.le_of_ble_eq_true rfl) dX10_init_17 ⟨(show ((0 + 1) + 1) + 0 ≤ c by omega), (show ((0 + (Int32.toNatClampNeg 10)) + 3) + 0 ≤ z by omega)⟩) (fun μ15 H locs ⟨hw, hKM15⟩ M => ?_)
  replace hw := hw hKM15
  have hKM15_ := hKM12.tr hKM15
  have hk17 := hKM15.at hk13
  have hk18 := hKM15.at hk14
  have hc : (((0 + 1) + 1) + 0) + ((c - 1) - 1) ≤ c := by omega
  have hz : (((0 + (Int32.toNatClampNeg 10)) + 3) + 0) + ((z - (Int32.toNatClampNeg 10)) - 3) ≤ z := by omega
  refine my_putr (C := RX10) (F := TX10) (N := 6) (ci := 11) X M 2 rfl in_X10 tyX10 tyX10_ok nmX10 (by decide) rfl (by decide) kw_279 (Or.inr ⟨hnm, rfl⟩) dX10_init_20 hk17 (some q10) (mq_no _ _) (mq_fo _ _) (fun μ19 H locs eμ19 M => ?_)
  replace hw := hw μ19 eμ19
  have hKM20 : KM μ μ19 := by rw [eμ19]; exact hKM15_
  have hk21 : kd μ19 o = 12 := by rw [eμ19]; exact hk17
  have hk22 : kd μ19 q10 = 2 := by rw [eμ19]; exact hk18
  refine lv_aload_n X.1 X.2.1 dX10_init_23 rfl (lv_at hl 0 rfl) ?_
  obtain ⟨hb1, hb2, hw⟩ := hw
  refine my_new (C := RX0) (F := TX0) (N := 7) (ci := 2) X M rfl in_X0 tyX0 tyX0_ok df_X0 (by decide) kw_129 kw_130 kw_67 dX10_init_24 (show (((0 + 1) + 1) + 0) + 1 ≤ c by omega) (show (((0 + (Int32.toNatClampNeg 10)) + 3) + 0) + 7 ≤ z by omega) (fun q23 μ24 H hq23 eμ24 M => ?_)
  replace hw := hw q23 μ24 hq23 eμ24
  have hKM25 : KM μ μ24 := by rw [eμ24]; exact hKM20.tr (KM_nob hq23)
  have hk26 : kd μ24 o = 12 := by rw [eμ24]; exact (KM_nob hq23).at hk21
  have hk27 : kd μ24 q23 = 3 := by rw [eμ24]; exact kd_nob
  have hc : ((((0 + 1) + 1) + 0) + 1) + (((c - 1) - 1) - 1) ≤ c := by omega
  have hz : ((((0 + (Int32.toNatClampNeg 10)) + 3) + 0) + 7) + (((z - (Int32.toNatClampNeg 10)) - 3) - 7) ≤ z := by omega
  refine lv_dup X.1 X.2.1 dX10_init_27 rfl ?_
  obtain ⟨c29, z30, hc29, hz30, hw⟩ := hw
  have hw31 := hw
  clear hw
  refine mx_cv M (mx_runIN (n := 0) (As := []) (rest := [.ref q23, .ref o]) X M (c_X0_init l T B c29 z30 μ24 q23 _ hw31) kw_131 kw_132 rfl kw_67 kw_133 (by decide +kernel) rfl rfl ⟨Nat.le_of_ble_eq_true rfl, Nat.le_of_ble_eq_true rfl⟩ rfl hl.1 (Nat.le_of_ble_eq_true rfl) dX10_init_28 ⟨(show ((((0 + 1) + 1) + 0) + 1) + c29 ≤ c by omega), (show ((((0 + (Int32.toNatClampNeg 10)) + 3) + 0) + 7) + z30 ≤ z by omega)⟩) (fun μ28 H locs ⟨hw, hKM28⟩ M => ?_)
  replace hw := hw hKM28
  have hKM28_ := hKM25.tr hKM28
  have hk32 := hKM28.at hk26
  have hk33 := hKM28.at hk27
  have hc : (((((0 + 1) + 1) + 0) + 1) + c29) + ((((c - 1) - 1) - 1) - c29) ≤ c := by omega
  have hz : (((((0 + (Int32.toNatClampNeg 10)) + 3) + 0) + 7) + z30) + ((((z - (Int32.toNatClampNeg 10)) - 3) - 7) - z30) ≤ z := by omega
  refine my_putr (C := RX10) (F := TX10) (N := 6) (ci := 11) X M 4 rfl in_X10 tyX10 tyX10_ok nmX10 (by decide) rfl (by decide) kw_281 (Or.inr ⟨hnm, rfl⟩) dX10_init_31 hk32 (some q23) (mq_no _ _) (mq_fo _ _) (fun μ34 H locs eμ34 M => ?_)
  replace hw := hw μ34 eμ34
  have hKM35 : KM μ μ34 := by rw [eμ34]; exact hKM28_
  have hk36 : kd μ34 o = 12 := by rw [eμ34]; exact hk32
  have hk37 : kd μ34 q23 = 3 := by rw [eμ34]; exact hk33
  refine lv_aload_n X.1 X.2.1 dX10_init_34 rfl (lv_at hl 0 rfl) ?_
  obtain ⟨hb1, hb2, hw⟩ := hw
  refine my_new (C := RX8) (F := TX8) (N := 2) (ci := 10) X M rfl in_X8 tyX8 tyX8_ok df_X8 (by decide) kw_230 kw_231 kw_71 dX10_init_35 (show (((((0 + 1) + 1) + 0) + 1) + c29) + 1 ≤ c by omega) (show (((((0 + (Int32.toNatClampNeg 10)) + 3) + 0) + 7) + z30) + 2 ≤ z by omega) (fun q38 μ39 H hq38 eμ39 M => ?_)
  replace hw := hw q38 μ39 hq38 eμ39
  have hKM40 : KM μ μ39 := by rw [eμ39]; exact hKM35.tr (KM_nob hq38)
  have hk41 : kd μ39 o = 12 := by rw [eμ39]; exact (KM_nob hq38).at hk36
  have hk42 : kd μ39 q38 = 11 := by rw [eμ39]; exact kd_nob
  have hc : ((((((0 + 1) + 1) + 0) + 1) + c29) + 1) + (((((c - 1) - 1) - 1) - c29) - 1) ≤ c := by omega
  have hz : ((((((0 + (Int32.toNatClampNeg 10)) + 3) + 0) + 7) + z30) + 2) + (((((z - (Int32.toNatClampNeg 10)) - 3) - 7) - z30) - 2) ≤ z := by omega
  refine lv_dup X.1 X.2.1 dX10_init_38 rfl ?_
  obtain ⟨c44, z45, hc44, hz45, hw⟩ := hw
  have hw46 := hw
  clear hw
  refine mx_cv M (mx_runIN (n := 0) (As := []) (rest := [.ref q38, .ref o]) X M (c_X8_init l T B c44 z45 μ39 q38 _ hw46) kw_232 kw_233 rfl kw_71 kw_234 (by decide +kernel) rfl rfl ⟨Nat.le_of_ble_eq_true rfl, Nat.le_of_ble_eq_true rfl⟩ rfl hl.1 (Nat.le_of_ble_eq_true rfl) dX10_init_39 ⟨(show ((((((0 + 1) + 1) + 0) + 1) + c29) + 1) + c44 ≤ c by omega), (show ((((((0 + (Int32.toNatClampNeg 10)) + 3) + 0) + 7) + z30) + 2) + z45 ≤ z by omega)⟩) (fun μ43 H locs ⟨hw, hKM43⟩ M => ?_)
  replace hw := hw hKM43
  have hKM43_ := hKM40.tr hKM43
  have hk47 := hKM43.at hk41
  have hk48 := hKM43.at hk42
  have hc : (((((((0 + 1) + 1) + 0) + 1) + c29) + 1) + c44) + ((((((c - 1) - 1) - 1) - c29) - 1) - c44) ≤ c := by omega
  have hz : (((((((0 + (Int32.toNatClampNeg 10)) + 3) + 0) + 7) + z30) + 2) + z45) + ((((((z - (Int32.toNatClampNeg 10)) - 3) - 7) - z30) - 2) - z45) ≤ z := by omega
  refine my_putr (C := RX10) (F := TX10) (N := 6) (ci := 11) X M 5 rfl in_X10 tyX10 tyX10_ok nmX10 (by decide) rfl (by decide) kw_282 (Or.inr ⟨hnm, rfl⟩) dX10_init_42 hk47 (some q38) (mq_no _ _) (mq_fo _ _) (fun μ49 H locs eμ49 M => ?_)
  replace hw := hw μ49 eμ49
  have hKM50 : KM μ μ49 := by rw [eμ49]; exact hKM43_
  have hk51 : kd μ49 o = 12 := by rw [eμ49]; exact hk47
  have hk52 : kd μ49 q38 = 11 := by rw [eμ49]; exact hk48
  exact mx_vret X hr hk M dX10_init_45 (by omega) (by omega) ⟨hw, hKM50⟩

abbrev rm_X10_letter : Room := { frames := 5, cells := 0, slots := 0, locals := 109 }
def wp_X10_letter (μ : Mem) (o : Nat) (a1 : Int32) (post : Int32 → Mem → Prop) : Prop :=
  kd μ o = 12 ∧
  ∃ x2, fr μ 11 5 o = some x2 ∧
  kd μ x2 = 11 ∧
  wp_X8_characterAt μ x2 a1 (fun (r5 : Int32) (μ3 : Mem) =>
  KM μ μ3 →
  post r5 μ3)
set_option maxRecDepth 100000 in
set_option maxHeartbeats 4000000 in
theorem c_X10_letter (l : Launch) (T : Tb) (B : Nat) (μ : Mem) (o : Nat) (a1 : Int32) (post : Int32 → Mem → Prop) (hw : wp_X10_letter μ o a1 post) : Met l yX10_letter (.code yX10_letter cX10_letter 2 (some .int) :: G) rm_X10_letter (Pm (Rl T B) T B μ [.ref o, .int a1]) (va_Qi (fun r9 μ9 => post r9 μ9 ∧ KM μ μ9) (Bm (Rl T B)) (Ai B)) 0 0 (Ai B) := by
  refine mx_of RX10 rfl (by decide) (Nat.le_of_ble_eq_true rfl) ?_
  intro p e s m below meth c0 X hr hk hnm M ls hl
  have hl : lv_has ls 2 [(0, .ref o), (1, .int a1)] := hl
  unfold wp_X10_letter at hw
  have hKM : KM μ μ := KM.rf μ
  refine lv_aload_n X.1 X.2.1 dX10_letter_0 rfl (lv_at hl 0 rfl) ?_
  obtain ⟨hk1, hw⟩ := hw
  obtain ⟨x2, ex2, hw⟩ := hw
  refine mx_getr (C := RX10) (F := TX10) (N := 6) (ci := 11) X M 5 rfl in_X10 (by decide) rfl (by decide) kw_282 dX10_letter_1 hk1 ?_
  rw [ex2]
  refine lv_iload_n X.1 X.2.1 dX10_letter_4 rfl (lv_at hl 1 rfl) ?_
  obtain ⟨hk6, hw⟩ := hw
  have hw4 := hw
  clear hw
  refine mx_ci M (mx_runV (n := 1) (As := [.int a1]) (rest := []) X M (c_X8_characterAt l T B μ x2 a1 _ hw4) (mx_recv (C := RX8) (F := TX8) (N := 2) (ci := 10) X M rfl (by decide) hk6) kw_853 kw_854 kw_855 kw_71 kw_856 (by decide +kernel) rfl rfl ⟨Nat.le_of_ble_eq_true rfl, Nat.le_of_ble_eq_true rfl⟩ rfl hl.1 (Nat.le_of_ble_eq_true rfl) dX10_letter_5 ⟨by decide, by decide⟩) (fun r5 μ3 H locs ⟨hw, hKM3⟩ M => ?_)
  replace hw := hw hKM3
  have hKM3_ := hKM.tr hKM3
  have hk7 := hKM3.at hk1
  have hk8 := hKM3.at hk6
  exact mx_iret X hr hk M dX10_letter_8 (by decide) (by decide) ⟨hw, hKM3_⟩

abbrev rm_X11_init (c z : Nat) : Room := { frames := 1, cells := c, slots := z, locals := 20 }
def wp_X11_init (c z : Nat) (μ : Mem) (o : Nat) (post : Mem → Prop) : Prop :=
  ¬ (10 : Int32) < 0 ∧ (Int32.toNatClampNeg 10) ≤ 1048576 ∧ 1 ≤ c ∧ (Int32.toNatClampNeg 10) ≤ z ∧ ∀ (q1 : Nat) (μ2 : Mem), kd μ q1 = 0 → μ2 = nar μ 102 q1 (Int32.toNatClampNeg 10) →
  kd μ2 o = 13 ∧
  ∀ μ6 : Mem, μ6 = sfr μ2 12 1 o (some q1) →
  ¬ (60 : Int32) < 0 ∧ (Int32.toNatClampNeg 60) ≤ 1048576 ∧ 1 ≤ c - 1 ∧ (Int32.toNatClampNeg 60) ≤ z - (Int32.toNatClampNeg 10) ∧ ∀ (q10 : Nat) (μ11 : Mem), kd μ6 q10 = 0 → μ11 = nar μ6 104 q10 (Int32.toNatClampNeg 60) →
  ∀ μ15 : Mem, μ15 = sfr μ11 12 4 o (some q10) →
  ¬ (60 : Int32) < 0 ∧ (Int32.toNatClampNeg 60) ≤ 1048576 ∧ 1 ≤ (c - 1) - 1 ∧ (Int32.toNatClampNeg 60) ≤ (z - (Int32.toNatClampNeg 10)) - (Int32.toNatClampNeg 60) ∧ ∀ (q19 : Nat) (μ20 : Mem), kd μ15 q19 = 0 → μ20 = nar μ15 102 q19 (Int32.toNatClampNeg 60) →
  ∀ μ24 : Mem, μ24 = sfr μ20 12 5 o (some q19) →
  ¬ (60 : Int32) < 0 ∧ (Int32.toNatClampNeg 60) ≤ 1048576 ∧ 1 ≤ ((c - 1) - 1) - 1 ∧ (Int32.toNatClampNeg 60) ≤ ((z - (Int32.toNatClampNeg 10)) - (Int32.toNatClampNeg 60)) - (Int32.toNatClampNeg 60) ∧ ∀ (q28 : Nat) (μ29 : Mem), kd μ24 q28 = 0 → μ29 = nar μ24 102 q28 (Int32.toNatClampNeg 60) →
  ∀ μ33 : Mem, μ33 = sfr μ29 12 6 o (some q28) →
  ¬ (60 : Int32) < 0 ∧ (Int32.toNatClampNeg 60) ≤ 1048576 ∧ 1 ≤ (((c - 1) - 1) - 1) - 1 ∧ (Int32.toNatClampNeg 60) ≤ (((z - (Int32.toNatClampNeg 10)) - (Int32.toNatClampNeg 60)) - (Int32.toNatClampNeg 60)) - (Int32.toNatClampNeg 60) ∧ ∀ (q37 : Nat) (μ38 : Mem), kd μ33 q37 = 0 → μ38 = nar μ33 102 q37 (Int32.toNatClampNeg 60) →
  ∀ μ42 : Mem, μ42 = sfr μ38 12 7 o (some q37) →
  ¬ (480 : Int32) < 0 ∧ (Int32.toNatClampNeg 480) ≤ 1048576 ∧ 1 ≤ ((((c - 1) - 1) - 1) - 1) - 1 ∧ (Int32.toNatClampNeg 480) ≤ ((((z - (Int32.toNatClampNeg 10)) - (Int32.toNatClampNeg 60)) - (Int32.toNatClampNeg 60)) - (Int32.toNatClampNeg 60)) - (Int32.toNatClampNeg 60) ∧ ∀ (q46 : Nat) (μ47 : Mem), kd μ42 q46 = 0 → μ47 = nar μ42 102 q46 (Int32.toNatClampNeg 480) →
  ∀ μ51 : Mem, μ51 = sfr μ47 12 8 o (some q46) →
  ¬ (60 : Int32) < 0 ∧ (Int32.toNatClampNeg 60) ≤ 1048576 ∧ 1 ≤ (((((c - 1) - 1) - 1) - 1) - 1) - 1 ∧ (Int32.toNatClampNeg 60) ≤ (((((z - (Int32.toNatClampNeg 10)) - (Int32.toNatClampNeg 60)) - (Int32.toNatClampNeg 60)) - (Int32.toNatClampNeg 60)) - (Int32.toNatClampNeg 60)) - (Int32.toNatClampNeg 480) ∧ ∀ (q55 : Nat) (μ56 : Mem), kd μ51 q55 = 0 → μ56 = nar μ51 102 q55 (Int32.toNatClampNeg 60) →
  ∀ μ60 : Mem, μ60 = sfr μ56 12 9 o (some q55) →
  ¬ (120000 : Int32) < 0 ∧ (Int32.toNatClampNeg 120000) ≤ 1048576 ∧ 1 ≤ ((((((c - 1) - 1) - 1) - 1) - 1) - 1) - 1 ∧ (Int32.toNatClampNeg 120000) ≤ ((((((z - (Int32.toNatClampNeg 10)) - (Int32.toNatClampNeg 60)) - (Int32.toNatClampNeg 60)) - (Int32.toNatClampNeg 60)) - (Int32.toNatClampNeg 60)) - (Int32.toNatClampNeg 480)) - (Int32.toNatClampNeg 60) ∧ ∀ (q64 : Nat) (μ65 : Mem), kd μ60 q64 = 0 → μ65 = nar μ60 102 q64 (Int32.toNatClampNeg 120000) →
  ∀ μ69 : Mem, μ69 = sfr μ65 12 10 o (some q64) →
  ¬ (2000 : Int32) < 0 ∧ (Int32.toNatClampNeg 2000) ≤ 1048576 ∧ 1 ≤ (((((((c - 1) - 1) - 1) - 1) - 1) - 1) - 1) - 1 ∧ (Int32.toNatClampNeg 2000) ≤ (((((((z - (Int32.toNatClampNeg 10)) - (Int32.toNatClampNeg 60)) - (Int32.toNatClampNeg 60)) - (Int32.toNatClampNeg 60)) - (Int32.toNatClampNeg 60)) - (Int32.toNatClampNeg 480)) - (Int32.toNatClampNeg 60)) - (Int32.toNatClampNeg 120000) ∧ ∀ (q73 : Nat) (μ74 : Mem), kd μ69 q73 = 0 → μ74 = nar μ69 102 q73 (Int32.toNatClampNeg 2000) →
  ∀ μ78 : Mem, μ78 = sfr μ74 12 12 o (some q73) →
  ¬ (2000 : Int32) < 0 ∧ (Int32.toNatClampNeg 2000) ≤ 1048576 ∧ 1 ≤ ((((((((c - 1) - 1) - 1) - 1) - 1) - 1) - 1) - 1) - 1 ∧ (Int32.toNatClampNeg 2000) ≤ ((((((((z - (Int32.toNatClampNeg 10)) - (Int32.toNatClampNeg 60)) - (Int32.toNatClampNeg 60)) - (Int32.toNatClampNeg 60)) - (Int32.toNatClampNeg 60)) - (Int32.toNatClampNeg 480)) - (Int32.toNatClampNeg 60)) - (Int32.toNatClampNeg 120000)) - (Int32.toNatClampNeg 2000) ∧ ∀ (q82 : Nat) (μ83 : Mem), kd μ78 q82 = 0 → μ83 = nar μ78 102 q82 (Int32.toNatClampNeg 2000) →
  ∀ μ87 : Mem, μ87 = sfr μ83 12 13 o (some q82) →
  ¬ (2000 : Int32) < 0 ∧ (Int32.toNatClampNeg 2000) ≤ 1048576 ∧ 1 ≤ (((((((((c - 1) - 1) - 1) - 1) - 1) - 1) - 1) - 1) - 1) - 1 ∧ (Int32.toNatClampNeg 2000) ≤ (((((((((z - (Int32.toNatClampNeg 10)) - (Int32.toNatClampNeg 60)) - (Int32.toNatClampNeg 60)) - (Int32.toNatClampNeg 60)) - (Int32.toNatClampNeg 60)) - (Int32.toNatClampNeg 480)) - (Int32.toNatClampNeg 60)) - (Int32.toNatClampNeg 120000)) - (Int32.toNatClampNeg 2000)) - (Int32.toNatClampNeg 2000) ∧ ∀ (q91 : Nat) (μ92 : Mem), kd μ87 q91 = 0 → μ92 = nar μ87 102 q91 (Int32.toNatClampNeg 2000) →
  ∀ μ96 : Mem, μ96 = sfr μ92 12 14 o (some q91) →
  ¬ (2000 : Int32) < 0 ∧ (Int32.toNatClampNeg 2000) ≤ 1048576 ∧ 1 ≤ ((((((((((c - 1) - 1) - 1) - 1) - 1) - 1) - 1) - 1) - 1) - 1) - 1 ∧ (Int32.toNatClampNeg 2000) ≤ ((((((((((z - (Int32.toNatClampNeg 10)) - (Int32.toNatClampNeg 60)) - (Int32.toNatClampNeg 60)) - (Int32.toNatClampNeg 60)) - (Int32.toNatClampNeg 60)) - (Int32.toNatClampNeg 480)) - (Int32.toNatClampNeg 60)) - (Int32.toNatClampNeg 120000)) - (Int32.toNatClampNeg 2000)) - (Int32.toNatClampNeg 2000)) - (Int32.toNatClampNeg 2000) ∧ ∀ (q100 : Nat) (μ101 : Mem), kd μ96 q100 = 0 → μ101 = nar μ96 102 q100 (Int32.toNatClampNeg 2000) →
  ∀ μ105 : Mem, μ105 = sfr μ101 12 15 o (some q100) →
  ¬ (2000 : Int32) < 0 ∧ (Int32.toNatClampNeg 2000) ≤ 1048576 ∧ 1 ≤ (((((((((((c - 1) - 1) - 1) - 1) - 1) - 1) - 1) - 1) - 1) - 1) - 1) - 1 ∧ (Int32.toNatClampNeg 2000) ≤ (((((((((((z - (Int32.toNatClampNeg 10)) - (Int32.toNatClampNeg 60)) - (Int32.toNatClampNeg 60)) - (Int32.toNatClampNeg 60)) - (Int32.toNatClampNeg 60)) - (Int32.toNatClampNeg 480)) - (Int32.toNatClampNeg 60)) - (Int32.toNatClampNeg 120000)) - (Int32.toNatClampNeg 2000)) - (Int32.toNatClampNeg 2000)) - (Int32.toNatClampNeg 2000)) - (Int32.toNatClampNeg 2000) ∧ ∀ (q109 : Nat) (μ110 : Mem), kd μ105 q109 = 0 → μ110 = nar μ105 102 q109 (Int32.toNatClampNeg 2000) →
  ∀ μ114 : Mem, μ114 = sfr μ110 12 16 o (some q109) →
  ¬ (2000 : Int32) < 0 ∧ (Int32.toNatClampNeg 2000) ≤ 1048576 ∧ 1 ≤ ((((((((((((c - 1) - 1) - 1) - 1) - 1) - 1) - 1) - 1) - 1) - 1) - 1) - 1) - 1 ∧ (Int32.toNatClampNeg 2000) ≤ ((((((((((((z - (Int32.toNatClampNeg 10)) - (Int32.toNatClampNeg 60)) - (Int32.toNatClampNeg 60)) - (Int32.toNatClampNeg 60)) - (Int32.toNatClampNeg 60)) - (Int32.toNatClampNeg 480)) - (Int32.toNatClampNeg 60)) - (Int32.toNatClampNeg 120000)) - (Int32.toNatClampNeg 2000)) - (Int32.toNatClampNeg 2000)) - (Int32.toNatClampNeg 2000)) - (Int32.toNatClampNeg 2000)) - (Int32.toNatClampNeg 2000) ∧ ∀ (q118 : Nat) (μ119 : Mem), kd μ114 q118 = 0 → μ119 = nar μ114 102 q118 (Int32.toNatClampNeg 2000) →
  ∀ μ123 : Mem, μ123 = sfr μ119 12 17 o (some q118) →
  ¬ (20000 : Int32) < 0 ∧ (Int32.toNatClampNeg 20000) ≤ 1048576 ∧ 1 ≤ (((((((((((((c - 1) - 1) - 1) - 1) - 1) - 1) - 1) - 1) - 1) - 1) - 1) - 1) - 1) - 1 ∧ (Int32.toNatClampNeg 20000) ≤ (((((((((((((z - (Int32.toNatClampNeg 10)) - (Int32.toNatClampNeg 60)) - (Int32.toNatClampNeg 60)) - (Int32.toNatClampNeg 60)) - (Int32.toNatClampNeg 60)) - (Int32.toNatClampNeg 480)) - (Int32.toNatClampNeg 60)) - (Int32.toNatClampNeg 120000)) - (Int32.toNatClampNeg 2000)) - (Int32.toNatClampNeg 2000)) - (Int32.toNatClampNeg 2000)) - (Int32.toNatClampNeg 2000)) - (Int32.toNatClampNeg 2000)) - (Int32.toNatClampNeg 2000) ∧ ∀ (q127 : Nat) (μ128 : Mem), kd μ123 q127 = 0 → μ128 = nar μ123 102 q127 (Int32.toNatClampNeg 20000) →
  ∀ μ132 : Mem, μ132 = sfr μ128 12 18 o (some q127) →
  ¬ (20100 : Int32) < 0 ∧ (Int32.toNatClampNeg 20100) ≤ 1048576 ∧ 1 ≤ ((((((((((((((c - 1) - 1) - 1) - 1) - 1) - 1) - 1) - 1) - 1) - 1) - 1) - 1) - 1) - 1) - 1 ∧ (Int32.toNatClampNeg 20100) ≤ ((((((((((((((z - (Int32.toNatClampNeg 10)) - (Int32.toNatClampNeg 60)) - (Int32.toNatClampNeg 60)) - (Int32.toNatClampNeg 60)) - (Int32.toNatClampNeg 60)) - (Int32.toNatClampNeg 480)) - (Int32.toNatClampNeg 60)) - (Int32.toNatClampNeg 120000)) - (Int32.toNatClampNeg 2000)) - (Int32.toNatClampNeg 2000)) - (Int32.toNatClampNeg 2000)) - (Int32.toNatClampNeg 2000)) - (Int32.toNatClampNeg 2000)) - (Int32.toNatClampNeg 2000)) - (Int32.toNatClampNeg 20000) ∧ ∀ (q136 : Nat) (μ137 : Mem), kd μ132 q136 = 0 → μ137 = nar μ132 102 q136 (Int32.toNatClampNeg 20100) →
  ∀ μ141 : Mem, μ141 = sfr μ137 12 20 o (some q136) →
  ¬ (20100 : Int32) < 0 ∧ (Int32.toNatClampNeg 20100) ≤ 1048576 ∧ 1 ≤ (((((((((((((((c - 1) - 1) - 1) - 1) - 1) - 1) - 1) - 1) - 1) - 1) - 1) - 1) - 1) - 1) - 1) - 1 ∧ (Int32.toNatClampNeg 20100) ≤ (((((((((((((((z - (Int32.toNatClampNeg 10)) - (Int32.toNatClampNeg 60)) - (Int32.toNatClampNeg 60)) - (Int32.toNatClampNeg 60)) - (Int32.toNatClampNeg 60)) - (Int32.toNatClampNeg 480)) - (Int32.toNatClampNeg 60)) - (Int32.toNatClampNeg 120000)) - (Int32.toNatClampNeg 2000)) - (Int32.toNatClampNeg 2000)) - (Int32.toNatClampNeg 2000)) - (Int32.toNatClampNeg 2000)) - (Int32.toNatClampNeg 2000)) - (Int32.toNatClampNeg 2000)) - (Int32.toNatClampNeg 20000)) - (Int32.toNatClampNeg 20100) ∧ ∀ (q145 : Nat) (μ146 : Mem), kd μ141 q145 = 0 → μ146 = nar μ141 102 q145 (Int32.toNatClampNeg 20100) →
  ∀ μ150 : Mem, μ150 = sfr μ146 12 21 o (some q145) →
  ¬ (20100 : Int32) < 0 ∧ (Int32.toNatClampNeg 20100) ≤ 1048576 ∧ 1 ≤ ((((((((((((((((c - 1) - 1) - 1) - 1) - 1) - 1) - 1) - 1) - 1) - 1) - 1) - 1) - 1) - 1) - 1) - 1) - 1 ∧ (Int32.toNatClampNeg 20100) ≤ ((((((((((((((((z - (Int32.toNatClampNeg 10)) - (Int32.toNatClampNeg 60)) - (Int32.toNatClampNeg 60)) - (Int32.toNatClampNeg 60)) - (Int32.toNatClampNeg 60)) - (Int32.toNatClampNeg 480)) - (Int32.toNatClampNeg 60)) - (Int32.toNatClampNeg 120000)) - (Int32.toNatClampNeg 2000)) - (Int32.toNatClampNeg 2000)) - (Int32.toNatClampNeg 2000)) - (Int32.toNatClampNeg 2000)) - (Int32.toNatClampNeg 2000)) - (Int32.toNatClampNeg 2000)) - (Int32.toNatClampNeg 20000)) - (Int32.toNatClampNeg 20100)) - (Int32.toNatClampNeg 20100) ∧ ∀ (q154 : Nat) (μ155 : Mem), kd μ150 q154 = 0 → μ155 = nar μ150 102 q154 (Int32.toNatClampNeg 20100) →
  ∀ μ159 : Mem, μ159 = sfr μ155 12 22 o (some q154) →
  ¬ (20100 : Int32) < 0 ∧ (Int32.toNatClampNeg 20100) ≤ 1048576 ∧ 1 ≤ (((((((((((((((((c - 1) - 1) - 1) - 1) - 1) - 1) - 1) - 1) - 1) - 1) - 1) - 1) - 1) - 1) - 1) - 1) - 1) - 1 ∧ (Int32.toNatClampNeg 20100) ≤ (((((((((((((((((z - (Int32.toNatClampNeg 10)) - (Int32.toNatClampNeg 60)) - (Int32.toNatClampNeg 60)) - (Int32.toNatClampNeg 60)) - (Int32.toNatClampNeg 60)) - (Int32.toNatClampNeg 480)) - (Int32.toNatClampNeg 60)) - (Int32.toNatClampNeg 120000)) - (Int32.toNatClampNeg 2000)) - (Int32.toNatClampNeg 2000)) - (Int32.toNatClampNeg 2000)) - (Int32.toNatClampNeg 2000)) - (Int32.toNatClampNeg 2000)) - (Int32.toNatClampNeg 2000)) - (Int32.toNatClampNeg 20000)) - (Int32.toNatClampNeg 20100)) - (Int32.toNatClampNeg 20100)) - (Int32.toNatClampNeg 20100) ∧ ∀ (q163 : Nat) (μ164 : Mem), kd μ159 q163 = 0 → μ164 = nar μ159 103 q163 (Int32.toNatClampNeg 20100) →
  ∀ μ168 : Mem, μ168 = sfr μ164 12 23 o (some q163) →
  ¬ (7000 : Int32) < 0 ∧ (Int32.toNatClampNeg 7000) ≤ 1048576 ∧ 1 ≤ ((((((((((((((((((c - 1) - 1) - 1) - 1) - 1) - 1) - 1) - 1) - 1) - 1) - 1) - 1) - 1) - 1) - 1) - 1) - 1) - 1) - 1 ∧ (Int32.toNatClampNeg 7000) ≤ ((((((((((((((((((z - (Int32.toNatClampNeg 10)) - (Int32.toNatClampNeg 60)) - (Int32.toNatClampNeg 60)) - (Int32.toNatClampNeg 60)) - (Int32.toNatClampNeg 60)) - (Int32.toNatClampNeg 480)) - (Int32.toNatClampNeg 60)) - (Int32.toNatClampNeg 120000)) - (Int32.toNatClampNeg 2000)) - (Int32.toNatClampNeg 2000)) - (Int32.toNatClampNeg 2000)) - (Int32.toNatClampNeg 2000)) - (Int32.toNatClampNeg 2000)) - (Int32.toNatClampNeg 2000)) - (Int32.toNatClampNeg 20000)) - (Int32.toNatClampNeg 20100)) - (Int32.toNatClampNeg 20100)) - (Int32.toNatClampNeg 20100)) - (Int32.toNatClampNeg 20100) ∧ ∀ (q172 : Nat) (μ173 : Mem), kd μ168 q172 = 0 → μ173 = nar μ168 104 q172 (Int32.toNatClampNeg 7000) →
  ∀ μ177 : Mem, μ177 = sfr μ173 12 27 o (some q172) →
  ¬ (7000 : Int32) < 0 ∧ (Int32.toNatClampNeg 7000) ≤ 1048576 ∧ 1 ≤ (((((((((((((((((((c - 1) - 1) - 1) - 1) - 1) - 1) - 1) - 1) - 1) - 1) - 1) - 1) - 1) - 1) - 1) - 1) - 1) - 1) - 1) - 1 ∧ (Int32.toNatClampNeg 7000) ≤ (((((((((((((((((((z - (Int32.toNatClampNeg 10)) - (Int32.toNatClampNeg 60)) - (Int32.toNatClampNeg 60)) - (Int32.toNatClampNeg 60)) - (Int32.toNatClampNeg 60)) - (Int32.toNatClampNeg 480)) - (Int32.toNatClampNeg 60)) - (Int32.toNatClampNeg 120000)) - (Int32.toNatClampNeg 2000)) - (Int32.toNatClampNeg 2000)) - (Int32.toNatClampNeg 2000)) - (Int32.toNatClampNeg 2000)) - (Int32.toNatClampNeg 2000)) - (Int32.toNatClampNeg 2000)) - (Int32.toNatClampNeg 20000)) - (Int32.toNatClampNeg 20100)) - (Int32.toNatClampNeg 20100)) - (Int32.toNatClampNeg 20100)) - (Int32.toNatClampNeg 20100)) - (Int32.toNatClampNeg 7000) ∧ ∀ (q181 : Nat) (μ182 : Mem), kd μ177 q181 = 0 → μ182 = nar μ177 102 q181 (Int32.toNatClampNeg 7000) →
  ∀ μ186 : Mem, μ186 = sfr μ182 12 28 o (some q181) →
  ¬ (7000 : Int32) < 0 ∧ (Int32.toNatClampNeg 7000) ≤ 1048576 ∧ 1 ≤ ((((((((((((((((((((c - 1) - 1) - 1) - 1) - 1) - 1) - 1) - 1) - 1) - 1) - 1) - 1) - 1) - 1) - 1) - 1) - 1) - 1) - 1) - 1) - 1 ∧ (Int32.toNatClampNeg 7000) ≤ ((((((((((((((((((((z - (Int32.toNatClampNeg 10)) - (Int32.toNatClampNeg 60)) - (Int32.toNatClampNeg 60)) - (Int32.toNatClampNeg 60)) - (Int32.toNatClampNeg 60)) - (Int32.toNatClampNeg 480)) - (Int32.toNatClampNeg 60)) - (Int32.toNatClampNeg 120000)) - (Int32.toNatClampNeg 2000)) - (Int32.toNatClampNeg 2000)) - (Int32.toNatClampNeg 2000)) - (Int32.toNatClampNeg 2000)) - (Int32.toNatClampNeg 2000)) - (Int32.toNatClampNeg 2000)) - (Int32.toNatClampNeg 20000)) - (Int32.toNatClampNeg 20100)) - (Int32.toNatClampNeg 20100)) - (Int32.toNatClampNeg 20100)) - (Int32.toNatClampNeg 20100)) - (Int32.toNatClampNeg 7000)) - (Int32.toNatClampNeg 7000) ∧ ∀ (q190 : Nat) (μ191 : Mem), kd μ186 q190 = 0 → μ191 = nar μ186 102 q190 (Int32.toNatClampNeg 7000) →
  ∀ μ195 : Mem, μ195 = sfr μ191 12 29 o (some q190) →
  ¬ (7000 : Int32) < 0 ∧ (Int32.toNatClampNeg 7000) ≤ 1048576 ∧ 1 ≤ (((((((((((((((((((((c - 1) - 1) - 1) - 1) - 1) - 1) - 1) - 1) - 1) - 1) - 1) - 1) - 1) - 1) - 1) - 1) - 1) - 1) - 1) - 1) - 1) - 1 ∧ (Int32.toNatClampNeg 7000) ≤ (((((((((((((((((((((z - (Int32.toNatClampNeg 10)) - (Int32.toNatClampNeg 60)) - (Int32.toNatClampNeg 60)) - (Int32.toNatClampNeg 60)) - (Int32.toNatClampNeg 60)) - (Int32.toNatClampNeg 480)) - (Int32.toNatClampNeg 60)) - (Int32.toNatClampNeg 120000)) - (Int32.toNatClampNeg 2000)) - (Int32.toNatClampNeg 2000)) - (Int32.toNatClampNeg 2000)) - (Int32.toNatClampNeg 2000)) - (Int32.toNatClampNeg 2000)) - (Int32.toNatClampNeg 2000)) - (Int32.toNatClampNeg 20000)) - (Int32.toNatClampNeg 20100)) - (Int32.toNatClampNeg 20100)) - (Int32.toNatClampNeg 20100)) - (Int32.toNatClampNeg 20100)) - (Int32.toNatClampNeg 7000)) - (Int32.toNatClampNeg 7000)) - (Int32.toNatClampNeg 7000) ∧ ∀ (q199 : Nat) (μ200 : Mem), kd μ195 q199 = 0 → μ200 = nar μ195 102 q199 (Int32.toNatClampNeg 7000) →
  ∀ μ204 : Mem, μ204 = sfr μ200 12 30 o (some q199) →
  ¬ (7000 : Int32) < 0 ∧ (Int32.toNatClampNeg 7000) ≤ 1048576 ∧ 1 ≤ ((((((((((((((((((((((c - 1) - 1) - 1) - 1) - 1) - 1) - 1) - 1) - 1) - 1) - 1) - 1) - 1) - 1) - 1) - 1) - 1) - 1) - 1) - 1) - 1) - 1) - 1 ∧ (Int32.toNatClampNeg 7000) ≤ ((((((((((((((((((((((z - (Int32.toNatClampNeg 10)) - (Int32.toNatClampNeg 60)) - (Int32.toNatClampNeg 60)) - (Int32.toNatClampNeg 60)) - (Int32.toNatClampNeg 60)) - (Int32.toNatClampNeg 480)) - (Int32.toNatClampNeg 60)) - (Int32.toNatClampNeg 120000)) - (Int32.toNatClampNeg 2000)) - (Int32.toNatClampNeg 2000)) - (Int32.toNatClampNeg 2000)) - (Int32.toNatClampNeg 2000)) - (Int32.toNatClampNeg 2000)) - (Int32.toNatClampNeg 2000)) - (Int32.toNatClampNeg 20000)) - (Int32.toNatClampNeg 20100)) - (Int32.toNatClampNeg 20100)) - (Int32.toNatClampNeg 20100)) - (Int32.toNatClampNeg 20100)) - (Int32.toNatClampNeg 7000)) - (Int32.toNatClampNeg 7000)) - (Int32.toNatClampNeg 7000)) - (Int32.toNatClampNeg 7000) ∧ ∀ (q208 : Nat) (μ209 : Mem), kd μ204 q208 = 0 → μ209 = nar μ204 102 q208 (Int32.toNatClampNeg 7000) →
  ∀ μ213 : Mem, μ213 = sfr μ209 12 31 o (some q208) →
  ¬ (7000 : Int32) < 0 ∧ (Int32.toNatClampNeg 7000) ≤ 1048576 ∧ 1 ≤ (((((((((((((((((((((((c - 1) - 1) - 1) - 1) - 1) - 1) - 1) - 1) - 1) - 1) - 1) - 1) - 1) - 1) - 1) - 1) - 1) - 1) - 1) - 1) - 1) - 1) - 1) - 1 ∧ (Int32.toNatClampNeg 7000) ≤ (((((((((((((((((((((((z - (Int32.toNatClampNeg 10)) - (Int32.toNatClampNeg 60)) - (Int32.toNatClampNeg 60)) - (Int32.toNatClampNeg 60)) - (Int32.toNatClampNeg 60)) - (Int32.toNatClampNeg 480)) - (Int32.toNatClampNeg 60)) - (Int32.toNatClampNeg 120000)) - (Int32.toNatClampNeg 2000)) - (Int32.toNatClampNeg 2000)) - (Int32.toNatClampNeg 2000)) - (Int32.toNatClampNeg 2000)) - (Int32.toNatClampNeg 2000)) - (Int32.toNatClampNeg 2000)) - (Int32.toNatClampNeg 20000)) - (Int32.toNatClampNeg 20100)) - (Int32.toNatClampNeg 20100)) - (Int32.toNatClampNeg 20100)) - (Int32.toNatClampNeg 20100)) - (Int32.toNatClampNeg 7000)) - (Int32.toNatClampNeg 7000)) - (Int32.toNatClampNeg 7000)) - (Int32.toNatClampNeg 7000)) - (Int32.toNatClampNeg 7000) ∧ ∀ (q217 : Nat) (μ218 : Mem), kd μ213 q217 = 0 → μ218 = nar μ213 102 q217 (Int32.toNatClampNeg 7000) →
  ∀ μ222 : Mem, μ222 = sfr μ218 12 32 o (some q217) →
  ¬ (7000 : Int32) < 0 ∧ (Int32.toNatClampNeg 7000) ≤ 1048576 ∧ 1 ≤ ((((((((((((((((((((((((c - 1) - 1) - 1) - 1) - 1) - 1) - 1) - 1) - 1) - 1) - 1) - 1) - 1) - 1) - 1) - 1) - 1) - 1) - 1) - 1) - 1) - 1) - 1) - 1) - 1 ∧ (Int32.toNatClampNeg 7000) ≤ ((((((((((((((((((((((((z - (Int32.toNatClampNeg 10)) - (Int32.toNatClampNeg 60)) - (Int32.toNatClampNeg 60)) - (Int32.toNatClampNeg 60)) - (Int32.toNatClampNeg 60)) - (Int32.toNatClampNeg 480)) - (Int32.toNatClampNeg 60)) - (Int32.toNatClampNeg 120000)) - (Int32.toNatClampNeg 2000)) - (Int32.toNatClampNeg 2000)) - (Int32.toNatClampNeg 2000)) - (Int32.toNatClampNeg 2000)) - (Int32.toNatClampNeg 2000)) - (Int32.toNatClampNeg 2000)) - (Int32.toNatClampNeg 20000)) - (Int32.toNatClampNeg 20100)) - (Int32.toNatClampNeg 20100)) - (Int32.toNatClampNeg 20100)) - (Int32.toNatClampNeg 20100)) - (Int32.toNatClampNeg 7000)) - (Int32.toNatClampNeg 7000)) - (Int32.toNatClampNeg 7000)) - (Int32.toNatClampNeg 7000)) - (Int32.toNatClampNeg 7000)) - (Int32.toNatClampNeg 7000) ∧ ∀ (q226 : Nat) (μ227 : Mem), kd μ222 q226 = 0 → μ227 = nar μ222 102 q226 (Int32.toNatClampNeg 7000) →
  ∀ μ231 : Mem, μ231 = sfr μ227 12 33 o (some q226) →
  ¬ (7000 : Int32) < 0 ∧ (Int32.toNatClampNeg 7000) ≤ 1048576 ∧ 1 ≤ (((((((((((((((((((((((((c - 1) - 1) - 1) - 1) - 1) - 1) - 1) - 1) - 1) - 1) - 1) - 1) - 1) - 1) - 1) - 1) - 1) - 1) - 1) - 1) - 1) - 1) - 1) - 1) - 1) - 1 ∧ (Int32.toNatClampNeg 7000) ≤ (((((((((((((((((((((((((z - (Int32.toNatClampNeg 10)) - (Int32.toNatClampNeg 60)) - (Int32.toNatClampNeg 60)) - (Int32.toNatClampNeg 60)) - (Int32.toNatClampNeg 60)) - (Int32.toNatClampNeg 480)) - (Int32.toNatClampNeg 60)) - (Int32.toNatClampNeg 120000)) - (Int32.toNatClampNeg 2000)) - (Int32.toNatClampNeg 2000)) - (Int32.toNatClampNeg 2000)) - (Int32.toNatClampNeg 2000)) - (Int32.toNatClampNeg 2000)) - (Int32.toNatClampNeg 2000)) - (Int32.toNatClampNeg 20000)) - (Int32.toNatClampNeg 20100)) - (Int32.toNatClampNeg 20100)) - (Int32.toNatClampNeg 20100)) - (Int32.toNatClampNeg 20100)) - (Int32.toNatClampNeg 7000)) - (Int32.toNatClampNeg 7000)) - (Int32.toNatClampNeg 7000)) - (Int32.toNatClampNeg 7000)) - (Int32.toNatClampNeg 7000)) - (Int32.toNatClampNeg 7000)) - (Int32.toNatClampNeg 7000) ∧ ∀ (q235 : Nat) (μ236 : Mem), kd μ231 q235 = 0 → μ236 = nar μ231 104 q235 (Int32.toNatClampNeg 7000) →
  ∀ μ240 : Mem, μ240 = sfr μ236 12 34 o (some q235) →
  ¬ (7000 : Int32) < 0 ∧ (Int32.toNatClampNeg 7000) ≤ 1048576 ∧ 1 ≤ ((((((((((((((((((((((((((c - 1) - 1) - 1) - 1) - 1) - 1) - 1) - 1) - 1) - 1) - 1) - 1) - 1) - 1) - 1) - 1) - 1) - 1) - 1) - 1) - 1) - 1) - 1) - 1) - 1) - 1) - 1 ∧ (Int32.toNatClampNeg 7000) ≤ ((((((((((((((((((((((((((z - (Int32.toNatClampNeg 10)) - (Int32.toNatClampNeg 60)) - (Int32.toNatClampNeg 60)) - (Int32.toNatClampNeg 60)) - (Int32.toNatClampNeg 60)) - (Int32.toNatClampNeg 480)) - (Int32.toNatClampNeg 60)) - (Int32.toNatClampNeg 120000)) - (Int32.toNatClampNeg 2000)) - (Int32.toNatClampNeg 2000)) - (Int32.toNatClampNeg 2000)) - (Int32.toNatClampNeg 2000)) - (Int32.toNatClampNeg 2000)) - (Int32.toNatClampNeg 2000)) - (Int32.toNatClampNeg 20000)) - (Int32.toNatClampNeg 20100)) - (Int32.toNatClampNeg 20100)) - (Int32.toNatClampNeg 20100)) - (Int32.toNatClampNeg 20100)) - (Int32.toNatClampNeg 7000)) - (Int32.toNatClampNeg 7000)) - (Int32.toNatClampNeg 7000)) - (Int32.toNatClampNeg 7000)) - (Int32.toNatClampNeg 7000)) - (Int32.toNatClampNeg 7000)) - (Int32.toNatClampNeg 7000)) - (Int32.toNatClampNeg 7000) ∧ ∀ (q244 : Nat) (μ245 : Mem), kd μ240 q244 = 0 → μ245 = nar μ240 102 q244 (Int32.toNatClampNeg 7000) →
  ∀ μ249 : Mem, μ249 = sfr μ245 12 35 o (some q244) →
  ¬ (7000 : Int32) < 0 ∧ (Int32.toNatClampNeg 7000) ≤ 1048576 ∧ 1 ≤ (((((((((((((((((((((((((((c - 1) - 1) - 1) - 1) - 1) - 1) - 1) - 1) - 1) - 1) - 1) - 1) - 1) - 1) - 1) - 1) - 1) - 1) - 1) - 1) - 1) - 1) - 1) - 1) - 1) - 1) - 1) - 1 ∧ (Int32.toNatClampNeg 7000) ≤ (((((((((((((((((((((((((((z - (Int32.toNatClampNeg 10)) - (Int32.toNatClampNeg 60)) - (Int32.toNatClampNeg 60)) - (Int32.toNatClampNeg 60)) - (Int32.toNatClampNeg 60)) - (Int32.toNatClampNeg 480)) - (Int32.toNatClampNeg 60)) - (Int32.toNatClampNeg 120000)) - (Int32.toNatClampNeg 2000)) - (Int32.toNatClampNeg 2000)) - (Int32.toNatClampNeg 2000)) - (Int32.toNatClampNeg 2000)) - (Int32.toNatClampNeg 2000)) - (Int32.toNatClampNeg 2000)) - (Int32.toNatClampNeg 20000)) - (Int32.toNatClampNeg 20100)) - (Int32.toNatClampNeg 20100)) - (Int32.toNatClampNeg 20100)) - (Int32.toNatClampNeg 20100)) - (Int32.toNatClampNeg 7000)) - (Int32.toNatClampNeg 7000)) - (Int32.toNatClampNeg 7000)) - (Int32.toNatClampNeg 7000)) - (Int32.toNatClampNeg 7000)) - (Int32.toNatClampNeg 7000)) - (Int32.toNatClampNeg 7000)) - (Int32.toNatClampNeg 7000)) - (Int32.toNatClampNeg 7000) ∧ ∀ (q253 : Nat) (μ254 : Mem), kd μ249 q253 = 0 → μ254 = nar μ249 102 q253 (Int32.toNatClampNeg 7000) →
  ∀ μ258 : Mem, μ258 = sfr μ254 12 36 o (some q253) →
  ¬ (7000 : Int32) < 0 ∧ (Int32.toNatClampNeg 7000) ≤ 1048576 ∧ 1 ≤ ((((((((((((((((((((((((((((c - 1) - 1) - 1) - 1) - 1) - 1) - 1) - 1) - 1) - 1) - 1) - 1) - 1) - 1) - 1) - 1) - 1) - 1) - 1) - 1) - 1) - 1) - 1) - 1) - 1) - 1) - 1) - 1) - 1 ∧ (Int32.toNatClampNeg 7000) ≤ ((((((((((((((((((((((((((((z - (Int32.toNatClampNeg 10)) - (Int32.toNatClampNeg 60)) - (Int32.toNatClampNeg 60)) - (Int32.toNatClampNeg 60)) - (Int32.toNatClampNeg 60)) - (Int32.toNatClampNeg 480)) - (Int32.toNatClampNeg 60)) - (Int32.toNatClampNeg 120000)) - (Int32.toNatClampNeg 2000)) - (Int32.toNatClampNeg 2000)) - (Int32.toNatClampNeg 2000)) - (Int32.toNatClampNeg 2000)) - (Int32.toNatClampNeg 2000)) - (Int32.toNatClampNeg 2000)) - (Int32.toNatClampNeg 20000)) - (Int32.toNatClampNeg 20100)) - (Int32.toNatClampNeg 20100)) - (Int32.toNatClampNeg 20100)) - (Int32.toNatClampNeg 20100)) - (Int32.toNatClampNeg 7000)) - (Int32.toNatClampNeg 7000)) - (Int32.toNatClampNeg 7000)) - (Int32.toNatClampNeg 7000)) - (Int32.toNatClampNeg 7000)) - (Int32.toNatClampNeg 7000)) - (Int32.toNatClampNeg 7000)) - (Int32.toNatClampNeg 7000)) - (Int32.toNatClampNeg 7000)) - (Int32.toNatClampNeg 7000) ∧ ∀ (q262 : Nat) (μ263 : Mem), kd μ258 q262 = 0 → μ263 = nar μ258 102 q262 (Int32.toNatClampNeg 7000) →
  ∀ μ267 : Mem, μ267 = sfr μ263 12 37 o (some q262) →
  ¬ (7000 : Int32) < 0 ∧ (Int32.toNatClampNeg 7000) ≤ 1048576 ∧ 1 ≤ (((((((((((((((((((((((((((((c - 1) - 1) - 1) - 1) - 1) - 1) - 1) - 1) - 1) - 1) - 1) - 1) - 1) - 1) - 1) - 1) - 1) - 1) - 1) - 1) - 1) - 1) - 1) - 1) - 1) - 1) - 1) - 1) - 1) - 1 ∧ (Int32.toNatClampNeg 7000) ≤ (((((((((((((((((((((((((((((z - (Int32.toNatClampNeg 10)) - (Int32.toNatClampNeg 60)) - (Int32.toNatClampNeg 60)) - (Int32.toNatClampNeg 60)) - (Int32.toNatClampNeg 60)) - (Int32.toNatClampNeg 480)) - (Int32.toNatClampNeg 60)) - (Int32.toNatClampNeg 120000)) - (Int32.toNatClampNeg 2000)) - (Int32.toNatClampNeg 2000)) - (Int32.toNatClampNeg 2000)) - (Int32.toNatClampNeg 2000)) - (Int32.toNatClampNeg 2000)) - (Int32.toNatClampNeg 2000)) - (Int32.toNatClampNeg 20000)) - (Int32.toNatClampNeg 20100)) - (Int32.toNatClampNeg 20100)) - (Int32.toNatClampNeg 20100)) - (Int32.toNatClampNeg 20100)) - (Int32.toNatClampNeg 7000)) - (Int32.toNatClampNeg 7000)) - (Int32.toNatClampNeg 7000)) - (Int32.toNatClampNeg 7000)) - (Int32.toNatClampNeg 7000)) - (Int32.toNatClampNeg 7000)) - (Int32.toNatClampNeg 7000)) - (Int32.toNatClampNeg 7000)) - (Int32.toNatClampNeg 7000)) - (Int32.toNatClampNeg 7000)) - (Int32.toNatClampNeg 7000) ∧ ∀ (q271 : Nat) (μ272 : Mem), kd μ267 q271 = 0 → μ272 = nar μ267 102 q271 (Int32.toNatClampNeg 7000) →
  ∀ μ276 : Mem, μ276 = sfr μ272 12 38 o (some q271) →
  ¬ (20100 : Int32) < 0 ∧ (Int32.toNatClampNeg 20100) ≤ 1048576 ∧ 1 ≤ ((((((((((((((((((((((((((((((c - 1) - 1) - 1) - 1) - 1) - 1) - 1) - 1) - 1) - 1) - 1) - 1) - 1) - 1) - 1) - 1) - 1) - 1) - 1) - 1) - 1) - 1) - 1) - 1) - 1) - 1) - 1) - 1) - 1) - 1) - 1 ∧ (Int32.toNatClampNeg 20100) ≤ ((((((((((((((((((((((((((((((z - (Int32.toNatClampNeg 10)) - (Int32.toNatClampNeg 60)) - (Int32.toNatClampNeg 60)) - (Int32.toNatClampNeg 60)) - (Int32.toNatClampNeg 60)) - (Int32.toNatClampNeg 480)) - (Int32.toNatClampNeg 60)) - (Int32.toNatClampNeg 120000)) - (Int32.toNatClampNeg 2000)) - (Int32.toNatClampNeg 2000)) - (Int32.toNatClampNeg 2000)) - (Int32.toNatClampNeg 2000)) - (Int32.toNatClampNeg 2000)) - (Int32.toNatClampNeg 2000)) - (Int32.toNatClampNeg 20000)) - (Int32.toNatClampNeg 20100)) - (Int32.toNatClampNeg 20100)) - (Int32.toNatClampNeg 20100)) - (Int32.toNatClampNeg 20100)) - (Int32.toNatClampNeg 7000)) - (Int32.toNatClampNeg 7000)) - (Int32.toNatClampNeg 7000)) - (Int32.toNatClampNeg 7000)) - (Int32.toNatClampNeg 7000)) - (Int32.toNatClampNeg 7000)) - (Int32.toNatClampNeg 7000)) - (Int32.toNatClampNeg 7000)) - (Int32.toNatClampNeg 7000)) - (Int32.toNatClampNeg 7000)) - (Int32.toNatClampNeg 7000)) - (Int32.toNatClampNeg 7000) ∧ ∀ (q280 : Nat) (μ281 : Mem), kd μ276 q280 = 0 → μ281 = nar μ276 103 q280 (Int32.toNatClampNeg 20100) →
  ∀ μ285 : Mem, μ285 = sfr μ281 12 39 o (some q280) →
  ¬ (200000 : Int32) < 0 ∧ (Int32.toNatClampNeg 200000) ≤ 1048576 ∧ 1 ≤ (((((((((((((((((((((((((((((((c - 1) - 1) - 1) - 1) - 1) - 1) - 1) - 1) - 1) - 1) - 1) - 1) - 1) - 1) - 1) - 1) - 1) - 1) - 1) - 1) - 1) - 1) - 1) - 1) - 1) - 1) - 1) - 1) - 1) - 1) - 1) - 1 ∧ (Int32.toNatClampNeg 200000) ≤ (((((((((((((((((((((((((((((((z - (Int32.toNatClampNeg 10)) - (Int32.toNatClampNeg 60)) - (Int32.toNatClampNeg 60)) - (Int32.toNatClampNeg 60)) - (Int32.toNatClampNeg 60)) - (Int32.toNatClampNeg 480)) - (Int32.toNatClampNeg 60)) - (Int32.toNatClampNeg 120000)) - (Int32.toNatClampNeg 2000)) - (Int32.toNatClampNeg 2000)) - (Int32.toNatClampNeg 2000)) - (Int32.toNatClampNeg 2000)) - (Int32.toNatClampNeg 2000)) - (Int32.toNatClampNeg 2000)) - (Int32.toNatClampNeg 20000)) - (Int32.toNatClampNeg 20100)) - (Int32.toNatClampNeg 20100)) - (Int32.toNatClampNeg 20100)) - (Int32.toNatClampNeg 20100)) - (Int32.toNatClampNeg 7000)) - (Int32.toNatClampNeg 7000)) - (Int32.toNatClampNeg 7000)) - (Int32.toNatClampNeg 7000)) - (Int32.toNatClampNeg 7000)) - (Int32.toNatClampNeg 7000)) - (Int32.toNatClampNeg 7000)) - (Int32.toNatClampNeg 7000)) - (Int32.toNatClampNeg 7000)) - (Int32.toNatClampNeg 7000)) - (Int32.toNatClampNeg 7000)) - (Int32.toNatClampNeg 7000)) - (Int32.toNatClampNeg 20100) ∧ ∀ (q289 : Nat) (μ290 : Mem), kd μ285 q289 = 0 → μ290 = nar μ285 102 q289 (Int32.toNatClampNeg 200000) →
  ∀ μ294 : Mem, μ294 = sfr μ290 12 42 o (some q289) →
  ¬ (200000 : Int32) < 0 ∧ (Int32.toNatClampNeg 200000) ≤ 1048576 ∧ 1 ≤ ((((((((((((((((((((((((((((((((c - 1) - 1) - 1) - 1) - 1) - 1) - 1) - 1) - 1) - 1) - 1) - 1) - 1) - 1) - 1) - 1) - 1) - 1) - 1) - 1) - 1) - 1) - 1) - 1) - 1) - 1) - 1) - 1) - 1) - 1) - 1) - 1) - 1 ∧ (Int32.toNatClampNeg 200000) ≤ ((((((((((((((((((((((((((((((((z - (Int32.toNatClampNeg 10)) - (Int32.toNatClampNeg 60)) - (Int32.toNatClampNeg 60)) - (Int32.toNatClampNeg 60)) - (Int32.toNatClampNeg 60)) - (Int32.toNatClampNeg 480)) - (Int32.toNatClampNeg 60)) - (Int32.toNatClampNeg 120000)) - (Int32.toNatClampNeg 2000)) - (Int32.toNatClampNeg 2000)) - (Int32.toNatClampNeg 2000)) - (Int32.toNatClampNeg 2000)) - (Int32.toNatClampNeg 2000)) - (Int32.toNatClampNeg 2000)) - (Int32.toNatClampNeg 20000)) - (Int32.toNatClampNeg 20100)) - (Int32.toNatClampNeg 20100)) - (Int32.toNatClampNeg 20100)) - (Int32.toNatClampNeg 20100)) - (Int32.toNatClampNeg 7000)) - (Int32.toNatClampNeg 7000)) - (Int32.toNatClampNeg 7000)) - (Int32.toNatClampNeg 7000)) - (Int32.toNatClampNeg 7000)) - (Int32.toNatClampNeg 7000)) - (Int32.toNatClampNeg 7000)) - (Int32.toNatClampNeg 7000)) - (Int32.toNatClampNeg 7000)) - (Int32.toNatClampNeg 7000)) - (Int32.toNatClampNeg 7000)) - (Int32.toNatClampNeg 7000)) - (Int32.toNatClampNeg 20100)) - (Int32.toNatClampNeg 200000) ∧ ∀ (q298 : Nat) (μ299 : Mem), kd μ294 q298 = 0 → μ299 = nar μ294 103 q298 (Int32.toNatClampNeg 200000) →
  ∀ μ303 : Mem, μ303 = sfr μ299 12 43 o (some q298) →
  ∀ μ307 : Mem, μ307 = sfi μ303 12 44 o (-1) →
  ¬ (1000 : Int32) < 0 ∧ (Int32.toNatClampNeg 1000) ≤ 1048576 ∧ 1 ≤ (((((((((((((((((((((((((((((((((c - 1) - 1) - 1) - 1) - 1) - 1) - 1) - 1) - 1) - 1) - 1) - 1) - 1) - 1) - 1) - 1) - 1) - 1) - 1) - 1) - 1) - 1) - 1) - 1) - 1) - 1) - 1) - 1) - 1) - 1) - 1) - 1) - 1) - 1 ∧ (Int32.toNatClampNeg 1000) ≤ (((((((((((((((((((((((((((((((((z - (Int32.toNatClampNeg 10)) - (Int32.toNatClampNeg 60)) - (Int32.toNatClampNeg 60)) - (Int32.toNatClampNeg 60)) - (Int32.toNatClampNeg 60)) - (Int32.toNatClampNeg 480)) - (Int32.toNatClampNeg 60)) - (Int32.toNatClampNeg 120000)) - (Int32.toNatClampNeg 2000)) - (Int32.toNatClampNeg 2000)) - (Int32.toNatClampNeg 2000)) - (Int32.toNatClampNeg 2000)) - (Int32.toNatClampNeg 2000)) - (Int32.toNatClampNeg 2000)) - (Int32.toNatClampNeg 20000)) - (Int32.toNatClampNeg 20100)) - (Int32.toNatClampNeg 20100)) - (Int32.toNatClampNeg 20100)) - (Int32.toNatClampNeg 20100)) - (Int32.toNatClampNeg 7000)) - (Int32.toNatClampNeg 7000)) - (Int32.toNatClampNeg 7000)) - (Int32.toNatClampNeg 7000)) - (Int32.toNatClampNeg 7000)) - (Int32.toNatClampNeg 7000)) - (Int32.toNatClampNeg 7000)) - (Int32.toNatClampNeg 7000)) - (Int32.toNatClampNeg 7000)) - (Int32.toNatClampNeg 7000)) - (Int32.toNatClampNeg 7000)) - (Int32.toNatClampNeg 7000)) - (Int32.toNatClampNeg 20100)) - (Int32.toNatClampNeg 200000)) - (Int32.toNatClampNeg 200000) ∧ ∀ (q310 : Nat) (μ311 : Mem), kd μ307 q310 = 0 → μ311 = nar μ307 102 q310 (Int32.toNatClampNeg 1000) →
  ∀ μ315 : Mem, μ315 = sfr μ311 12 53 o (some q310) →
  ¬ (20100 : Int32) < 0 ∧ (Int32.toNatClampNeg 20100) ≤ 1048576 ∧ 1 ≤ ((((((((((((((((((((((((((((((((((c - 1) - 1) - 1) - 1) - 1) - 1) - 1) - 1) - 1) - 1) - 1) - 1) - 1) - 1) - 1) - 1) - 1) - 1) - 1) - 1) - 1) - 1) - 1) - 1) - 1) - 1) - 1) - 1) - 1) - 1) - 1) - 1) - 1) - 1) - 1 ∧ (Int32.toNatClampNeg 20100) ≤ ((((((((((((((((((((((((((((((((((z - (Int32.toNatClampNeg 10)) - (Int32.toNatClampNeg 60)) - (Int32.toNatClampNeg 60)) - (Int32.toNatClampNeg 60)) - (Int32.toNatClampNeg 60)) - (Int32.toNatClampNeg 480)) - (Int32.toNatClampNeg 60)) - (Int32.toNatClampNeg 120000)) - (Int32.toNatClampNeg 2000)) - (Int32.toNatClampNeg 2000)) - (Int32.toNatClampNeg 2000)) - (Int32.toNatClampNeg 2000)) - (Int32.toNatClampNeg 2000)) - (Int32.toNatClampNeg 2000)) - (Int32.toNatClampNeg 20000)) - (Int32.toNatClampNeg 20100)) - (Int32.toNatClampNeg 20100)) - (Int32.toNatClampNeg 20100)) - (Int32.toNatClampNeg 20100)) - (Int32.toNatClampNeg 7000)) - (Int32.toNatClampNeg 7000)) - (Int32.toNatClampNeg 7000)) - (Int32.toNatClampNeg 7000)) - (Int32.toNatClampNeg 7000)) - (Int32.toNatClampNeg 7000)) - (Int32.toNatClampNeg 7000)) - (Int32.toNatClampNeg 7000)) - (Int32.toNatClampNeg 7000)) - (Int32.toNatClampNeg 7000)) - (Int32.toNatClampNeg 7000)) - (Int32.toNatClampNeg 7000)) - (Int32.toNatClampNeg 20100)) - (Int32.toNatClampNeg 200000)) - (Int32.toNatClampNeg 200000)) - (Int32.toNatClampNeg 1000) ∧ ∀ (q319 : Nat) (μ320 : Mem), kd μ315 q319 = 0 → μ320 = nar μ315 103 q319 (Int32.toNatClampNeg 20100) →
  ∀ μ324 : Mem, μ324 = sfr μ320 12 55 o (some q319) →
  ¬ (20100 : Int32) < 0 ∧ (Int32.toNatClampNeg 20100) ≤ 1048576 ∧ 1 ≤ (((((((((((((((((((((((((((((((((((c - 1) - 1) - 1) - 1) - 1) - 1) - 1) - 1) - 1) - 1) - 1) - 1) - 1) - 1) - 1) - 1) - 1) - 1) - 1) - 1) - 1) - 1) - 1) - 1) - 1) - 1) - 1) - 1) - 1) - 1) - 1) - 1) - 1) - 1) - 1) - 1 ∧ (Int32.toNatClampNeg 20100) ≤ (((((((((((((((((((((((((((((((((((z - (Int32.toNatClampNeg 10)) - (Int32.toNatClampNeg 60)) - (Int32.toNatClampNeg 60)) - (Int32.toNatClampNeg 60)) - (Int32.toNatClampNeg 60)) - (Int32.toNatClampNeg 480)) - (Int32.toNatClampNeg 60)) - (Int32.toNatClampNeg 120000)) - (Int32.toNatClampNeg 2000)) - (Int32.toNatClampNeg 2000)) - (Int32.toNatClampNeg 2000)) - (Int32.toNatClampNeg 2000)) - (Int32.toNatClampNeg 2000)) - (Int32.toNatClampNeg 2000)) - (Int32.toNatClampNeg 20000)) - (Int32.toNatClampNeg 20100)) - (Int32.toNatClampNeg 20100)) - (Int32.toNatClampNeg 20100)) - (Int32.toNatClampNeg 20100)) - (Int32.toNatClampNeg 7000)) - (Int32.toNatClampNeg 7000)) - (Int32.toNatClampNeg 7000)) - (Int32.toNatClampNeg 7000)) - (Int32.toNatClampNeg 7000)) - (Int32.toNatClampNeg 7000)) - (Int32.toNatClampNeg 7000)) - (Int32.toNatClampNeg 7000)) - (Int32.toNatClampNeg 7000)) - (Int32.toNatClampNeg 7000)) - (Int32.toNatClampNeg 7000)) - (Int32.toNatClampNeg 7000)) - (Int32.toNatClampNeg 20100)) - (Int32.toNatClampNeg 200000)) - (Int32.toNatClampNeg 200000)) - (Int32.toNatClampNeg 1000)) - (Int32.toNatClampNeg 20100) ∧ ∀ (q328 : Nat) (μ329 : Mem), kd μ324 q328 = 0 → μ329 = nar μ324 103 q328 (Int32.toNatClampNeg 20100) →
  ∀ μ333 : Mem, μ333 = sfr μ329 12 56 o (some q328) →
  ¬ (7000 : Int32) < 0 ∧ (Int32.toNatClampNeg 7000) ≤ 1048576 ∧ 1 ≤ ((((((((((((((((((((((((((((((((((((c - 1) - 1) - 1) - 1) - 1) - 1) - 1) - 1) - 1) - 1) - 1) - 1) - 1) - 1) - 1) - 1) - 1) - 1) - 1) - 1) - 1) - 1) - 1) - 1) - 1) - 1) - 1) - 1) - 1) - 1) - 1) - 1) - 1) - 1) - 1) - 1) - 1 ∧ (Int32.toNatClampNeg 7000) ≤ ((((((((((((((((((((((((((((((((((((z - (Int32.toNatClampNeg 10)) - (Int32.toNatClampNeg 60)) - (Int32.toNatClampNeg 60)) - (Int32.toNatClampNeg 60)) - (Int32.toNatClampNeg 60)) - (Int32.toNatClampNeg 480)) - (Int32.toNatClampNeg 60)) - (Int32.toNatClampNeg 120000)) - (Int32.toNatClampNeg 2000)) - (Int32.toNatClampNeg 2000)) - (Int32.toNatClampNeg 2000)) - (Int32.toNatClampNeg 2000)) - (Int32.toNatClampNeg 2000)) - (Int32.toNatClampNeg 2000)) - (Int32.toNatClampNeg 20000)) - (Int32.toNatClampNeg 20100)) - (Int32.toNatClampNeg 20100)) - (Int32.toNatClampNeg 20100)) - (Int32.toNatClampNeg 20100)) - (Int32.toNatClampNeg 7000)) - (Int32.toNatClampNeg 7000)) - (Int32.toNatClampNeg 7000)) - (Int32.toNatClampNeg 7000)) - (Int32.toNatClampNeg 7000)) - (Int32.toNatClampNeg 7000)) - (Int32.toNatClampNeg 7000)) - (Int32.toNatClampNeg 7000)) - (Int32.toNatClampNeg 7000)) - (Int32.toNatClampNeg 7000)) - (Int32.toNatClampNeg 7000)) - (Int32.toNatClampNeg 7000)) - (Int32.toNatClampNeg 20100)) - (Int32.toNatClampNeg 200000)) - (Int32.toNatClampNeg 200000)) - (Int32.toNatClampNeg 1000)) - (Int32.toNatClampNeg 20100)) - (Int32.toNatClampNeg 20100) ∧ ∀ (q337 : Nat) (μ338 : Mem), kd μ333 q337 = 0 → μ338 = nar μ333 102 q337 (Int32.toNatClampNeg 7000) →
  ∀ μ342 : Mem, μ342 = sfr μ338 12 57 o (some q337) →
  post μ342
set_option maxRecDepth 100000 in
set_option maxHeartbeats 4000000 in
theorem c_X11_init (l : Launch) (T : Tb) (B : Nat) (c z : Nat) (μ : Mem) (o : Nat) (post : Mem → Prop) (hw : wp_X11_init c z μ o post) : Met l yX11_init (.code yX11_init cX11_init 1 none :: G) (rm_X11_init c z) (Pm (Rl T B) T B μ [.ref o]) (va_Qv (fun μ9 => post μ9 ∧ KM μ μ9) (Bm (Rl T B)) (Ai B)) c z (Ai B) := by
  refine mx_of RX11 rfl (by decide) (Nat.le_of_ble_eq_true rfl) ?_
  intro p e s m below meth c0 X hr hk hnm M ls hl
  have hl : lv_has ls 1 [(0, .ref o)] := hl
  unfold wp_X11_init at hw
  have hKM : KM μ μ := KM.rf μ
  have hc : 0 + c ≤ c := by omega
  have hz : 0 + z ≤ z := by omega
  refine lv_aload_n X.1 X.2.1 dX11_init_0 rfl (lv_at hl 0 rfl) ?_
  refine my_obj X kw_1127 kw_100 kw_101 hl.1 (Nat.le_of_ble_eq_true rfl) (Nat.le_of_ble_eq_true rfl) (Nat.le_of_ble_eq_true rfl) dX11_init_1 ?_
  refine lv_aload_n X.1 X.2.1 dX11_init_4 rfl (lv_at hl 0 rfl) ?_
  refine lv_bipush (v := 10) X.1 X.2.1 dX11_init_5 (by decide) ?_
  obtain ⟨hb0, hb3, hb1, hb2, hw⟩ := hw
  refine my_newI X M kw_128 dX11_init_7 hb0 hb3 (show 0 + 1 ≤ c by omega) (show 0 + (Int32.toNatClampNeg 10) ≤ z by omega) (fun q1 μ2 H hq1 eμ2 M => ?_)
  replace hw := hw q1 μ2 hq1 eμ2
  have hKM3 : KM μ μ2 := by rw [eμ2]; exact hKM.tr (KM_nar hq1)
  have hk4 : kd μ2 q1 = 102 := by rw [eμ2]; exact kd_nar
  have hc : (0 + 1) + (c - 1) ≤ c := by omega
  have hz : (0 + (Int32.toNatClampNeg 10)) + (z - (Int32.toNatClampNeg 10)) ≤ z := by omega
  obtain ⟨hk5, hw⟩ := hw
  refine my_putr (C := RX11) (F := TX11) (N := 59) (ci := 12) X M 1 rfl in_X11 tyX11 tyX11_ok nmX11 (by decide) rfl (by decide) kw_1131 (Or.inr ⟨hnm, rfl⟩) dX11_init_9 hk5 (some q1) (mq_na _ _) (mq_fa _ _) (fun μ6 H locs eμ6 M => ?_)
  replace hw := hw μ6 eμ6
  have hKM7 : KM μ μ6 := by rw [eμ6]; exact hKM3
  have hk8 : kd μ6 q1 = 102 := by rw [eμ6]; exact hk4
  have hk9 : kd μ6 o = 13 := by rw [eμ6]; exact hk5
  refine lv_aload_n X.1 X.2.1 dX11_init_12 rfl (lv_at hl 0 rfl) ?_
  refine lv_bipush (v := 60) X.1 X.2.1 dX11_init_13 (by decide) ?_
  obtain ⟨hb0, hb3, hb1, hb2, hw⟩ := hw
  refine my_newZ X M kw_1308 dX11_init_15 hb0 hb3 (show (0 + 1) + 1 ≤ c by omega) (show (0 + (Int32.toNatClampNeg 10)) + (Int32.toNatClampNeg 60) ≤ z by omega) (fun q10 μ11 H hq10 eμ11 M => ?_)
  replace hw := hw q10 μ11 hq10 eμ11
  have hKM12 : KM μ μ11 := by rw [eμ11]; exact hKM7.tr (KM_nar hq10)
  have hk13 : kd μ11 o = 13 := by rw [eμ11]; exact (KM_nar hq10).at hk9
  have hk14 : kd μ11 q10 = 104 := by rw [eμ11]; exact kd_nar
  have hc : ((0 + 1) + 1) + ((c - 1) - 1) ≤ c := by omega
  have hz : ((0 + (Int32.toNatClampNeg 10)) + (Int32.toNatClampNeg 60)) + ((z - (Int32.toNatClampNeg 10)) - (Int32.toNatClampNeg 60)) ≤ z := by omega
  refine my_putr (C := RX11) (F := TX11) (N := 59) (ci := 12) X M 4 rfl in_X11 tyX11 tyX11_ok nmX11 (by decide) rfl (by decide) kw_1134 (Or.inr ⟨hnm, rfl⟩) dX11_init_17 hk13 (some q10) (mq_na _ _) (mq_fa _ _) (fun μ15 H locs eμ15 M => ?_)
  replace hw := hw μ15 eμ15
  have hKM16 : KM μ μ15 := by rw [eμ15]; exact hKM12
  have hk17 : kd μ15 o = 13 := by rw [eμ15]; exact hk13
  have hk18 : kd μ15 q10 = 104 := by rw [eμ15]; exact hk14
  refine lv_aload_n X.1 X.2.1 dX11_init_20 rfl (lv_at hl 0 rfl) ?_
  refine lv_bipush (v := 60) X.1 X.2.1 dX11_init_21 (by decide) ?_
  obtain ⟨hb0, hb3, hb1, hb2, hw⟩ := hw
  refine my_newI X M kw_128 dX11_init_23 hb0 hb3 (show ((0 + 1) + 1) + 1 ≤ c by omega) (show ((0 + (Int32.toNatClampNeg 10)) + (Int32.toNatClampNeg 60)) + (Int32.toNatClampNeg 60) ≤ z by omega) (fun q19 μ20 H hq19 eμ20 M => ?_)
  replace hw := hw q19 μ20 hq19 eμ20
  have hKM21 : KM μ μ20 := by rw [eμ20]; exact hKM16.tr (KM_nar hq19)
  have hk22 : kd μ20 o = 13 := by rw [eμ20]; exact (KM_nar hq19).at hk17
  have hk23 : kd μ20 q19 = 102 := by rw [eμ20]; exact kd_nar
  have hc : (((0 + 1) + 1) + 1) + (((c - 1) - 1) - 1) ≤ c := by omega
  have hz : (((0 + (Int32.toNatClampNeg 10)) + (Int32.toNatClampNeg 60)) + (Int32.toNatClampNeg 60)) + (((z - (Int32.toNatClampNeg 10)) - (Int32.toNatClampNeg 60)) - (Int32.toNatClampNeg 60)) ≤ z := by omega
  refine my_putr (C := RX11) (F := TX11) (N := 59) (ci := 12) X M 5 rfl in_X11 tyX11 tyX11_ok nmX11 (by decide) rfl (by decide) kw_1135 (Or.inr ⟨hnm, rfl⟩) dX11_init_25 hk22 (some q19) (mq_na _ _) (mq_fa _ _) (fun μ24 H locs eμ24 M => ?_)
  replace hw := hw μ24 eμ24
  have hKM25 : KM μ μ24 := by rw [eμ24]; exact hKM21
  have hk26 : kd μ24 o = 13 := by rw [eμ24]; exact hk22
  have hk27 : kd μ24 q19 = 102 := by rw [eμ24]; exact hk23
  refine lv_aload_n X.1 X.2.1 dX11_init_28 rfl (lv_at hl 0 rfl) ?_
  refine lv_bipush (v := 60) X.1 X.2.1 dX11_init_29 (by decide) ?_
  obtain ⟨hb0, hb3, hb1, hb2, hw⟩ := hw
  refine my_newI X M kw_128 dX11_init_31 hb0 hb3 (show (((0 + 1) + 1) + 1) + 1 ≤ c by omega) (show (((0 + (Int32.toNatClampNeg 10)) + (Int32.toNatClampNeg 60)) + (Int32.toNatClampNeg 60)) + (Int32.toNatClampNeg 60) ≤ z by omega) (fun q28 μ29 H hq28 eμ29 M => ?_)
  replace hw := hw q28 μ29 hq28 eμ29
  have hKM30 : KM μ μ29 := by rw [eμ29]; exact hKM25.tr (KM_nar hq28)
  have hk31 : kd μ29 o = 13 := by rw [eμ29]; exact (KM_nar hq28).at hk26
  have hk32 : kd μ29 q28 = 102 := by rw [eμ29]; exact kd_nar
  have hc : ((((0 + 1) + 1) + 1) + 1) + ((((c - 1) - 1) - 1) - 1) ≤ c := by omega
  have hz : ((((0 + (Int32.toNatClampNeg 10)) + (Int32.toNatClampNeg 60)) + (Int32.toNatClampNeg 60)) + (Int32.toNatClampNeg 60)) + ((((z - (Int32.toNatClampNeg 10)) - (Int32.toNatClampNeg 60)) - (Int32.toNatClampNeg 60)) - (Int32.toNatClampNeg 60)) ≤ z := by omega
  refine my_putr (C := RX11) (F := TX11) (N := 59) (ci := 12) X M 6 rfl in_X11 tyX11 tyX11_ok nmX11 (by decide) rfl (by decide) kw_1136 (Or.inr ⟨hnm, rfl⟩) dX11_init_33 hk31 (some q28) (mq_na _ _) (mq_fa _ _) (fun μ33 H locs eμ33 M => ?_)
  replace hw := hw μ33 eμ33
  have hKM34 : KM μ μ33 := by rw [eμ33]; exact hKM30
  have hk35 : kd μ33 o = 13 := by rw [eμ33]; exact hk31
  have hk36 : kd μ33 q28 = 102 := by rw [eμ33]; exact hk32
  refine lv_aload_n X.1 X.2.1 dX11_init_36 rfl (lv_at hl 0 rfl) ?_
  refine lv_bipush (v := 60) X.1 X.2.1 dX11_init_37 (by decide) ?_
  obtain ⟨hb0, hb3, hb1, hb2, hw⟩ := hw
  refine my_newI X M kw_128 dX11_init_39 hb0 hb3 (show ((((0 + 1) + 1) + 1) + 1) + 1 ≤ c by omega) (show ((((0 + (Int32.toNatClampNeg 10)) + (Int32.toNatClampNeg 60)) + (Int32.toNatClampNeg 60)) + (Int32.toNatClampNeg 60)) + (Int32.toNatClampNeg 60) ≤ z by omega) (fun q37 μ38 H hq37 eμ38 M => ?_)
  replace hw := hw q37 μ38 hq37 eμ38
  have hKM39 : KM μ μ38 := by rw [eμ38]; exact hKM34.tr (KM_nar hq37)
  have hk40 : kd μ38 o = 13 := by rw [eμ38]; exact (KM_nar hq37).at hk35
  have hk41 : kd μ38 q37 = 102 := by rw [eμ38]; exact kd_nar
  have hc : (((((0 + 1) + 1) + 1) + 1) + 1) + (((((c - 1) - 1) - 1) - 1) - 1) ≤ c := by omega
  have hz : (((((0 + (Int32.toNatClampNeg 10)) + (Int32.toNatClampNeg 60)) + (Int32.toNatClampNeg 60)) + (Int32.toNatClampNeg 60)) + (Int32.toNatClampNeg 60)) + (((((z - (Int32.toNatClampNeg 10)) - (Int32.toNatClampNeg 60)) - (Int32.toNatClampNeg 60)) - (Int32.toNatClampNeg 60)) - (Int32.toNatClampNeg 60)) ≤ z := by omega
  refine my_putr (C := RX11) (F := TX11) (N := 59) (ci := 12) X M 7 rfl in_X11 tyX11 tyX11_ok nmX11 (by decide) rfl (by decide) kw_1137 (Or.inr ⟨hnm, rfl⟩) dX11_init_41 hk40 (some q37) (mq_na _ _) (mq_fa _ _) (fun μ42 H locs eμ42 M => ?_)
  replace hw := hw μ42 eμ42
  have hKM43 : KM μ μ42 := by rw [eμ42]; exact hKM39
  have hk44 : kd μ42 o = 13 := by rw [eμ42]; exact hk40
  have hk45 : kd μ42 q37 = 102 := by rw [eμ42]; exact hk41
  refine lv_aload_n X.1 X.2.1 dX11_init_44 rfl (lv_at hl 0 rfl) ?_
  refine lv_sipush (v := 480) X.1 X.2.1 dX11_init_45 (by decide) ?_
  obtain ⟨hb0, hb3, hb1, hb2, hw⟩ := hw
  refine my_newI X M kw_128 dX11_init_48 hb0 hb3 (show (((((0 + 1) + 1) + 1) + 1) + 1) + 1 ≤ c by omega) (show (((((0 + (Int32.toNatClampNeg 10)) + (Int32.toNatClampNeg 60)) + (Int32.toNatClampNeg 60)) + (Int32.toNatClampNeg 60)) + (Int32.toNatClampNeg 60)) + (Int32.toNatClampNeg 480) ≤ z by omega) (fun q46 μ47 H hq46 eμ47 M => ?_)
  replace hw := hw q46 μ47 hq46 eμ47
  have hKM48 : KM μ μ47 := by rw [eμ47]; exact hKM43.tr (KM_nar hq46)
  have hk49 : kd μ47 o = 13 := by rw [eμ47]; exact (KM_nar hq46).at hk44
  have hk50 : kd μ47 q46 = 102 := by rw [eμ47]; exact kd_nar
  have hc : ((((((0 + 1) + 1) + 1) + 1) + 1) + 1) + ((((((c - 1) - 1) - 1) - 1) - 1) - 1) ≤ c := by omega
  have hz : ((((((0 + (Int32.toNatClampNeg 10)) + (Int32.toNatClampNeg 60)) + (Int32.toNatClampNeg 60)) + (Int32.toNatClampNeg 60)) + (Int32.toNatClampNeg 60)) + (Int32.toNatClampNeg 480)) + ((((((z - (Int32.toNatClampNeg 10)) - (Int32.toNatClampNeg 60)) - (Int32.toNatClampNeg 60)) - (Int32.toNatClampNeg 60)) - (Int32.toNatClampNeg 60)) - (Int32.toNatClampNeg 480)) ≤ z := by omega
  refine my_putr (C := RX11) (F := TX11) (N := 59) (ci := 12) X M 8 rfl in_X11 tyX11 tyX11_ok nmX11 (by decide) rfl (by decide) kw_1138 (Or.inr ⟨hnm, rfl⟩) dX11_init_50 hk49 (some q46) (mq_na _ _) (mq_fa _ _) (fun μ51 H locs eμ51 M => ?_)
  replace hw := hw μ51 eμ51
  have hKM52 : KM μ μ51 := by rw [eμ51]; exact hKM48
  have hk53 : kd μ51 o = 13 := by rw [eμ51]; exact hk49
  have hk54 : kd μ51 q46 = 102 := by rw [eμ51]; exact hk50
  refine lv_aload_n X.1 X.2.1 dX11_init_53 rfl (lv_at hl 0 rfl) ?_
  refine lv_bipush (v := 60) X.1 X.2.1 dX11_init_54 (by decide) ?_
  obtain ⟨hb0, hb3, hb1, hb2, hw⟩ := hw
  refine my_newI X M kw_128 dX11_init_56 hb0 hb3 (show ((((((0 + 1) + 1) + 1) + 1) + 1) + 1) + 1 ≤ c by omega) (show ((((((0 + (Int32.toNatClampNeg 10)) + (Int32.toNatClampNeg 60)) + (Int32.toNatClampNeg 60)) + (Int32.toNatClampNeg 60)) + (Int32.toNatClampNeg 60)) + (Int32.toNatClampNeg 480)) + (Int32.toNatClampNeg 60) ≤ z by omega) (fun q55 μ56 H hq55 eμ56 M => ?_)
  replace hw := hw q55 μ56 hq55 eμ56
  have hKM57 : KM μ μ56 := by rw [eμ56]; exact hKM52.tr (KM_nar hq55)
  have hk58 : kd μ56 o = 13 := by rw [eμ56]; exact (KM_nar hq55).at hk53
  have hk59 : kd μ56 q55 = 102 := by rw [eμ56]; exact kd_nar
  have hc : (((((((0 + 1) + 1) + 1) + 1) + 1) + 1) + 1) + (((((((c - 1) - 1) - 1) - 1) - 1) - 1) - 1) ≤ c := by omega
  have hz : (((((((0 + (Int32.toNatClampNeg 10)) + (Int32.toNatClampNeg 60)) + (Int32.toNatClampNeg 60)) + (Int32.toNatClampNeg 60)) + (Int32.toNatClampNeg 60)) + (Int32.toNatClampNeg 480)) + (Int32.toNatClampNeg 60)) + (((((((z - (Int32.toNatClampNeg 10)) - (Int32.toNatClampNeg 60)) - (Int32.toNatClampNeg 60)) - (Int32.toNatClampNeg 60)) - (Int32.toNatClampNeg 60)) - (Int32.toNatClampNeg 480)) - (Int32.toNatClampNeg 60)) ≤ z := by omega
  refine my_putr (C := RX11) (F := TX11) (N := 59) (ci := 12) X M 9 rfl in_X11 tyX11 tyX11_ok nmX11 (by decide) rfl (by decide) kw_1139 (Or.inr ⟨hnm, rfl⟩) dX11_init_58 hk58 (some q55) (mq_na _ _) (mq_fa _ _) (fun μ60 H locs eμ60 M => ?_)
  replace hw := hw μ60 eμ60
  have hKM61 : KM μ μ60 := by rw [eμ60]; exact hKM57
  have hk62 : kd μ60 o = 13 := by rw [eμ60]; exact hk58
  have hk63 : kd μ60 q55 = 102 := by rw [eμ60]; exact hk59
  refine lv_aload_n X.1 X.2.1 dX11_init_61 rfl (lv_at hl 0 rfl) ?_
  refine lv_ldc (v := 120000) X.1 X.2.1 X.2.2.2.1 (X.2.2.2.2.1 _ kw_1128) dX11_init_62 ?_
  obtain ⟨hb0, hb3, hb1, hb2, hw⟩ := hw
  refine my_newI X M kw_128 dX11_init_64 hb0 hb3 (show (((((((0 + 1) + 1) + 1) + 1) + 1) + 1) + 1) + 1 ≤ c by omega) (show (((((((0 + (Int32.toNatClampNeg 10)) + (Int32.toNatClampNeg 60)) + (Int32.toNatClampNeg 60)) + (Int32.toNatClampNeg 60)) + (Int32.toNatClampNeg 60)) + (Int32.toNatClampNeg 480)) + (Int32.toNatClampNeg 60)) + (Int32.toNatClampNeg 120000) ≤ z by omega) (fun q64 μ65 H hq64 eμ65 M => ?_)
  replace hw := hw q64 μ65 hq64 eμ65
  have hKM66 : KM μ μ65 := by rw [eμ65]; exact hKM61.tr (KM_nar hq64)
  have hk67 : kd μ65 o = 13 := by rw [eμ65]; exact (KM_nar hq64).at hk62
  have hk68 : kd μ65 q64 = 102 := by rw [eμ65]; exact kd_nar
  have hc : ((((((((0 + 1) + 1) + 1) + 1) + 1) + 1) + 1) + 1) + ((((((((c - 1) - 1) - 1) - 1) - 1) - 1) - 1) - 1) ≤ c := by omega
  have hz : ((((((((0 + (Int32.toNatClampNeg 10)) + (Int32.toNatClampNeg 60)) + (Int32.toNatClampNeg 60)) + (Int32.toNatClampNeg 60)) + (Int32.toNatClampNeg 60)) + (Int32.toNatClampNeg 480)) + (Int32.toNatClampNeg 60)) + (Int32.toNatClampNeg 120000)) + ((((((((z - (Int32.toNatClampNeg 10)) - (Int32.toNatClampNeg 60)) - (Int32.toNatClampNeg 60)) - (Int32.toNatClampNeg 60)) - (Int32.toNatClampNeg 60)) - (Int32.toNatClampNeg 480)) - (Int32.toNatClampNeg 60)) - (Int32.toNatClampNeg 120000)) ≤ z := by omega
  refine my_putr (C := RX11) (F := TX11) (N := 59) (ci := 12) X M 10 rfl in_X11 tyX11 tyX11_ok nmX11 (by decide) rfl (by decide) kw_1140 (Or.inr ⟨hnm, rfl⟩) dX11_init_66 hk67 (some q64) (mq_na _ _) (mq_fa _ _) (fun μ69 H locs eμ69 M => ?_)
  replace hw := hw μ69 eμ69
  have hKM70 : KM μ μ69 := by rw [eμ69]; exact hKM66
  have hk71 : kd μ69 o = 13 := by rw [eμ69]; exact hk67
  have hk72 : kd μ69 q64 = 102 := by rw [eμ69]; exact hk68
  refine lv_aload_n X.1 X.2.1 dX11_init_69 rfl (lv_at hl 0 rfl) ?_
  refine lv_sipush (v := 2000) X.1 X.2.1 dX11_init_70 (by decide) ?_
  obtain ⟨hb0, hb3, hb1, hb2, hw⟩ := hw
  refine my_newI X M kw_128 dX11_init_73 hb0 hb3 (show ((((((((0 + 1) + 1) + 1) + 1) + 1) + 1) + 1) + 1) + 1 ≤ c by omega) (show ((((((((0 + (Int32.toNatClampNeg 10)) + (Int32.toNatClampNeg 60)) + (Int32.toNatClampNeg 60)) + (Int32.toNatClampNeg 60)) + (Int32.toNatClampNeg 60)) + (Int32.toNatClampNeg 480)) + (Int32.toNatClampNeg 60)) + (Int32.toNatClampNeg 120000)) + (Int32.toNatClampNeg 2000) ≤ z by omega) (fun q73 μ74 H hq73 eμ74 M => ?_)
  replace hw := hw q73 μ74 hq73 eμ74
  have hKM75 : KM μ μ74 := by rw [eμ74]; exact hKM70.tr (KM_nar hq73)
  have hk76 : kd μ74 o = 13 := by rw [eμ74]; exact (KM_nar hq73).at hk71
  have hk77 : kd μ74 q73 = 102 := by rw [eμ74]; exact kd_nar
  have hc : (((((((((0 + 1) + 1) + 1) + 1) + 1) + 1) + 1) + 1) + 1) + (((((((((c - 1) - 1) - 1) - 1) - 1) - 1) - 1) - 1) - 1) ≤ c := by omega
  have hz : (((((((((0 + (Int32.toNatClampNeg 10)) + (Int32.toNatClampNeg 60)) + (Int32.toNatClampNeg 60)) + (Int32.toNatClampNeg 60)) + (Int32.toNatClampNeg 60)) + (Int32.toNatClampNeg 480)) + (Int32.toNatClampNeg 60)) + (Int32.toNatClampNeg 120000)) + (Int32.toNatClampNeg 2000)) + (((((((((z - (Int32.toNatClampNeg 10)) - (Int32.toNatClampNeg 60)) - (Int32.toNatClampNeg 60)) - (Int32.toNatClampNeg 60)) - (Int32.toNatClampNeg 60)) - (Int32.toNatClampNeg 480)) - (Int32.toNatClampNeg 60)) - (Int32.toNatClampNeg 120000)) - (Int32.toNatClampNeg 2000)) ≤ z := by omega
  refine my_putr (C := RX11) (F := TX11) (N := 59) (ci := 12) X M 12 rfl in_X11 tyX11 tyX11_ok nmX11 (by decide) rfl (by decide) kw_1142 (Or.inr ⟨hnm, rfl⟩) dX11_init_75 hk76 (some q73) (mq_na _ _) (mq_fa _ _) (fun μ78 H locs eμ78 M => ?_)
  replace hw := hw μ78 eμ78
  have hKM79 : KM μ μ78 := by rw [eμ78]; exact hKM75
  have hk80 : kd μ78 o = 13 := by rw [eμ78]; exact hk76
  have hk81 : kd μ78 q73 = 102 := by rw [eμ78]; exact hk77
  refine lv_aload_n X.1 X.2.1 dX11_init_78 rfl (lv_at hl 0 rfl) ?_
  refine lv_sipush (v := 2000) X.1 X.2.1 dX11_init_79 (by decide) ?_
  obtain ⟨hb0, hb3, hb1, hb2, hw⟩ := hw
  refine my_newI X M kw_128 dX11_init_82 hb0 hb3 (show (((((((((0 + 1) + 1) + 1) + 1) + 1) + 1) + 1) + 1) + 1) + 1 ≤ c by omega) (show (((((((((0 + (Int32.toNatClampNeg 10)) + (Int32.toNatClampNeg 60)) + (Int32.toNatClampNeg 60)) + (Int32.toNatClampNeg 60)) + (Int32.toNatClampNeg 60)) + (Int32.toNatClampNeg 480)) + (Int32.toNatClampNeg 60)) + (Int32.toNatClampNeg 120000)) + (Int32.toNatClampNeg 2000)) + (Int32.toNatClampNeg 2000) ≤ z by omega) (fun q82 μ83 H hq82 eμ83 M => ?_)
  replace hw := hw q82 μ83 hq82 eμ83
  have hKM84 : KM μ μ83 := by rw [eμ83]; exact hKM79.tr (KM_nar hq82)
  have hk85 : kd μ83 o = 13 := by rw [eμ83]; exact (KM_nar hq82).at hk80
  have hk86 : kd μ83 q82 = 102 := by rw [eμ83]; exact kd_nar
  have hc : ((((((((((0 + 1) + 1) + 1) + 1) + 1) + 1) + 1) + 1) + 1) + 1) + ((((((((((c - 1) - 1) - 1) - 1) - 1) - 1) - 1) - 1) - 1) - 1) ≤ c := by omega
  have hz : ((((((((((0 + (Int32.toNatClampNeg 10)) + (Int32.toNatClampNeg 60)) + (Int32.toNatClampNeg 60)) + (Int32.toNatClampNeg 60)) + (Int32.toNatClampNeg 60)) + (Int32.toNatClampNeg 480)) + (Int32.toNatClampNeg 60)) + (Int32.toNatClampNeg 120000)) + (Int32.toNatClampNeg 2000)) + (Int32.toNatClampNeg 2000)) + ((((((((((z - (Int32.toNatClampNeg 10)) - (Int32.toNatClampNeg 60)) - (Int32.toNatClampNeg 60)) - (Int32.toNatClampNeg 60)) - (Int32.toNatClampNeg 60)) - (Int32.toNatClampNeg 480)) - (Int32.toNatClampNeg 60)) - (Int32.toNatClampNeg 120000)) - (Int32.toNatClampNeg 2000)) - (Int32.toNatClampNeg 2000)) ≤ z := by omega
  refine my_putr (C := RX11) (F := TX11) (N := 59) (ci := 12) X M 13 rfl in_X11 tyX11 tyX11_ok nmX11 (by decide) rfl (by decide) kw_1143 (Or.inr ⟨hnm, rfl⟩) dX11_init_84 hk85 (some q82) (mq_na _ _) (mq_fa _ _) (fun μ87 H locs eμ87 M => ?_)
  replace hw := hw μ87 eμ87
  have hKM88 : KM μ μ87 := by rw [eμ87]; exact hKM84
  have hk89 : kd μ87 o = 13 := by rw [eμ87]; exact hk85
  have hk90 : kd μ87 q82 = 102 := by rw [eμ87]; exact hk86
  refine lv_aload_n X.1 X.2.1 dX11_init_87 rfl (lv_at hl 0 rfl) ?_
  refine lv_sipush (v := 2000) X.1 X.2.1 dX11_init_88 (by decide) ?_
  obtain ⟨hb0, hb3, hb1, hb2, hw⟩ := hw
  refine my_newI X M kw_128 dX11_init_91 hb0 hb3 (show ((((((((((0 + 1) + 1) + 1) + 1) + 1) + 1) + 1) + 1) + 1) + 1) + 1 ≤ c by omega) (show ((((((((((0 + (Int32.toNatClampNeg 10)) + (Int32.toNatClampNeg 60)) + (Int32.toNatClampNeg 60)) + (Int32.toNatClampNeg 60)) + (Int32.toNatClampNeg 60)) + (Int32.toNatClampNeg 480)) + (Int32.toNatClampNeg 60)) + (Int32.toNatClampNeg 120000)) + (Int32.toNatClampNeg 2000)) + (Int32.toNatClampNeg 2000)) + (Int32.toNatClampNeg 2000) ≤ z by omega) (fun q91 μ92 H hq91 eμ92 M => ?_)
  replace hw := hw q91 μ92 hq91 eμ92
  have hKM93 : KM μ μ92 := by rw [eμ92]; exact hKM88.tr (KM_nar hq91)
  have hk94 : kd μ92 o = 13 := by rw [eμ92]; exact (KM_nar hq91).at hk89
  have hk95 : kd μ92 q91 = 102 := by rw [eμ92]; exact kd_nar
  have hc : (((((((((((0 + 1) + 1) + 1) + 1) + 1) + 1) + 1) + 1) + 1) + 1) + 1) + (((((((((((c - 1) - 1) - 1) - 1) - 1) - 1) - 1) - 1) - 1) - 1) - 1) ≤ c := by omega
  have hz : (((((((((((0 + (Int32.toNatClampNeg 10)) + (Int32.toNatClampNeg 60)) + (Int32.toNatClampNeg 60)) + (Int32.toNatClampNeg 60)) + (Int32.toNatClampNeg 60)) + (Int32.toNatClampNeg 480)) + (Int32.toNatClampNeg 60)) + (Int32.toNatClampNeg 120000)) + (Int32.toNatClampNeg 2000)) + (Int32.toNatClampNeg 2000)) + (Int32.toNatClampNeg 2000)) + (((((((((((z - (Int32.toNatClampNeg 10)) - (Int32.toNatClampNeg 60)) - (Int32.toNatClampNeg 60)) - (Int32.toNatClampNeg 60)) - (Int32.toNatClampNeg 60)) - (Int32.toNatClampNeg 480)) - (Int32.toNatClampNeg 60)) - (Int32.toNatClampNeg 120000)) - (Int32.toNatClampNeg 2000)) - (Int32.toNatClampNeg 2000)) - (Int32.toNatClampNeg 2000)) ≤ z := by omega
  refine my_putr (C := RX11) (F := TX11) (N := 59) (ci := 12) X M 14 rfl in_X11 tyX11 tyX11_ok nmX11 (by decide) rfl (by decide) kw_1144 (Or.inr ⟨hnm, rfl⟩) dX11_init_93 hk94 (some q91) (mq_na _ _) (mq_fa _ _) (fun μ96 H locs eμ96 M => ?_)
  replace hw := hw μ96 eμ96
  have hKM97 : KM μ μ96 := by rw [eμ96]; exact hKM93
  have hk98 : kd μ96 o = 13 := by rw [eμ96]; exact hk94
  have hk99 : kd μ96 q91 = 102 := by rw [eμ96]; exact hk95
  refine lv_aload_n X.1 X.2.1 dX11_init_96 rfl (lv_at hl 0 rfl) ?_
  refine lv_sipush (v := 2000) X.1 X.2.1 dX11_init_97 (by decide) ?_
  obtain ⟨hb0, hb3, hb1, hb2, hw⟩ := hw
  refine my_newI X M kw_128 dX11_init_100 hb0 hb3 (show (((((((((((0 + 1) + 1) + 1) + 1) + 1) + 1) + 1) + 1) + 1) + 1) + 1) + 1 ≤ c by omega) (show (((((((((((0 + (Int32.toNatClampNeg 10)) + (Int32.toNatClampNeg 60)) + (Int32.toNatClampNeg 60)) + (Int32.toNatClampNeg 60)) + (Int32.toNatClampNeg 60)) + (Int32.toNatClampNeg 480)) + (Int32.toNatClampNeg 60)) + (Int32.toNatClampNeg 120000)) + (Int32.toNatClampNeg 2000)) + (Int32.toNatClampNeg 2000)) + (Int32.toNatClampNeg 2000)) + (Int32.toNatClampNeg 2000) ≤ z by omega) (fun q100 μ101 H hq100 eμ101 M => ?_)
  replace hw := hw q100 μ101 hq100 eμ101
  have hKM102 : KM μ μ101 := by rw [eμ101]; exact hKM97.tr (KM_nar hq100)
  have hk103 : kd μ101 o = 13 := by rw [eμ101]; exact (KM_nar hq100).at hk98
  have hk104 : kd μ101 q100 = 102 := by rw [eμ101]; exact kd_nar
  have hc : ((((((((((((0 + 1) + 1) + 1) + 1) + 1) + 1) + 1) + 1) + 1) + 1) + 1) + 1) + ((((((((((((c - 1) - 1) - 1) - 1) - 1) - 1) - 1) - 1) - 1) - 1) - 1) - 1) ≤ c := by omega
  have hz : ((((((((((((0 + (Int32.toNatClampNeg 10)) + (Int32.toNatClampNeg 60)) + (Int32.toNatClampNeg 60)) + (Int32.toNatClampNeg 60)) + (Int32.toNatClampNeg 60)) + (Int32.toNatClampNeg 480)) + (Int32.toNatClampNeg 60)) + (Int32.toNatClampNeg 120000)) + (Int32.toNatClampNeg 2000)) + (Int32.toNatClampNeg 2000)) + (Int32.toNatClampNeg 2000)) + (Int32.toNatClampNeg 2000)) + ((((((((((((z - (Int32.toNatClampNeg 10)) - (Int32.toNatClampNeg 60)) - (Int32.toNatClampNeg 60)) - (Int32.toNatClampNeg 60)) - (Int32.toNatClampNeg 60)) - (Int32.toNatClampNeg 480)) - (Int32.toNatClampNeg 60)) - (Int32.toNatClampNeg 120000)) - (Int32.toNatClampNeg 2000)) - (Int32.toNatClampNeg 2000)) - (Int32.toNatClampNeg 2000)) - (Int32.toNatClampNeg 2000)) ≤ z := by omega
  refine my_putr (C := RX11) (F := TX11) (N := 59) (ci := 12) X M 15 rfl in_X11 tyX11 tyX11_ok nmX11 (by decide) rfl (by decide) kw_1145 (Or.inr ⟨hnm, rfl⟩) dX11_init_102 hk103 (some q100) (mq_na _ _) (mq_fa _ _) (fun μ105 H locs eμ105 M => ?_)
  replace hw := hw μ105 eμ105
  have hKM106 : KM μ μ105 := by rw [eμ105]; exact hKM102
  have hk107 : kd μ105 o = 13 := by rw [eμ105]; exact hk103
  have hk108 : kd μ105 q100 = 102 := by rw [eμ105]; exact hk104
  refine lv_aload_n X.1 X.2.1 dX11_init_105 rfl (lv_at hl 0 rfl) ?_
  refine lv_sipush (v := 2000) X.1 X.2.1 dX11_init_106 (by decide) ?_
  obtain ⟨hb0, hb3, hb1, hb2, hw⟩ := hw
  refine my_newI X M kw_128 dX11_init_109 hb0 hb3 (show ((((((((((((0 + 1) + 1) + 1) + 1) + 1) + 1) + 1) + 1) + 1) + 1) + 1) + 1) + 1 ≤ c by omega) (show ((((((((((((0 + (Int32.toNatClampNeg 10)) + (Int32.toNatClampNeg 60)) + (Int32.toNatClampNeg 60)) + (Int32.toNatClampNeg 60)) + (Int32.toNatClampNeg 60)) + (Int32.toNatClampNeg 480)) + (Int32.toNatClampNeg 60)) + (Int32.toNatClampNeg 120000)) + (Int32.toNatClampNeg 2000)) + (Int32.toNatClampNeg 2000)) + (Int32.toNatClampNeg 2000)) + (Int32.toNatClampNeg 2000)) + (Int32.toNatClampNeg 2000) ≤ z by omega) (fun q109 μ110 H hq109 eμ110 M => ?_)
  replace hw := hw q109 μ110 hq109 eμ110
  have hKM111 : KM μ μ110 := by rw [eμ110]; exact hKM106.tr (KM_nar hq109)
  have hk112 : kd μ110 o = 13 := by rw [eμ110]; exact (KM_nar hq109).at hk107
  have hk113 : kd μ110 q109 = 102 := by rw [eμ110]; exact kd_nar
  have hc : (((((((((((((0 + 1) + 1) + 1) + 1) + 1) + 1) + 1) + 1) + 1) + 1) + 1) + 1) + 1) + (((((((((((((c - 1) - 1) - 1) - 1) - 1) - 1) - 1) - 1) - 1) - 1) - 1) - 1) - 1) ≤ c := by omega
  have hz : (((((((((((((0 + (Int32.toNatClampNeg 10)) + (Int32.toNatClampNeg 60)) + (Int32.toNatClampNeg 60)) + (Int32.toNatClampNeg 60)) + (Int32.toNatClampNeg 60)) + (Int32.toNatClampNeg 480)) + (Int32.toNatClampNeg 60)) + (Int32.toNatClampNeg 120000)) + (Int32.toNatClampNeg 2000)) + (Int32.toNatClampNeg 2000)) + (Int32.toNatClampNeg 2000)) + (Int32.toNatClampNeg 2000)) + (Int32.toNatClampNeg 2000)) + (((((((((((((z - (Int32.toNatClampNeg 10)) - (Int32.toNatClampNeg 60)) - (Int32.toNatClampNeg 60)) - (Int32.toNatClampNeg 60)) - (Int32.toNatClampNeg 60)) - (Int32.toNatClampNeg 480)) - (Int32.toNatClampNeg 60)) - (Int32.toNatClampNeg 120000)) - (Int32.toNatClampNeg 2000)) - (Int32.toNatClampNeg 2000)) - (Int32.toNatClampNeg 2000)) - (Int32.toNatClampNeg 2000)) - (Int32.toNatClampNeg 2000)) ≤ z := by omega
  refine my_putr (C := RX11) (F := TX11) (N := 59) (ci := 12) X M 16 rfl in_X11 tyX11 tyX11_ok nmX11 (by decide) rfl (by decide) kw_1146 (Or.inr ⟨hnm, rfl⟩) dX11_init_111 hk112 (some q109) (mq_na _ _) (mq_fa _ _) (fun μ114 H locs eμ114 M => ?_)
  replace hw := hw μ114 eμ114
  have hKM115 : KM μ μ114 := by rw [eμ114]; exact hKM111
  have hk116 : kd μ114 o = 13 := by rw [eμ114]; exact hk112
  have hk117 : kd μ114 q109 = 102 := by rw [eμ114]; exact hk113
  refine lv_aload_n X.1 X.2.1 dX11_init_114 rfl (lv_at hl 0 rfl) ?_
  refine lv_sipush (v := 2000) X.1 X.2.1 dX11_init_115 (by decide) ?_
  obtain ⟨hb0, hb3, hb1, hb2, hw⟩ := hw
  refine my_newI X M kw_128 dX11_init_118 hb0 hb3 (show (((((((((((((0 + 1) + 1) + 1) + 1) + 1) + 1) + 1) + 1) + 1) + 1) + 1) + 1) + 1) + 1 ≤ c by omega) (show (((((((((((((0 + (Int32.toNatClampNeg 10)) + (Int32.toNatClampNeg 60)) + (Int32.toNatClampNeg 60)) + (Int32.toNatClampNeg 60)) + (Int32.toNatClampNeg 60)) + (Int32.toNatClampNeg 480)) + (Int32.toNatClampNeg 60)) + (Int32.toNatClampNeg 120000)) + (Int32.toNatClampNeg 2000)) + (Int32.toNatClampNeg 2000)) + (Int32.toNatClampNeg 2000)) + (Int32.toNatClampNeg 2000)) + (Int32.toNatClampNeg 2000)) + (Int32.toNatClampNeg 2000) ≤ z by omega) (fun q118 μ119 H hq118 eμ119 M => ?_)
  replace hw := hw q118 μ119 hq118 eμ119
  have hKM120 : KM μ μ119 := by rw [eμ119]; exact hKM115.tr (KM_nar hq118)
  have hk121 : kd μ119 o = 13 := by rw [eμ119]; exact (KM_nar hq118).at hk116
  have hk122 : kd μ119 q118 = 102 := by rw [eμ119]; exact kd_nar
  have hc : ((((((((((((((0 + 1) + 1) + 1) + 1) + 1) + 1) + 1) + 1) + 1) + 1) + 1) + 1) + 1) + 1) + ((((((((((((((c - 1) - 1) - 1) - 1) - 1) - 1) - 1) - 1) - 1) - 1) - 1) - 1) - 1) - 1) ≤ c := by omega
  have hz : ((((((((((((((0 + (Int32.toNatClampNeg 10)) + (Int32.toNatClampNeg 60)) + (Int32.toNatClampNeg 60)) + (Int32.toNatClampNeg 60)) + (Int32.toNatClampNeg 60)) + (Int32.toNatClampNeg 480)) + (Int32.toNatClampNeg 60)) + (Int32.toNatClampNeg 120000)) + (Int32.toNatClampNeg 2000)) + (Int32.toNatClampNeg 2000)) + (Int32.toNatClampNeg 2000)) + (Int32.toNatClampNeg 2000)) + (Int32.toNatClampNeg 2000)) + (Int32.toNatClampNeg 2000)) + ((((((((((((((z - (Int32.toNatClampNeg 10)) - (Int32.toNatClampNeg 60)) - (Int32.toNatClampNeg 60)) - (Int32.toNatClampNeg 60)) - (Int32.toNatClampNeg 60)) - (Int32.toNatClampNeg 480)) - (Int32.toNatClampNeg 60)) - (Int32.toNatClampNeg 120000)) - (Int32.toNatClampNeg 2000)) - (Int32.toNatClampNeg 2000)) - (Int32.toNatClampNeg 2000)) - (Int32.toNatClampNeg 2000)) - (Int32.toNatClampNeg 2000)) - (Int32.toNatClampNeg 2000)) ≤ z := by omega
  refine my_putr (C := RX11) (F := TX11) (N := 59) (ci := 12) X M 17 rfl in_X11 tyX11 tyX11_ok nmX11 (by decide) rfl (by decide) kw_1147 (Or.inr ⟨hnm, rfl⟩) dX11_init_120 hk121 (some q118) (mq_na _ _) (mq_fa _ _) (fun μ123 H locs eμ123 M => ?_)
  replace hw := hw μ123 eμ123
  have hKM124 : KM μ μ123 := by rw [eμ123]; exact hKM120
  have hk125 : kd μ123 o = 13 := by rw [eμ123]; exact hk121
  have hk126 : kd μ123 q118 = 102 := by rw [eμ123]; exact hk122
  refine lv_aload_n X.1 X.2.1 dX11_init_123 rfl (lv_at hl 0 rfl) ?_
  refine lv_sipush (v := 20000) X.1 X.2.1 dX11_init_124 (by decide) ?_
  obtain ⟨hb0, hb3, hb1, hb2, hw⟩ := hw
  refine my_newI X M kw_128 dX11_init_127 hb0 hb3 (show ((((((((((((((0 + 1) + 1) + 1) + 1) + 1) + 1) + 1) + 1) + 1) + 1) + 1) + 1) + 1) + 1) + 1 ≤ c by omega) (show ((((((((((((((0 + (Int32.toNatClampNeg 10)) + (Int32.toNatClampNeg 60)) + (Int32.toNatClampNeg 60)) + (Int32.toNatClampNeg 60)) + (Int32.toNatClampNeg 60)) + (Int32.toNatClampNeg 480)) + (Int32.toNatClampNeg 60)) + (Int32.toNatClampNeg 120000)) + (Int32.toNatClampNeg 2000)) + (Int32.toNatClampNeg 2000)) + (Int32.toNatClampNeg 2000)) + (Int32.toNatClampNeg 2000)) + (Int32.toNatClampNeg 2000)) + (Int32.toNatClampNeg 2000)) + (Int32.toNatClampNeg 20000) ≤ z by omega) (fun q127 μ128 H hq127 eμ128 M => ?_)
  replace hw := hw q127 μ128 hq127 eμ128
  have hKM129 : KM μ μ128 := by rw [eμ128]; exact hKM124.tr (KM_nar hq127)
  have hk130 : kd μ128 o = 13 := by rw [eμ128]; exact (KM_nar hq127).at hk125
  have hk131 : kd μ128 q127 = 102 := by rw [eμ128]; exact kd_nar
  have hc : (((((((((((((((0 + 1) + 1) + 1) + 1) + 1) + 1) + 1) + 1) + 1) + 1) + 1) + 1) + 1) + 1) + 1) + (((((((((((((((c - 1) - 1) - 1) - 1) - 1) - 1) - 1) - 1) - 1) - 1) - 1) - 1) - 1) - 1) - 1) ≤ c := by omega
  have hz : (((((((((((((((0 + (Int32.toNatClampNeg 10)) + (Int32.toNatClampNeg 60)) + (Int32.toNatClampNeg 60)) + (Int32.toNatClampNeg 60)) + (Int32.toNatClampNeg 60)) + (Int32.toNatClampNeg 480)) + (Int32.toNatClampNeg 60)) + (Int32.toNatClampNeg 120000)) + (Int32.toNatClampNeg 2000)) + (Int32.toNatClampNeg 2000)) + (Int32.toNatClampNeg 2000)) + (Int32.toNatClampNeg 2000)) + (Int32.toNatClampNeg 2000)) + (Int32.toNatClampNeg 2000)) + (Int32.toNatClampNeg 20000)) + (((((((((((((((z - (Int32.toNatClampNeg 10)) - (Int32.toNatClampNeg 60)) - (Int32.toNatClampNeg 60)) - (Int32.toNatClampNeg 60)) - (Int32.toNatClampNeg 60)) - (Int32.toNatClampNeg 480)) - (Int32.toNatClampNeg 60)) - (Int32.toNatClampNeg 120000)) - (Int32.toNatClampNeg 2000)) - (Int32.toNatClampNeg 2000)) - (Int32.toNatClampNeg 2000)) - (Int32.toNatClampNeg 2000)) - (Int32.toNatClampNeg 2000)) - (Int32.toNatClampNeg 2000)) - (Int32.toNatClampNeg 20000)) ≤ z := by omega
  refine my_putr (C := RX11) (F := TX11) (N := 59) (ci := 12) X M 18 rfl in_X11 tyX11 tyX11_ok nmX11 (by decide) rfl (by decide) kw_1148 (Or.inr ⟨hnm, rfl⟩) dX11_init_129 hk130 (some q127) (mq_na _ _) (mq_fa _ _) (fun μ132 H locs eμ132 M => ?_)
  replace hw := hw μ132 eμ132
  have hKM133 : KM μ μ132 := by rw [eμ132]; exact hKM129
  have hk134 : kd μ132 o = 13 := by rw [eμ132]; exact hk130
  have hk135 : kd μ132 q127 = 102 := by rw [eμ132]; exact hk131
  refine lv_aload_n X.1 X.2.1 dX11_init_132 rfl (lv_at hl 0 rfl) ?_
  refine lv_sipush (v := 20100) X.1 X.2.1 dX11_init_133 (by decide) ?_
  obtain ⟨hb0, hb3, hb1, hb2, hw⟩ := hw
  refine my_newI X M kw_128 dX11_init_136 hb0 hb3 (show (((((((((((((((0 + 1) + 1) + 1) + 1) + 1) + 1) + 1) + 1) + 1) + 1) + 1) + 1) + 1) + 1) + 1) + 1 ≤ c by omega) (show (((((((((((((((0 + (Int32.toNatClampNeg 10)) + (Int32.toNatClampNeg 60)) + (Int32.toNatClampNeg 60)) + (Int32.toNatClampNeg 60)) + (Int32.toNatClampNeg 60)) + (Int32.toNatClampNeg 480)) + (Int32.toNatClampNeg 60)) + (Int32.toNatClampNeg 120000)) + (Int32.toNatClampNeg 2000)) + (Int32.toNatClampNeg 2000)) + (Int32.toNatClampNeg 2000)) + (Int32.toNatClampNeg 2000)) + (Int32.toNatClampNeg 2000)) + (Int32.toNatClampNeg 2000)) + (Int32.toNatClampNeg 20000)) + (Int32.toNatClampNeg 20100) ≤ z by omega) (fun q136 μ137 H hq136 eμ137 M => ?_)
  replace hw := hw q136 μ137 hq136 eμ137
  have hKM138 : KM μ μ137 := by rw [eμ137]; exact hKM133.tr (KM_nar hq136)
  have hk139 : kd μ137 o = 13 := by rw [eμ137]; exact (KM_nar hq136).at hk134
  have hk140 : kd μ137 q136 = 102 := by rw [eμ137]; exact kd_nar
  have hc : ((((((((((((((((0 + 1) + 1) + 1) + 1) + 1) + 1) + 1) + 1) + 1) + 1) + 1) + 1) + 1) + 1) + 1) + 1) + ((((((((((((((((c - 1) - 1) - 1) - 1) - 1) - 1) - 1) - 1) - 1) - 1) - 1) - 1) - 1) - 1) - 1) - 1) ≤ c := by omega
  have hz : ((((((((((((((((0 + (Int32.toNatClampNeg 10)) + (Int32.toNatClampNeg 60)) + (Int32.toNatClampNeg 60)) + (Int32.toNatClampNeg 60)) + (Int32.toNatClampNeg 60)) + (Int32.toNatClampNeg 480)) + (Int32.toNatClampNeg 60)) + (Int32.toNatClampNeg 120000)) + (Int32.toNatClampNeg 2000)) + (Int32.toNatClampNeg 2000)) + (Int32.toNatClampNeg 2000)) + (Int32.toNatClampNeg 2000)) + (Int32.toNatClampNeg 2000)) + (Int32.toNatClampNeg 2000)) + (Int32.toNatClampNeg 20000)) + (Int32.toNatClampNeg 20100)) + ((((((((((((((((z - (Int32.toNatClampNeg 10)) - (Int32.toNatClampNeg 60)) - (Int32.toNatClampNeg 60)) - (Int32.toNatClampNeg 60)) - (Int32.toNatClampNeg 60)) - (Int32.toNatClampNeg 480)) - (Int32.toNatClampNeg 60)) - (Int32.toNatClampNeg 120000)) - (Int32.toNatClampNeg 2000)) - (Int32.toNatClampNeg 2000)) - (Int32.toNatClampNeg 2000)) - (Int32.toNatClampNeg 2000)) - (Int32.toNatClampNeg 2000)) - (Int32.toNatClampNeg 2000)) - (Int32.toNatClampNeg 20000)) - (Int32.toNatClampNeg 20100)) ≤ z := by omega
  refine my_putr (C := RX11) (F := TX11) (N := 59) (ci := 12) X M 20 rfl in_X11 tyX11 tyX11_ok nmX11 (by decide) rfl (by decide) kw_1150 (Or.inr ⟨hnm, rfl⟩) dX11_init_138 hk139 (some q136) (mq_na _ _) (mq_fa _ _) (fun μ141 H locs eμ141 M => ?_)
  replace hw := hw μ141 eμ141
  have hKM142 : KM μ μ141 := by rw [eμ141]; exact hKM138
  have hk143 : kd μ141 o = 13 := by rw [eμ141]; exact hk139
  have hk144 : kd μ141 q136 = 102 := by rw [eμ141]; exact hk140
  refine lv_aload_n X.1 X.2.1 dX11_init_141 rfl (lv_at hl 0 rfl) ?_
  refine lv_sipush (v := 20100) X.1 X.2.1 dX11_init_142 (by decide) ?_
  obtain ⟨hb0, hb3, hb1, hb2, hw⟩ := hw
  refine my_newI X M kw_128 dX11_init_145 hb0 hb3 (show ((((((((((((((((0 + 1) + 1) + 1) + 1) + 1) + 1) + 1) + 1) + 1) + 1) + 1) + 1) + 1) + 1) + 1) + 1) + 1 ≤ c by omega) (show ((((((((((((((((0 + (Int32.toNatClampNeg 10)) + (Int32.toNatClampNeg 60)) + (Int32.toNatClampNeg 60)) + (Int32.toNatClampNeg 60)) + (Int32.toNatClampNeg 60)) + (Int32.toNatClampNeg 480)) + (Int32.toNatClampNeg 60)) + (Int32.toNatClampNeg 120000)) + (Int32.toNatClampNeg 2000)) + (Int32.toNatClampNeg 2000)) + (Int32.toNatClampNeg 2000)) + (Int32.toNatClampNeg 2000)) + (Int32.toNatClampNeg 2000)) + (Int32.toNatClampNeg 2000)) + (Int32.toNatClampNeg 20000)) + (Int32.toNatClampNeg 20100)) + (Int32.toNatClampNeg 20100) ≤ z by omega) (fun q145 μ146 H hq145 eμ146 M => ?_)
  replace hw := hw q145 μ146 hq145 eμ146
  have hKM147 : KM μ μ146 := by rw [eμ146]; exact hKM142.tr (KM_nar hq145)
  have hk148 : kd μ146 o = 13 := by rw [eμ146]; exact (KM_nar hq145).at hk143
  have hk149 : kd μ146 q145 = 102 := by rw [eμ146]; exact kd_nar
  have hc : (((((((((((((((((0 + 1) + 1) + 1) + 1) + 1) + 1) + 1) + 1) + 1) + 1) + 1) + 1) + 1) + 1) + 1) + 1) + 1) + (((((((((((((((((c - 1) - 1) - 1) - 1) - 1) - 1) - 1) - 1) - 1) - 1) - 1) - 1) - 1) - 1) - 1) - 1) - 1) ≤ c := by omega
  have hz : (((((((((((((((((0 + (Int32.toNatClampNeg 10)) + (Int32.toNatClampNeg 60)) + (Int32.toNatClampNeg 60)) + (Int32.toNatClampNeg 60)) + (Int32.toNatClampNeg 60)) + (Int32.toNatClampNeg 480)) + (Int32.toNatClampNeg 60)) + (Int32.toNatClampNeg 120000)) + (Int32.toNatClampNeg 2000)) + (Int32.toNatClampNeg 2000)) + (Int32.toNatClampNeg 2000)) + (Int32.toNatClampNeg 2000)) + (Int32.toNatClampNeg 2000)) + (Int32.toNatClampNeg 2000)) + (Int32.toNatClampNeg 20000)) + (Int32.toNatClampNeg 20100)) + (Int32.toNatClampNeg 20100)) + (((((((((((((((((z - (Int32.toNatClampNeg 10)) - (Int32.toNatClampNeg 60)) - (Int32.toNatClampNeg 60)) - (Int32.toNatClampNeg 60)) - (Int32.toNatClampNeg 60)) - (Int32.toNatClampNeg 480)) - (Int32.toNatClampNeg 60)) - (Int32.toNatClampNeg 120000)) - (Int32.toNatClampNeg 2000)) - (Int32.toNatClampNeg 2000)) - (Int32.toNatClampNeg 2000)) - (Int32.toNatClampNeg 2000)) - (Int32.toNatClampNeg 2000)) - (Int32.toNatClampNeg 2000)) - (Int32.toNatClampNeg 20000)) - (Int32.toNatClampNeg 20100)) - (Int32.toNatClampNeg 20100)) ≤ z := by omega
  refine my_putr (C := RX11) (F := TX11) (N := 59) (ci := 12) X M 21 rfl in_X11 tyX11 tyX11_ok nmX11 (by decide) rfl (by decide) kw_1151 (Or.inr ⟨hnm, rfl⟩) dX11_init_147 hk148 (some q145) (mq_na _ _) (mq_fa _ _) (fun μ150 H locs eμ150 M => ?_)
  replace hw := hw μ150 eμ150
  have hKM151 : KM μ μ150 := by rw [eμ150]; exact hKM147
  have hk152 : kd μ150 o = 13 := by rw [eμ150]; exact hk148
  have hk153 : kd μ150 q145 = 102 := by rw [eμ150]; exact hk149
  refine lv_aload_n X.1 X.2.1 dX11_init_150 rfl (lv_at hl 0 rfl) ?_
  refine lv_sipush (v := 20100) X.1 X.2.1 dX11_init_151 (by decide) ?_
  obtain ⟨hb0, hb3, hb1, hb2, hw⟩ := hw
  refine my_newI X M kw_128 dX11_init_154 hb0 hb3 (show (((((((((((((((((0 + 1) + 1) + 1) + 1) + 1) + 1) + 1) + 1) + 1) + 1) + 1) + 1) + 1) + 1) + 1) + 1) + 1) + 1 ≤ c by omega) (show (((((((((((((((((0 + (Int32.toNatClampNeg 10)) + (Int32.toNatClampNeg 60)) + (Int32.toNatClampNeg 60)) + (Int32.toNatClampNeg 60)) + (Int32.toNatClampNeg 60)) + (Int32.toNatClampNeg 480)) + (Int32.toNatClampNeg 60)) + (Int32.toNatClampNeg 120000)) + (Int32.toNatClampNeg 2000)) + (Int32.toNatClampNeg 2000)) + (Int32.toNatClampNeg 2000)) + (Int32.toNatClampNeg 2000)) + (Int32.toNatClampNeg 2000)) + (Int32.toNatClampNeg 2000)) + (Int32.toNatClampNeg 20000)) + (Int32.toNatClampNeg 20100)) + (Int32.toNatClampNeg 20100)) + (Int32.toNatClampNeg 20100) ≤ z by omega) (fun q154 μ155 H hq154 eμ155 M => ?_)
  replace hw := hw q154 μ155 hq154 eμ155
  have hKM156 : KM μ μ155 := by rw [eμ155]; exact hKM151.tr (KM_nar hq154)
  have hk157 : kd μ155 o = 13 := by rw [eμ155]; exact (KM_nar hq154).at hk152
  have hk158 : kd μ155 q154 = 102 := by rw [eμ155]; exact kd_nar
  have hc : ((((((((((((((((((0 + 1) + 1) + 1) + 1) + 1) + 1) + 1) + 1) + 1) + 1) + 1) + 1) + 1) + 1) + 1) + 1) + 1) + 1) + ((((((((((((((((((c - 1) - 1) - 1) - 1) - 1) - 1) - 1) - 1) - 1) - 1) - 1) - 1) - 1) - 1) - 1) - 1) - 1) - 1) ≤ c := by omega
  have hz : ((((((((((((((((((0 + (Int32.toNatClampNeg 10)) + (Int32.toNatClampNeg 60)) + (Int32.toNatClampNeg 60)) + (Int32.toNatClampNeg 60)) + (Int32.toNatClampNeg 60)) + (Int32.toNatClampNeg 480)) + (Int32.toNatClampNeg 60)) + (Int32.toNatClampNeg 120000)) + (Int32.toNatClampNeg 2000)) + (Int32.toNatClampNeg 2000)) + (Int32.toNatClampNeg 2000)) + (Int32.toNatClampNeg 2000)) + (Int32.toNatClampNeg 2000)) + (Int32.toNatClampNeg 2000)) + (Int32.toNatClampNeg 20000)) + (Int32.toNatClampNeg 20100)) + (Int32.toNatClampNeg 20100)) + (Int32.toNatClampNeg 20100)) + ((((((((((((((((((z - (Int32.toNatClampNeg 10)) - (Int32.toNatClampNeg 60)) - (Int32.toNatClampNeg 60)) - (Int32.toNatClampNeg 60)) - (Int32.toNatClampNeg 60)) - (Int32.toNatClampNeg 480)) - (Int32.toNatClampNeg 60)) - (Int32.toNatClampNeg 120000)) - (Int32.toNatClampNeg 2000)) - (Int32.toNatClampNeg 2000)) - (Int32.toNatClampNeg 2000)) - (Int32.toNatClampNeg 2000)) - (Int32.toNatClampNeg 2000)) - (Int32.toNatClampNeg 2000)) - (Int32.toNatClampNeg 20000)) - (Int32.toNatClampNeg 20100)) - (Int32.toNatClampNeg 20100)) - (Int32.toNatClampNeg 20100)) ≤ z := by omega
  refine my_putr (C := RX11) (F := TX11) (N := 59) (ci := 12) X M 22 rfl in_X11 tyX11 tyX11_ok nmX11 (by decide) rfl (by decide) kw_1152 (Or.inr ⟨hnm, rfl⟩) dX11_init_156 hk157 (some q154) (mq_na _ _) (mq_fa _ _) (fun μ159 H locs eμ159 M => ?_)
  replace hw := hw μ159 eμ159
  have hKM160 : KM μ μ159 := by rw [eμ159]; exact hKM156
  have hk161 : kd μ159 o = 13 := by rw [eμ159]; exact hk157
  have hk162 : kd μ159 q154 = 102 := by rw [eμ159]; exact hk158
  refine lv_aload_n X.1 X.2.1 dX11_init_159 rfl (lv_at hl 0 rfl) ?_
  refine lv_sipush (v := 20100) X.1 X.2.1 dX11_init_160 (by decide) ?_
  obtain ⟨hb0, hb3, hb1, hb2, hw⟩ := hw
  refine my_newJ X M kw_156 dX11_init_163 hb0 hb3 (show ((((((((((((((((((0 + 1) + 1) + 1) + 1) + 1) + 1) + 1) + 1) + 1) + 1) + 1) + 1) + 1) + 1) + 1) + 1) + 1) + 1) + 1 ≤ c by omega) (show ((((((((((((((((((0 + (Int32.toNatClampNeg 10)) + (Int32.toNatClampNeg 60)) + (Int32.toNatClampNeg 60)) + (Int32.toNatClampNeg 60)) + (Int32.toNatClampNeg 60)) + (Int32.toNatClampNeg 480)) + (Int32.toNatClampNeg 60)) + (Int32.toNatClampNeg 120000)) + (Int32.toNatClampNeg 2000)) + (Int32.toNatClampNeg 2000)) + (Int32.toNatClampNeg 2000)) + (Int32.toNatClampNeg 2000)) + (Int32.toNatClampNeg 2000)) + (Int32.toNatClampNeg 2000)) + (Int32.toNatClampNeg 20000)) + (Int32.toNatClampNeg 20100)) + (Int32.toNatClampNeg 20100)) + (Int32.toNatClampNeg 20100)) + (Int32.toNatClampNeg 20100) ≤ z by omega) (fun q163 μ164 H hq163 eμ164 M => ?_)
  replace hw := hw q163 μ164 hq163 eμ164
  have hKM165 : KM μ μ164 := by rw [eμ164]; exact hKM160.tr (KM_nar hq163)
  have hk166 : kd μ164 o = 13 := by rw [eμ164]; exact (KM_nar hq163).at hk161
  have hk167 : kd μ164 q163 = 103 := by rw [eμ164]; exact kd_nar
  have hc : (((((((((((((((((((0 + 1) + 1) + 1) + 1) + 1) + 1) + 1) + 1) + 1) + 1) + 1) + 1) + 1) + 1) + 1) + 1) + 1) + 1) + 1) + (((((((((((((((((((c - 1) - 1) - 1) - 1) - 1) - 1) - 1) - 1) - 1) - 1) - 1) - 1) - 1) - 1) - 1) - 1) - 1) - 1) - 1) ≤ c := by omega
  have hz : (((((((((((((((((((0 + (Int32.toNatClampNeg 10)) + (Int32.toNatClampNeg 60)) + (Int32.toNatClampNeg 60)) + (Int32.toNatClampNeg 60)) + (Int32.toNatClampNeg 60)) + (Int32.toNatClampNeg 480)) + (Int32.toNatClampNeg 60)) + (Int32.toNatClampNeg 120000)) + (Int32.toNatClampNeg 2000)) + (Int32.toNatClampNeg 2000)) + (Int32.toNatClampNeg 2000)) + (Int32.toNatClampNeg 2000)) + (Int32.toNatClampNeg 2000)) + (Int32.toNatClampNeg 2000)) + (Int32.toNatClampNeg 20000)) + (Int32.toNatClampNeg 20100)) + (Int32.toNatClampNeg 20100)) + (Int32.toNatClampNeg 20100)) + (Int32.toNatClampNeg 20100)) + (((((((((((((((((((z - (Int32.toNatClampNeg 10)) - (Int32.toNatClampNeg 60)) - (Int32.toNatClampNeg 60)) - (Int32.toNatClampNeg 60)) - (Int32.toNatClampNeg 60)) - (Int32.toNatClampNeg 480)) - (Int32.toNatClampNeg 60)) - (Int32.toNatClampNeg 120000)) - (Int32.toNatClampNeg 2000)) - (Int32.toNatClampNeg 2000)) - (Int32.toNatClampNeg 2000)) - (Int32.toNatClampNeg 2000)) - (Int32.toNatClampNeg 2000)) - (Int32.toNatClampNeg 2000)) - (Int32.toNatClampNeg 20000)) - (Int32.toNatClampNeg 20100)) - (Int32.toNatClampNeg 20100)) - (Int32.toNatClampNeg 20100)) - (Int32.toNatClampNeg 20100)) ≤ z := by omega
  refine my_putr (C := RX11) (F := TX11) (N := 59) (ci := 12) X M 23 rfl in_X11 tyX11 tyX11_ok nmX11 (by decide) rfl (by decide) kw_1153 (Or.inr ⟨hnm, rfl⟩) dX11_init_165 hk166 (some q163) (mq_na _ _) (mq_fa _ _) (fun μ168 H locs eμ168 M => ?_)
  replace hw := hw μ168 eμ168
  have hKM169 : KM μ μ168 := by rw [eμ168]; exact hKM165
  have hk170 : kd μ168 o = 13 := by rw [eμ168]; exact hk166
  have hk171 : kd μ168 q163 = 103 := by rw [eμ168]; exact hk167
  refine lv_aload_n X.1 X.2.1 dX11_init_168 rfl (lv_at hl 0 rfl) ?_
  refine lv_sipush (v := 7000) X.1 X.2.1 dX11_init_169 (by decide) ?_
  obtain ⟨hb0, hb3, hb1, hb2, hw⟩ := hw
  refine my_newZ X M kw_1308 dX11_init_172 hb0 hb3 (show (((((((((((((((((((0 + 1) + 1) + 1) + 1) + 1) + 1) + 1) + 1) + 1) + 1) + 1) + 1) + 1) + 1) + 1) + 1) + 1) + 1) + 1) + 1 ≤ c by omega) (show (((((((((((((((((((0 + (Int32.toNatClampNeg 10)) + (Int32.toNatClampNeg 60)) + (Int32.toNatClampNeg 60)) + (Int32.toNatClampNeg 60)) + (Int32.toNatClampNeg 60)) + (Int32.toNatClampNeg 480)) + (Int32.toNatClampNeg 60)) + (Int32.toNatClampNeg 120000)) + (Int32.toNatClampNeg 2000)) + (Int32.toNatClampNeg 2000)) + (Int32.toNatClampNeg 2000)) + (Int32.toNatClampNeg 2000)) + (Int32.toNatClampNeg 2000)) + (Int32.toNatClampNeg 2000)) + (Int32.toNatClampNeg 20000)) + (Int32.toNatClampNeg 20100)) + (Int32.toNatClampNeg 20100)) + (Int32.toNatClampNeg 20100)) + (Int32.toNatClampNeg 20100)) + (Int32.toNatClampNeg 7000) ≤ z by omega) (fun q172 μ173 H hq172 eμ173 M => ?_)
  replace hw := hw q172 μ173 hq172 eμ173
  have hKM174 : KM μ μ173 := by rw [eμ173]; exact hKM169.tr (KM_nar hq172)
  have hk175 : kd μ173 o = 13 := by rw [eμ173]; exact (KM_nar hq172).at hk170
  have hk176 : kd μ173 q172 = 104 := by rw [eμ173]; exact kd_nar
  have hc : ((((((((((((((((((((0 + 1) + 1) + 1) + 1) + 1) + 1) + 1) + 1) + 1) + 1) + 1) + 1) + 1) + 1) + 1) + 1) + 1) + 1) + 1) + 1) + ((((((((((((((((((((c - 1) - 1) - 1) - 1) - 1) - 1) - 1) - 1) - 1) - 1) - 1) - 1) - 1) - 1) - 1) - 1) - 1) - 1) - 1) - 1) ≤ c := by omega
  have hz : ((((((((((((((((((((0 + (Int32.toNatClampNeg 10)) + (Int32.toNatClampNeg 60)) + (Int32.toNatClampNeg 60)) + (Int32.toNatClampNeg 60)) + (Int32.toNatClampNeg 60)) + (Int32.toNatClampNeg 480)) + (Int32.toNatClampNeg 60)) + (Int32.toNatClampNeg 120000)) + (Int32.toNatClampNeg 2000)) + (Int32.toNatClampNeg 2000)) + (Int32.toNatClampNeg 2000)) + (Int32.toNatClampNeg 2000)) + (Int32.toNatClampNeg 2000)) + (Int32.toNatClampNeg 2000)) + (Int32.toNatClampNeg 20000)) + (Int32.toNatClampNeg 20100)) + (Int32.toNatClampNeg 20100)) + (Int32.toNatClampNeg 20100)) + (Int32.toNatClampNeg 20100)) + (Int32.toNatClampNeg 7000)) + ((((((((((((((((((((z - (Int32.toNatClampNeg 10)) - (Int32.toNatClampNeg 60)) - (Int32.toNatClampNeg 60)) - (Int32.toNatClampNeg 60)) - (Int32.toNatClampNeg 60)) - (Int32.toNatClampNeg 480)) - (Int32.toNatClampNeg 60)) - (Int32.toNatClampNeg 120000)) - (Int32.toNatClampNeg 2000)) - (Int32.toNatClampNeg 2000)) - (Int32.toNatClampNeg 2000)) - (Int32.toNatClampNeg 2000)) - (Int32.toNatClampNeg 2000)) - (Int32.toNatClampNeg 2000)) - (Int32.toNatClampNeg 20000)) - (Int32.toNatClampNeg 20100)) - (Int32.toNatClampNeg 20100)) - (Int32.toNatClampNeg 20100)) - (Int32.toNatClampNeg 20100)) - (Int32.toNatClampNeg 7000)) ≤ z := by omega
  refine my_putr (C := RX11) (F := TX11) (N := 59) (ci := 12) X M 27 rfl in_X11 tyX11 tyX11_ok nmX11 (by decide) rfl (by decide) kw_1157 (Or.inr ⟨hnm, rfl⟩) dX11_init_174 hk175 (some q172) (mq_na _ _) (mq_fa _ _) (fun μ177 H locs eμ177 M => ?_)
  replace hw := hw μ177 eμ177
  have hKM178 : KM μ μ177 := by rw [eμ177]; exact hKM174
  have hk179 : kd μ177 o = 13 := by rw [eμ177]; exact hk175
  have hk180 : kd μ177 q172 = 104 := by rw [eμ177]; exact hk176
  refine lv_aload_n X.1 X.2.1 dX11_init_177 rfl (lv_at hl 0 rfl) ?_
  refine lv_sipush (v := 7000) X.1 X.2.1 dX11_init_178 (by decide) ?_
  obtain ⟨hb0, hb3, hb1, hb2, hw⟩ := hw
  refine my_newI X M kw_128 dX11_init_181 hb0 hb3 (show ((((((((((((((((((((0 + 1) + 1) + 1) + 1) + 1) + 1) + 1) + 1) + 1) + 1) + 1) + 1) + 1) + 1) + 1) + 1) + 1) + 1) + 1) + 1) + 1 ≤ c by omega) (show ((((((((((((((((((((0 + (Int32.toNatClampNeg 10)) + (Int32.toNatClampNeg 60)) + (Int32.toNatClampNeg 60)) + (Int32.toNatClampNeg 60)) + (Int32.toNatClampNeg 60)) + (Int32.toNatClampNeg 480)) + (Int32.toNatClampNeg 60)) + (Int32.toNatClampNeg 120000)) + (Int32.toNatClampNeg 2000)) + (Int32.toNatClampNeg 2000)) + (Int32.toNatClampNeg 2000)) + (Int32.toNatClampNeg 2000)) + (Int32.toNatClampNeg 2000)) + (Int32.toNatClampNeg 2000)) + (Int32.toNatClampNeg 20000)) + (Int32.toNatClampNeg 20100)) + (Int32.toNatClampNeg 20100)) + (Int32.toNatClampNeg 20100)) + (Int32.toNatClampNeg 20100)) + (Int32.toNatClampNeg 7000)) + (Int32.toNatClampNeg 7000) ≤ z by omega) (fun q181 μ182 H hq181 eμ182 M => ?_)
  replace hw := hw q181 μ182 hq181 eμ182
  have hKM183 : KM μ μ182 := by rw [eμ182]; exact hKM178.tr (KM_nar hq181)
  have hk184 : kd μ182 o = 13 := by rw [eμ182]; exact (KM_nar hq181).at hk179
  have hk185 : kd μ182 q181 = 102 := by rw [eμ182]; exact kd_nar
  have hc : (((((((((((((((((((((0 + 1) + 1) + 1) + 1) + 1) + 1) + 1) + 1) + 1) + 1) + 1) + 1) + 1) + 1) + 1) + 1) + 1) + 1) + 1) + 1) + 1) + (((((((((((((((((((((c - 1) - 1) - 1) - 1) - 1) - 1) - 1) - 1) - 1) - 1) - 1) - 1) - 1) - 1) - 1) - 1) - 1) - 1) - 1) - 1) - 1) ≤ c := by omega
  have hz : (((((((((((((((((((((0 + (Int32.toNatClampNeg 10)) + (Int32.toNatClampNeg 60)) + (Int32.toNatClampNeg 60)) + (Int32.toNatClampNeg 60)) + (Int32.toNatClampNeg 60)) + (Int32.toNatClampNeg 480)) + (Int32.toNatClampNeg 60)) + (Int32.toNatClampNeg 120000)) + (Int32.toNatClampNeg 2000)) + (Int32.toNatClampNeg 2000)) + (Int32.toNatClampNeg 2000)) + (Int32.toNatClampNeg 2000)) + (Int32.toNatClampNeg 2000)) + (Int32.toNatClampNeg 2000)) + (Int32.toNatClampNeg 20000)) + (Int32.toNatClampNeg 20100)) + (Int32.toNatClampNeg 20100)) + (Int32.toNatClampNeg 20100)) + (Int32.toNatClampNeg 20100)) + (Int32.toNatClampNeg 7000)) + (Int32.toNatClampNeg 7000)) + (((((((((((((((((((((z - (Int32.toNatClampNeg 10)) - (Int32.toNatClampNeg 60)) - (Int32.toNatClampNeg 60)) - (Int32.toNatClampNeg 60)) - (Int32.toNatClampNeg 60)) - (Int32.toNatClampNeg 480)) - (Int32.toNatClampNeg 60)) - (Int32.toNatClampNeg 120000)) - (Int32.toNatClampNeg 2000)) - (Int32.toNatClampNeg 2000)) - (Int32.toNatClampNeg 2000)) - (Int32.toNatClampNeg 2000)) - (Int32.toNatClampNeg 2000)) - (Int32.toNatClampNeg 2000)) - (Int32.toNatClampNeg 20000)) - (Int32.toNatClampNeg 20100)) - (Int32.toNatClampNeg 20100)) - (Int32.toNatClampNeg 20100)) - (Int32.toNatClampNeg 20100)) - (Int32.toNatClampNeg 7000)) - (Int32.toNatClampNeg 7000)) ≤ z := by omega
  refine my_putr (C := RX11) (F := TX11) (N := 59) (ci := 12) X M 28 rfl in_X11 tyX11 tyX11_ok nmX11 (by decide) rfl (by decide) kw_1158 (Or.inr ⟨hnm, rfl⟩) dX11_init_183 hk184 (some q181) (mq_na _ _) (mq_fa _ _) (fun μ186 H locs eμ186 M => ?_)
  replace hw := hw μ186 eμ186
  have hKM187 : KM μ μ186 := by rw [eμ186]; exact hKM183
  have hk188 : kd μ186 o = 13 := by rw [eμ186]; exact hk184
  have hk189 : kd μ186 q181 = 102 := by rw [eμ186]; exact hk185
  refine lv_aload_n X.1 X.2.1 dX11_init_186 rfl (lv_at hl 0 rfl) ?_
  refine lv_sipush (v := 7000) X.1 X.2.1 dX11_init_187 (by decide) ?_
  obtain ⟨hb0, hb3, hb1, hb2, hw⟩ := hw
  refine my_newI X M kw_128 dX11_init_190 hb0 hb3 (show (((((((((((((((((((((0 + 1) + 1) + 1) + 1) + 1) + 1) + 1) + 1) + 1) + 1) + 1) + 1) + 1) + 1) + 1) + 1) + 1) + 1) + 1) + 1) + 1) + 1 ≤ c by omega) (show (((((((((((((((((((((0 + (Int32.toNatClampNeg 10)) + (Int32.toNatClampNeg 60)) + (Int32.toNatClampNeg 60)) + (Int32.toNatClampNeg 60)) + (Int32.toNatClampNeg 60)) + (Int32.toNatClampNeg 480)) + (Int32.toNatClampNeg 60)) + (Int32.toNatClampNeg 120000)) + (Int32.toNatClampNeg 2000)) + (Int32.toNatClampNeg 2000)) + (Int32.toNatClampNeg 2000)) + (Int32.toNatClampNeg 2000)) + (Int32.toNatClampNeg 2000)) + (Int32.toNatClampNeg 2000)) + (Int32.toNatClampNeg 20000)) + (Int32.toNatClampNeg 20100)) + (Int32.toNatClampNeg 20100)) + (Int32.toNatClampNeg 20100)) + (Int32.toNatClampNeg 20100)) + (Int32.toNatClampNeg 7000)) + (Int32.toNatClampNeg 7000)) + (Int32.toNatClampNeg 7000) ≤ z by omega) (fun q190 μ191 H hq190 eμ191 M => ?_)
  replace hw := hw q190 μ191 hq190 eμ191
  have hKM192 : KM μ μ191 := by rw [eμ191]; exact hKM187.tr (KM_nar hq190)
  have hk193 : kd μ191 o = 13 := by rw [eμ191]; exact (KM_nar hq190).at hk188
  have hk194 : kd μ191 q190 = 102 := by rw [eμ191]; exact kd_nar
  have hc : ((((((((((((((((((((((0 + 1) + 1) + 1) + 1) + 1) + 1) + 1) + 1) + 1) + 1) + 1) + 1) + 1) + 1) + 1) + 1) + 1) + 1) + 1) + 1) + 1) + 1) + ((((((((((((((((((((((c - 1) - 1) - 1) - 1) - 1) - 1) - 1) - 1) - 1) - 1) - 1) - 1) - 1) - 1) - 1) - 1) - 1) - 1) - 1) - 1) - 1) - 1) ≤ c := by omega
  have hz : ((((((((((((((((((((((0 + (Int32.toNatClampNeg 10)) + (Int32.toNatClampNeg 60)) + (Int32.toNatClampNeg 60)) + (Int32.toNatClampNeg 60)) + (Int32.toNatClampNeg 60)) + (Int32.toNatClampNeg 480)) + (Int32.toNatClampNeg 60)) + (Int32.toNatClampNeg 120000)) + (Int32.toNatClampNeg 2000)) + (Int32.toNatClampNeg 2000)) + (Int32.toNatClampNeg 2000)) + (Int32.toNatClampNeg 2000)) + (Int32.toNatClampNeg 2000)) + (Int32.toNatClampNeg 2000)) + (Int32.toNatClampNeg 20000)) + (Int32.toNatClampNeg 20100)) + (Int32.toNatClampNeg 20100)) + (Int32.toNatClampNeg 20100)) + (Int32.toNatClampNeg 20100)) + (Int32.toNatClampNeg 7000)) + (Int32.toNatClampNeg 7000)) + (Int32.toNatClampNeg 7000)) + ((((((((((((((((((((((z - (Int32.toNatClampNeg 10)) - (Int32.toNatClampNeg 60)) - (Int32.toNatClampNeg 60)) - (Int32.toNatClampNeg 60)) - (Int32.toNatClampNeg 60)) - (Int32.toNatClampNeg 480)) - (Int32.toNatClampNeg 60)) - (Int32.toNatClampNeg 120000)) - (Int32.toNatClampNeg 2000)) - (Int32.toNatClampNeg 2000)) - (Int32.toNatClampNeg 2000)) - (Int32.toNatClampNeg 2000)) - (Int32.toNatClampNeg 2000)) - (Int32.toNatClampNeg 2000)) - (Int32.toNatClampNeg 20000)) - (Int32.toNatClampNeg 20100)) - (Int32.toNatClampNeg 20100)) - (Int32.toNatClampNeg 20100)) - (Int32.toNatClampNeg 20100)) - (Int32.toNatClampNeg 7000)) - (Int32.toNatClampNeg 7000)) - (Int32.toNatClampNeg 7000)) ≤ z := by omega
  refine my_putr (C := RX11) (F := TX11) (N := 59) (ci := 12) X M 29 rfl in_X11 tyX11 tyX11_ok nmX11 (by decide) rfl (by decide) kw_1159 (Or.inr ⟨hnm, rfl⟩) dX11_init_192 hk193 (some q190) (mq_na _ _) (mq_fa _ _) (fun μ195 H locs eμ195 M => ?_)
  replace hw := hw μ195 eμ195
  have hKM196 : KM μ μ195 := by rw [eμ195]; exact hKM192
  have hk197 : kd μ195 o = 13 := by rw [eμ195]; exact hk193
  have hk198 : kd μ195 q190 = 102 := by rw [eμ195]; exact hk194
  refine lv_aload_n X.1 X.2.1 dX11_init_195 rfl (lv_at hl 0 rfl) ?_
  refine lv_sipush (v := 7000) X.1 X.2.1 dX11_init_196 (by decide) ?_
  obtain ⟨hb0, hb3, hb1, hb2, hw⟩ := hw
  refine my_newI X M kw_128 dX11_init_199 hb0 hb3 (show ((((((((((((((((((((((0 + 1) + 1) + 1) + 1) + 1) + 1) + 1) + 1) + 1) + 1) + 1) + 1) + 1) + 1) + 1) + 1) + 1) + 1) + 1) + 1) + 1) + 1) + 1 ≤ c by omega) (show ((((((((((((((((((((((0 + (Int32.toNatClampNeg 10)) + (Int32.toNatClampNeg 60)) + (Int32.toNatClampNeg 60)) + (Int32.toNatClampNeg 60)) + (Int32.toNatClampNeg 60)) + (Int32.toNatClampNeg 480)) + (Int32.toNatClampNeg 60)) + (Int32.toNatClampNeg 120000)) + (Int32.toNatClampNeg 2000)) + (Int32.toNatClampNeg 2000)) + (Int32.toNatClampNeg 2000)) + (Int32.toNatClampNeg 2000)) + (Int32.toNatClampNeg 2000)) + (Int32.toNatClampNeg 2000)) + (Int32.toNatClampNeg 20000)) + (Int32.toNatClampNeg 20100)) + (Int32.toNatClampNeg 20100)) + (Int32.toNatClampNeg 20100)) + (Int32.toNatClampNeg 20100)) + (Int32.toNatClampNeg 7000)) + (Int32.toNatClampNeg 7000)) + (Int32.toNatClampNeg 7000)) + (Int32.toNatClampNeg 7000) ≤ z by omega) (fun q199 μ200 H hq199 eμ200 M => ?_)
  replace hw := hw q199 μ200 hq199 eμ200
  have hKM201 : KM μ μ200 := by rw [eμ200]; exact hKM196.tr (KM_nar hq199)
  have hk202 : kd μ200 o = 13 := by rw [eμ200]; exact (KM_nar hq199).at hk197
  have hk203 : kd μ200 q199 = 102 := by rw [eμ200]; exact kd_nar
  have hc : (((((((((((((((((((((((0 + 1) + 1) + 1) + 1) + 1) + 1) + 1) + 1) + 1) + 1) + 1) + 1) + 1) + 1) + 1) + 1) + 1) + 1) + 1) + 1) + 1) + 1) + 1) + (((((((((((((((((((((((c - 1) - 1) - 1) - 1) - 1) - 1) - 1) - 1) - 1) - 1) - 1) - 1) - 1) - 1) - 1) - 1) - 1) - 1) - 1) - 1) - 1) - 1) - 1) ≤ c := by omega
  have hz : (((((((((((((((((((((((0 + (Int32.toNatClampNeg 10)) + (Int32.toNatClampNeg 60)) + (Int32.toNatClampNeg 60)) + (Int32.toNatClampNeg 60)) + (Int32.toNatClampNeg 60)) + (Int32.toNatClampNeg 480)) + (Int32.toNatClampNeg 60)) + (Int32.toNatClampNeg 120000)) + (Int32.toNatClampNeg 2000)) + (Int32.toNatClampNeg 2000)) + (Int32.toNatClampNeg 2000)) + (Int32.toNatClampNeg 2000)) + (Int32.toNatClampNeg 2000)) + (Int32.toNatClampNeg 2000)) + (Int32.toNatClampNeg 20000)) + (Int32.toNatClampNeg 20100)) + (Int32.toNatClampNeg 20100)) + (Int32.toNatClampNeg 20100)) + (Int32.toNatClampNeg 20100)) + (Int32.toNatClampNeg 7000)) + (Int32.toNatClampNeg 7000)) + (Int32.toNatClampNeg 7000)) + (Int32.toNatClampNeg 7000)) + (((((((((((((((((((((((z - (Int32.toNatClampNeg 10)) - (Int32.toNatClampNeg 60)) - (Int32.toNatClampNeg 60)) - (Int32.toNatClampNeg 60)) - (Int32.toNatClampNeg 60)) - (Int32.toNatClampNeg 480)) - (Int32.toNatClampNeg 60)) - (Int32.toNatClampNeg 120000)) - (Int32.toNatClampNeg 2000)) - (Int32.toNatClampNeg 2000)) - (Int32.toNatClampNeg 2000)) - (Int32.toNatClampNeg 2000)) - (Int32.toNatClampNeg 2000)) - (Int32.toNatClampNeg 2000)) - (Int32.toNatClampNeg 20000)) - (Int32.toNatClampNeg 20100)) - (Int32.toNatClampNeg 20100)) - (Int32.toNatClampNeg 20100)) - (Int32.toNatClampNeg 20100)) - (Int32.toNatClampNeg 7000)) - (Int32.toNatClampNeg 7000)) - (Int32.toNatClampNeg 7000)) - (Int32.toNatClampNeg 7000)) ≤ z := by omega
  refine my_putr (C := RX11) (F := TX11) (N := 59) (ci := 12) X M 30 rfl in_X11 tyX11 tyX11_ok nmX11 (by decide) rfl (by decide) kw_1160 (Or.inr ⟨hnm, rfl⟩) dX11_init_201 hk202 (some q199) (mq_na _ _) (mq_fa _ _) (fun μ204 H locs eμ204 M => ?_)
  replace hw := hw μ204 eμ204
  have hKM205 : KM μ μ204 := by rw [eμ204]; exact hKM201
  have hk206 : kd μ204 o = 13 := by rw [eμ204]; exact hk202
  have hk207 : kd μ204 q199 = 102 := by rw [eμ204]; exact hk203
  refine lv_aload_n X.1 X.2.1 dX11_init_204 rfl (lv_at hl 0 rfl) ?_
  refine lv_sipush (v := 7000) X.1 X.2.1 dX11_init_205 (by decide) ?_
  obtain ⟨hb0, hb3, hb1, hb2, hw⟩ := hw
  refine my_newI X M kw_128 dX11_init_208 hb0 hb3 (show (((((((((((((((((((((((0 + 1) + 1) + 1) + 1) + 1) + 1) + 1) + 1) + 1) + 1) + 1) + 1) + 1) + 1) + 1) + 1) + 1) + 1) + 1) + 1) + 1) + 1) + 1) + 1 ≤ c by omega) (show (((((((((((((((((((((((0 + (Int32.toNatClampNeg 10)) + (Int32.toNatClampNeg 60)) + (Int32.toNatClampNeg 60)) + (Int32.toNatClampNeg 60)) + (Int32.toNatClampNeg 60)) + (Int32.toNatClampNeg 480)) + (Int32.toNatClampNeg 60)) + (Int32.toNatClampNeg 120000)) + (Int32.toNatClampNeg 2000)) + (Int32.toNatClampNeg 2000)) + (Int32.toNatClampNeg 2000)) + (Int32.toNatClampNeg 2000)) + (Int32.toNatClampNeg 2000)) + (Int32.toNatClampNeg 2000)) + (Int32.toNatClampNeg 20000)) + (Int32.toNatClampNeg 20100)) + (Int32.toNatClampNeg 20100)) + (Int32.toNatClampNeg 20100)) + (Int32.toNatClampNeg 20100)) + (Int32.toNatClampNeg 7000)) + (Int32.toNatClampNeg 7000)) + (Int32.toNatClampNeg 7000)) + (Int32.toNatClampNeg 7000)) + (Int32.toNatClampNeg 7000) ≤ z by omega) (fun q208 μ209 H hq208 eμ209 M => ?_)
  replace hw := hw q208 μ209 hq208 eμ209
  have hKM210 : KM μ μ209 := by rw [eμ209]; exact hKM205.tr (KM_nar hq208)
  have hk211 : kd μ209 o = 13 := by rw [eμ209]; exact (KM_nar hq208).at hk206
  have hk212 : kd μ209 q208 = 102 := by rw [eμ209]; exact kd_nar
  have hc : ((((((((((((((((((((((((0 + 1) + 1) + 1) + 1) + 1) + 1) + 1) + 1) + 1) + 1) + 1) + 1) + 1) + 1) + 1) + 1) + 1) + 1) + 1) + 1) + 1) + 1) + 1) + 1) + ((((((((((((((((((((((((c - 1) - 1) - 1) - 1) - 1) - 1) - 1) - 1) - 1) - 1) - 1) - 1) - 1) - 1) - 1) - 1) - 1) - 1) - 1) - 1) - 1) - 1) - 1) - 1) ≤ c := by omega
  have hz : ((((((((((((((((((((((((0 + (Int32.toNatClampNeg 10)) + (Int32.toNatClampNeg 60)) + (Int32.toNatClampNeg 60)) + (Int32.toNatClampNeg 60)) + (Int32.toNatClampNeg 60)) + (Int32.toNatClampNeg 480)) + (Int32.toNatClampNeg 60)) + (Int32.toNatClampNeg 120000)) + (Int32.toNatClampNeg 2000)) + (Int32.toNatClampNeg 2000)) + (Int32.toNatClampNeg 2000)) + (Int32.toNatClampNeg 2000)) + (Int32.toNatClampNeg 2000)) + (Int32.toNatClampNeg 2000)) + (Int32.toNatClampNeg 20000)) + (Int32.toNatClampNeg 20100)) + (Int32.toNatClampNeg 20100)) + (Int32.toNatClampNeg 20100)) + (Int32.toNatClampNeg 20100)) + (Int32.toNatClampNeg 7000)) + (Int32.toNatClampNeg 7000)) + (Int32.toNatClampNeg 7000)) + (Int32.toNatClampNeg 7000)) + (Int32.toNatClampNeg 7000)) + ((((((((((((((((((((((((z - (Int32.toNatClampNeg 10)) - (Int32.toNatClampNeg 60)) - (Int32.toNatClampNeg 60)) - (Int32.toNatClampNeg 60)) - (Int32.toNatClampNeg 60)) - (Int32.toNatClampNeg 480)) - (Int32.toNatClampNeg 60)) - (Int32.toNatClampNeg 120000)) - (Int32.toNatClampNeg 2000)) - (Int32.toNatClampNeg 2000)) - (Int32.toNatClampNeg 2000)) - (Int32.toNatClampNeg 2000)) - (Int32.toNatClampNeg 2000)) - (Int32.toNatClampNeg 2000)) - (Int32.toNatClampNeg 20000)) - (Int32.toNatClampNeg 20100)) - (Int32.toNatClampNeg 20100)) - (Int32.toNatClampNeg 20100)) - (Int32.toNatClampNeg 20100)) - (Int32.toNatClampNeg 7000)) - (Int32.toNatClampNeg 7000)) - (Int32.toNatClampNeg 7000)) - (Int32.toNatClampNeg 7000)) - (Int32.toNatClampNeg 7000)) ≤ z := by omega
  refine my_putr (C := RX11) (F := TX11) (N := 59) (ci := 12) X M 31 rfl in_X11 tyX11 tyX11_ok nmX11 (by decide) rfl (by decide) kw_1161 (Or.inr ⟨hnm, rfl⟩) dX11_init_210 hk211 (some q208) (mq_na _ _) (mq_fa _ _) (fun μ213 H locs eμ213 M => ?_)
  replace hw := hw μ213 eμ213
  have hKM214 : KM μ μ213 := by rw [eμ213]; exact hKM210
  have hk215 : kd μ213 o = 13 := by rw [eμ213]; exact hk211
  have hk216 : kd μ213 q208 = 102 := by rw [eμ213]; exact hk212
  refine lv_aload_n X.1 X.2.1 dX11_init_213 rfl (lv_at hl 0 rfl) ?_
  refine lv_sipush (v := 7000) X.1 X.2.1 dX11_init_214 (by decide) ?_
  obtain ⟨hb0, hb3, hb1, hb2, hw⟩ := hw
  refine my_newI X M kw_128 dX11_init_217 hb0 hb3 (show ((((((((((((((((((((((((0 + 1) + 1) + 1) + 1) + 1) + 1) + 1) + 1) + 1) + 1) + 1) + 1) + 1) + 1) + 1) + 1) + 1) + 1) + 1) + 1) + 1) + 1) + 1) + 1) + 1 ≤ c by omega) (show ((((((((((((((((((((((((0 + (Int32.toNatClampNeg 10)) + (Int32.toNatClampNeg 60)) + (Int32.toNatClampNeg 60)) + (Int32.toNatClampNeg 60)) + (Int32.toNatClampNeg 60)) + (Int32.toNatClampNeg 480)) + (Int32.toNatClampNeg 60)) + (Int32.toNatClampNeg 120000)) + (Int32.toNatClampNeg 2000)) + (Int32.toNatClampNeg 2000)) + (Int32.toNatClampNeg 2000)) + (Int32.toNatClampNeg 2000)) + (Int32.toNatClampNeg 2000)) + (Int32.toNatClampNeg 2000)) + (Int32.toNatClampNeg 20000)) + (Int32.toNatClampNeg 20100)) + (Int32.toNatClampNeg 20100)) + (Int32.toNatClampNeg 20100)) + (Int32.toNatClampNeg 20100)) + (Int32.toNatClampNeg 7000)) + (Int32.toNatClampNeg 7000)) + (Int32.toNatClampNeg 7000)) + (Int32.toNatClampNeg 7000)) + (Int32.toNatClampNeg 7000)) + (Int32.toNatClampNeg 7000) ≤ z by omega) (fun q217 μ218 H hq217 eμ218 M => ?_)
  replace hw := hw q217 μ218 hq217 eμ218
  have hKM219 : KM μ μ218 := by rw [eμ218]; exact hKM214.tr (KM_nar hq217)
  have hk220 : kd μ218 o = 13 := by rw [eμ218]; exact (KM_nar hq217).at hk215
  have hk221 : kd μ218 q217 = 102 := by rw [eμ218]; exact kd_nar
  have hc : (((((((((((((((((((((((((0 + 1) + 1) + 1) + 1) + 1) + 1) + 1) + 1) + 1) + 1) + 1) + 1) + 1) + 1) + 1) + 1) + 1) + 1) + 1) + 1) + 1) + 1) + 1) + 1) + 1) + (((((((((((((((((((((((((c - 1) - 1) - 1) - 1) - 1) - 1) - 1) - 1) - 1) - 1) - 1) - 1) - 1) - 1) - 1) - 1) - 1) - 1) - 1) - 1) - 1) - 1) - 1) - 1) - 1) ≤ c := by omega
  have hz : (((((((((((((((((((((((((0 + (Int32.toNatClampNeg 10)) + (Int32.toNatClampNeg 60)) + (Int32.toNatClampNeg 60)) + (Int32.toNatClampNeg 60)) + (Int32.toNatClampNeg 60)) + (Int32.toNatClampNeg 480)) + (Int32.toNatClampNeg 60)) + (Int32.toNatClampNeg 120000)) + (Int32.toNatClampNeg 2000)) + (Int32.toNatClampNeg 2000)) + (Int32.toNatClampNeg 2000)) + (Int32.toNatClampNeg 2000)) + (Int32.toNatClampNeg 2000)) + (Int32.toNatClampNeg 2000)) + (Int32.toNatClampNeg 20000)) + (Int32.toNatClampNeg 20100)) + (Int32.toNatClampNeg 20100)) + (Int32.toNatClampNeg 20100)) + (Int32.toNatClampNeg 20100)) + (Int32.toNatClampNeg 7000)) + (Int32.toNatClampNeg 7000)) + (Int32.toNatClampNeg 7000)) + (Int32.toNatClampNeg 7000)) + (Int32.toNatClampNeg 7000)) + (Int32.toNatClampNeg 7000)) + (((((((((((((((((((((((((z - (Int32.toNatClampNeg 10)) - (Int32.toNatClampNeg 60)) - (Int32.toNatClampNeg 60)) - (Int32.toNatClampNeg 60)) - (Int32.toNatClampNeg 60)) - (Int32.toNatClampNeg 480)) - (Int32.toNatClampNeg 60)) - (Int32.toNatClampNeg 120000)) - (Int32.toNatClampNeg 2000)) - (Int32.toNatClampNeg 2000)) - (Int32.toNatClampNeg 2000)) - (Int32.toNatClampNeg 2000)) - (Int32.toNatClampNeg 2000)) - (Int32.toNatClampNeg 2000)) - (Int32.toNatClampNeg 20000)) - (Int32.toNatClampNeg 20100)) - (Int32.toNatClampNeg 20100)) - (Int32.toNatClampNeg 20100)) - (Int32.toNatClampNeg 20100)) - (Int32.toNatClampNeg 7000)) - (Int32.toNatClampNeg 7000)) - (Int32.toNatClampNeg 7000)) - (Int32.toNatClampNeg 7000)) - (Int32.toNatClampNeg 7000)) - (Int32.toNatClampNeg 7000)) ≤ z := by omega
  refine my_putr (C := RX11) (F := TX11) (N := 59) (ci := 12) X M 32 rfl in_X11 tyX11 tyX11_ok nmX11 (by decide) rfl (by decide) kw_1162 (Or.inr ⟨hnm, rfl⟩) dX11_init_219 hk220 (some q217) (mq_na _ _) (mq_fa _ _) (fun μ222 H locs eμ222 M => ?_)
  replace hw := hw μ222 eμ222
  have hKM223 : KM μ μ222 := by rw [eμ222]; exact hKM219
  have hk224 : kd μ222 o = 13 := by rw [eμ222]; exact hk220
  have hk225 : kd μ222 q217 = 102 := by rw [eμ222]; exact hk221
  refine lv_aload_n X.1 X.2.1 dX11_init_222 rfl (lv_at hl 0 rfl) ?_
  refine lv_sipush (v := 7000) X.1 X.2.1 dX11_init_223 (by decide) ?_
  obtain ⟨hb0, hb3, hb1, hb2, hw⟩ := hw
  refine my_newI X M kw_128 dX11_init_226 hb0 hb3 (show (((((((((((((((((((((((((0 + 1) + 1) + 1) + 1) + 1) + 1) + 1) + 1) + 1) + 1) + 1) + 1) + 1) + 1) + 1) + 1) + 1) + 1) + 1) + 1) + 1) + 1) + 1) + 1) + 1) + 1 ≤ c by omega) (show (((((((((((((((((((((((((0 + (Int32.toNatClampNeg 10)) + (Int32.toNatClampNeg 60)) + (Int32.toNatClampNeg 60)) + (Int32.toNatClampNeg 60)) + (Int32.toNatClampNeg 60)) + (Int32.toNatClampNeg 480)) + (Int32.toNatClampNeg 60)) + (Int32.toNatClampNeg 120000)) + (Int32.toNatClampNeg 2000)) + (Int32.toNatClampNeg 2000)) + (Int32.toNatClampNeg 2000)) + (Int32.toNatClampNeg 2000)) + (Int32.toNatClampNeg 2000)) + (Int32.toNatClampNeg 2000)) + (Int32.toNatClampNeg 20000)) + (Int32.toNatClampNeg 20100)) + (Int32.toNatClampNeg 20100)) + (Int32.toNatClampNeg 20100)) + (Int32.toNatClampNeg 20100)) + (Int32.toNatClampNeg 7000)) + (Int32.toNatClampNeg 7000)) + (Int32.toNatClampNeg 7000)) + (Int32.toNatClampNeg 7000)) + (Int32.toNatClampNeg 7000)) + (Int32.toNatClampNeg 7000)) + (Int32.toNatClampNeg 7000) ≤ z by omega) (fun q226 μ227 H hq226 eμ227 M => ?_)
  replace hw := hw q226 μ227 hq226 eμ227
  have hKM228 : KM μ μ227 := by rw [eμ227]; exact hKM223.tr (KM_nar hq226)
  have hk229 : kd μ227 o = 13 := by rw [eμ227]; exact (KM_nar hq226).at hk224
  have hk230 : kd μ227 q226 = 102 := by rw [eμ227]; exact kd_nar
  have hc : ((((((((((((((((((((((((((0 + 1) + 1) + 1) + 1) + 1) + 1) + 1) + 1) + 1) + 1) + 1) + 1) + 1) + 1) + 1) + 1) + 1) + 1) + 1) + 1) + 1) + 1) + 1) + 1) + 1) + 1) + ((((((((((((((((((((((((((c - 1) - 1) - 1) - 1) - 1) - 1) - 1) - 1) - 1) - 1) - 1) - 1) - 1) - 1) - 1) - 1) - 1) - 1) - 1) - 1) - 1) - 1) - 1) - 1) - 1) - 1) ≤ c := by omega
  have hz : ((((((((((((((((((((((((((0 + (Int32.toNatClampNeg 10)) + (Int32.toNatClampNeg 60)) + (Int32.toNatClampNeg 60)) + (Int32.toNatClampNeg 60)) + (Int32.toNatClampNeg 60)) + (Int32.toNatClampNeg 480)) + (Int32.toNatClampNeg 60)) + (Int32.toNatClampNeg 120000)) + (Int32.toNatClampNeg 2000)) + (Int32.toNatClampNeg 2000)) + (Int32.toNatClampNeg 2000)) + (Int32.toNatClampNeg 2000)) + (Int32.toNatClampNeg 2000)) + (Int32.toNatClampNeg 2000)) + (Int32.toNatClampNeg 20000)) + (Int32.toNatClampNeg 20100)) + (Int32.toNatClampNeg 20100)) + (Int32.toNatClampNeg 20100)) + (Int32.toNatClampNeg 20100)) + (Int32.toNatClampNeg 7000)) + (Int32.toNatClampNeg 7000)) + (Int32.toNatClampNeg 7000)) + (Int32.toNatClampNeg 7000)) + (Int32.toNatClampNeg 7000)) + (Int32.toNatClampNeg 7000)) + (Int32.toNatClampNeg 7000)) + ((((((((((((((((((((((((((z - (Int32.toNatClampNeg 10)) - (Int32.toNatClampNeg 60)) - (Int32.toNatClampNeg 60)) - (Int32.toNatClampNeg 60)) - (Int32.toNatClampNeg 60)) - (Int32.toNatClampNeg 480)) - (Int32.toNatClampNeg 60)) - (Int32.toNatClampNeg 120000)) - (Int32.toNatClampNeg 2000)) - (Int32.toNatClampNeg 2000)) - (Int32.toNatClampNeg 2000)) - (Int32.toNatClampNeg 2000)) - (Int32.toNatClampNeg 2000)) - (Int32.toNatClampNeg 2000)) - (Int32.toNatClampNeg 20000)) - (Int32.toNatClampNeg 20100)) - (Int32.toNatClampNeg 20100)) - (Int32.toNatClampNeg 20100)) - (Int32.toNatClampNeg 20100)) - (Int32.toNatClampNeg 7000)) - (Int32.toNatClampNeg 7000)) - (Int32.toNatClampNeg 7000)) - (Int32.toNatClampNeg 7000)) - (Int32.toNatClampNeg 7000)) - (Int32.toNatClampNeg 7000)) - (Int32.toNatClampNeg 7000)) ≤ z := by omega
  refine my_putr (C := RX11) (F := TX11) (N := 59) (ci := 12) X M 33 rfl in_X11 tyX11 tyX11_ok nmX11 (by decide) rfl (by decide) kw_1163 (Or.inr ⟨hnm, rfl⟩) dX11_init_228 hk229 (some q226) (mq_na _ _) (mq_fa _ _) (fun μ231 H locs eμ231 M => ?_)
  replace hw := hw μ231 eμ231
  have hKM232 : KM μ μ231 := by rw [eμ231]; exact hKM228
  have hk233 : kd μ231 o = 13 := by rw [eμ231]; exact hk229
  have hk234 : kd μ231 q226 = 102 := by rw [eμ231]; exact hk230
  refine lv_aload_n X.1 X.2.1 dX11_init_231 rfl (lv_at hl 0 rfl) ?_
  refine lv_sipush (v := 7000) X.1 X.2.1 dX11_init_232 (by decide) ?_
  obtain ⟨hb0, hb3, hb1, hb2, hw⟩ := hw
  refine my_newZ X M kw_1308 dX11_init_235 hb0 hb3 (show ((((((((((((((((((((((((((0 + 1) + 1) + 1) + 1) + 1) + 1) + 1) + 1) + 1) + 1) + 1) + 1) + 1) + 1) + 1) + 1) + 1) + 1) + 1) + 1) + 1) + 1) + 1) + 1) + 1) + 1) + 1 ≤ c by omega) (show ((((((((((((((((((((((((((0 + (Int32.toNatClampNeg 10)) + (Int32.toNatClampNeg 60)) + (Int32.toNatClampNeg 60)) + (Int32.toNatClampNeg 60)) + (Int32.toNatClampNeg 60)) + (Int32.toNatClampNeg 480)) + (Int32.toNatClampNeg 60)) + (Int32.toNatClampNeg 120000)) + (Int32.toNatClampNeg 2000)) + (Int32.toNatClampNeg 2000)) + (Int32.toNatClampNeg 2000)) + (Int32.toNatClampNeg 2000)) + (Int32.toNatClampNeg 2000)) + (Int32.toNatClampNeg 2000)) + (Int32.toNatClampNeg 20000)) + (Int32.toNatClampNeg 20100)) + (Int32.toNatClampNeg 20100)) + (Int32.toNatClampNeg 20100)) + (Int32.toNatClampNeg 20100)) + (Int32.toNatClampNeg 7000)) + (Int32.toNatClampNeg 7000)) + (Int32.toNatClampNeg 7000)) + (Int32.toNatClampNeg 7000)) + (Int32.toNatClampNeg 7000)) + (Int32.toNatClampNeg 7000)) + (Int32.toNatClampNeg 7000)) + (Int32.toNatClampNeg 7000) ≤ z by omega) (fun q235 μ236 H hq235 eμ236 M => ?_)
  replace hw := hw q235 μ236 hq235 eμ236
  have hKM237 : KM μ μ236 := by rw [eμ236]; exact hKM232.tr (KM_nar hq235)
  have hk238 : kd μ236 o = 13 := by rw [eμ236]; exact (KM_nar hq235).at hk233
  have hk239 : kd μ236 q235 = 104 := by rw [eμ236]; exact kd_nar
  have hc : (((((((((((((((((((((((((((0 + 1) + 1) + 1) + 1) + 1) + 1) + 1) + 1) + 1) + 1) + 1) + 1) + 1) + 1) + 1) + 1) + 1) + 1) + 1) + 1) + 1) + 1) + 1) + 1) + 1) + 1) + 1) + (((((((((((((((((((((((((((c - 1) - 1) - 1) - 1) - 1) - 1) - 1) - 1) - 1) - 1) - 1) - 1) - 1) - 1) - 1) - 1) - 1) - 1) - 1) - 1) - 1) - 1) - 1) - 1) - 1) - 1) - 1) ≤ c := by omega
  have hz : (((((((((((((((((((((((((((0 + (Int32.toNatClampNeg 10)) + (Int32.toNatClampNeg 60)) + (Int32.toNatClampNeg 60)) + (Int32.toNatClampNeg 60)) + (Int32.toNatClampNeg 60)) + (Int32.toNatClampNeg 480)) + (Int32.toNatClampNeg 60)) + (Int32.toNatClampNeg 120000)) + (Int32.toNatClampNeg 2000)) + (Int32.toNatClampNeg 2000)) + (Int32.toNatClampNeg 2000)) + (Int32.toNatClampNeg 2000)) + (Int32.toNatClampNeg 2000)) + (Int32.toNatClampNeg 2000)) + (Int32.toNatClampNeg 20000)) + (Int32.toNatClampNeg 20100)) + (Int32.toNatClampNeg 20100)) + (Int32.toNatClampNeg 20100)) + (Int32.toNatClampNeg 20100)) + (Int32.toNatClampNeg 7000)) + (Int32.toNatClampNeg 7000)) + (Int32.toNatClampNeg 7000)) + (Int32.toNatClampNeg 7000)) + (Int32.toNatClampNeg 7000)) + (Int32.toNatClampNeg 7000)) + (Int32.toNatClampNeg 7000)) + (Int32.toNatClampNeg 7000)) + (((((((((((((((((((((((((((z - (Int32.toNatClampNeg 10)) - (Int32.toNatClampNeg 60)) - (Int32.toNatClampNeg 60)) - (Int32.toNatClampNeg 60)) - (Int32.toNatClampNeg 60)) - (Int32.toNatClampNeg 480)) - (Int32.toNatClampNeg 60)) - (Int32.toNatClampNeg 120000)) - (Int32.toNatClampNeg 2000)) - (Int32.toNatClampNeg 2000)) - (Int32.toNatClampNeg 2000)) - (Int32.toNatClampNeg 2000)) - (Int32.toNatClampNeg 2000)) - (Int32.toNatClampNeg 2000)) - (Int32.toNatClampNeg 20000)) - (Int32.toNatClampNeg 20100)) - (Int32.toNatClampNeg 20100)) - (Int32.toNatClampNeg 20100)) - (Int32.toNatClampNeg 20100)) - (Int32.toNatClampNeg 7000)) - (Int32.toNatClampNeg 7000)) - (Int32.toNatClampNeg 7000)) - (Int32.toNatClampNeg 7000)) - (Int32.toNatClampNeg 7000)) - (Int32.toNatClampNeg 7000)) - (Int32.toNatClampNeg 7000)) - (Int32.toNatClampNeg 7000)) ≤ z := by omega
  refine my_putr (C := RX11) (F := TX11) (N := 59) (ci := 12) X M 34 rfl in_X11 tyX11 tyX11_ok nmX11 (by decide) rfl (by decide) kw_1164 (Or.inr ⟨hnm, rfl⟩) dX11_init_237 hk238 (some q235) (mq_na _ _) (mq_fa _ _) (fun μ240 H locs eμ240 M => ?_)
  replace hw := hw μ240 eμ240
  have hKM241 : KM μ μ240 := by rw [eμ240]; exact hKM237
  have hk242 : kd μ240 o = 13 := by rw [eμ240]; exact hk238
  have hk243 : kd μ240 q235 = 104 := by rw [eμ240]; exact hk239
  refine lv_aload_n X.1 X.2.1 dX11_init_240 rfl (lv_at hl 0 rfl) ?_
  refine lv_sipush (v := 7000) X.1 X.2.1 dX11_init_241 (by decide) ?_
  obtain ⟨hb0, hb3, hb1, hb2, hw⟩ := hw
  refine my_newI X M kw_128 dX11_init_244 hb0 hb3 (show (((((((((((((((((((((((((((0 + 1) + 1) + 1) + 1) + 1) + 1) + 1) + 1) + 1) + 1) + 1) + 1) + 1) + 1) + 1) + 1) + 1) + 1) + 1) + 1) + 1) + 1) + 1) + 1) + 1) + 1) + 1) + 1 ≤ c by omega) (show (((((((((((((((((((((((((((0 + (Int32.toNatClampNeg 10)) + (Int32.toNatClampNeg 60)) + (Int32.toNatClampNeg 60)) + (Int32.toNatClampNeg 60)) + (Int32.toNatClampNeg 60)) + (Int32.toNatClampNeg 480)) + (Int32.toNatClampNeg 60)) + (Int32.toNatClampNeg 120000)) + (Int32.toNatClampNeg 2000)) + (Int32.toNatClampNeg 2000)) + (Int32.toNatClampNeg 2000)) + (Int32.toNatClampNeg 2000)) + (Int32.toNatClampNeg 2000)) + (Int32.toNatClampNeg 2000)) + (Int32.toNatClampNeg 20000)) + (Int32.toNatClampNeg 20100)) + (Int32.toNatClampNeg 20100)) + (Int32.toNatClampNeg 20100)) + (Int32.toNatClampNeg 20100)) + (Int32.toNatClampNeg 7000)) + (Int32.toNatClampNeg 7000)) + (Int32.toNatClampNeg 7000)) + (Int32.toNatClampNeg 7000)) + (Int32.toNatClampNeg 7000)) + (Int32.toNatClampNeg 7000)) + (Int32.toNatClampNeg 7000)) + (Int32.toNatClampNeg 7000)) + (Int32.toNatClampNeg 7000) ≤ z by omega) (fun q244 μ245 H hq244 eμ245 M => ?_)
  replace hw := hw q244 μ245 hq244 eμ245
  have hKM246 : KM μ μ245 := by rw [eμ245]; exact hKM241.tr (KM_nar hq244)
  have hk247 : kd μ245 o = 13 := by rw [eμ245]; exact (KM_nar hq244).at hk242
  have hk248 : kd μ245 q244 = 102 := by rw [eμ245]; exact kd_nar
  have hc : ((((((((((((((((((((((((((((0 + 1) + 1) + 1) + 1) + 1) + 1) + 1) + 1) + 1) + 1) + 1) + 1) + 1) + 1) + 1) + 1) + 1) + 1) + 1) + 1) + 1) + 1) + 1) + 1) + 1) + 1) + 1) + 1) + ((((((((((((((((((((((((((((c - 1) - 1) - 1) - 1) - 1) - 1) - 1) - 1) - 1) - 1) - 1) - 1) - 1) - 1) - 1) - 1) - 1) - 1) - 1) - 1) - 1) - 1) - 1) - 1) - 1) - 1) - 1) - 1) ≤ c := by omega
  have hz : ((((((((((((((((((((((((((((0 + (Int32.toNatClampNeg 10)) + (Int32.toNatClampNeg 60)) + (Int32.toNatClampNeg 60)) + (Int32.toNatClampNeg 60)) + (Int32.toNatClampNeg 60)) + (Int32.toNatClampNeg 480)) + (Int32.toNatClampNeg 60)) + (Int32.toNatClampNeg 120000)) + (Int32.toNatClampNeg 2000)) + (Int32.toNatClampNeg 2000)) + (Int32.toNatClampNeg 2000)) + (Int32.toNatClampNeg 2000)) + (Int32.toNatClampNeg 2000)) + (Int32.toNatClampNeg 2000)) + (Int32.toNatClampNeg 20000)) + (Int32.toNatClampNeg 20100)) + (Int32.toNatClampNeg 20100)) + (Int32.toNatClampNeg 20100)) + (Int32.toNatClampNeg 20100)) + (Int32.toNatClampNeg 7000)) + (Int32.toNatClampNeg 7000)) + (Int32.toNatClampNeg 7000)) + (Int32.toNatClampNeg 7000)) + (Int32.toNatClampNeg 7000)) + (Int32.toNatClampNeg 7000)) + (Int32.toNatClampNeg 7000)) + (Int32.toNatClampNeg 7000)) + (Int32.toNatClampNeg 7000)) + ((((((((((((((((((((((((((((z - (Int32.toNatClampNeg 10)) - (Int32.toNatClampNeg 60)) - (Int32.toNatClampNeg 60)) - (Int32.toNatClampNeg 60)) - (Int32.toNatClampNeg 60)) - (Int32.toNatClampNeg 480)) - (Int32.toNatClampNeg 60)) - (Int32.toNatClampNeg 120000)) - (Int32.toNatClampNeg 2000)) - (Int32.toNatClampNeg 2000)) - (Int32.toNatClampNeg 2000)) - (Int32.toNatClampNeg 2000)) - (Int32.toNatClampNeg 2000)) - (Int32.toNatClampNeg 2000)) - (Int32.toNatClampNeg 20000)) - (Int32.toNatClampNeg 20100)) - (Int32.toNatClampNeg 20100)) - (Int32.toNatClampNeg 20100)) - (Int32.toNatClampNeg 20100)) - (Int32.toNatClampNeg 7000)) - (Int32.toNatClampNeg 7000)) - (Int32.toNatClampNeg 7000)) - (Int32.toNatClampNeg 7000)) - (Int32.toNatClampNeg 7000)) - (Int32.toNatClampNeg 7000)) - (Int32.toNatClampNeg 7000)) - (Int32.toNatClampNeg 7000)) - (Int32.toNatClampNeg 7000)) ≤ z := by omega
  refine my_putr (C := RX11) (F := TX11) (N := 59) (ci := 12) X M 35 rfl in_X11 tyX11 tyX11_ok nmX11 (by decide) rfl (by decide) kw_1165 (Or.inr ⟨hnm, rfl⟩) dX11_init_246 hk247 (some q244) (mq_na _ _) (mq_fa _ _) (fun μ249 H locs eμ249 M => ?_)
  replace hw := hw μ249 eμ249
  have hKM250 : KM μ μ249 := by rw [eμ249]; exact hKM246
  have hk251 : kd μ249 o = 13 := by rw [eμ249]; exact hk247
  have hk252 : kd μ249 q244 = 102 := by rw [eμ249]; exact hk248
  refine lv_aload_n X.1 X.2.1 dX11_init_249 rfl (lv_at hl 0 rfl) ?_
  refine lv_sipush (v := 7000) X.1 X.2.1 dX11_init_250 (by decide) ?_
  obtain ⟨hb0, hb3, hb1, hb2, hw⟩ := hw
  refine my_newI X M kw_128 dX11_init_253 hb0 hb3 (show ((((((((((((((((((((((((((((0 + 1) + 1) + 1) + 1) + 1) + 1) + 1) + 1) + 1) + 1) + 1) + 1) + 1) + 1) + 1) + 1) + 1) + 1) + 1) + 1) + 1) + 1) + 1) + 1) + 1) + 1) + 1) + 1) + 1 ≤ c by omega) (show ((((((((((((((((((((((((((((0 + (Int32.toNatClampNeg 10)) + (Int32.toNatClampNeg 60)) + (Int32.toNatClampNeg 60)) + (Int32.toNatClampNeg 60)) + (Int32.toNatClampNeg 60)) + (Int32.toNatClampNeg 480)) + (Int32.toNatClampNeg 60)) + (Int32.toNatClampNeg 120000)) + (Int32.toNatClampNeg 2000)) + (Int32.toNatClampNeg 2000)) + (Int32.toNatClampNeg 2000)) + (Int32.toNatClampNeg 2000)) + (Int32.toNatClampNeg 2000)) + (Int32.toNatClampNeg 2000)) + (Int32.toNatClampNeg 20000)) + (Int32.toNatClampNeg 20100)) + (Int32.toNatClampNeg 20100)) + (Int32.toNatClampNeg 20100)) + (Int32.toNatClampNeg 20100)) + (Int32.toNatClampNeg 7000)) + (Int32.toNatClampNeg 7000)) + (Int32.toNatClampNeg 7000)) + (Int32.toNatClampNeg 7000)) + (Int32.toNatClampNeg 7000)) + (Int32.toNatClampNeg 7000)) + (Int32.toNatClampNeg 7000)) + (Int32.toNatClampNeg 7000)) + (Int32.toNatClampNeg 7000)) + (Int32.toNatClampNeg 7000) ≤ z by omega) (fun q253 μ254 H hq253 eμ254 M => ?_)
  replace hw := hw q253 μ254 hq253 eμ254
  have hKM255 : KM μ μ254 := by rw [eμ254]; exact hKM250.tr (KM_nar hq253)
  have hk256 : kd μ254 o = 13 := by rw [eμ254]; exact (KM_nar hq253).at hk251
  have hk257 : kd μ254 q253 = 102 := by rw [eμ254]; exact kd_nar
  have hc : (((((((((((((((((((((((((((((0 + 1) + 1) + 1) + 1) + 1) + 1) + 1) + 1) + 1) + 1) + 1) + 1) + 1) + 1) + 1) + 1) + 1) + 1) + 1) + 1) + 1) + 1) + 1) + 1) + 1) + 1) + 1) + 1) + 1) + (((((((((((((((((((((((((((((c - 1) - 1) - 1) - 1) - 1) - 1) - 1) - 1) - 1) - 1) - 1) - 1) - 1) - 1) - 1) - 1) - 1) - 1) - 1) - 1) - 1) - 1) - 1) - 1) - 1) - 1) - 1) - 1) - 1) ≤ c := by omega
  have hz : (((((((((((((((((((((((((((((0 + (Int32.toNatClampNeg 10)) + (Int32.toNatClampNeg 60)) + (Int32.toNatClampNeg 60)) + (Int32.toNatClampNeg 60)) + (Int32.toNatClampNeg 60)) + (Int32.toNatClampNeg 480)) + (Int32.toNatClampNeg 60)) + (Int32.toNatClampNeg 120000)) + (Int32.toNatClampNeg 2000)) + (Int32.toNatClampNeg 2000)) + (Int32.toNatClampNeg 2000)) + (Int32.toNatClampNeg 2000)) + (Int32.toNatClampNeg 2000)) + (Int32.toNatClampNeg 2000)) + (Int32.toNatClampNeg 20000)) + (Int32.toNatClampNeg 20100)) + (Int32.toNatClampNeg 20100)) + (Int32.toNatClampNeg 20100)) + (Int32.toNatClampNeg 20100)) + (Int32.toNatClampNeg 7000)) + (Int32.toNatClampNeg 7000)) + (Int32.toNatClampNeg 7000)) + (Int32.toNatClampNeg 7000)) + (Int32.toNatClampNeg 7000)) + (Int32.toNatClampNeg 7000)) + (Int32.toNatClampNeg 7000)) + (Int32.toNatClampNeg 7000)) + (Int32.toNatClampNeg 7000)) + (Int32.toNatClampNeg 7000)) + (((((((((((((((((((((((((((((z - (Int32.toNatClampNeg 10)) - (Int32.toNatClampNeg 60)) - (Int32.toNatClampNeg 60)) - (Int32.toNatClampNeg 60)) - (Int32.toNatClampNeg 60)) - (Int32.toNatClampNeg 480)) - (Int32.toNatClampNeg 60)) - (Int32.toNatClampNeg 120000)) - (Int32.toNatClampNeg 2000)) - (Int32.toNatClampNeg 2000)) - (Int32.toNatClampNeg 2000)) - (Int32.toNatClampNeg 2000)) - (Int32.toNatClampNeg 2000)) - (Int32.toNatClampNeg 2000)) - (Int32.toNatClampNeg 20000)) - (Int32.toNatClampNeg 20100)) - (Int32.toNatClampNeg 20100)) - (Int32.toNatClampNeg 20100)) - (Int32.toNatClampNeg 20100)) - (Int32.toNatClampNeg 7000)) - (Int32.toNatClampNeg 7000)) - (Int32.toNatClampNeg 7000)) - (Int32.toNatClampNeg 7000)) - (Int32.toNatClampNeg 7000)) - (Int32.toNatClampNeg 7000)) - (Int32.toNatClampNeg 7000)) - (Int32.toNatClampNeg 7000)) - (Int32.toNatClampNeg 7000)) - (Int32.toNatClampNeg 7000)) ≤ z := by omega
  refine my_putr (C := RX11) (F := TX11) (N := 59) (ci := 12) X M 36 rfl in_X11 tyX11 tyX11_ok nmX11 (by decide) rfl (by decide) kw_1166 (Or.inr ⟨hnm, rfl⟩) dX11_init_255 hk256 (some q253) (mq_na _ _) (mq_fa _ _) (fun μ258 H locs eμ258 M => ?_)
  replace hw := hw μ258 eμ258
  have hKM259 : KM μ μ258 := by rw [eμ258]; exact hKM255
  have hk260 : kd μ258 o = 13 := by rw [eμ258]; exact hk256
  have hk261 : kd μ258 q253 = 102 := by rw [eμ258]; exact hk257
  refine lv_aload_n X.1 X.2.1 dX11_init_258 rfl (lv_at hl 0 rfl) ?_
  refine lv_sipush (v := 7000) X.1 X.2.1 dX11_init_259 (by decide) ?_
  obtain ⟨hb0, hb3, hb1, hb2, hw⟩ := hw
  refine my_newI X M kw_128 dX11_init_262 hb0 hb3 (show (((((((((((((((((((((((((((((0 + 1) + 1) + 1) + 1) + 1) + 1) + 1) + 1) + 1) + 1) + 1) + 1) + 1) + 1) + 1) + 1) + 1) + 1) + 1) + 1) + 1) + 1) + 1) + 1) + 1) + 1) + 1) + 1) + 1) + 1 ≤ c by omega) (show (((((((((((((((((((((((((((((0 + (Int32.toNatClampNeg 10)) + (Int32.toNatClampNeg 60)) + (Int32.toNatClampNeg 60)) + (Int32.toNatClampNeg 60)) + (Int32.toNatClampNeg 60)) + (Int32.toNatClampNeg 480)) + (Int32.toNatClampNeg 60)) + (Int32.toNatClampNeg 120000)) + (Int32.toNatClampNeg 2000)) + (Int32.toNatClampNeg 2000)) + (Int32.toNatClampNeg 2000)) + (Int32.toNatClampNeg 2000)) + (Int32.toNatClampNeg 2000)) + (Int32.toNatClampNeg 2000)) + (Int32.toNatClampNeg 20000)) + (Int32.toNatClampNeg 20100)) + (Int32.toNatClampNeg 20100)) + (Int32.toNatClampNeg 20100)) + (Int32.toNatClampNeg 20100)) + (Int32.toNatClampNeg 7000)) + (Int32.toNatClampNeg 7000)) + (Int32.toNatClampNeg 7000)) + (Int32.toNatClampNeg 7000)) + (Int32.toNatClampNeg 7000)) + (Int32.toNatClampNeg 7000)) + (Int32.toNatClampNeg 7000)) + (Int32.toNatClampNeg 7000)) + (Int32.toNatClampNeg 7000)) + (Int32.toNatClampNeg 7000)) + (Int32.toNatClampNeg 7000) ≤ z by omega) (fun q262 μ263 H hq262 eμ263 M => ?_)
  replace hw := hw q262 μ263 hq262 eμ263
  have hKM264 : KM μ μ263 := by rw [eμ263]; exact hKM259.tr (KM_nar hq262)
  have hk265 : kd μ263 o = 13 := by rw [eμ263]; exact (KM_nar hq262).at hk260
  have hk266 : kd μ263 q262 = 102 := by rw [eμ263]; exact kd_nar
  have hc : ((((((((((((((((((((((((((((((0 + 1) + 1) + 1) + 1) + 1) + 1) + 1) + 1) + 1) + 1) + 1) + 1) + 1) + 1) + 1) + 1) + 1) + 1) + 1) + 1) + 1) + 1) + 1) + 1) + 1) + 1) + 1) + 1) + 1) + 1) + ((((((((((((((((((((((((((((((c - 1) - 1) - 1) - 1) - 1) - 1) - 1) - 1) - 1) - 1) - 1) - 1) - 1) - 1) - 1) - 1) - 1) - 1) - 1) - 1) - 1) - 1) - 1) - 1) - 1) - 1) - 1) - 1) - 1) - 1) ≤ c := by omega
  have hz : ((((((((((((((((((((((((((((((0 + (Int32.toNatClampNeg 10)) + (Int32.toNatClampNeg 60)) + (Int32.toNatClampNeg 60)) + (Int32.toNatClampNeg 60)) + (Int32.toNatClampNeg 60)) + (Int32.toNatClampNeg 480)) + (Int32.toNatClampNeg 60)) + (Int32.toNatClampNeg 120000)) + (Int32.toNatClampNeg 2000)) + (Int32.toNatClampNeg 2000)) + (Int32.toNatClampNeg 2000)) + (Int32.toNatClampNeg 2000)) + (Int32.toNatClampNeg 2000)) + (Int32.toNatClampNeg 2000)) + (Int32.toNatClampNeg 20000)) + (Int32.toNatClampNeg 20100)) + (Int32.toNatClampNeg 20100)) + (Int32.toNatClampNeg 20100)) + (Int32.toNatClampNeg 20100)) + (Int32.toNatClampNeg 7000)) + (Int32.toNatClampNeg 7000)) + (Int32.toNatClampNeg 7000)) + (Int32.toNatClampNeg 7000)) + (Int32.toNatClampNeg 7000)) + (Int32.toNatClampNeg 7000)) + (Int32.toNatClampNeg 7000)) + (Int32.toNatClampNeg 7000)) + (Int32.toNatClampNeg 7000)) + (Int32.toNatClampNeg 7000)) + (Int32.toNatClampNeg 7000)) + ((((((((((((((((((((((((((((((z - (Int32.toNatClampNeg 10)) - (Int32.toNatClampNeg 60)) - (Int32.toNatClampNeg 60)) - (Int32.toNatClampNeg 60)) - (Int32.toNatClampNeg 60)) - (Int32.toNatClampNeg 480)) - (Int32.toNatClampNeg 60)) - (Int32.toNatClampNeg 120000)) - (Int32.toNatClampNeg 2000)) - (Int32.toNatClampNeg 2000)) - (Int32.toNatClampNeg 2000)) - (Int32.toNatClampNeg 2000)) - (Int32.toNatClampNeg 2000)) - (Int32.toNatClampNeg 2000)) - (Int32.toNatClampNeg 20000)) - (Int32.toNatClampNeg 20100)) - (Int32.toNatClampNeg 20100)) - (Int32.toNatClampNeg 20100)) - (Int32.toNatClampNeg 20100)) - (Int32.toNatClampNeg 7000)) - (Int32.toNatClampNeg 7000)) - (Int32.toNatClampNeg 7000)) - (Int32.toNatClampNeg 7000)) - (Int32.toNatClampNeg 7000)) - (Int32.toNatClampNeg 7000)) - (Int32.toNatClampNeg 7000)) - (Int32.toNatClampNeg 7000)) - (Int32.toNatClampNeg 7000)) - (Int32.toNatClampNeg 7000)) - (Int32.toNatClampNeg 7000)) ≤ z := by omega
  refine my_putr (C := RX11) (F := TX11) (N := 59) (ci := 12) X M 37 rfl in_X11 tyX11 tyX11_ok nmX11 (by decide) rfl (by decide) kw_1167 (Or.inr ⟨hnm, rfl⟩) dX11_init_264 hk265 (some q262) (mq_na _ _) (mq_fa _ _) (fun μ267 H locs eμ267 M => ?_)
  replace hw := hw μ267 eμ267
  have hKM268 : KM μ μ267 := by rw [eμ267]; exact hKM264
  have hk269 : kd μ267 o = 13 := by rw [eμ267]; exact hk265
  have hk270 : kd μ267 q262 = 102 := by rw [eμ267]; exact hk266
  refine lv_aload_n X.1 X.2.1 dX11_init_267 rfl (lv_at hl 0 rfl) ?_
  refine lv_sipush (v := 7000) X.1 X.2.1 dX11_init_268 (by decide) ?_
  obtain ⟨hb0, hb3, hb1, hb2, hw⟩ := hw
  refine my_newI X M kw_128 dX11_init_271 hb0 hb3 (show ((((((((((((((((((((((((((((((0 + 1) + 1) + 1) + 1) + 1) + 1) + 1) + 1) + 1) + 1) + 1) + 1) + 1) + 1) + 1) + 1) + 1) + 1) + 1) + 1) + 1) + 1) + 1) + 1) + 1) + 1) + 1) + 1) + 1) + 1) + 1 ≤ c by omega) (show ((((((((((((((((((((((((((((((0 + (Int32.toNatClampNeg 10)) + (Int32.toNatClampNeg 60)) + (Int32.toNatClampNeg 60)) + (Int32.toNatClampNeg 60)) + (Int32.toNatClampNeg 60)) + (Int32.toNatClampNeg 480)) + (Int32.toNatClampNeg 60)) + (Int32.toNatClampNeg 120000)) + (Int32.toNatClampNeg 2000)) + (Int32.toNatClampNeg 2000)) + (Int32.toNatClampNeg 2000)) + (Int32.toNatClampNeg 2000)) + (Int32.toNatClampNeg 2000)) + (Int32.toNatClampNeg 2000)) + (Int32.toNatClampNeg 20000)) + (Int32.toNatClampNeg 20100)) + (Int32.toNatClampNeg 20100)) + (Int32.toNatClampNeg 20100)) + (Int32.toNatClampNeg 20100)) + (Int32.toNatClampNeg 7000)) + (Int32.toNatClampNeg 7000)) + (Int32.toNatClampNeg 7000)) + (Int32.toNatClampNeg 7000)) + (Int32.toNatClampNeg 7000)) + (Int32.toNatClampNeg 7000)) + (Int32.toNatClampNeg 7000)) + (Int32.toNatClampNeg 7000)) + (Int32.toNatClampNeg 7000)) + (Int32.toNatClampNeg 7000)) + (Int32.toNatClampNeg 7000)) + (Int32.toNatClampNeg 7000) ≤ z by omega) (fun q271 μ272 H hq271 eμ272 M => ?_)
  replace hw := hw q271 μ272 hq271 eμ272
  have hKM273 : KM μ μ272 := by rw [eμ272]; exact hKM268.tr (KM_nar hq271)
  have hk274 : kd μ272 o = 13 := by rw [eμ272]; exact (KM_nar hq271).at hk269
  have hk275 : kd μ272 q271 = 102 := by rw [eμ272]; exact kd_nar
  have hc : (((((((((((((((((((((((((((((((0 + 1) + 1) + 1) + 1) + 1) + 1) + 1) + 1) + 1) + 1) + 1) + 1) + 1) + 1) + 1) + 1) + 1) + 1) + 1) + 1) + 1) + 1) + 1) + 1) + 1) + 1) + 1) + 1) + 1) + 1) + 1) + (((((((((((((((((((((((((((((((c - 1) - 1) - 1) - 1) - 1) - 1) - 1) - 1) - 1) - 1) - 1) - 1) - 1) - 1) - 1) - 1) - 1) - 1) - 1) - 1) - 1) - 1) - 1) - 1) - 1) - 1) - 1) - 1) - 1) - 1) - 1) ≤ c := by omega
  have hz : (((((((((((((((((((((((((((((((0 + (Int32.toNatClampNeg 10)) + (Int32.toNatClampNeg 60)) + (Int32.toNatClampNeg 60)) + (Int32.toNatClampNeg 60)) + (Int32.toNatClampNeg 60)) + (Int32.toNatClampNeg 480)) + (Int32.toNatClampNeg 60)) + (Int32.toNatClampNeg 120000)) + (Int32.toNatClampNeg 2000)) + (Int32.toNatClampNeg 2000)) + (Int32.toNatClampNeg 2000)) + (Int32.toNatClampNeg 2000)) + (Int32.toNatClampNeg 2000)) + (Int32.toNatClampNeg 2000)) + (Int32.toNatClampNeg 20000)) + (Int32.toNatClampNeg 20100)) + (Int32.toNatClampNeg 20100)) + (Int32.toNatClampNeg 20100)) + (Int32.toNatClampNeg 20100)) + (Int32.toNatClampNeg 7000)) + (Int32.toNatClampNeg 7000)) + (Int32.toNatClampNeg 7000)) + (Int32.toNatClampNeg 7000)) + (Int32.toNatClampNeg 7000)) + (Int32.toNatClampNeg 7000)) + (Int32.toNatClampNeg 7000)) + (Int32.toNatClampNeg 7000)) + (Int32.toNatClampNeg 7000)) + (Int32.toNatClampNeg 7000)) + (Int32.toNatClampNeg 7000)) + (Int32.toNatClampNeg 7000)) + (((((((((((((((((((((((((((((((z - (Int32.toNatClampNeg 10)) - (Int32.toNatClampNeg 60)) - (Int32.toNatClampNeg 60)) - (Int32.toNatClampNeg 60)) - (Int32.toNatClampNeg 60)) - (Int32.toNatClampNeg 480)) - (Int32.toNatClampNeg 60)) - (Int32.toNatClampNeg 120000)) - (Int32.toNatClampNeg 2000)) - (Int32.toNatClampNeg 2000)) - (Int32.toNatClampNeg 2000)) - (Int32.toNatClampNeg 2000)) - (Int32.toNatClampNeg 2000)) - (Int32.toNatClampNeg 2000)) - (Int32.toNatClampNeg 20000)) - (Int32.toNatClampNeg 20100)) - (Int32.toNatClampNeg 20100)) - (Int32.toNatClampNeg 20100)) - (Int32.toNatClampNeg 20100)) - (Int32.toNatClampNeg 7000)) - (Int32.toNatClampNeg 7000)) - (Int32.toNatClampNeg 7000)) - (Int32.toNatClampNeg 7000)) - (Int32.toNatClampNeg 7000)) - (Int32.toNatClampNeg 7000)) - (Int32.toNatClampNeg 7000)) - (Int32.toNatClampNeg 7000)) - (Int32.toNatClampNeg 7000)) - (Int32.toNatClampNeg 7000)) - (Int32.toNatClampNeg 7000)) - (Int32.toNatClampNeg 7000)) ≤ z := by omega
  refine my_putr (C := RX11) (F := TX11) (N := 59) (ci := 12) X M 38 rfl in_X11 tyX11 tyX11_ok nmX11 (by decide) rfl (by decide) kw_1168 (Or.inr ⟨hnm, rfl⟩) dX11_init_273 hk274 (some q271) (mq_na _ _) (mq_fa _ _) (fun μ276 H locs eμ276 M => ?_)
  replace hw := hw μ276 eμ276
  have hKM277 : KM μ μ276 := by rw [eμ276]; exact hKM273
  have hk278 : kd μ276 o = 13 := by rw [eμ276]; exact hk274
  have hk279 : kd μ276 q271 = 102 := by rw [eμ276]; exact hk275
  refine lv_aload_n X.1 X.2.1 dX11_init_276 rfl (lv_at hl 0 rfl) ?_
  refine lv_sipush (v := 20100) X.1 X.2.1 dX11_init_277 (by decide) ?_
  obtain ⟨hb0, hb3, hb1, hb2, hw⟩ := hw
  refine my_newJ X M kw_156 dX11_init_280 hb0 hb3 (show (((((((((((((((((((((((((((((((0 + 1) + 1) + 1) + 1) + 1) + 1) + 1) + 1) + 1) + 1) + 1) + 1) + 1) + 1) + 1) + 1) + 1) + 1) + 1) + 1) + 1) + 1) + 1) + 1) + 1) + 1) + 1) + 1) + 1) + 1) + 1) + 1 ≤ c by omega) (show (((((((((((((((((((((((((((((((0 + (Int32.toNatClampNeg 10)) + (Int32.toNatClampNeg 60)) + (Int32.toNatClampNeg 60)) + (Int32.toNatClampNeg 60)) + (Int32.toNatClampNeg 60)) + (Int32.toNatClampNeg 480)) + (Int32.toNatClampNeg 60)) + (Int32.toNatClampNeg 120000)) + (Int32.toNatClampNeg 2000)) + (Int32.toNatClampNeg 2000)) + (Int32.toNatClampNeg 2000)) + (Int32.toNatClampNeg 2000)) + (Int32.toNatClampNeg 2000)) + (Int32.toNatClampNeg 2000)) + (Int32.toNatClampNeg 20000)) + (Int32.toNatClampNeg 20100)) + (Int32.toNatClampNeg 20100)) + (Int32.toNatClampNeg 20100)) + (Int32.toNatClampNeg 20100)) + (Int32.toNatClampNeg 7000)) + (Int32.toNatClampNeg 7000)) + (Int32.toNatClampNeg 7000)) + (Int32.toNatClampNeg 7000)) + (Int32.toNatClampNeg 7000)) + (Int32.toNatClampNeg 7000)) + (Int32.toNatClampNeg 7000)) + (Int32.toNatClampNeg 7000)) + (Int32.toNatClampNeg 7000)) + (Int32.toNatClampNeg 7000)) + (Int32.toNatClampNeg 7000)) + (Int32.toNatClampNeg 7000)) + (Int32.toNatClampNeg 20100) ≤ z by omega) (fun q280 μ281 H hq280 eμ281 M => ?_)
  replace hw := hw q280 μ281 hq280 eμ281
  have hKM282 : KM μ μ281 := by rw [eμ281]; exact hKM277.tr (KM_nar hq280)
  have hk283 : kd μ281 o = 13 := by rw [eμ281]; exact (KM_nar hq280).at hk278
  have hk284 : kd μ281 q280 = 103 := by rw [eμ281]; exact kd_nar
  have hc : ((((((((((((((((((((((((((((((((0 + 1) + 1) + 1) + 1) + 1) + 1) + 1) + 1) + 1) + 1) + 1) + 1) + 1) + 1) + 1) + 1) + 1) + 1) + 1) + 1) + 1) + 1) + 1) + 1) + 1) + 1) + 1) + 1) + 1) + 1) + 1) + 1) + ((((((((((((((((((((((((((((((((c - 1) - 1) - 1) - 1) - 1) - 1) - 1) - 1) - 1) - 1) - 1) - 1) - 1) - 1) - 1) - 1) - 1) - 1) - 1) - 1) - 1) - 1) - 1) - 1) - 1) - 1) - 1) - 1) - 1) - 1) - 1) - 1) ≤ c := by omega
  have hz : ((((((((((((((((((((((((((((((((0 + (Int32.toNatClampNeg 10)) + (Int32.toNatClampNeg 60)) + (Int32.toNatClampNeg 60)) + (Int32.toNatClampNeg 60)) + (Int32.toNatClampNeg 60)) + (Int32.toNatClampNeg 480)) + (Int32.toNatClampNeg 60)) + (Int32.toNatClampNeg 120000)) + (Int32.toNatClampNeg 2000)) + (Int32.toNatClampNeg 2000)) + (Int32.toNatClampNeg 2000)) + (Int32.toNatClampNeg 2000)) + (Int32.toNatClampNeg 2000)) + (Int32.toNatClampNeg 2000)) + (Int32.toNatClampNeg 20000)) + (Int32.toNatClampNeg 20100)) + (Int32.toNatClampNeg 20100)) + (Int32.toNatClampNeg 20100)) + (Int32.toNatClampNeg 20100)) + (Int32.toNatClampNeg 7000)) + (Int32.toNatClampNeg 7000)) + (Int32.toNatClampNeg 7000)) + (Int32.toNatClampNeg 7000)) + (Int32.toNatClampNeg 7000)) + (Int32.toNatClampNeg 7000)) + (Int32.toNatClampNeg 7000)) + (Int32.toNatClampNeg 7000)) + (Int32.toNatClampNeg 7000)) + (Int32.toNatClampNeg 7000)) + (Int32.toNatClampNeg 7000)) + (Int32.toNatClampNeg 7000)) + (Int32.toNatClampNeg 20100)) + ((((((((((((((((((((((((((((((((z - (Int32.toNatClampNeg 10)) - (Int32.toNatClampNeg 60)) - (Int32.toNatClampNeg 60)) - (Int32.toNatClampNeg 60)) - (Int32.toNatClampNeg 60)) - (Int32.toNatClampNeg 480)) - (Int32.toNatClampNeg 60)) - (Int32.toNatClampNeg 120000)) - (Int32.toNatClampNeg 2000)) - (Int32.toNatClampNeg 2000)) - (Int32.toNatClampNeg 2000)) - (Int32.toNatClampNeg 2000)) - (Int32.toNatClampNeg 2000)) - (Int32.toNatClampNeg 2000)) - (Int32.toNatClampNeg 20000)) - (Int32.toNatClampNeg 20100)) - (Int32.toNatClampNeg 20100)) - (Int32.toNatClampNeg 20100)) - (Int32.toNatClampNeg 20100)) - (Int32.toNatClampNeg 7000)) - (Int32.toNatClampNeg 7000)) - (Int32.toNatClampNeg 7000)) - (Int32.toNatClampNeg 7000)) - (Int32.toNatClampNeg 7000)) - (Int32.toNatClampNeg 7000)) - (Int32.toNatClampNeg 7000)) - (Int32.toNatClampNeg 7000)) - (Int32.toNatClampNeg 7000)) - (Int32.toNatClampNeg 7000)) - (Int32.toNatClampNeg 7000)) - (Int32.toNatClampNeg 7000)) - (Int32.toNatClampNeg 20100)) ≤ z := by omega
  refine my_putr (C := RX11) (F := TX11) (N := 59) (ci := 12) X M 39 rfl in_X11 tyX11 tyX11_ok nmX11 (by decide) rfl (by decide) kw_1169 (Or.inr ⟨hnm, rfl⟩) dX11_init_282 hk283 (some q280) (mq_na _ _) (mq_fa _ _) (fun μ285 H locs eμ285 M => ?_)
  replace hw := hw μ285 eμ285
  have hKM286 : KM μ μ285 := by rw [eμ285]; exact hKM282
  have hk287 : kd μ285 o = 13 := by rw [eμ285]; exact hk283
  have hk288 : kd μ285 q280 = 103 := by rw [eμ285]; exact hk284
  refine lv_aload_n X.1 X.2.1 dX11_init_285 rfl (lv_at hl 0 rfl) ?_
  refine lv_ldc (v := 200000) X.1 X.2.1 X.2.2.2.1 (X.2.2.2.2.1 _ kw_1129) dX11_init_286 ?_
  obtain ⟨hb0, hb3, hb1, hb2, hw⟩ := hw
  refine my_newI X M kw_128 dX11_init_288 hb0 hb3 (show ((((((((((((((((((((((((((((((((0 + 1) + 1) + 1) + 1) + 1) + 1) + 1) + 1) + 1) + 1) + 1) + 1) + 1) + 1) + 1) + 1) + 1) + 1) + 1) + 1) + 1) + 1) + 1) + 1) + 1) + 1) + 1) + 1) + 1) + 1) + 1) + 1) + 1 ≤ c by omega) (show ((((((((((((((((((((((((((((((((0 + (Int32.toNatClampNeg 10)) + (Int32.toNatClampNeg 60)) + (Int32.toNatClampNeg 60)) + (Int32.toNatClampNeg 60)) + (Int32.toNatClampNeg 60)) + (Int32.toNatClampNeg 480)) + (Int32.toNatClampNeg 60)) + (Int32.toNatClampNeg 120000)) + (Int32.toNatClampNeg 2000)) + (Int32.toNatClampNeg 2000)) + (Int32.toNatClampNeg 2000)) + (Int32.toNatClampNeg 2000)) + (Int32.toNatClampNeg 2000)) + (Int32.toNatClampNeg 2000)) + (Int32.toNatClampNeg 20000)) + (Int32.toNatClampNeg 20100)) + (Int32.toNatClampNeg 20100)) + (Int32.toNatClampNeg 20100)) + (Int32.toNatClampNeg 20100)) + (Int32.toNatClampNeg 7000)) + (Int32.toNatClampNeg 7000)) + (Int32.toNatClampNeg 7000)) + (Int32.toNatClampNeg 7000)) + (Int32.toNatClampNeg 7000)) + (Int32.toNatClampNeg 7000)) + (Int32.toNatClampNeg 7000)) + (Int32.toNatClampNeg 7000)) + (Int32.toNatClampNeg 7000)) + (Int32.toNatClampNeg 7000)) + (Int32.toNatClampNeg 7000)) + (Int32.toNatClampNeg 7000)) + (Int32.toNatClampNeg 20100)) + (Int32.toNatClampNeg 200000) ≤ z by omega) (fun q289 μ290 H hq289 eμ290 M => ?_)
  replace hw := hw q289 μ290 hq289 eμ290
  have hKM291 : KM μ μ290 := by rw [eμ290]; exact hKM286.tr (KM_nar hq289)
  have hk292 : kd μ290 o = 13 := by rw [eμ290]; exact (KM_nar hq289).at hk287
  have hk293 : kd μ290 q289 = 102 := by rw [eμ290]; exact kd_nar
  have hc : (((((((((((((((((((((((((((((((((0 + 1) + 1) + 1) + 1) + 1) + 1) + 1) + 1) + 1) + 1) + 1) + 1) + 1) + 1) + 1) + 1) + 1) + 1) + 1) + 1) + 1) + 1) + 1) + 1) + 1) + 1) + 1) + 1) + 1) + 1) + 1) + 1) + 1) + (((((((((((((((((((((((((((((((((c - 1) - 1) - 1) - 1) - 1) - 1) - 1) - 1) - 1) - 1) - 1) - 1) - 1) - 1) - 1) - 1) - 1) - 1) - 1) - 1) - 1) - 1) - 1) - 1) - 1) - 1) - 1) - 1) - 1) - 1) - 1) - 1) - 1) ≤ c := by omega
  have hz : (((((((((((((((((((((((((((((((((0 + (Int32.toNatClampNeg 10)) + (Int32.toNatClampNeg 60)) + (Int32.toNatClampNeg 60)) + (Int32.toNatClampNeg 60)) + (Int32.toNatClampNeg 60)) + (Int32.toNatClampNeg 480)) + (Int32.toNatClampNeg 60)) + (Int32.toNatClampNeg 120000)) + (Int32.toNatClampNeg 2000)) + (Int32.toNatClampNeg 2000)) + (Int32.toNatClampNeg 2000)) + (Int32.toNatClampNeg 2000)) + (Int32.toNatClampNeg 2000)) + (Int32.toNatClampNeg 2000)) + (Int32.toNatClampNeg 20000)) + (Int32.toNatClampNeg 20100)) + (Int32.toNatClampNeg 20100)) + (Int32.toNatClampNeg 20100)) + (Int32.toNatClampNeg 20100)) + (Int32.toNatClampNeg 7000)) + (Int32.toNatClampNeg 7000)) + (Int32.toNatClampNeg 7000)) + (Int32.toNatClampNeg 7000)) + (Int32.toNatClampNeg 7000)) + (Int32.toNatClampNeg 7000)) + (Int32.toNatClampNeg 7000)) + (Int32.toNatClampNeg 7000)) + (Int32.toNatClampNeg 7000)) + (Int32.toNatClampNeg 7000)) + (Int32.toNatClampNeg 7000)) + (Int32.toNatClampNeg 7000)) + (Int32.toNatClampNeg 20100)) + (Int32.toNatClampNeg 200000)) + (((((((((((((((((((((((((((((((((z - (Int32.toNatClampNeg 10)) - (Int32.toNatClampNeg 60)) - (Int32.toNatClampNeg 60)) - (Int32.toNatClampNeg 60)) - (Int32.toNatClampNeg 60)) - (Int32.toNatClampNeg 480)) - (Int32.toNatClampNeg 60)) - (Int32.toNatClampNeg 120000)) - (Int32.toNatClampNeg 2000)) - (Int32.toNatClampNeg 2000)) - (Int32.toNatClampNeg 2000)) - (Int32.toNatClampNeg 2000)) - (Int32.toNatClampNeg 2000)) - (Int32.toNatClampNeg 2000)) - (Int32.toNatClampNeg 20000)) - (Int32.toNatClampNeg 20100)) - (Int32.toNatClampNeg 20100)) - (Int32.toNatClampNeg 20100)) - (Int32.toNatClampNeg 20100)) - (Int32.toNatClampNeg 7000)) - (Int32.toNatClampNeg 7000)) - (Int32.toNatClampNeg 7000)) - (Int32.toNatClampNeg 7000)) - (Int32.toNatClampNeg 7000)) - (Int32.toNatClampNeg 7000)) - (Int32.toNatClampNeg 7000)) - (Int32.toNatClampNeg 7000)) - (Int32.toNatClampNeg 7000)) - (Int32.toNatClampNeg 7000)) - (Int32.toNatClampNeg 7000)) - (Int32.toNatClampNeg 7000)) - (Int32.toNatClampNeg 20100)) - (Int32.toNatClampNeg 200000)) ≤ z := by omega
  refine my_putr (C := RX11) (F := TX11) (N := 59) (ci := 12) X M 42 rfl in_X11 tyX11 tyX11_ok nmX11 (by decide) rfl (by decide) kw_1172 (Or.inr ⟨hnm, rfl⟩) dX11_init_290 hk292 (some q289) (mq_na _ _) (mq_fa _ _) (fun μ294 H locs eμ294 M => ?_)
  replace hw := hw μ294 eμ294
  have hKM295 : KM μ μ294 := by rw [eμ294]; exact hKM291
  have hk296 : kd μ294 o = 13 := by rw [eμ294]; exact hk292
  have hk297 : kd μ294 q289 = 102 := by rw [eμ294]; exact hk293
  refine lv_aload_n X.1 X.2.1 dX11_init_293 rfl (lv_at hl 0 rfl) ?_
  refine lv_ldc (v := 200000) X.1 X.2.1 X.2.2.2.1 (X.2.2.2.2.1 _ kw_1129) dX11_init_294 ?_
  obtain ⟨hb0, hb3, hb1, hb2, hw⟩ := hw
  refine my_newJ X M kw_156 dX11_init_296 hb0 hb3 (show (((((((((((((((((((((((((((((((((0 + 1) + 1) + 1) + 1) + 1) + 1) + 1) + 1) + 1) + 1) + 1) + 1) + 1) + 1) + 1) + 1) + 1) + 1) + 1) + 1) + 1) + 1) + 1) + 1) + 1) + 1) + 1) + 1) + 1) + 1) + 1) + 1) + 1) + 1 ≤ c by omega) (show (((((((((((((((((((((((((((((((((0 + (Int32.toNatClampNeg 10)) + (Int32.toNatClampNeg 60)) + (Int32.toNatClampNeg 60)) + (Int32.toNatClampNeg 60)) + (Int32.toNatClampNeg 60)) + (Int32.toNatClampNeg 480)) + (Int32.toNatClampNeg 60)) + (Int32.toNatClampNeg 120000)) + (Int32.toNatClampNeg 2000)) + (Int32.toNatClampNeg 2000)) + (Int32.toNatClampNeg 2000)) + (Int32.toNatClampNeg 2000)) + (Int32.toNatClampNeg 2000)) + (Int32.toNatClampNeg 2000)) + (Int32.toNatClampNeg 20000)) + (Int32.toNatClampNeg 20100)) + (Int32.toNatClampNeg 20100)) + (Int32.toNatClampNeg 20100)) + (Int32.toNatClampNeg 20100)) + (Int32.toNatClampNeg 7000)) + (Int32.toNatClampNeg 7000)) + (Int32.toNatClampNeg 7000)) + (Int32.toNatClampNeg 7000)) + (Int32.toNatClampNeg 7000)) + (Int32.toNatClampNeg 7000)) + (Int32.toNatClampNeg 7000)) + (Int32.toNatClampNeg 7000)) + (Int32.toNatClampNeg 7000)) + (Int32.toNatClampNeg 7000)) + (Int32.toNatClampNeg 7000)) + (Int32.toNatClampNeg 7000)) + (Int32.toNatClampNeg 20100)) + (Int32.toNatClampNeg 200000)) + (Int32.toNatClampNeg 200000) ≤ z by omega) (fun q298 μ299 H hq298 eμ299 M => ?_)
  replace hw := hw q298 μ299 hq298 eμ299
  have hKM300 : KM μ μ299 := by rw [eμ299]; exact hKM295.tr (KM_nar hq298)
  have hk301 : kd μ299 o = 13 := by rw [eμ299]; exact (KM_nar hq298).at hk296
  have hk302 : kd μ299 q298 = 103 := by rw [eμ299]; exact kd_nar
  have hc : ((((((((((((((((((((((((((((((((((0 + 1) + 1) + 1) + 1) + 1) + 1) + 1) + 1) + 1) + 1) + 1) + 1) + 1) + 1) + 1) + 1) + 1) + 1) + 1) + 1) + 1) + 1) + 1) + 1) + 1) + 1) + 1) + 1) + 1) + 1) + 1) + 1) + 1) + 1) + ((((((((((((((((((((((((((((((((((c - 1) - 1) - 1) - 1) - 1) - 1) - 1) - 1) - 1) - 1) - 1) - 1) - 1) - 1) - 1) - 1) - 1) - 1) - 1) - 1) - 1) - 1) - 1) - 1) - 1) - 1) - 1) - 1) - 1) - 1) - 1) - 1) - 1) - 1) ≤ c := by omega
  have hz : ((((((((((((((((((((((((((((((((((0 + (Int32.toNatClampNeg 10)) + (Int32.toNatClampNeg 60)) + (Int32.toNatClampNeg 60)) + (Int32.toNatClampNeg 60)) + (Int32.toNatClampNeg 60)) + (Int32.toNatClampNeg 480)) + (Int32.toNatClampNeg 60)) + (Int32.toNatClampNeg 120000)) + (Int32.toNatClampNeg 2000)) + (Int32.toNatClampNeg 2000)) + (Int32.toNatClampNeg 2000)) + (Int32.toNatClampNeg 2000)) + (Int32.toNatClampNeg 2000)) + (Int32.toNatClampNeg 2000)) + (Int32.toNatClampNeg 20000)) + (Int32.toNatClampNeg 20100)) + (Int32.toNatClampNeg 20100)) + (Int32.toNatClampNeg 20100)) + (Int32.toNatClampNeg 20100)) + (Int32.toNatClampNeg 7000)) + (Int32.toNatClampNeg 7000)) + (Int32.toNatClampNeg 7000)) + (Int32.toNatClampNeg 7000)) + (Int32.toNatClampNeg 7000)) + (Int32.toNatClampNeg 7000)) + (Int32.toNatClampNeg 7000)) + (Int32.toNatClampNeg 7000)) + (Int32.toNatClampNeg 7000)) + (Int32.toNatClampNeg 7000)) + (Int32.toNatClampNeg 7000)) + (Int32.toNatClampNeg 7000)) + (Int32.toNatClampNeg 20100)) + (Int32.toNatClampNeg 200000)) + (Int32.toNatClampNeg 200000)) + ((((((((((((((((((((((((((((((((((z - (Int32.toNatClampNeg 10)) - (Int32.toNatClampNeg 60)) - (Int32.toNatClampNeg 60)) - (Int32.toNatClampNeg 60)) - (Int32.toNatClampNeg 60)) - (Int32.toNatClampNeg 480)) - (Int32.toNatClampNeg 60)) - (Int32.toNatClampNeg 120000)) - (Int32.toNatClampNeg 2000)) - (Int32.toNatClampNeg 2000)) - (Int32.toNatClampNeg 2000)) - (Int32.toNatClampNeg 2000)) - (Int32.toNatClampNeg 2000)) - (Int32.toNatClampNeg 2000)) - (Int32.toNatClampNeg 20000)) - (Int32.toNatClampNeg 20100)) - (Int32.toNatClampNeg 20100)) - (Int32.toNatClampNeg 20100)) - (Int32.toNatClampNeg 20100)) - (Int32.toNatClampNeg 7000)) - (Int32.toNatClampNeg 7000)) - (Int32.toNatClampNeg 7000)) - (Int32.toNatClampNeg 7000)) - (Int32.toNatClampNeg 7000)) - (Int32.toNatClampNeg 7000)) - (Int32.toNatClampNeg 7000)) - (Int32.toNatClampNeg 7000)) - (Int32.toNatClampNeg 7000)) - (Int32.toNatClampNeg 7000)) - (Int32.toNatClampNeg 7000)) - (Int32.toNatClampNeg 7000)) - (Int32.toNatClampNeg 20100)) - (Int32.toNatClampNeg 200000)) - (Int32.toNatClampNeg 200000)) ≤ z := by omega
  refine my_putr (C := RX11) (F := TX11) (N := 59) (ci := 12) X M 43 rfl in_X11 tyX11 tyX11_ok nmX11 (by decide) rfl (by decide) kw_1173 (Or.inr ⟨hnm, rfl⟩) dX11_init_298 hk301 (some q298) (mq_na _ _) (mq_fa _ _) (fun μ303 H locs eμ303 M => ?_)
  replace hw := hw μ303 eμ303
  have hKM304 : KM μ μ303 := by rw [eμ303]; exact hKM300
  have hk305 : kd μ303 o = 13 := by rw [eμ303]; exact hk301
  have hk306 : kd μ303 q298 = 103 := by rw [eμ303]; exact hk302
  refine lv_aload_n X.1 X.2.1 dX11_init_301 rfl (lv_at hl 0 rfl) ?_
  refine lv_iconst (v := (-1)) X.1 X.2.1 dX11_init_302 (by decide) ?_
  refine my_puti (C := RX11) (F := TX11) (N := 59) (ci := 12) X M 44 rfl in_X11 tyX11 tyX11_ok nmX11 (by decide) rfl (by decide) kw_1174 (Or.inl rfl) dX11_init_303 hk305 rfl rfl (fun μ307 H locs eμ307 M => ?_)
  replace hw := hw μ307 eμ307
  have hKM308 : KM μ μ307 := by rw [eμ307]; exact hKM304
  have hk309 : kd μ307 o = 13 := by rw [eμ307]; exact hk305
  refine lv_aload_n X.1 X.2.1 dX11_init_306 rfl (lv_at hl 0 rfl) ?_
  refine lv_sipush (v := 1000) X.1 X.2.1 dX11_init_307 (by decide) ?_
  obtain ⟨hb0, hb3, hb1, hb2, hw⟩ := hw
  refine my_newI X M kw_128 dX11_init_310 hb0 hb3 (show ((((((((((((((((((((((((((((((((((0 + 1) + 1) + 1) + 1) + 1) + 1) + 1) + 1) + 1) + 1) + 1) + 1) + 1) + 1) + 1) + 1) + 1) + 1) + 1) + 1) + 1) + 1) + 1) + 1) + 1) + 1) + 1) + 1) + 1) + 1) + 1) + 1) + 1) + 1) + 1 ≤ c by omega) (show ((((((((((((((((((((((((((((((((((0 + (Int32.toNatClampNeg 10)) + (Int32.toNatClampNeg 60)) + (Int32.toNatClampNeg 60)) + (Int32.toNatClampNeg 60)) + (Int32.toNatClampNeg 60)) + (Int32.toNatClampNeg 480)) + (Int32.toNatClampNeg 60)) + (Int32.toNatClampNeg 120000)) + (Int32.toNatClampNeg 2000)) + (Int32.toNatClampNeg 2000)) + (Int32.toNatClampNeg 2000)) + (Int32.toNatClampNeg 2000)) + (Int32.toNatClampNeg 2000)) + (Int32.toNatClampNeg 2000)) + (Int32.toNatClampNeg 20000)) + (Int32.toNatClampNeg 20100)) + (Int32.toNatClampNeg 20100)) + (Int32.toNatClampNeg 20100)) + (Int32.toNatClampNeg 20100)) + (Int32.toNatClampNeg 7000)) + (Int32.toNatClampNeg 7000)) + (Int32.toNatClampNeg 7000)) + (Int32.toNatClampNeg 7000)) + (Int32.toNatClampNeg 7000)) + (Int32.toNatClampNeg 7000)) + (Int32.toNatClampNeg 7000)) + (Int32.toNatClampNeg 7000)) + (Int32.toNatClampNeg 7000)) + (Int32.toNatClampNeg 7000)) + (Int32.toNatClampNeg 7000)) + (Int32.toNatClampNeg 7000)) + (Int32.toNatClampNeg 20100)) + (Int32.toNatClampNeg 200000)) + (Int32.toNatClampNeg 200000)) + (Int32.toNatClampNeg 1000) ≤ z by omega) (fun q310 μ311 H hq310 eμ311 M => ?_)
  replace hw := hw q310 μ311 hq310 eμ311
  have hKM312 : KM μ μ311 := by rw [eμ311]; exact hKM308.tr (KM_nar hq310)
  have hk313 : kd μ311 o = 13 := by rw [eμ311]; exact (KM_nar hq310).at hk309
  have hk314 : kd μ311 q310 = 102 := by rw [eμ311]; exact kd_nar
  have hc : (((((((((((((((((((((((((((((((((((0 + 1) + 1) + 1) + 1) + 1) + 1) + 1) + 1) + 1) + 1) + 1) + 1) + 1) + 1) + 1) + 1) + 1) + 1) + 1) + 1) + 1) + 1) + 1) + 1) + 1) + 1) + 1) + 1) + 1) + 1) + 1) + 1) + 1) + 1) + 1) + (((((((((((((((((((((((((((((((((((c - 1) - 1) - 1) - 1) - 1) - 1) - 1) - 1) - 1) - 1) - 1) - 1) - 1) - 1) - 1) - 1) - 1) - 1) - 1) - 1) - 1) - 1) - 1) - 1) - 1) - 1) - 1) - 1) - 1) - 1) - 1) - 1) - 1) - 1) - 1) ≤ c := by omega
  have hz : (((((((((((((((((((((((((((((((((((0 + (Int32.toNatClampNeg 10)) + (Int32.toNatClampNeg 60)) + (Int32.toNatClampNeg 60)) + (Int32.toNatClampNeg 60)) + (Int32.toNatClampNeg 60)) + (Int32.toNatClampNeg 480)) + (Int32.toNatClampNeg 60)) + (Int32.toNatClampNeg 120000)) + (Int32.toNatClampNeg 2000)) + (Int32.toNatClampNeg 2000)) + (Int32.toNatClampNeg 2000)) + (Int32.toNatClampNeg 2000)) + (Int32.toNatClampNeg 2000)) + (Int32.toNatClampNeg 2000)) + (Int32.toNatClampNeg 20000)) + (Int32.toNatClampNeg 20100)) + (Int32.toNatClampNeg 20100)) + (Int32.toNatClampNeg 20100)) + (Int32.toNatClampNeg 20100)) + (Int32.toNatClampNeg 7000)) + (Int32.toNatClampNeg 7000)) + (Int32.toNatClampNeg 7000)) + (Int32.toNatClampNeg 7000)) + (Int32.toNatClampNeg 7000)) + (Int32.toNatClampNeg 7000)) + (Int32.toNatClampNeg 7000)) + (Int32.toNatClampNeg 7000)) + (Int32.toNatClampNeg 7000)) + (Int32.toNatClampNeg 7000)) + (Int32.toNatClampNeg 7000)) + (Int32.toNatClampNeg 7000)) + (Int32.toNatClampNeg 20100)) + (Int32.toNatClampNeg 200000)) + (Int32.toNatClampNeg 200000)) + (Int32.toNatClampNeg 1000)) + (((((((((((((((((((((((((((((((((((z - (Int32.toNatClampNeg 10)) - (Int32.toNatClampNeg 60)) - (Int32.toNatClampNeg 60)) - (Int32.toNatClampNeg 60)) - (Int32.toNatClampNeg 60)) - (Int32.toNatClampNeg 480)) - (Int32.toNatClampNeg 60)) - (Int32.toNatClampNeg 120000)) - (Int32.toNatClampNeg 2000)) - (Int32.toNatClampNeg 2000)) - (Int32.toNatClampNeg 2000)) - (Int32.toNatClampNeg 2000)) - (Int32.toNatClampNeg 2000)) - (Int32.toNatClampNeg 2000)) - (Int32.toNatClampNeg 20000)) - (Int32.toNatClampNeg 20100)) - (Int32.toNatClampNeg 20100)) - (Int32.toNatClampNeg 20100)) - (Int32.toNatClampNeg 20100)) - (Int32.toNatClampNeg 7000)) - (Int32.toNatClampNeg 7000)) - (Int32.toNatClampNeg 7000)) - (Int32.toNatClampNeg 7000)) - (Int32.toNatClampNeg 7000)) - (Int32.toNatClampNeg 7000)) - (Int32.toNatClampNeg 7000)) - (Int32.toNatClampNeg 7000)) - (Int32.toNatClampNeg 7000)) - (Int32.toNatClampNeg 7000)) - (Int32.toNatClampNeg 7000)) - (Int32.toNatClampNeg 7000)) - (Int32.toNatClampNeg 20100)) - (Int32.toNatClampNeg 200000)) - (Int32.toNatClampNeg 200000)) - (Int32.toNatClampNeg 1000)) ≤ z := by omega
  refine my_putr (C := RX11) (F := TX11) (N := 59) (ci := 12) X M 53 rfl in_X11 tyX11 tyX11_ok nmX11 (by decide) rfl (by decide) kw_1183 (Or.inr ⟨hnm, rfl⟩) dX11_init_312 hk313 (some q310) (mq_na _ _) (mq_fa _ _) (fun μ315 H locs eμ315 M => ?_)
  replace hw := hw μ315 eμ315
  have hKM316 : KM μ μ315 := by rw [eμ315]; exact hKM312
  have hk317 : kd μ315 o = 13 := by rw [eμ315]; exact hk313
  have hk318 : kd μ315 q310 = 102 := by rw [eμ315]; exact hk314
  refine lv_aload_n X.1 X.2.1 dX11_init_315 rfl (lv_at hl 0 rfl) ?_
  refine lv_sipush (v := 20100) X.1 X.2.1 dX11_init_316 (by decide) ?_
  obtain ⟨hb0, hb3, hb1, hb2, hw⟩ := hw
  refine my_newJ X M kw_156 dX11_init_319 hb0 hb3 (show (((((((((((((((((((((((((((((((((((0 + 1) + 1) + 1) + 1) + 1) + 1) + 1) + 1) + 1) + 1) + 1) + 1) + 1) + 1) + 1) + 1) + 1) + 1) + 1) + 1) + 1) + 1) + 1) + 1) + 1) + 1) + 1) + 1) + 1) + 1) + 1) + 1) + 1) + 1) + 1) + 1 ≤ c by omega) (show (((((((((((((((((((((((((((((((((((0 + (Int32.toNatClampNeg 10)) + (Int32.toNatClampNeg 60)) + (Int32.toNatClampNeg 60)) + (Int32.toNatClampNeg 60)) + (Int32.toNatClampNeg 60)) + (Int32.toNatClampNeg 480)) + (Int32.toNatClampNeg 60)) + (Int32.toNatClampNeg 120000)) + (Int32.toNatClampNeg 2000)) + (Int32.toNatClampNeg 2000)) + (Int32.toNatClampNeg 2000)) + (Int32.toNatClampNeg 2000)) + (Int32.toNatClampNeg 2000)) + (Int32.toNatClampNeg 2000)) + (Int32.toNatClampNeg 20000)) + (Int32.toNatClampNeg 20100)) + (Int32.toNatClampNeg 20100)) + (Int32.toNatClampNeg 20100)) + (Int32.toNatClampNeg 20100)) + (Int32.toNatClampNeg 7000)) + (Int32.toNatClampNeg 7000)) + (Int32.toNatClampNeg 7000)) + (Int32.toNatClampNeg 7000)) + (Int32.toNatClampNeg 7000)) + (Int32.toNatClampNeg 7000)) + (Int32.toNatClampNeg 7000)) + (Int32.toNatClampNeg 7000)) + (Int32.toNatClampNeg 7000)) + (Int32.toNatClampNeg 7000)) + (Int32.toNatClampNeg 7000)) + (Int32.toNatClampNeg 7000)) + (Int32.toNatClampNeg 20100)) + (Int32.toNatClampNeg 200000)) + (Int32.toNatClampNeg 200000)) + (Int32.toNatClampNeg 1000)) + (Int32.toNatClampNeg 20100) ≤ z by omega) (fun q319 μ320 H hq319 eμ320 M => ?_)
  replace hw := hw q319 μ320 hq319 eμ320
  have hKM321 : KM μ μ320 := by rw [eμ320]; exact hKM316.tr (KM_nar hq319)
  have hk322 : kd μ320 o = 13 := by rw [eμ320]; exact (KM_nar hq319).at hk317
  have hk323 : kd μ320 q319 = 103 := by rw [eμ320]; exact kd_nar
  have hc : ((((((((((((((((((((((((((((((((((((0 + 1) + 1) + 1) + 1) + 1) + 1) + 1) + 1) + 1) + 1) + 1) + 1) + 1) + 1) + 1) + 1) + 1) + 1) + 1) + 1) + 1) + 1) + 1) + 1) + 1) + 1) + 1) + 1) + 1) + 1) + 1) + 1) + 1) + 1) + 1) + 1) + ((((((((((((((((((((((((((((((((((((c - 1) - 1) - 1) - 1) - 1) - 1) - 1) - 1) - 1) - 1) - 1) - 1) - 1) - 1) - 1) - 1) - 1) - 1) - 1) - 1) - 1) - 1) - 1) - 1) - 1) - 1) - 1) - 1) - 1) - 1) - 1) - 1) - 1) - 1) - 1) - 1) ≤ c := by omega
  have hz : ((((((((((((((((((((((((((((((((((((0 + (Int32.toNatClampNeg 10)) + (Int32.toNatClampNeg 60)) + (Int32.toNatClampNeg 60)) + (Int32.toNatClampNeg 60)) + (Int32.toNatClampNeg 60)) + (Int32.toNatClampNeg 480)) + (Int32.toNatClampNeg 60)) + (Int32.toNatClampNeg 120000)) + (Int32.toNatClampNeg 2000)) + (Int32.toNatClampNeg 2000)) + (Int32.toNatClampNeg 2000)) + (Int32.toNatClampNeg 2000)) + (Int32.toNatClampNeg 2000)) + (Int32.toNatClampNeg 2000)) + (Int32.toNatClampNeg 20000)) + (Int32.toNatClampNeg 20100)) + (Int32.toNatClampNeg 20100)) + (Int32.toNatClampNeg 20100)) + (Int32.toNatClampNeg 20100)) + (Int32.toNatClampNeg 7000)) + (Int32.toNatClampNeg 7000)) + (Int32.toNatClampNeg 7000)) + (Int32.toNatClampNeg 7000)) + (Int32.toNatClampNeg 7000)) + (Int32.toNatClampNeg 7000)) + (Int32.toNatClampNeg 7000)) + (Int32.toNatClampNeg 7000)) + (Int32.toNatClampNeg 7000)) + (Int32.toNatClampNeg 7000)) + (Int32.toNatClampNeg 7000)) + (Int32.toNatClampNeg 7000)) + (Int32.toNatClampNeg 20100)) + (Int32.toNatClampNeg 200000)) + (Int32.toNatClampNeg 200000)) + (Int32.toNatClampNeg 1000)) + (Int32.toNatClampNeg 20100)) + ((((((((((((((((((((((((((((((((((((z - (Int32.toNatClampNeg 10)) - (Int32.toNatClampNeg 60)) - (Int32.toNatClampNeg 60)) - (Int32.toNatClampNeg 60)) - (Int32.toNatClampNeg 60)) - (Int32.toNatClampNeg 480)) - (Int32.toNatClampNeg 60)) - (Int32.toNatClampNeg 120000)) - (Int32.toNatClampNeg 2000)) - (Int32.toNatClampNeg 2000)) - (Int32.toNatClampNeg 2000)) - (Int32.toNatClampNeg 2000)) - (Int32.toNatClampNeg 2000)) - (Int32.toNatClampNeg 2000)) - (Int32.toNatClampNeg 20000)) - (Int32.toNatClampNeg 20100)) - (Int32.toNatClampNeg 20100)) - (Int32.toNatClampNeg 20100)) - (Int32.toNatClampNeg 20100)) - (Int32.toNatClampNeg 7000)) - (Int32.toNatClampNeg 7000)) - (Int32.toNatClampNeg 7000)) - (Int32.toNatClampNeg 7000)) - (Int32.toNatClampNeg 7000)) - (Int32.toNatClampNeg 7000)) - (Int32.toNatClampNeg 7000)) - (Int32.toNatClampNeg 7000)) - (Int32.toNatClampNeg 7000)) - (Int32.toNatClampNeg 7000)) - (Int32.toNatClampNeg 7000)) - (Int32.toNatClampNeg 7000)) - (Int32.toNatClampNeg 20100)) - (Int32.toNatClampNeg 200000)) - (Int32.toNatClampNeg 200000)) - (Int32.toNatClampNeg 1000)) - (Int32.toNatClampNeg 20100)) ≤ z := by omega
  refine my_putr (C := RX11) (F := TX11) (N := 59) (ci := 12) X M 55 rfl in_X11 tyX11 tyX11_ok nmX11 (by decide) rfl (by decide) kw_1185 (Or.inr ⟨hnm, rfl⟩) dX11_init_321 hk322 (some q319) (mq_na _ _) (mq_fa _ _) (fun μ324 H locs eμ324 M => ?_)
  replace hw := hw μ324 eμ324
  have hKM325 : KM μ μ324 := by rw [eμ324]; exact hKM321
  have hk326 : kd μ324 o = 13 := by rw [eμ324]; exact hk322
  have hk327 : kd μ324 q319 = 103 := by rw [eμ324]; exact hk323
  refine lv_aload_n X.1 X.2.1 dX11_init_324 rfl (lv_at hl 0 rfl) ?_
  refine lv_sipush (v := 20100) X.1 X.2.1 dX11_init_325 (by decide) ?_
  obtain ⟨hb0, hb3, hb1, hb2, hw⟩ := hw
  refine my_newJ X M kw_156 dX11_init_328 hb0 hb3 (show ((((((((((((((((((((((((((((((((((((0 + 1) + 1) + 1) + 1) + 1) + 1) + 1) + 1) + 1) + 1) + 1) + 1) + 1) + 1) + 1) + 1) + 1) + 1) + 1) + 1) + 1) + 1) + 1) + 1) + 1) + 1) + 1) + 1) + 1) + 1) + 1) + 1) + 1) + 1) + 1) + 1) + 1 ≤ c by omega) (show ((((((((((((((((((((((((((((((((((((0 + (Int32.toNatClampNeg 10)) + (Int32.toNatClampNeg 60)) + (Int32.toNatClampNeg 60)) + (Int32.toNatClampNeg 60)) + (Int32.toNatClampNeg 60)) + (Int32.toNatClampNeg 480)) + (Int32.toNatClampNeg 60)) + (Int32.toNatClampNeg 120000)) + (Int32.toNatClampNeg 2000)) + (Int32.toNatClampNeg 2000)) + (Int32.toNatClampNeg 2000)) + (Int32.toNatClampNeg 2000)) + (Int32.toNatClampNeg 2000)) + (Int32.toNatClampNeg 2000)) + (Int32.toNatClampNeg 20000)) + (Int32.toNatClampNeg 20100)) + (Int32.toNatClampNeg 20100)) + (Int32.toNatClampNeg 20100)) + (Int32.toNatClampNeg 20100)) + (Int32.toNatClampNeg 7000)) + (Int32.toNatClampNeg 7000)) + (Int32.toNatClampNeg 7000)) + (Int32.toNatClampNeg 7000)) + (Int32.toNatClampNeg 7000)) + (Int32.toNatClampNeg 7000)) + (Int32.toNatClampNeg 7000)) + (Int32.toNatClampNeg 7000)) + (Int32.toNatClampNeg 7000)) + (Int32.toNatClampNeg 7000)) + (Int32.toNatClampNeg 7000)) + (Int32.toNatClampNeg 7000)) + (Int32.toNatClampNeg 20100)) + (Int32.toNatClampNeg 200000)) + (Int32.toNatClampNeg 200000)) + (Int32.toNatClampNeg 1000)) + (Int32.toNatClampNeg 20100)) + (Int32.toNatClampNeg 20100) ≤ z by omega) (fun q328 μ329 H hq328 eμ329 M => ?_)
  replace hw := hw q328 μ329 hq328 eμ329
  have hKM330 : KM μ μ329 := by rw [eμ329]; exact hKM325.tr (KM_nar hq328)
  have hk331 : kd μ329 o = 13 := by rw [eμ329]; exact (KM_nar hq328).at hk326
  have hk332 : kd μ329 q328 = 103 := by rw [eμ329]; exact kd_nar
  have hc : (((((((((((((((((((((((((((((((((((((0 + 1) + 1) + 1) + 1) + 1) + 1) + 1) + 1) + 1) + 1) + 1) + 1) + 1) + 1) + 1) + 1) + 1) + 1) + 1) + 1) + 1) + 1) + 1) + 1) + 1) + 1) + 1) + 1) + 1) + 1) + 1) + 1) + 1) + 1) + 1) + 1) + 1) + (((((((((((((((((((((((((((((((((((((c - 1) - 1) - 1) - 1) - 1) - 1) - 1) - 1) - 1) - 1) - 1) - 1) - 1) - 1) - 1) - 1) - 1) - 1) - 1) - 1) - 1) - 1) - 1) - 1) - 1) - 1) - 1) - 1) - 1) - 1) - 1) - 1) - 1) - 1) - 1) - 1) - 1) ≤ c := by omega
  have hz : (((((((((((((((((((((((((((((((((((((0 + (Int32.toNatClampNeg 10)) + (Int32.toNatClampNeg 60)) + (Int32.toNatClampNeg 60)) + (Int32.toNatClampNeg 60)) + (Int32.toNatClampNeg 60)) + (Int32.toNatClampNeg 480)) + (Int32.toNatClampNeg 60)) + (Int32.toNatClampNeg 120000)) + (Int32.toNatClampNeg 2000)) + (Int32.toNatClampNeg 2000)) + (Int32.toNatClampNeg 2000)) + (Int32.toNatClampNeg 2000)) + (Int32.toNatClampNeg 2000)) + (Int32.toNatClampNeg 2000)) + (Int32.toNatClampNeg 20000)) + (Int32.toNatClampNeg 20100)) + (Int32.toNatClampNeg 20100)) + (Int32.toNatClampNeg 20100)) + (Int32.toNatClampNeg 20100)) + (Int32.toNatClampNeg 7000)) + (Int32.toNatClampNeg 7000)) + (Int32.toNatClampNeg 7000)) + (Int32.toNatClampNeg 7000)) + (Int32.toNatClampNeg 7000)) + (Int32.toNatClampNeg 7000)) + (Int32.toNatClampNeg 7000)) + (Int32.toNatClampNeg 7000)) + (Int32.toNatClampNeg 7000)) + (Int32.toNatClampNeg 7000)) + (Int32.toNatClampNeg 7000)) + (Int32.toNatClampNeg 7000)) + (Int32.toNatClampNeg 20100)) + (Int32.toNatClampNeg 200000)) + (Int32.toNatClampNeg 200000)) + (Int32.toNatClampNeg 1000)) + (Int32.toNatClampNeg 20100)) + (Int32.toNatClampNeg 20100)) + (((((((((((((((((((((((((((((((((((((z - (Int32.toNatClampNeg 10)) - (Int32.toNatClampNeg 60)) - (Int32.toNatClampNeg 60)) - (Int32.toNatClampNeg 60)) - (Int32.toNatClampNeg 60)) - (Int32.toNatClampNeg 480)) - (Int32.toNatClampNeg 60)) - (Int32.toNatClampNeg 120000)) - (Int32.toNatClampNeg 2000)) - (Int32.toNatClampNeg 2000)) - (Int32.toNatClampNeg 2000)) - (Int32.toNatClampNeg 2000)) - (Int32.toNatClampNeg 2000)) - (Int32.toNatClampNeg 2000)) - (Int32.toNatClampNeg 20000)) - (Int32.toNatClampNeg 20100)) - (Int32.toNatClampNeg 20100)) - (Int32.toNatClampNeg 20100)) - (Int32.toNatClampNeg 20100)) - (Int32.toNatClampNeg 7000)) - (Int32.toNatClampNeg 7000)) - (Int32.toNatClampNeg 7000)) - (Int32.toNatClampNeg 7000)) - (Int32.toNatClampNeg 7000)) - (Int32.toNatClampNeg 7000)) - (Int32.toNatClampNeg 7000)) - (Int32.toNatClampNeg 7000)) - (Int32.toNatClampNeg 7000)) - (Int32.toNatClampNeg 7000)) - (Int32.toNatClampNeg 7000)) - (Int32.toNatClampNeg 7000)) - (Int32.toNatClampNeg 20100)) - (Int32.toNatClampNeg 200000)) - (Int32.toNatClampNeg 200000)) - (Int32.toNatClampNeg 1000)) - (Int32.toNatClampNeg 20100)) - (Int32.toNatClampNeg 20100)) ≤ z := by omega
  refine my_putr (C := RX11) (F := TX11) (N := 59) (ci := 12) X M 56 rfl in_X11 tyX11 tyX11_ok nmX11 (by decide) rfl (by decide) kw_1186 (Or.inr ⟨hnm, rfl⟩) dX11_init_330 hk331 (some q328) (mq_na _ _) (mq_fa _ _) (fun μ333 H locs eμ333 M => ?_)
  replace hw := hw μ333 eμ333
  have hKM334 : KM μ μ333 := by rw [eμ333]; exact hKM330
  have hk335 : kd μ333 o = 13 := by rw [eμ333]; exact hk331
  have hk336 : kd μ333 q328 = 103 := by rw [eμ333]; exact hk332
  refine lv_aload_n X.1 X.2.1 dX11_init_333 rfl (lv_at hl 0 rfl) ?_
  refine lv_sipush (v := 7000) X.1 X.2.1 dX11_init_334 (by decide) ?_
  obtain ⟨hb0, hb3, hb1, hb2, hw⟩ := hw
  refine my_newI X M kw_128 dX11_init_337 hb0 hb3 (show (((((((((((((((((((((((((((((((((((((0 + 1) + 1) + 1) + 1) + 1) + 1) + 1) + 1) + 1) + 1) + 1) + 1) + 1) + 1) + 1) + 1) + 1) + 1) + 1) + 1) + 1) + 1) + 1) + 1) + 1) + 1) + 1) + 1) + 1) + 1) + 1) + 1) + 1) + 1) + 1) + 1) + 1) + 1 ≤ c by omega) (show (((((((((((((((((((((((((((((((((((((0 + (Int32.toNatClampNeg 10)) + (Int32.toNatClampNeg 60)) + (Int32.toNatClampNeg 60)) + (Int32.toNatClampNeg 60)) + (Int32.toNatClampNeg 60)) + (Int32.toNatClampNeg 480)) + (Int32.toNatClampNeg 60)) + (Int32.toNatClampNeg 120000)) + (Int32.toNatClampNeg 2000)) + (Int32.toNatClampNeg 2000)) + (Int32.toNatClampNeg 2000)) + (Int32.toNatClampNeg 2000)) + (Int32.toNatClampNeg 2000)) + (Int32.toNatClampNeg 2000)) + (Int32.toNatClampNeg 20000)) + (Int32.toNatClampNeg 20100)) + (Int32.toNatClampNeg 20100)) + (Int32.toNatClampNeg 20100)) + (Int32.toNatClampNeg 20100)) + (Int32.toNatClampNeg 7000)) + (Int32.toNatClampNeg 7000)) + (Int32.toNatClampNeg 7000)) + (Int32.toNatClampNeg 7000)) + (Int32.toNatClampNeg 7000)) + (Int32.toNatClampNeg 7000)) + (Int32.toNatClampNeg 7000)) + (Int32.toNatClampNeg 7000)) + (Int32.toNatClampNeg 7000)) + (Int32.toNatClampNeg 7000)) + (Int32.toNatClampNeg 7000)) + (Int32.toNatClampNeg 7000)) + (Int32.toNatClampNeg 20100)) + (Int32.toNatClampNeg 200000)) + (Int32.toNatClampNeg 200000)) + (Int32.toNatClampNeg 1000)) + (Int32.toNatClampNeg 20100)) + (Int32.toNatClampNeg 20100)) + (Int32.toNatClampNeg 7000) ≤ z by omega) (fun q337 μ338 H hq337 eμ338 M => ?_)
  replace hw := hw q337 μ338 hq337 eμ338
  have hKM339 : KM μ μ338 := by rw [eμ338]; exact hKM334.tr (KM_nar hq337)
  have hk340 : kd μ338 o = 13 := by rw [eμ338]; exact (KM_nar hq337).at hk335
  have hk341 : kd μ338 q337 = 102 := by rw [eμ338]; exact kd_nar
  have hc : ((((((((((((((((((((((((((((((((((((((0 + 1) + 1) + 1) + 1) + 1) + 1) + 1) + 1) + 1) + 1) + 1) + 1) + 1) + 1) + 1) + 1) + 1) + 1) + 1) + 1) + 1) + 1) + 1) + 1) + 1) + 1) + 1) + 1) + 1) + 1) + 1) + 1) + 1) + 1) + 1) + 1) + 1) + 1) + ((((((((((((((((((((((((((((((((((((((c - 1) - 1) - 1) - 1) - 1) - 1) - 1) - 1) - 1) - 1) - 1) - 1) - 1) - 1) - 1) - 1) - 1) - 1) - 1) - 1) - 1) - 1) - 1) - 1) - 1) - 1) - 1) - 1) - 1) - 1) - 1) - 1) - 1) - 1) - 1) - 1) - 1) - 1) ≤ c := by omega
  have hz : ((((((((((((((((((((((((((((((((((((((0 + (Int32.toNatClampNeg 10)) + (Int32.toNatClampNeg 60)) + (Int32.toNatClampNeg 60)) + (Int32.toNatClampNeg 60)) + (Int32.toNatClampNeg 60)) + (Int32.toNatClampNeg 480)) + (Int32.toNatClampNeg 60)) + (Int32.toNatClampNeg 120000)) + (Int32.toNatClampNeg 2000)) + (Int32.toNatClampNeg 2000)) + (Int32.toNatClampNeg 2000)) + (Int32.toNatClampNeg 2000)) + (Int32.toNatClampNeg 2000)) + (Int32.toNatClampNeg 2000)) + (Int32.toNatClampNeg 20000)) + (Int32.toNatClampNeg 20100)) + (Int32.toNatClampNeg 20100)) + (Int32.toNatClampNeg 20100)) + (Int32.toNatClampNeg 20100)) + (Int32.toNatClampNeg 7000)) + (Int32.toNatClampNeg 7000)) + (Int32.toNatClampNeg 7000)) + (Int32.toNatClampNeg 7000)) + (Int32.toNatClampNeg 7000)) + (Int32.toNatClampNeg 7000)) + (Int32.toNatClampNeg 7000)) + (Int32.toNatClampNeg 7000)) + (Int32.toNatClampNeg 7000)) + (Int32.toNatClampNeg 7000)) + (Int32.toNatClampNeg 7000)) + (Int32.toNatClampNeg 7000)) + (Int32.toNatClampNeg 20100)) + (Int32.toNatClampNeg 200000)) + (Int32.toNatClampNeg 200000)) + (Int32.toNatClampNeg 1000)) + (Int32.toNatClampNeg 20100)) + (Int32.toNatClampNeg 20100)) + (Int32.toNatClampNeg 7000)) + ((((((((((((((((((((((((((((((((((((((z - (Int32.toNatClampNeg 10)) - (Int32.toNatClampNeg 60)) - (Int32.toNatClampNeg 60)) - (Int32.toNatClampNeg 60)) - (Int32.toNatClampNeg 60)) - (Int32.toNatClampNeg 480)) - (Int32.toNatClampNeg 60)) - (Int32.toNatClampNeg 120000)) - (Int32.toNatClampNeg 2000)) - (Int32.toNatClampNeg 2000)) - (Int32.toNatClampNeg 2000)) - (Int32.toNatClampNeg 2000)) - (Int32.toNatClampNeg 2000)) - (Int32.toNatClampNeg 2000)) - (Int32.toNatClampNeg 20000)) - (Int32.toNatClampNeg 20100)) - (Int32.toNatClampNeg 20100)) - (Int32.toNatClampNeg 20100)) - (Int32.toNatClampNeg 20100)) - (Int32.toNatClampNeg 7000)) - (Int32.toNatClampNeg 7000)) - (Int32.toNatClampNeg 7000)) - (Int32.toNatClampNeg 7000)) - (Int32.toNatClampNeg 7000)) - (Int32.toNatClampNeg 7000)) - (Int32.toNatClampNeg 7000)) - (Int32.toNatClampNeg 7000)) - (Int32.toNatClampNeg 7000)) - (Int32.toNatClampNeg 7000)) - (Int32.toNatClampNeg 7000)) - (Int32.toNatClampNeg 7000)) - (Int32.toNatClampNeg 20100)) - (Int32.toNatClampNeg 200000)) - (Int32.toNatClampNeg 200000)) - (Int32.toNatClampNeg 1000)) - (Int32.toNatClampNeg 20100)) - (Int32.toNatClampNeg 20100)) - (Int32.toNatClampNeg 7000)) ≤ z := by omega
  refine my_putr (C := RX11) (F := TX11) (N := 59) (ci := 12) X M 57 rfl in_X11 tyX11 tyX11_ok nmX11 (by decide) rfl (by decide) kw_1187 (Or.inr ⟨hnm, rfl⟩) dX11_init_339 hk340 (some q337) (mq_na _ _) (mq_fa _ _) (fun μ342 H locs eμ342 M => ?_)
  replace hw := hw μ342 eμ342
  have hKM343 : KM μ μ342 := by rw [eμ342]; exact hKM339
  have hk344 : kd μ342 o = 13 := by rw [eμ342]; exact hk340
  have hk345 : kd μ342 q337 = 102 := by rw [eμ342]; exact hk341
  exact mx_vret X hr hk M dX11_init_342 (by omega) (by omega) ⟨hw, hKM343⟩
