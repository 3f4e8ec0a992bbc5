abbrev rm_X8_characterAt : Room := { frames := 1, cells := 0, slots := 0, locals := 21 }
def wp_X8_characterAt (μ : Mem) (o : Nat) (a1 : Int32) (post : Int32 → Mem → Prop) : Prop :=
  kd μ o = 11 ∧
  wp_X10_within μ a1 (fi μ 10 1 o) (fun (r4 : Int32) (μ2 : Mem) =>
  KM μ μ2 →
  (r4 = 0 →
   post (-1) μ2) ∧ (¬ r4 = 0 →
   ∃ x6, fr μ2 10 0 o = some x6 ∧
   isArr (kd μ2 x6) ∧
   ((nI (al μ2 x6)) ≤ a1 →
    post (-1) μ2) ∧ (¬ (nI (al μ2 x6)) ≤ a1 →
    ∃ x7, fr μ2 10 0 o = some x7 ∧
    kd μ2 x7 = 101 ∧
    vp_in a1 (al μ2 x7) ∧
    post (ai μ2 x7 (Int32.toNatClampNeg a1)) μ2)))
set_option maxRecDepth 100000 in
set_option maxHeartbeats 4000000 in
theorem c_X8_characterAt (l : Launch) (T : Tb) (B : Nat) (μ : Mem) (o : Nat) (a1 : Int32) (post : Int32 → Mem → Prop) (hw : wp_X8_characterAt μ o a1 post) : Met l yX8_characterAt (.code yX8_characterAt cX8_characterAt 2 (some .int) :: G) rm_X8_characterAt (Pm (Rl T B) T B μ [.ref o, .int a1]) (va_Qi (fun r9 μ9 => post r9 μ9 ∧ KM μ μ9) (Bm (Rl T B)) (Ai B)) 0 0 (Ai B) := by
  refine mx_of RX8 rfl (by decide) (Nat.le_of_ble_eq_true rfl) ?_
  intro p e s m below meth c0 X hr hk hnm M ls hl
  have hl : lv_has ls 2 [(0, .ref o), (1, .int a1)] := hl
  unfold wp_X8_characterAt at hw
  have hKM : KM μ μ := KM.rf μ
  refine lv_iload_n X.1 X.2.1 dX8_characterAt_0 rfl (lv_at hl 1 rfl) ?_
  refine lv_aload_n X.1 X.2.1 dX8_characterAt_1 rfl (lv_at hl 0 rfl) ?_
  obtain ⟨hk1, hw⟩ := hw
  refine mx_geti (C := RX8) (F := TX8) (N := 4) (ci := 10) X M 1 rfl in_X8 (by decide) rfl (by decide) kw_235 dX8_characterAt_2 hk1 ?_
  have hw3 := hw
  clear hw
  refine mx_ci M (mx_runSN (n := 2) (As := [.int a1, .int (fi μ 10 1 o)]) (rest := []) X M (c_X10_within l T B μ a1 (fi μ 10 1 o) _ hw3) kw_827 kw_309 kw_65 kw_310 (by decide +kernel) rfl rfl ⟨Nat.le_of_ble_eq_true rfl, Nat.le_of_ble_eq_true rfl⟩ rfl hl.1 (Nat.le_of_ble_eq_true rfl) dX8_characterAt_5 ⟨by decide, by decide⟩) (fun r4 μ2 H locs ⟨hw, hKM2⟩ M => ?_)
  replace hw := hw hKM2
  have hKM2_ := hKM.tr hKM2
  have hk5 := hKM2.at hk1
  obtain ⟨hwt, hwf⟩ := hw
  refine lv_if_eq (tgt := 29) X.1 X.2.1 dX8_characterAt_8 (by decide) (fun hq => ?_) (fun hq => ?_)
  · have hw := hwt hq
    refine lv_iconst (v := (-1)) X.1 X.2.1 dX8_characterAt_29 (by decide) ?_
    exact mx_iret X hr hk M dX8_characterAt_30 (by decide) (by decide) ⟨hw, hKM2_⟩
  · have hw := hwf hq
    refine lv_iload_n X.1 X.2.1 dX8_characterAt_11 rfl (lv_at hl 1 rfl) ?_
    refine lv_aload_n X.1 X.2.1 dX8_characterAt_12 rfl (lv_at hl 0 rfl) ?_
    obtain ⟨x6, ex6, hw⟩ := hw
    refine mx_getr (C := RX8) (F := TX8) (N := 4) (ci := 10) X M 0 rfl in_X8 (by decide) rfl (by decide) kw_234 dX8_characterAt_13 hk5 ?_
    rw [ex6]
    obtain ⟨hia, hw⟩ := hw
    refine mx_len X M dX8_characterAt_16 hia ?_
    obtain ⟨hwt, hwf⟩ := hw
    refine lv_icmp_ge (tgt := 29) X.1 X.2.1 dX8_characterAt_17 (by decide) (fun hq => ?_) (fun hq => ?_)
    · have hw := hwt hq
      refine lv_iconst (v := (-1)) X.1 X.2.1 dX8_characterAt_29 (by decide) ?_
      exact mx_iret X hr hk M dX8_characterAt_30 (by decide) (by decide) ⟨hw, hKM2_⟩
    · have hw := hwf hq
      refine lv_aload_n X.1 X.2.1 dX8_characterAt_20 rfl (lv_at hl 0 rfl) ?_
      obtain ⟨x7, ex7, hw⟩ := hw
      refine mx_getr (C := RX8) (F := TX8) (N := 4) (ci := 10) X M 0 rfl in_X8 (by decide) rfl (by decide) kw_234 dX8_characterAt_21 hk5 ?_
      rw [ex7]
      refine lv_iload_n X.1 X.2.1 dX8_characterAt_24 rfl (lv_at hl 1 rfl) ?_
      obtain ⟨hk8, hw⟩ := hw
      obtain ⟨hi, hw⟩ := hw
      refine mx_bld X M dX8_characterAt_25 hk8 hi ?_
      refine lv_goto (tgt := 30) X.1 X.2.1 dX8_characterAt_26 (by decide) ?_
      exact mx_iret X hr hk M dX8_characterAt_30 (by decide) (by decide) ⟨hw, hKM2_⟩

abbrev rm_X10_init (c z : Nat) : Room := { frames := 6, cells := c, slots := z, locals := 120 }
def wp_X10_init (c z : Nat) (μ : Mem) (o : Nat) (post : Mem → Prop) : Prop :=
  ¬ (10 : Int32) < 0 ∧ (Int32.toNatClampNeg 10) ≤ 1048576 ∧ 1 ≤ c ∧ (Int32.toNatClampNeg 10) ≤ z ∧ ∀ (q1 : Nat) (μ2 : Mem), kd μ q1 = 0 → μ2 = nar μ 102 q1 (Int32.toNatClampNeg 10) →
  kd μ2 o = 12 ∧
  ∀ μ6 : Mem, μ6 = sfr μ2 11 0 o (some q1) →
  1 ≤ c - 1 ∧ 3 ≤ z - (Int32.toNatClampNeg 10) ∧ ∀ (q10 : Nat) (μ11 : Mem), kd μ6 q10 = 0 → μ11 = nob μ6 1 q10 →
  wp_Jx4a65c_init_da8c8 μ11 q10 (fun (μ15 : Mem) =>
  KM μ11 μ15 →
  ∀ μ19 : Mem, μ19 = sfr μ15 11 2 o (some q10) →
  1 ≤ (c - 1) - 1 ∧ 7 ≤ (z - (Int32.toNatClampNeg 10)) - 3 ∧ ∀ (q23 : Nat) (μ24 : Mem), kd μ19 q23 = 0 → μ24 = nob μ19 2 q23 →
  ∃ c29 z30, c29 ≤ ((c - 1) - 1) - 1 ∧ z30 ≤ ((z - (Int32.toNatClampNeg 10)) - 3) - 7 ∧
  wp_X0_init c29 z30 μ24 q23 (fun (μ28 : Mem) =>
  KM μ24 μ28 →
  ∀ μ34 : Mem, μ34 = sfr μ28 11 4 o (some q23) →
  1 ≤ (((c - 1) - 1) - 1) - c29 ∧ 4 ≤ (((z - (Int32.toNatClampNeg 10)) - 3) - 7) - z30 ∧ ∀ (q38 : Nat) (μ39 : Mem), kd μ34 q38 = 0 → μ39 = nob μ34 10 q38 →
  ∃ c44 z45, c44 ≤ ((((c - 1) - 1) - 1) - c29) - 1 ∧ z45 ≤ ((((z - (Int32.toNatClampNeg 10)) - 3) - 7) - z30) - 4 ∧
  wp_X8_init c44 z45 μ39 q38 (fun (μ43 : Mem) =>
  KM μ39 μ43 →
  ∀ μ49 : Mem, μ49 = sfr μ43 11 5 o (some q38) →
  post μ49)))
set_option maxRecDepth 100000 in
set_option maxHeartbeats 4000000 in
theorem c_X10_init (l : Launch) (T : Tb) (B : Nat) (c z : Nat) (μ : Mem) (o : Nat) (post : Mem → Prop) (hw : wp_X10_init c z μ o post) : Met l yX10_init (.code yX10_init cX10_init 1 none :: G) (rm_X10_init c z) (Pm (Rl T B) T B μ [.ref o]) (va_Qv (fun μ9 => post μ9 ∧ KM μ μ9) (Bm (Rl T B)) (Ai B)) c z (Ai B) := by
  refine mx_of RX10 rfl (by decide) (Nat.le_of_ble_eq_true rfl) ?_
  intro p e s m below meth c0 X hr hk hnm M ls hl
  have hl : lv_has ls 1 [(0, .ref o)] := hl
  unfold wp_X10_init at hw
  have hKM : KM μ μ := KM.rf μ
  have hc : 0 + c ≤ c := by omega
  have hz : 0 + z ≤ z := by omega
  refine lv_aload_n X.1 X.2.1 dX10_init_0 rfl (lv_at hl 0 rfl) ?_
  refine my_obj X kw_95 kw_96 kw_97 hl.1 (Nat.le_of_ble_eq_true rfl) (Nat.le_of_ble_eq_true rfl) (Nat.le_of_ble_eq_true rfl) dX10_init_1 ?_
  refine lv_aload_n X.1 X.2.1 dX10_init_4 rfl (lv_at hl 0 rfl) ?_
  refine lv_bipush (v := 10) X.1 X.2.1 dX10_init_5 (by decide) ?_
  obtain ⟨hb0, hb3, hb1, hb2, hw⟩ := hw
  refine my_newI X M kw_124 dX10_init_7 hb0 hb3 (show 0 + 1 ≤ c by omega) (show 0 + (Int32.toNatClampNeg 10) ≤ z by omega) (fun q1 μ2 H hq1 eμ2 M => ?_)
  replace hw := hw q1 μ2 hq1 eμ2
  have hKM3 : KM μ μ2 := by rw [eμ2]; exact hKM.tr (KM_nar hq1)
  have hk4 : kd μ2 q1 = 102 := by rw [eμ2]; exact kd_nar
  have hc : (0 + 1) + (c - 1) ≤ c := by omega
  have hz : (0 + (Int32.toNatClampNeg 10)) + (z - (Int32.toNatClampNeg 10)) ≤ z := by omega
  obtain ⟨hk5, hw⟩ := hw
  refine my_putr (C := RX10) (F := TX10) (N := 6) (ci := 11) X M 0 rfl in_X10 tyX10 tyX10_ok nmX10 (by decide) rfl (by decide) kw_248 (Or.inr ⟨hnm, rfl⟩) dX10_init_9 hk5 (some q1) (mq_na _ _) (mq_fa _ _) (fun μ6 H locs eμ6 M => ?_)
  replace hw := hw μ6 eμ6
  have hKM7 : KM μ μ6 := by rw [eμ6]; exact hKM3
  have hk8 : kd μ6 q1 = 102 := by rw [eμ6]; exact hk4
  have hk9 : kd μ6 o = 12 := by rw [eμ6]; exact hk5
  refine lv_aload_n X.1 X.2.1 dX10_init_12 rfl (lv_at hl 0 rfl) ?_
  obtain ⟨hb1, hb2, hw⟩ := hw
  refine my_new (C := RJx4a65c) (F := TJx4a65c) (N := 3) (ci := 1) X M rfl in_Jx4a65c tyJx4a65c tyJx4a65c_ok df_Jx4a65c (by decide) kw_98 kw_99 kw_68 dX10_init_13 (show (0 + 1) + 1 ≤ c by omega) (show (0 + (Int32.toNatClampNeg 10)) + 3 ≤ z by omega) (fun q10 μ11 H hq10 eμ11 M => ?_)
  replace hw := hw q10 μ11 hq10 eμ11
  have hKM12 : KM μ μ11 := by rw [eμ11]; exact hKM7.tr (KM_nob hq10)
  have hk13 : kd μ11 o = 12 := by rw [eμ11]; exact (KM_nob hq10).at hk9
  have hk14 : kd μ11 q10 = 2 := by rw [eμ11]; exact kd_nob
  have hc : ((0 + 1) + 1) + ((c - 1) - 1) ≤ c := by omega
  have hz : ((0 + (Int32.toNatClampNeg 10)) + 3) + ((z - (Int32.toNatClampNeg 10)) - 3) ≤ z := by omega
  refine lv_dup X.1 X.2.1 dX10_init_16 rfl ?_
  have hw16 := hw
  clear hw
  refine mx_cv M (mx_runI (n := 0) (As := []) (rest := [.ref q10, .ref o]) X M (c_Jx4a65c_init_da8c8 l T B μ11 q10 _ hw16) kw_100 kw_101 rfl kw_68 kw_102 (by decide +kernel) rfl rfl ⟨Nat.le_of_ble_eq_true rfl, Nat.le_of_ble_eq_true rfl⟩ rfl hl.1 (Nat.le_of_ble_eq_true rfl) dX10_init_17 ⟨(show ((0 + 1) + 1) + 0 ≤ c by omega), (show ((0 + (Int32.toNatClampNeg 10)) + 3) + 0 ≤ z by omega)⟩) (fun μ15 H locs ⟨hw, hKM15⟩ M => ?_)
  replace hw := hw hKM15
  have hKM15_ := hKM12.tr hKM15
  have hk17 := hKM15.at hk13
  have hk18 := hKM15.at hk14
  have hc : (((0 + 1) + 1) + 0) + ((c - 1) - 1) ≤ c := by omega
  have hz : (((0 + (Int32.toNatClampNeg 10)) + 3) + 0) + ((z - (Int32.toNatClampNeg 10)) - 3) ≤ z := by omega
  refine my_putr (C := RX10) (F := TX10) (N := 6) (ci := 11) X M 2 rfl in_X10 tyX10 tyX10_ok nmX10 (by decide) rfl (by decide) kw_250 (Or.inr ⟨hnm, rfl⟩) dX10_init_20 hk17 (some q10) (mq_no _ _) (mq_fo _ _) (fun μ19 H locs eμ19 M => ?_)
  replace hw := hw μ19 eμ19
  have hKM20 : KM μ μ19 := by rw [eμ19]; exact hKM15_
  have hk21 : kd μ19 o = 12 := by rw [eμ19]; exact hk17
  have hk22 : kd μ19 q10 = 2 := by rw [eμ19]; exact hk18
  refine lv_aload_n X.1 X.2.1 dX10_init_23 rfl (lv_at hl 0 rfl) ?_
  obtain ⟨hb1, hb2, hw⟩ := hw
  refine my_new (C := RX0) (F := TX0) (N := 7) (ci := 2) X M rfl in_X0 tyX0 tyX0_ok df_X0 (by decide) kw_125 kw_126 kw_69 dX10_init_24 (show (((0 + 1) + 1) + 0) + 1 ≤ c by omega) (show (((0 + (Int32.toNatClampNeg 10)) + 3) + 0) + 7 ≤ z by omega) (fun q23 μ24 H hq23 eμ24 M => ?_)
  replace hw := hw q23 μ24 hq23 eμ24
  have hKM25 : KM μ μ24 := by rw [eμ24]; exact hKM20.tr (KM_nob hq23)
  have hk26 : kd μ24 o = 12 := by rw [eμ24]; exact (KM_nob hq23).at hk21
  have hk27 : kd μ24 q23 = 3 := by rw [eμ24]; exact kd_nob
  have hc : ((((0 + 1) + 1) + 0) + 1) + (((c - 1) - 1) - 1) ≤ c := by omega
  have hz : ((((0 + (Int32.toNatClampNeg 10)) + 3) + 0) + 7) + (((z - (Int32.toNatClampNeg 10)) - 3) - 7) ≤ z := by omega
  refine lv_dup X.1 X.2.1 dX10_init_27 rfl ?_
  obtain ⟨c29, z30, hc29, hz30, hw⟩ := hw
  have hw31 := hw
  clear hw
  refine mx_cv M (mx_runIN (n := 0) (As := []) (rest := [.ref q23, .ref o]) X M (c_X0_init l T B c29 z30 μ24 q23 _ hw31) kw_127 kw_128 rfl kw_69 kw_129 (by decide +kernel) rfl rfl ⟨Nat.le_of_ble_eq_true rfl, Nat.le_of_ble_eq_true rfl⟩ rfl hl.1 (Nat.le_of_ble_eq_true rfl) dX10_init_28 ⟨(show ((((0 + 1) + 1) + 0) + 1) + c29 ≤ c by omega), (show ((((0 + (Int32.toNatClampNeg 10)) + 3) + 0) + 7) + z30 ≤ z by omega)⟩) (fun μ28 H locs ⟨hw, hKM28⟩ M => ?_)
  replace hw := hw hKM28
  have hKM28_ := hKM25.tr hKM28
  have hk32 := hKM28.at hk26
  have hk33 := hKM28.at hk27
  have hc : (((((0 + 1) + 1) + 0) + 1) + c29) + ((((c - 1) - 1) - 1) - c29) ≤ c := by omega
  have hz : (((((0 + (Int32.toNatClampNeg 10)) + 3) + 0) + 7) + z30) + ((((z - (Int32.toNatClampNeg 10)) - 3) - 7) - z30) ≤ z := by omega
  refine my_putr (C := RX10) (F := TX10) (N := 6) (ci := 11) X M 4 rfl in_X10 tyX10 tyX10_ok nmX10 (by decide) rfl (by decide) kw_252 (Or.inr ⟨hnm, rfl⟩) dX10_init_31 hk32 (some q23) (mq_no _ _) (mq_fo _ _) (fun μ34 H locs eμ34 M => ?_)
  replace hw := hw μ34 eμ34
  have hKM35 : KM μ μ34 := by rw [eμ34]; exact hKM28_
  have hk36 : kd μ34 o = 12 := by rw [eμ34]; exact hk32
  have hk37 : kd μ34 q23 = 3 := by rw [eμ34]; exact hk33
  refine lv_aload_n X.1 X.2.1 dX10_init_34 rfl (lv_at hl 0 rfl) ?_
  obtain ⟨hb1, hb2, hw⟩ := hw
  refine my_new (C := RX8) (F := TX8) (N := 4) (ci := 10) X M rfl in_X8 tyX8 tyX8_ok df_X8 (by decide) kw_226 kw_227 kw_73 dX10_init_35 (show (((((0 + 1) + 1) + 0) + 1) + c29) + 1 ≤ c by omega) (show (((((0 + (Int32.toNatClampNeg 10)) + 3) + 0) + 7) + z30) + 4 ≤ z by omega) (fun q38 μ39 H hq38 eμ39 M => ?_)
  replace hw := hw q38 μ39 hq38 eμ39
  have hKM40 : KM μ μ39 := by rw [eμ39]; exact hKM35.tr (KM_nob hq38)
  have hk41 : kd μ39 o = 12 := by rw [eμ39]; exact (KM_nob hq38).at hk36
  have hk42 : kd μ39 q38 = 11 := by rw [eμ39]; exact kd_nob
  have hc : ((((((0 + 1) + 1) + 0) + 1) + c29) + 1) + (((((c - 1) - 1) - 1) - c29) - 1) ≤ c := by omega
  have hz : ((((((0 + (Int32.toNatClampNeg 10)) + 3) + 0) + 7) + z30) + 4) + (((((z - (Int32.toNatClampNeg 10)) - 3) - 7) - z30) - 4) ≤ z := by omega
  refine lv_dup X.1 X.2.1 dX10_init_38 rfl ?_
  obtain ⟨c44, z45, hc44, hz45, hw⟩ := hw
  have hw46 := hw
  clear hw
  refine mx_cv M (mx_runIN (n := 0) (As := []) (rest := [.ref q38, .ref o]) X M (c_X8_init l T B c44 z45 μ39 q38 _ hw46) kw_228 kw_229 rfl kw_73 kw_230 (by decide +kernel) rfl rfl ⟨Nat.le_of_ble_eq_true rfl, Nat.le_of_ble_eq_true rfl⟩ rfl hl.1 (Nat.le_of_ble_eq_true rfl) dX10_init_39 ⟨(show ((((((0 + 1) + 1) + 0) + 1) + c29) + 1) + c44 ≤ c by omega), (show ((((((0 + (Int32.toNatClampNeg 10)) + 3) + 0) + 7) + z30) + 4) + z45 ≤ z by omega)⟩) (fun μ43 H locs ⟨hw, hKM43⟩ M => ?_)
  replace hw := hw hKM43
  have hKM43_ := hKM40.tr hKM43
  have hk47 := hKM43.at hk41
  have hk48 := hKM43.at hk42
  have hc : (((((((0 + 1) + 1) + 0) + 1) + c29) + 1) + c44) + ((((((c - 1) - 1) - 1) - c29) - 1) - c44) ≤ c := by omega
  have hz : (((((((0 + (Int32.toNatClampNeg 10)) + 3) + 0) + 7) + z30) + 4) + z45) + ((((((z - (Int32.toNatClampNeg 10)) - 3) - 7) - z30) - 4) - z45) ≤ z := by omega
  refine my_putr (C := RX10) (F := TX10) (N := 6) (ci := 11) X M 5 rfl in_X10 tyX10 tyX10_ok nmX10 (by decide) rfl (by decide) kw_253 (Or.inr ⟨hnm, rfl⟩) dX10_init_42 hk47 (some q38) (mq_no _ _) (mq_fo _ _) (fun μ49 H locs eμ49 M => ?_)
  replace hw := hw μ49 eμ49
  have hKM50 : KM μ μ49 := by rw [eμ49]; exact hKM43_
  have hk51 : kd μ49 o = 12 := by rw [eμ49]; exact hk47
  have hk52 : kd μ49 q38 = 11 := by rw [eμ49]; exact hk48
  exact mx_vret X hr hk M dX10_init_45 (by omega) (by omega) ⟨hw, hKM50⟩

abbrev rm_X10_letter : Room := { frames := 2, cells := 0, slots := 0, locals := 42 }
def wp_X10_letter (μ : Mem) (o : Nat) (a1 : Int32) (post : Int32 → Mem → Prop) : Prop :=
  kd μ o = 12 ∧
  ∃ x2, fr μ 11 5 o = some x2 ∧
  kd μ x2 = 11 ∧
  wp_X8_characterAt μ x2 a1 (fun (r5 : Int32) (μ3 : Mem) =>
  KM μ μ3 →
  post r5 μ3)
set_option maxRecDepth 100000 in
set_option maxHeartbeats 4000000 in
theorem c_X10_letter (l : Launch) (T : Tb) (B : Nat) (μ : Mem) (o : Nat) (a1 : Int32) (post : Int32 → Mem → Prop) (hw : wp_X10_letter μ o a1 post) : Met l yX10_letter (.code yX10_letter cX10_letter 2 (some .int) :: G) rm_X10_letter (Pm (Rl T B) T B μ [.ref o, .int a1]) (va_Qi (fun r9 μ9 => post r9 μ9 ∧ KM μ μ9) (Bm (Rl T B)) (Ai B)) 0 0 (Ai B) := by
  refine mx_of RX10 rfl (by decide) (Nat.le_of_ble_eq_true rfl) ?_
  intro p e s m below meth c0 X hr hk hnm M ls hl
  have hl : lv_has ls 2 [(0, .ref o), (1, .int a1)] := hl
  unfold wp_X10_letter at hw
  have hKM : KM μ μ := KM.rf μ
  refine lv_aload_n X.1 X.2.1 dX10_letter_0 rfl (lv_at hl 0 rfl) ?_
  obtain ⟨hk1, hw⟩ := hw
  obtain ⟨x2, ex2, hw⟩ := hw
  refine mx_getr (C := RX10) (F := TX10) (N := 6) (ci := 11) X M 5 rfl in_X10 (by decide) rfl (by decide) kw_253 dX10_letter_1 hk1 ?_
  rw [ex2]
  refine lv_iload_n X.1 X.2.1 dX10_letter_4 rfl (lv_at hl 1 rfl) ?_
  obtain ⟨hk6, hw⟩ := hw
  have hw4 := hw
  clear hw
  refine mx_ci M (mx_runV (n := 1) (As := [.int a1]) (rest := []) X M (c_X8_characterAt l T B μ x2 a1 _ hw4) (mx_recv (C := RX8) (F := TX8) (N := 4) (ci := 10) X M rfl (by decide) hk6) kw_823 kw_824 kw_825 kw_73 kw_826 (by decide +kernel) rfl rfl ⟨Nat.le_of_ble_eq_true rfl, Nat.le_of_ble_eq_true rfl⟩ rfl hl.1 (Nat.le_of_ble_eq_true rfl) dX10_letter_5 ⟨by decide, by decide⟩) (fun r5 μ3 H locs ⟨hw, hKM3⟩ M => ?_)
  replace hw := hw hKM3
  have hKM3_ := hKM.tr hKM3
  have hk7 := hKM3.at hk1
  have hk8 := hKM3.at hk6
  exact mx_iret X hr hk M dX10_letter_8 (by decide) (by decide) ⟨hw, hKM3_⟩

abbrev rm_X11_init (c z : Nat) : Room := { frames := 1, cells := c, slots := z, locals := 20 }
def wp_X11_init (c z : Nat) (μ : Mem) (o : Nat) (post : Mem → Prop) : Prop :=
  1 ≤ c ∧ 10 ≤ z ∧ ∀ (q1 : Nat) (μ2 : Mem) (c3 z4 : Nat), c3 + 1 = c → z4 + 10 = z → kd μ q1 = 0 → μ2 = nar μ 102 q1 10 →
  kd μ2 o = 13 ∧
  ∀ μ9 : Mem, μ9 = sfr μ2 12 1 o (some q1) →
  1 ≤ c3 ∧ 60 ≤ z4 ∧ ∀ (q12 : Nat) (μ13 : Mem) (c14 z15 : Nat), c14 + 1 = c3 → z15 + 60 = z4 → kd μ9 q12 = 0 → μ13 = nar μ9 104 q12 60 →
  ∀ μ20 : Mem, μ20 = sfr μ13 12 4 o (some q12) →
  1 ≤ c14 ∧ 60 ≤ z15 ∧ ∀ (q23 : Nat) (μ24 : Mem) (c25 z26 : Nat), c25 + 1 = c14 → z26 + 60 = z15 → kd μ20 q23 = 0 → μ24 = nar μ20 102 q23 60 →
  ∀ μ31 : Mem, μ31 = sfr μ24 12 5 o (some q23) →
  1 ≤ c25 ∧ 60 ≤ z26 ∧ ∀ (q34 : Nat) (μ35 : Mem) (c36 z37 : Nat), c36 + 1 = c25 → z37 + 60 = z26 → kd μ31 q34 = 0 → μ35 = nar μ31 102 q34 60 →
  ∀ μ42 : Mem, μ42 = sfr μ35 12 6 o (some q34) →
  1 ≤ c36 ∧ 60 ≤ z37 ∧ ∀ (q45 : Nat) (μ46 : Mem) (c47 z48 : Nat), c47 + 1 = c36 → z48 + 60 = z37 → kd μ42 q45 = 0 → μ46 = nar μ42 102 q45 60 →
  ∀ μ53 : Mem, μ53 = sfr μ46 12 7 o (some q45) →
  1 ≤ c47 ∧ 480 ≤ z48 ∧ ∀ (q56 : Nat) (μ57 : Mem) (c58 z59 : Nat), c58 + 1 = c47 → z59 + 480 = z48 → kd μ53 q56 = 0 → μ57 = nar μ53 102 q56 480 →
  ∀ μ64 : Mem, μ64 = sfr μ57 12 8 o (some q56) →
  1 ≤ c58 ∧ 60 ≤ z59 ∧ ∀ (q67 : Nat) (μ68 : Mem) (c69 z70 : Nat), c69 + 1 = c58 → z70 + 60 = z59 → kd μ64 q67 = 0 → μ68 = nar μ64 102 q67 60 →
  ∀ μ75 : Mem, μ75 = sfr μ68 12 9 o (some q67) →
  1 ≤ c69 ∧ 120000 ≤ z70 ∧ ∀ (q78 : Nat) (μ79 : Mem) (c80 z81 : Nat), c80 + 1 = c69 → z81 + 120000 = z70 → kd μ75 q78 = 0 → μ79 = nar μ75 102 q78 120000 →
  ∀ μ86 : Mem, μ86 = sfr μ79 12 10 o (some q78) →
  1 ≤ c80 ∧ 2000 ≤ z81 ∧ ∀ (q89 : Nat) (μ90 : Mem) (c91 z92 : Nat), c91 + 1 = c80 → z92 + 2000 = z81 → kd μ86 q89 = 0 → μ90 = nar μ86 102 q89 2000 →
  ∀ μ97 : Mem, μ97 = sfr μ90 12 12 o (some q89) →
  1 ≤ c91 ∧ 2000 ≤ z92 ∧ ∀ (q100 : Nat) (μ101 : Mem) (c102 z103 : Nat), c102 + 1 = c91 → z103 + 2000 = z92 → kd μ97 q100 = 0 → μ101 = nar μ97 102 q100 2000 →
  ∀ μ108 : Mem, μ108 = sfr μ101 12 13 o (some q100) →
  1 ≤ c102 ∧ 2000 ≤ z103 ∧ ∀ (q111 : Nat) (μ112 : Mem) (c113 z114 : Nat), c113 + 1 = c102 → z114 + 2000 = z103 → kd μ108 q111 = 0 → μ112 = nar μ108 102 q111 2000 →
  ∀ μ119 : Mem, μ119 = sfr μ112 12 14 o (some q111) →
  1 ≤ c113 ∧ 2000 ≤ z114 ∧ ∀ (q122 : Nat) (μ123 : Mem) (c124 z125 : Nat), c124 + 1 = c113 → z125 + 2000 = z114 → kd μ119 q122 = 0 → μ123 = nar μ119 102 q122 2000 →
  ∀ μ130 : Mem, μ130 = sfr μ123 12 15 o (some q122) →
  1 ≤ c124 ∧ 2000 ≤ z125 ∧ ∀ (q133 : Nat) (μ134 : Mem) (c135 z136 : Nat), c135 + 1 = c124 → z136 + 2000 = z125 → kd μ130 q133 = 0 → μ134 = nar μ130 102 q133 2000 →
  ∀ μ141 : Mem, μ141 = sfr μ134 12 16 o (some q133) →
  1 ≤ c135 ∧ 2000 ≤ z136 ∧ ∀ (q144 : Nat) (μ145 : Mem) (c146 z147 : Nat), c146 + 1 = c135 → z147 + 2000 = z136 → kd μ141 q144 = 0 → μ145 = nar μ141 102 q144 2000 →
  ∀ μ152 : Mem, μ152 = sfr μ145 12 17 o (some q144) →
  1 ≤ c146 ∧ 20000 ≤ z147 ∧ ∀ (q155 : Nat) (μ156 : Mem) (c157 z158 : Nat), c157 + 1 = c146 → z158 + 20000 = z147 → kd μ152 q155 = 0 → μ156 = nar μ152 102 q155 20000 →
  ∀ μ163 : Mem, μ163 = sfr μ156 12 18 o (some q155) →
  1 ≤ c157 ∧ 20100 ≤ z158 ∧ ∀ (q166 : Nat) (μ167 : Mem) (c168 z169 : Nat), c168 + 1 = c157 → z169 + 20100 = z158 → kd μ163 q166 = 0 → μ167 = nar μ163 102 q166 20100 →
  ∀ μ174 : Mem, μ174 = sfr μ167 12 20 o (some q166) →
  1 ≤ c168 ∧ 20100 ≤ z169 ∧ ∀ (q177 : Nat) (μ178 : Mem) (c179 z180 : Nat), c179 + 1 = c168 → z180 + 20100 = z169 → kd μ174 q177 = 0 → μ178 = nar μ174 102 q177 20100 →
  ∀ μ185 : Mem, μ185 = sfr μ178 12 21 o (some q177) →
  1 ≤ c179 ∧ 20100 ≤ z180 ∧ ∀ (q188 : Nat) (μ189 : Mem) (c190 z191 : Nat), c190 + 1 = c179 → z191 + 20100 = z180 → kd μ185 q188 = 0 → μ189 = nar μ185 102 q188 20100 →
  ∀ μ196 : Mem, μ196 = sfr μ189 12 22 o (some q188) →
  1 ≤ c190 ∧ 20100 ≤ z191 ∧ ∀ (q199 : Nat) (μ200 : Mem) (c201 z202 : Nat), c201 + 1 = c190 → z202 + 20100 = z191 → kd μ196 q199 = 0 → μ200 = nar μ196 103 q199 20100 →
  ∀ μ207 : Mem, μ207 = sfr μ200 12 23 o (some q199) →
  1 ≤ c201 ∧ 7000 ≤ z202 ∧ ∀ (q210 : Nat) (μ211 : Mem) (c212 z213 : Nat), c212 + 1 = c201 → z213 + 7000 = z202 → kd μ207 q210 = 0 → μ211 = nar μ207 104 q210 7000 →
  ∀ μ218 : Mem, μ218 = sfr μ211 12 27 o (some q210) →
  1 ≤ c212 ∧ 7000 ≤ z213 ∧ ∀ (q221 : Nat) (μ222 : Mem) (c223 z224 : Nat), c223 + 1 = c212 → z224 + 7000 = z213 → kd μ218 q221 = 0 → μ222 = nar μ218 102 q221 7000 →
  ∀ μ229 : Mem, μ229 = sfr μ222 12 28 o (some q221) →
  1 ≤ c223 ∧ 7000 ≤ z224 ∧ ∀ (q232 : Nat) (μ233 : Mem) (c234 z235 : Nat), c234 + 1 = c223 → z235 + 7000 = z224 → kd μ229 q232 = 0 → μ233 = nar μ229 102 q232 7000 →
  ∀ μ240 : Mem, μ240 = sfr μ233 12 29 o (some q232) →
  1 ≤ c234 ∧ 7000 ≤ z235 ∧ ∀ (q243 : Nat) (μ244 : Mem) (c245 z246 : Nat), c245 + 1 = c234 → z246 + 7000 = z235 → kd μ240 q243 = 0 → μ244 = nar μ240 102 q243 7000 →
  ∀ μ251 : Mem, μ251 = sfr μ244 12 30 o (some q243) →
  1 ≤ c245 ∧ 7000 ≤ z246 ∧ ∀ (q254 : Nat) (μ255 : Mem) (c256 z257 : Nat), c256 + 1 = c245 → z257 + 7000 = z246 → kd μ251 q254 = 0 → μ255 = nar μ251 102 q254 7000 →
  ∀ μ262 : Mem, μ262 = sfr μ255 12 31 o (some q254) →
  1 ≤ c256 ∧ 7000 ≤ z257 ∧ ∀ (q265 : Nat) (μ266 : Mem) (c267 z268 : Nat), c267 + 1 = c256 → z268 + 7000 = z257 → kd μ262 q265 = 0 → μ266 = nar μ262 102 q265 7000 →
  ∀ μ273 : Mem, μ273 = sfr μ266 12 32 o (some q265) →
  1 ≤ c267 ∧ 7000 ≤ z268 ∧ ∀ (q276 : Nat) (μ277 : Mem) (c278 z279 : Nat), c278 + 1 = c267 → z279 + 7000 = z268 → kd μ273 q276 = 0 → μ277 = nar μ273 102 q276 7000 →
  ∀ μ284 : Mem, μ284 = sfr μ277 12 33 o (some q276) →
  1 ≤ c278 ∧ 7000 ≤ z279 ∧ ∀ (q287 : Nat) (μ288 : Mem) (c289 z290 : Nat), c289 + 1 = c278 → z290 + 7000 = z279 → kd μ284 q287 = 0 → μ288 = nar μ284 104 q287 7000 →
  ∀ μ295 : Mem, μ295 = sfr μ288 12 34 o (some q287) →
  1 ≤ c289 ∧ 7000 ≤ z290 ∧ ∀ (q298 : Nat) (μ299 : Mem) (c300 z301 : Nat), c300 + 1 = c289 → z301 + 7000 = z290 → kd μ295 q298 = 0 → μ299 = nar μ295 102 q298 7000 →
  ∀ μ306 : Mem, μ306 = sfr μ299 12 35 o (some q298) →
  1 ≤ c300 ∧ 7000 ≤ z301 ∧ ∀ (q309 : Nat) (μ310 : Mem) (c311 z312 : Nat), c311 + 1 = c300 → z312 + 7000 = z301 → kd μ306 q309 = 0 → μ310 = nar μ306 102 q309 7000 →
  ∀ μ317 : Mem, μ317 = sfr μ310 12 36 o (some q309) →
  1 ≤ c311 ∧ 7000 ≤ z312 ∧ ∀ (q320 : Nat) (μ321 : Mem) (c322 z323 : Nat), c322 + 1 = c311 → z323 + 7000 = z312 → kd μ317 q320 = 0 → μ321 = nar μ317 102 q320 7000 →
  ∀ μ328 : Mem, μ328 = sfr μ321 12 37 o (some q320) →
  1 ≤ c322 ∧ 7000 ≤ z323 ∧ ∀ (q331 : Nat) (μ332 : Mem) (c333 z334 : Nat), c333 + 1 = c322 → z334 + 7000 = z323 → kd μ328 q331 = 0 → μ332 = nar μ328 102 q331 7000 →
  ∀ μ339 : Mem, μ339 = sfr μ332 12 38 o (some q331) →
  1 ≤ c333 ∧ 20100 ≤ z334 ∧ ∀ (q342 : Nat) (μ343 : Mem) (c344 z345 : Nat), c344 + 1 = c333 → z345 + 20100 = z334 → kd μ339 q342 = 0 → μ343 = nar μ339 103 q342 20100 →
  ∀ μ350 : Mem, μ350 = sfr μ343 12 39 o (some q342) →
  1 ≤ c344 ∧ 200000 ≤ z345 ∧ ∀ (q353 : Nat) (μ354 : Mem) (c355 z356 : Nat), c355 + 1 = c344 → z356 + 200000 = z345 → kd μ350 q353 = 0 → μ354 = nar μ350 102 q353 200000 →
  ∀ μ361 : Mem, μ361 = sfr μ354 12 42 o (some q353) →
  1 ≤ c355 ∧ 200000 ≤ z356 ∧ ∀ (q364 : Nat) (μ365 : Mem) (c366 z367 : Nat), c366 + 1 = c355 → z367 + 200000 = z356 → kd μ361 q364 = 0 → μ365 = nar μ361 103 q364 200000 →
  ∀ μ372 : Mem, μ372 = sfr μ365 12 43 o (some q364) →
  ∀ μ375 : Mem, μ375 = sfi μ372 12 44 o (-1) →
  1 ≤ c366 ∧ 1000 ≤ z367 ∧ ∀ (q378 : Nat) (μ379 : Mem) (c380 z381 : Nat), c380 + 1 = c366 → z381 + 1000 = z367 → kd μ375 q378 = 0 → μ379 = nar μ375 102 q378 1000 →
  ∀ μ386 : Mem, μ386 = sfr μ379 12 53 o (some q378) →
  1 ≤ c380 ∧ 20100 ≤ z381 ∧ ∀ (q389 : Nat) (μ390 : Mem) (c391 z392 : Nat), c391 + 1 = c380 → z392 + 20100 = z381 → kd μ386 q389 = 0 → μ390 = nar μ386 103 q389 20100 →
  ∀ μ397 : Mem, μ397 = sfr μ390 12 55 o (some q389) →
  1 ≤ c391 ∧ 20100 ≤ z392 ∧ ∀ (q400 : Nat) (μ401 : Mem) (c402 z403 : Nat), c402 + 1 = c391 → z403 + 20100 = z392 → kd μ397 q400 = 0 → μ401 = nar μ397 103 q400 20100 →
  ∀ μ408 : Mem, μ408 = sfr μ401 12 56 o (some q400) →
  1 ≤ c402 ∧ 7000 ≤ z403 ∧ ∀ (q411 : Nat) (μ412 : Mem) (c413 z414 : Nat), c413 + 1 = c402 → z414 + 7000 = z403 → kd μ408 q411 = 0 → μ412 = nar μ408 102 q411 7000 →
  ∀ μ419 : Mem, μ419 = sfr μ412 12 57 o (some q411) →
  post μ419
set_option maxRecDepth 100000 in
set_option maxHeartbeats 4000000 in
theorem c_X11_init (l : Launch) (T : Tb) (B : Nat) (c z : Nat) (μ : Mem) (o : Nat) (post : Mem → Prop) (hw : wp_X11_init c z μ o post) : Met l yX11_init (.code yX11_init cX11_init 1 none :: G) (rm_X11_init c z) (Pm (Rl T B) T B μ [.ref o]) (va_Qv (fun μ9 => post μ9 ∧ KM μ μ9) (Bm (Rl T B)) (Ai B)) c z (Ai B) := by
  refine mx_of RX11 rfl (by decide) (Nat.le_of_ble_eq_true rfl) ?_
  intro p e s m below meth c0 X hr hk hnm M ls hl
  have hl : lv_has ls 1 [(0, .ref o)] := hl
  unfold wp_X11_init at hw
  have hKM : KM μ μ := KM.rf μ
  have hc : 0 + c ≤ c := by omega
  have hz : 0 + z ≤ z := by omega
  refine lv_aload_n X.1 X.2.1 dX11_init_0 rfl (lv_at hl 0 rfl) ?_
  refine my_obj X kw_962 kw_96 kw_97 hl.1 (Nat.le_of_ble_eq_true rfl) (Nat.le_of_ble_eq_true rfl) (Nat.le_of_ble_eq_true rfl) dX11_init_1 ?_
  refine lv_aload_n X.1 X.2.1 dX11_init_4 rfl (lv_at hl 0 rfl) ?_
  refine lv_bipush (v := 10) X.1 X.2.1 dX11_init_5 (by decide) ?_
  obtain ⟨hb1, hb2, hw⟩ := hw
  refine my_newIk X M kw_124 dX11_init_7 10 (by decide) (by decide) (by decide) (show 0 + 1 ≤ c by omega) (show 0 + 10 ≤ z by omega) (fun q1 μ2 H k5 j6 ek5 ej6 hq1 eμ2 M => ?_)
  obtain ⟨c3, ec3⟩ : ∃ y, y + 1 = c := ⟨c - 1, by omega⟩
  obtain ⟨z4, ez4⟩ : ∃ y, y + 10 = z := ⟨z - 10, by omega⟩
  replace hw := hw q1 μ2 c3 z4 ec3 ez4 hq1 eμ2
  have hKM7 : KM μ μ2 := by rw [eμ2]; exact hKM.tr (KM_nar hq1)
  have hc : k5 + (c3) ≤ c := by omega
  have hz : j6 + (z4) ≤ z := by omega
  clear hb1 hb2
  obtain ⟨hk8, hw⟩ := hw
  refine my_putr (C := RX11) (F := TX11) (N := 59) (ci := 12) X M 1 rfl in_X11 tyX11 tyX11_ok nmX11 (by decide) rfl (by decide) kw_966 (Or.inr ⟨hnm, rfl⟩) dX11_init_9 hk8 (some q1) (mq_na _ _) (mq_fa _ _) (fun μ9 H locs eμ9 M => ?_)
  replace hw := hw μ9 eμ9
  have hKM10 : KM μ μ9 := by rw [eμ9]; exact hKM7
  have hk11 : kd μ9 o = 13 := by rw [eμ9]; exact hk8
  refine lv_aload_n X.1 X.2.1 dX11_init_12 rfl (lv_at hl 0 rfl) ?_
  refine W.eq (g2 := F0 m 13 ls [.ref o]) rfl ?_
  refine lv_bipush (v := 60) X.1 X.2.1 dX11_init_13 (by decide) ?_
  obtain ⟨hb1, hb2, hw⟩ := hw
  refine my_newZk X M kw_1143 dX11_init_15 60 (by decide) (by decide) (by decide) (show k5 + 1 ≤ c by omega) (show j6 + 60 ≤ z by omega) (fun q12 μ13 H k16 j17 ek16 ej17 hq12 eμ13 M => ?_)
  obtain ⟨c14, ec14⟩ : ∃ y, y + 1 = c3 := ⟨c3 - 1, by omega⟩
  obtain ⟨z15, ez15⟩ : ∃ y, y + 60 = z4 := ⟨z4 - 60, by omega⟩
  replace hw := hw q12 μ13 c14 z15 ec14 ez15 hq12 eμ13
  have hKM18 : KM μ μ13 := by rw [eμ13]; exact hKM10.tr (KM_nar hq12)
  have hk19 : kd μ13 o = 13 := by rw [eμ13]; exact (KM_nar hq12).at hk11
  have hc : k16 + (c14) ≤ c := by omega
  have hz : j17 + (z15) ≤ z := by omega
  clear hb1 hb2
  refine my_putr (C := RX11) (F := TX11) (N := 59) (ci := 12) X M 4 rfl in_X11 tyX11 tyX11_ok nmX11 (by decide) rfl (by decide) kw_969 (Or.inr ⟨hnm, rfl⟩) dX11_init_17 hk19 (some q12) (mq_na _ _) (mq_fa _ _) (fun μ20 H locs eμ20 M => ?_)
  replace hw := hw μ20 eμ20
  have hKM21 : KM μ μ20 := by rw [eμ20]; exact hKM18
  have hk22 : kd μ20 o = 13 := by rw [eμ20]; exact hk19
  refine lv_aload_n X.1 X.2.1 dX11_init_20 rfl (lv_at hl 0 rfl) ?_
  refine lv_bipush (v := 60) X.1 X.2.1 dX11_init_21 (by decide) ?_
  obtain ⟨hb1, hb2, hw⟩ := hw
  refine my_newIk X M kw_124 dX11_init_23 60 (by decide) (by decide) (by decide) (show k16 + 1 ≤ c by omega) (show j17 + 60 ≤ z by omega) (fun q23 μ24 H k27 j28 ek27 ej28 hq23 eμ24 M => ?_)
  obtain ⟨c25, ec25⟩ : ∃ y, y + 1 = c14 := ⟨c14 - 1, by omega⟩
  obtain ⟨z26, ez26⟩ : ∃ y, y + 60 = z15 := ⟨z15 - 60, by omega⟩
  replace hw := hw q23 μ24 c25 z26 ec25 ez26 hq23 eμ24
  have hKM29 : KM μ μ24 := by rw [eμ24]; exact hKM21.tr (KM_nar hq23)
  have hk30 : kd μ24 o = 13 := by rw [eμ24]; exact (KM_nar hq23).at hk22
  have hc : k27 + (c25) ≤ c := by omega
  have hz : j28 + (z26) ≤ z := by omega
  clear hb1 hb2
  refine my_putr (C := RX11) (F := TX11) (N := 59) (ci := 12) X M 5 rfl in_X11 tyX11 tyX11_ok nmX11 (by decide) rfl (by decide) kw_970 (Or.inr ⟨hnm, rfl⟩) dX11_init_25 hk30 (some q23) (mq_na _ _) (mq_fa _ _) (fun μ31 H locs eμ31 M => ?_)
  replace hw := hw μ31 eμ31
  have hKM32 : KM μ μ31 := by rw [eμ31]; exact hKM29
  have hk33 : kd μ31 o = 13 := by rw [eμ31]; exact hk30
  refine W.eq (g2 := F0 m 28 ls []) rfl ?_
  refine lv_aload_n X.1 X.2.1 dX11_init_28 rfl (lv_at hl 0 rfl) ?_
  refine lv_bipush (v := 60) X.1 X.2.1 dX11_init_29 (by decide) ?_
  obtain ⟨hb1, hb2, hw⟩ := hw
  refine my_newIk X M kw_124 dX11_init_31 60 (by decide) (by decide) (by decide) (show k27 + 1 ≤ c by omega) (show j28 + 60 ≤ z by omega) (fun q34 μ35 H k38 j39 ek38 ej39 hq34 eμ35 M => ?_)
  obtain ⟨c36, ec36⟩ : ∃ y, y + 1 = c25 := ⟨c25 - 1, by omega⟩
  obtain ⟨z37, ez37⟩ : ∃ y, y + 60 = z26 := ⟨z26 - 60, by omega⟩
  replace hw := hw q34 μ35 c36 z37 ec36 ez37 hq34 eμ35
  have hKM40 : KM μ μ35 := by rw [eμ35]; exact hKM32.tr (KM_nar hq34)
  have hk41 : kd μ35 o = 13 := by rw [eμ35]; exact (KM_nar hq34).at hk33
  have hc : k38 + (c36) ≤ c := by omega
  have hz : j39 + (z37) ≤ z := by omega
  clear hb1 hb2
  refine my_putr (C := RX11) (F := TX11) (N := 59) (ci := 12) X M 6 rfl in_X11 tyX11 tyX11_ok nmX11 (by decide) rfl (by decide) kw_971 (Or.inr ⟨hnm, rfl⟩) dX11_init_33 hk41 (some q34) (mq_na _ _) (mq_fa _ _) (fun μ42 H locs eμ42 M => ?_)
  replace hw := hw μ42 eμ42
  have hKM43 : KM μ μ42 := by rw [eμ42]; exact hKM40
  have hk44 : kd μ42 o = 13 := by rw [eμ42]; exact hk41
  refine lv_aload_n X.1 X.2.1 dX11_init_36 rfl (lv_at hl 0 rfl) ?_
  refine lv_bipush (v := 60) X.1 X.2.1 dX11_init_37 (by decide) ?_
  obtain ⟨hb1, hb2, hw⟩ := hw
  refine my_newIk X M kw_124 dX11_init_39 60 (by decide) (by decide) (by decide) (show k38 + 1 ≤ c by omega) (show j39 + 60 ≤ z by omega) (fun q45 μ46 H k49 j50 ek49 ej50 hq45 eμ46 M => ?_)
  obtain ⟨c47, ec47⟩ : ∃ y, y + 1 = c36 := ⟨c36 - 1, by omega⟩
  obtain ⟨z48, ez48⟩ : ∃ y, y + 60 = z37 := ⟨z37 - 60, by omega⟩
  replace hw := hw q45 μ46 c47 z48 ec47 ez48 hq45 eμ46
  have hKM51 : KM μ μ46 := by rw [eμ46]; exact hKM43.tr (KM_nar hq45)
  have hk52 : kd μ46 o = 13 := by rw [eμ46]; exact (KM_nar hq45).at hk44
  have hc : k49 + (c47) ≤ c := by omega
  have hz : j50 + (z48) ≤ z := by omega
  clear hb1 hb2
  refine W.eq (g2 := F0 m 41 ls [.ref q45, .ref o]) rfl ?_
  refine my_putr (C := RX11) (F := TX11) (N := 59) (ci := 12) X M 7 rfl in_X11 tyX11 tyX11_ok nmX11 (by decide) rfl (by decide) kw_972 (Or.inr ⟨hnm, rfl⟩) dX11_init_41 hk52 (some q45) (mq_na _ _) (mq_fa _ _) (fun μ53 H locs eμ53 M => ?_)
  replace hw := hw μ53 eμ53
  have hKM54 : KM μ μ53 := by rw [eμ53]; exact hKM51
  have hk55 : kd μ53 o = 13 := by rw [eμ53]; exact hk52
  refine lv_aload_n X.1 X.2.1 dX11_init_44 rfl (lv_at hl 0 rfl) ?_
  refine lv_sipush (v := 480) X.1 X.2.1 dX11_init_45 (by decide) ?_
  obtain ⟨hb1, hb2, hw⟩ := hw
  refine my_newIk X M kw_124 dX11_init_48 480 (by decide) (by decide) (by decide) (show k49 + 1 ≤ c by omega) (show j50 + 480 ≤ z by omega) (fun q56 μ57 H k60 j61 ek60 ej61 hq56 eμ57 M => ?_)
  obtain ⟨c58, ec58⟩ : ∃ y, y + 1 = c47 := ⟨c47 - 1, by omega⟩
  obtain ⟨z59, ez59⟩ : ∃ y, y + 480 = z48 := ⟨z48 - 480, by omega⟩
  replace hw := hw q56 μ57 c58 z59 ec58 ez59 hq56 eμ57
  have hKM62 : KM μ μ57 := by rw [eμ57]; exact hKM54.tr (KM_nar hq56)
  have hk63 : kd μ57 o = 13 := by rw [eμ57]; exact (KM_nar hq56).at hk55
  have hc : k60 + (c58) ≤ c := by omega
  have hz : j61 + (z59) ≤ z := by omega
  clear hb1 hb2
  refine my_putr (C := RX11) (F := TX11) (N := 59) (ci := 12) X M 8 rfl in_X11 tyX11 tyX11_ok nmX11 (by decide) rfl (by decide) kw_973 (Or.inr ⟨hnm, rfl⟩) dX11_init_50 hk63 (some q56) (mq_na _ _) (mq_fa _ _) (fun μ64 H locs eμ64 M => ?_)
  replace hw := hw μ64 eμ64
  have hKM65 : KM μ μ64 := by rw [eμ64]; exact hKM62
  have hk66 : kd μ64 o = 13 := by rw [eμ64]; exact hk63
  refine lv_aload_n X.1 X.2.1 dX11_init_53 rfl (lv_at hl 0 rfl) ?_
  refine lv_bipush (v := 60) X.1 X.2.1 dX11_init_54 (by decide) ?_
  refine W.eq (g2 := F0 m 56 ls [.int 60, .ref o]) rfl ?_
  obtain ⟨hb1, hb2, hw⟩ := hw
  refine my_newIk X M kw_124 dX11_init_56 60 (by decide) (by decide) (by decide) (show k60 + 1 ≤ c by omega) (show j61 + 60 ≤ z by omega) (fun q67 μ68 H k71 j72 ek71 ej72 hq67 eμ68 M => ?_)
  obtain ⟨c69, ec69⟩ : ∃ y, y + 1 = c58 := ⟨c58 - 1, by omega⟩
  obtain ⟨z70, ez70⟩ : ∃ y, y + 60 = z59 := ⟨z59 - 60, by omega⟩
  replace hw := hw q67 μ68 c69 z70 ec69 ez70 hq67 eμ68
  have hKM73 : KM μ μ68 := by rw [eμ68]; exact hKM65.tr (KM_nar hq67)
  have hk74 : kd μ68 o = 13 := by rw [eμ68]; exact (KM_nar hq67).at hk66
  have hc : k71 + (c69) ≤ c := by omega
  have hz : j72 + (z70) ≤ z := by omega
  clear hb1 hb2
  refine my_putr (C := RX11) (F := TX11) (N := 59) (ci := 12) X M 9 rfl in_X11 tyX11 tyX11_ok nmX11 (by decide) rfl (by decide) kw_974 (Or.inr ⟨hnm, rfl⟩) dX11_init_58 hk74 (some q67) (mq_na _ _) (mq_fa _ _) (fun μ75 H locs eμ75 M => ?_)
  replace hw := hw μ75 eμ75
  have hKM76 : KM μ μ75 := by rw [eμ75]; exact hKM73
  have hk77 : kd μ75 o = 13 := by rw [eμ75]; exact hk74
  refine lv_aload_n X.1 X.2.1 dX11_init_61 rfl (lv_at hl 0 rfl) ?_
  refine lv_ldc (v := 120000) X.1 X.2.1 X.2.2.2.1 (X.2.2.2.2.1 _ kw_963) dX11_init_62 ?_
  obtain ⟨hb1, hb2, hw⟩ := hw
  refine my_newIk X M kw_124 dX11_init_64 120000 (by decide) (by decide) (by decide) (show k71 + 1 ≤ c by omega) (show j72 + 120000 ≤ z by omega) (fun q78 μ79 H k82 j83 ek82 ej83 hq78 eμ79 M => ?_)
  obtain ⟨c80, ec80⟩ : ∃ y, y + 1 = c69 := ⟨c69 - 1, by omega⟩
  obtain ⟨z81, ez81⟩ : ∃ y, y + 120000 = z70 := ⟨z70 - 120000, by omega⟩
  replace hw := hw q78 μ79 c80 z81 ec80 ez81 hq78 eμ79
  have hKM84 : KM μ μ79 := by rw [eμ79]; exact hKM76.tr (KM_nar hq78)
  have hk85 : kd μ79 o = 13 := by rw [eμ79]; exact (KM_nar hq78).at hk77
  have hc : k82 + (c80) ≤ c := by omega
  have hz : j83 + (z81) ≤ z := by omega
  clear hb1 hb2
  refine my_putr (C := RX11) (F := TX11) (N := 59) (ci := 12) X M 10 rfl in_X11 tyX11 tyX11_ok nmX11 (by decide) rfl (by decide) kw_975 (Or.inr ⟨hnm, rfl⟩) dX11_init_66 hk85 (some q78) (mq_na _ _) (mq_fa _ _) (fun μ86 H locs eμ86 M => ?_)
  replace hw := hw μ86 eμ86
  have hKM87 : KM μ μ86 := by rw [eμ86]; exact hKM84
  have hk88 : kd μ86 o = 13 := by rw [eμ86]; exact hk85
  refine lv_aload_n X.1 X.2.1 dX11_init_69 rfl (lv_at hl 0 rfl) ?_
  refine W.eq (g2 := F0 m 70 ls [.ref o]) rfl ?_
  refine lv_sipush (v := 2000) X.1 X.2.1 dX11_init_70 (by decide) ?_
  obtain ⟨hb1, hb2, hw⟩ := hw
  refine my_newIk X M kw_124 dX11_init_73 2000 (by decide) (by decide) (by decide) (show k82 + 1 ≤ c by omega) (show j83 + 2000 ≤ z by omega) (fun q89 μ90 H k93 j94 ek93 ej94 hq89 eμ90 M => ?_)
  obtain ⟨c91, ec91⟩ : ∃ y, y + 1 = c80 := ⟨c80 - 1, by omega⟩
  obtain ⟨z92, ez92⟩ : ∃ y, y + 2000 = z81 := ⟨z81 - 2000, by omega⟩
  replace hw := hw q89 μ90 c91 z92 ec91 ez92 hq89 eμ90
  have hKM95 : KM μ μ90 := by rw [eμ90]; exact hKM87.tr (KM_nar hq89)
  have hk96 : kd μ90 o = 13 := by rw [eμ90]; exact (KM_nar hq89).at hk88
  have hc : k93 + (c91) ≤ c := by omega
  have hz : j94 + (z92) ≤ z := by omega
  clear hb1 hb2
  refine my_putr (C := RX11) (F := TX11) (N := 59) (ci := 12) X M 12 rfl in_X11 tyX11 tyX11_ok nmX11 (by decide) rfl (by decide) kw_977 (Or.inr ⟨hnm, rfl⟩) dX11_init_75 hk96 (some q89) (mq_na _ _) (mq_fa _ _) (fun μ97 H locs eμ97 M => ?_)
  replace hw := hw μ97 eμ97
  have hKM98 : KM μ μ97 := by rw [eμ97]; exact hKM95
  have hk99 : kd μ97 o = 13 := by rw [eμ97]; exact hk96
  refine lv_aload_n X.1 X.2.1 dX11_init_78 rfl (lv_at hl 0 rfl) ?_
  refine lv_sipush (v := 2000) X.1 X.2.1 dX11_init_79 (by decide) ?_
  obtain ⟨hb1, hb2, hw⟩ := hw
  refine my_newIk X M kw_124 dX11_init_82 2000 (by decide) (by decide) (by decide) (show k93 + 1 ≤ c by omega) (show j94 + 2000 ≤ z by omega) (fun q100 μ101 H k104 j105 ek104 ej105 hq100 eμ101 M => ?_)
  obtain ⟨c102, ec102⟩ : ∃ y, y + 1 = c91 := ⟨c91 - 1, by omega⟩
  obtain ⟨z103, ez103⟩ : ∃ y, y + 2000 = z92 := ⟨z92 - 2000, by omega⟩
  replace hw := hw q100 μ101 c102 z103 ec102 ez103 hq100 eμ101
  have hKM106 : KM μ μ101 := by rw [eμ101]; exact hKM98.tr (KM_nar hq100)
  have hk107 : kd μ101 o = 13 := by rw [eμ101]; exact (KM_nar hq100).at hk99
  have hc : k104 + (c102) ≤ c := by omega
  have hz : j105 + (z103) ≤ z := by omega
  clear hb1 hb2
  refine my_putr (C := RX11) (F := TX11) (N := 59) (ci := 12) X M 13 rfl in_X11 tyX11 tyX11_ok nmX11 (by decide) rfl (by decide) kw_978 (Or.inr ⟨hnm, rfl⟩) dX11_init_84 hk107 (some q100) (mq_na _ _) (mq_fa _ _) (fun μ108 H locs eμ108 M => ?_)
  replace hw := hw μ108 eμ108
  have hKM109 : KM μ μ108 := by rw [eμ108]; exact hKM106
  have hk110 : kd μ108 o = 13 := by rw [eμ108]; exact hk107
  refine W.eq (g2 := F0 m 87 ls []) rfl ?_
  refine lv_aload_n X.1 X.2.1 dX11_init_87 rfl (lv_at hl 0 rfl) ?_
  refine lv_sipush (v := 2000) X.1 X.2.1 dX11_init_88 (by decide) ?_
  obtain ⟨hb1, hb2, hw⟩ := hw
  refine my_newIk X M kw_124 dX11_init_91 2000 (by decide) (by decide) (by decide) (show k104 + 1 ≤ c by omega) (show j105 + 2000 ≤ z by omega) (fun q111 μ112 H k115 j116 ek115 ej116 hq111 eμ112 M => ?_)
  obtain ⟨c113, ec113⟩ : ∃ y, y + 1 = c102 := ⟨c102 - 1, by omega⟩
  obtain ⟨z114, ez114⟩ : ∃ y, y + 2000 = z103 := ⟨z103 - 2000, by omega⟩
  replace hw := hw q111 μ112 c113 z114 ec113 ez114 hq111 eμ112
  have hKM117 : KM μ μ112 := by rw [eμ112]; exact hKM109.tr (KM_nar hq111)
  have hk118 : kd μ112 o = 13 := by rw [eμ112]; exact (KM_nar hq111).at hk110
  have hc : k115 + (c113) ≤ c := by omega
  have hz : j116 + (z114) ≤ z := by omega
  clear hb1 hb2
  refine my_putr (C := RX11) (F := TX11) (N := 59) (ci := 12) X M 14 rfl in_X11 tyX11 tyX11_ok nmX11 (by decide) rfl (by decide) kw_979 (Or.inr ⟨hnm, rfl⟩) dX11_init_93 hk118 (some q111) (mq_na _ _) (mq_fa _ _) (fun μ119 H locs eμ119 M => ?_)
  replace hw := hw μ119 eμ119
  have hKM120 : KM μ μ119 := by rw [eμ119]; exact hKM117
  have hk121 : kd μ119 o = 13 := by rw [eμ119]; exact hk118
  refine lv_aload_n X.1 X.2.1 dX11_init_96 rfl (lv_at hl 0 rfl) ?_
  refine lv_sipush (v := 2000) X.1 X.2.1 dX11_init_97 (by decide) ?_
  obtain ⟨hb1, hb2, hw⟩ := hw
  refine my_newIk X M kw_124 dX11_init_100 2000 (by decide) (by decide) (by decide) (show k115 + 1 ≤ c by omega) (show j116 + 2000 ≤ z by omega) (fun q122 μ123 H k126 j127 ek126 ej127 hq122 eμ123 M => ?_)
  obtain ⟨c124, ec124⟩ : ∃ y, y + 1 = c113 := ⟨c113 - 1, by omega⟩
  obtain ⟨z125, ez125⟩ : ∃ y, y + 2000 = z114 := ⟨z114 - 2000, by omega⟩
  replace hw := hw q122 μ123 c124 z125 ec124 ez125 hq122 eμ123
  have hKM128 : KM μ μ123 := by rw [eμ123]; exact hKM120.tr (KM_nar hq122)
  have hk129 : kd μ123 o = 13 := by rw [eμ123]; exact (KM_nar hq122).at hk121
  have hc : k126 + (c124) ≤ c := by omega
  have hz : j127 + (z125) ≤ z := by omega
  clear hb1 hb2
  refine W.eq (g2 := F0 m 102 ls [.ref q122, .ref o]) rfl ?_
  refine my_putr (C := RX11) (F := TX11) (N := 59) (ci := 12) X M 15 rfl in_X11 tyX11 tyX11_ok nmX11 (by decide) rfl (by decide) kw_980 (Or.inr ⟨hnm, rfl⟩) dX11_init_102 hk129 (some q122) (mq_na _ _) (mq_fa _ _) (fun μ130 H locs eμ130 M => ?_)
  replace hw := hw μ130 eμ130
  have hKM131 : KM μ μ130 := by rw [eμ130]; exact hKM128
  have hk132 : kd μ130 o = 13 := by rw [eμ130]; exact hk129
  refine lv_aload_n X.1 X.2.1 dX11_init_105 rfl (lv_at hl 0 rfl) ?_
  refine lv_sipush (v := 2000) X.1 X.2.1 dX11_init_106 (by decide) ?_
  obtain ⟨hb1, hb2, hw⟩ := hw
  refine my_newIk X M kw_124 dX11_init_109 2000 (by decide) (by decide) (by decide) (show k126 + 1 ≤ c by omega) (show j127 + 2000 ≤ z by omega) (fun q133 μ134 H k137 j138 ek137 ej138 hq133 eμ134 M => ?_)
  obtain ⟨c135, ec135⟩ : ∃ y, y + 1 = c124 := ⟨c124 - 1, by omega⟩
  obtain ⟨z136, ez136⟩ : ∃ y, y + 2000 = z125 := ⟨z125 - 2000, by omega⟩
  replace hw := hw q133 μ134 c135 z136 ec135 ez136 hq133 eμ134
  have hKM139 : KM μ μ134 := by rw [eμ134]; exact hKM131.tr (KM_nar hq133)
  have hk140 : kd μ134 o = 13 := by rw [eμ134]; exact (KM_nar hq133).at hk132
  have hc : k137 + (c135) ≤ c := by omega
  have hz : j138 + (z136) ≤ z := by omega
  clear hb1 hb2
  refine my_putr (C := RX11) (F := TX11) (N := 59) (ci := 12) X M 16 rfl in_X11 tyX11 tyX11_ok nmX11 (by decide) rfl (by decide) kw_981 (Or.inr ⟨hnm, rfl⟩) dX11_init_111 hk140 (some q133) (mq_na _ _) (mq_fa _ _) (fun μ141 H locs eμ141 M => ?_)
  replace hw := hw μ141 eμ141
  have hKM142 : KM μ μ141 := by rw [eμ141]; exact hKM139
  have hk143 : kd μ141 o = 13 := by rw [eμ141]; exact hk140
  refine lv_aload_n X.1 X.2.1 dX11_init_114 rfl (lv_at hl 0 rfl) ?_
  refine lv_sipush (v := 2000) X.1 X.2.1 dX11_init_115 (by decide) ?_
  refine W.eq (g2 := F0 m 118 ls [.int 2000, .ref o]) rfl ?_
  obtain ⟨hb1, hb2, hw⟩ := hw
  refine my_newIk X M kw_124 dX11_init_118 2000 (by decide) (by decide) (by decide) (show k137 + 1 ≤ c by omega) (show j138 + 2000 ≤ z by omega) (fun q144 μ145 H k148 j149 ek148 ej149 hq144 eμ145 M => ?_)
  obtain ⟨c146, ec146⟩ : ∃ y, y + 1 = c135 := ⟨c135 - 1, by omega⟩
  obtain ⟨z147, ez147⟩ : ∃ y, y + 2000 = z136 := ⟨z136 - 2000, by omega⟩
  replace hw := hw q144 μ145 c146 z147 ec146 ez147 hq144 eμ145
  have hKM150 : KM μ μ145 := by rw [eμ145]; exact hKM142.tr (KM_nar hq144)
  have hk151 : kd μ145 o = 13 := by rw [eμ145]; exact (KM_nar hq144).at hk143
  have hc : k148 + (c146) ≤ c := by omega
  have hz : j149 + (z147) ≤ z := by omega
  clear hb1 hb2
  refine my_putr (C := RX11) (F := TX11) (N := 59) (ci := 12) X M 17 rfl in_X11 tyX11 tyX11_ok nmX11 (by decide) rfl (by decide) kw_982 (Or.inr ⟨hnm, rfl⟩) dX11_init_120 hk151 (some q144) (mq_na _ _) (mq_fa _ _) (fun μ152 H locs eμ152 M => ?_)
  replace hw := hw μ152 eμ152
  have hKM153 : KM μ μ152 := by rw [eμ152]; exact hKM150
  have hk154 : kd μ152 o = 13 := by rw [eμ152]; exact hk151
  refine lv_aload_n X.1 X.2.1 dX11_init_123 rfl (lv_at hl 0 rfl) ?_
  refine lv_sipush (v := 20000) X.1 X.2.1 dX11_init_124 (by decide) ?_
  obtain ⟨hb1, hb2, hw⟩ := hw
  refine my_newIk X M kw_124 dX11_init_127 20000 (by decide) (by decide) (by decide) (show k148 + 1 ≤ c by omega) (show j149 + 20000 ≤ z by omega) (fun q155 μ156 H k159 j160 ek159 ej160 hq155 eμ156 M => ?_)
  obtain ⟨c157, ec157⟩ : ∃ y, y + 1 = c146 := ⟨c146 - 1, by omega⟩
  obtain ⟨z158, ez158⟩ : ∃ y, y + 20000 = z147 := ⟨z147 - 20000, by omega⟩
  replace hw := hw q155 μ156 c157 z158 ec157 ez158 hq155 eμ156
  have hKM161 : KM μ μ156 := by rw [eμ156]; exact hKM153.tr (KM_nar hq155)
  have hk162 : kd μ156 o = 13 := by rw [eμ156]; exact (KM_nar hq155).at hk154
  have hc : k159 + (c157) ≤ c := by omega
  have hz : j160 + (z158) ≤ z := by omega
  clear hb1 hb2
  refine my_putr (C := RX11) (F := TX11) (N := 59) (ci := 12) X M 18 rfl in_X11 tyX11 tyX11_ok nmX11 (by decide) rfl (by decide) kw_983 (Or.inr ⟨hnm, rfl⟩) dX11_init_129 hk162 (some q155) (mq_na _ _) (mq_fa _ _) (fun μ163 H locs eμ163 M => ?_)
  replace hw := hw μ163 eμ163
  have hKM164 : KM μ μ163 := by rw [eμ163]; exact hKM161
  have hk165 : kd μ163 o = 13 := by rw [eμ163]; exact hk162
  refine lv_aload_n X.1 X.2.1 dX11_init_132 rfl (lv_at hl 0 rfl) ?_
  refine W.eq (g2 := F0 m 133 ls [.ref o]) rfl ?_
  refine lv_sipush (v := 20100) X.1 X.2.1 dX11_init_133 (by decide) ?_
  obtain ⟨hb1, hb2, hw⟩ := hw
  refine my_newIk X M kw_124 dX11_init_136 20100 (by decide) (by decide) (by decide) (show k159 + 1 ≤ c by omega) (show j160 + 20100 ≤ z by omega) (fun q166 μ167 H k170 j171 ek170 ej171 hq166 eμ167 M => ?_)
  obtain ⟨c168, ec168⟩ : ∃ y, y + 1 = c157 := ⟨c157 - 1, by omega⟩
  obtain ⟨z169, ez169⟩ : ∃ y, y + 20100 = z158 := ⟨z158 - 20100, by omega⟩
  replace hw := hw q166 μ167 c168 z169 ec168 ez169 hq166 eμ167
  have hKM172 : KM μ μ167 := by rw [eμ167]; exact hKM164.tr (KM_nar hq166)
  have hk173 : kd μ167 o = 13 := by rw [eμ167]; exact (KM_nar hq166).at hk165
  have hc : k170 + (c168) ≤ c := by omega
  have hz : j171 + (z169) ≤ z := by omega
  clear hb1 hb2
  refine my_putr (C := RX11) (F := TX11) (N := 59) (ci := 12) X M 20 rfl in_X11 tyX11 tyX11_ok nmX11 (by decide) rfl (by decide) kw_985 (Or.inr ⟨hnm, rfl⟩) dX11_init_138 hk173 (some q166) (mq_na _ _) (mq_fa _ _) (fun μ174 H locs eμ174 M => ?_)
  replace hw := hw μ174 eμ174
  have hKM175 : KM μ μ174 := by rw [eμ174]; exact hKM172
  have hk176 : kd μ174 o = 13 := by rw [eμ174]; exact hk173
  refine lv_aload_n X.1 X.2.1 dX11_init_141 rfl (lv_at hl 0 rfl) ?_
  refine lv_sipush (v := 20100) X.1 X.2.1 dX11_init_142 (by decide) ?_
  obtain ⟨hb1, hb2, hw⟩ := hw
  refine my_newIk X M kw_124 dX11_init_145 20100 (by decide) (by decide) (by decide) (show k170 + 1 ≤ c by omega) (show j171 + 20100 ≤ z by omega) (fun q177 μ178 H k181 j182 ek181 ej182 hq177 eμ178 M => ?_)
  obtain ⟨c179, ec179⟩ : ∃ y, y + 1 = c168 := ⟨c168 - 1, by omega⟩
  obtain ⟨z180, ez180⟩ : ∃ y, y + 20100 = z169 := ⟨z169 - 20100, by omega⟩
  replace hw := hw q177 μ178 c179 z180 ec179 ez180 hq177 eμ178
  have hKM183 : KM μ μ178 := by rw [eμ178]; exact hKM175.tr (KM_nar hq177)
  have hk184 : kd μ178 o = 13 := by rw [eμ178]; exact (KM_nar hq177).at hk176
  have hc : k181 + (c179) ≤ c := by omega
  have hz : j182 + (z180) ≤ z := by omega
  clear hb1 hb2
  refine my_putr (C := RX11) (F := TX11) (N := 59) (ci := 12) X M 21 rfl in_X11 tyX11 tyX11_ok nmX11 (by decide) rfl (by decide) kw_986 (Or.inr ⟨hnm, rfl⟩) dX11_init_147 hk184 (some q177) (mq_na _ _) (mq_fa _ _) (fun μ185 H locs eμ185 M => ?_)
  replace hw := hw μ185 eμ185
  have hKM186 : KM μ μ185 := by rw [eμ185]; exact hKM183
  have hk187 : kd μ185 o = 13 := by rw [eμ185]; exact hk184
  refine W.eq (g2 := F0 m 150 ls []) rfl ?_
  refine lv_aload_n X.1 X.2.1 dX11_init_150 rfl (lv_at hl 0 rfl) ?_
  refine lv_sipush (v := 20100) X.1 X.2.1 dX11_init_151 (by decide) ?_
  obtain ⟨hb1, hb2, hw⟩ := hw
  refine my_newIk X M kw_124 dX11_init_154 20100 (by decide) (by decide) (by decide) (show k181 + 1 ≤ c by omega) (show j182 + 20100 ≤ z by omega) (fun q188 μ189 H k192 j193 ek192 ej193 hq188 eμ189 M => ?_)
  obtain ⟨c190, ec190⟩ : ∃ y, y + 1 = c179 := ⟨c179 - 1, by omega⟩
  obtain ⟨z191, ez191⟩ : ∃ y, y + 20100 = z180 := ⟨z180 - 20100, by omega⟩
  replace hw := hw q188 μ189 c190 z191 ec190 ez191 hq188 eμ189
  have hKM194 : KM μ μ189 := by rw [eμ189]; exact hKM186.tr (KM_nar hq188)
  have hk195 : kd μ189 o = 13 := by rw [eμ189]; exact (KM_nar hq188).at hk187
  have hc : k192 + (c190) ≤ c := by omega
  have hz : j193 + (z191) ≤ z := by omega
  clear hb1 hb2
  refine my_putr (C := RX11) (F := TX11) (N := 59) (ci := 12) X M 22 rfl in_X11 tyX11 tyX11_ok nmX11 (by decide) rfl (by decide) kw_987 (Or.inr ⟨hnm, rfl⟩) dX11_init_156 hk195 (some q188) (mq_na _ _) (mq_fa _ _) (fun μ196 H locs eμ196 M => ?_)
  replace hw := hw μ196 eμ196
  have hKM197 : KM μ μ196 := by rw [eμ196]; exact hKM194
  have hk198 : kd μ196 o = 13 := by rw [eμ196]; exact hk195
  refine lv_aload_n X.1 X.2.1 dX11_init_159 rfl (lv_at hl 0 rfl) ?_
  refine lv_sipush (v := 20100) X.1 X.2.1 dX11_init_160 (by decide) ?_
  obtain ⟨hb1, hb2, hw⟩ := hw
  refine my_newJk X M kw_152 dX11_init_163 20100 (by decide) (by decide) (by decide) (show k192 + 1 ≤ c by omega) (show j193 + 20100 ≤ z by omega) (fun q199 μ200 H k203 j204 ek203 ej204 hq199 eμ200 M => ?_)
  obtain ⟨c201, ec201⟩ : ∃ y, y + 1 = c190 := ⟨c190 - 1, by omega⟩
  obtain ⟨z202, ez202⟩ : ∃ y, y + 20100 = z191 := ⟨z191 - 20100, by omega⟩
  replace hw := hw q199 μ200 c201 z202 ec201 ez202 hq199 eμ200
  have hKM205 : KM μ μ200 := by rw [eμ200]; exact hKM197.tr (KM_nar hq199)
  have hk206 : kd μ200 o = 13 := by rw [eμ200]; exact (KM_nar hq199).at hk198
  have hc : k203 + (c201) ≤ c := by omega
  have hz : j204 + (z202) ≤ z := by omega
  clear hb1 hb2
  refine W.eq (g2 := F0 m 165 ls [.ref q199, .ref o]) rfl ?_
  refine my_putr (C := RX11) (F := TX11) (N := 59) (ci := 12) X M 23 rfl in_X11 tyX11 tyX11_ok nmX11 (by decide) rfl (by decide) kw_988 (Or.inr ⟨hnm, rfl⟩) dX11_init_165 hk206 (some q199) (mq_na _ _) (mq_fa _ _) (fun μ207 H locs eμ207 M => ?_)
  replace hw := hw μ207 eμ207
  have hKM208 : KM μ μ207 := by rw [eμ207]; exact hKM205
  have hk209 : kd μ207 o = 13 := by rw [eμ207]; exact hk206
  refine lv_aload_n X.1 X.2.1 dX11_init_168 rfl (lv_at hl 0 rfl) ?_
  refine lv_sipush (v := 7000) X.1 X.2.1 dX11_init_169 (by decide) ?_
  obtain ⟨hb1, hb2, hw⟩ := hw
  refine my_newZk X M kw_1143 dX11_init_172 7000 (by decide) (by decide) (by decide) (show k203 + 1 ≤ c by omega) (show j204 + 7000 ≤ z by omega) (fun q210 μ211 H k214 j215 ek214 ej215 hq210 eμ211 M => ?_)
  obtain ⟨c212, ec212⟩ : ∃ y, y + 1 = c201 := ⟨c201 - 1, by omega⟩
  obtain ⟨z213, ez213⟩ : ∃ y, y + 7000 = z202 := ⟨z202 - 7000, by omega⟩
  replace hw := hw q210 μ211 c212 z213 ec212 ez213 hq210 eμ211
  have hKM216 : KM μ μ211 := by rw [eμ211]; exact hKM208.tr (KM_nar hq210)
  have hk217 : kd μ211 o = 13 := by rw [eμ211]; exact (KM_nar hq210).at hk209
  have hc : k214 + (c212) ≤ c := by omega
  have hz : j215 + (z213) ≤ z := by omega
  clear hb1 hb2
  refine my_putr (C := RX11) (F := TX11) (N := 59) (ci := 12) X M 27 rfl in_X11 tyX11 tyX11_ok nmX11 (by decide) rfl (by decide) kw_992 (Or.inr ⟨hnm, rfl⟩) dX11_init_174 hk217 (some q210) (mq_na _ _) (mq_fa _ _) (fun μ218 H locs eμ218 M => ?_)
  replace hw := hw μ218 eμ218
  have hKM219 : KM μ μ218 := by rw [eμ218]; exact hKM216
  have hk220 : kd μ218 o = 13 := by rw [eμ218]; exact hk217
  refine lv_aload_n X.1 X.2.1 dX11_init_177 rfl (lv_at hl 0 rfl) ?_
  refine lv_sipush (v := 7000) X.1 X.2.1 dX11_init_178 (by decide) ?_
  refine W.eq (g2 := F0 m 181 ls [.int 7000, .ref o]) rfl ?_
  obtain ⟨hb1, hb2, hw⟩ := hw
  refine my_newIk X M kw_124 dX11_init_181 7000 (by decide) (by decide) (by decide) (show k214 + 1 ≤ c by omega) (show j215 + 7000 ≤ z by omega) (fun q221 μ222 H k225 j226 ek225 ej226 hq221 eμ222 M => ?_)
  obtain ⟨c223, ec223⟩ : ∃ y, y + 1 = c212 := ⟨c212 - 1, by omega⟩
  obtain ⟨z224, ez224⟩ : ∃ y, y + 7000 = z213 := ⟨z213 - 7000, by omega⟩
  replace hw := hw q221 μ222 c223 z224 ec223 ez224 hq221 eμ222
  have hKM227 : KM μ μ222 := by rw [eμ222]; exact hKM219.tr (KM_nar hq221)
  have hk228 : kd μ222 o = 13 := by rw [eμ222]; exact (KM_nar hq221).at hk220
  have hc : k225 + (c223) ≤ c := by omega
  have hz : j226 + (z224) ≤ z := by omega
  clear hb1 hb2
  refine my_putr (C := RX11) (F := TX11) (N := 59) (ci := 12) X M 28 rfl in_X11 tyX11 tyX11_ok nmX11 (by decide) rfl (by decide) kw_993 (Or.inr ⟨hnm, rfl⟩) dX11_init_183 hk228 (some q221) (mq_na _ _) (mq_fa _ _) (fun μ229 H locs eμ229 M => ?_)
  replace hw := hw μ229 eμ229
  have hKM230 : KM μ μ229 := by rw [eμ229]; exact hKM227
  have hk231 : kd μ229 o = 13 := by rw [eμ229]; exact hk228
  refine lv_aload_n X.1 X.2.1 dX11_init_186 rfl (lv_at hl 0 rfl) ?_
  refine lv_sipush (v := 7000) X.1 X.2.1 dX11_init_187 (by decide) ?_
  obtain ⟨hb1, hb2, hw⟩ := hw
  refine my_newIk X M kw_124 dX11_init_190 7000 (by decide) (by decide) (by decide) (show k225 + 1 ≤ c by omega) (show j226 + 7000 ≤ z by omega) (fun q232 μ233 H k236 j237 ek236 ej237 hq232 eμ233 M => ?_)
  obtain ⟨c234, ec234⟩ : ∃ y, y + 1 = c223 := ⟨c223 - 1, by omega⟩
  obtain ⟨z235, ez235⟩ : ∃ y, y + 7000 = z224 := ⟨z224 - 7000, by omega⟩
  replace hw := hw q232 μ233 c234 z235 ec234 ez235 hq232 eμ233
  have hKM238 : KM μ μ233 := by rw [eμ233]; exact hKM230.tr (KM_nar hq232)
  have hk239 : kd μ233 o = 13 := by rw [eμ233]; exact (KM_nar hq232).at hk231
  have hc : k236 + (c234) ≤ c := by omega
  have hz : j237 + (z235) ≤ z := by omega
  clear hb1 hb2
  refine my_putr (C := RX11) (F := TX11) (N := 59) (ci := 12) X M 29 rfl in_X11 tyX11 tyX11_ok nmX11 (by decide) rfl (by decide) kw_994 (Or.inr ⟨hnm, rfl⟩) dX11_init_192 hk239 (some q232) (mq_na _ _) (mq_fa _ _) (fun μ240 H locs eμ240 M => ?_)
  replace hw := hw μ240 eμ240
  have hKM241 : KM μ μ240 := by rw [eμ240]; exact hKM238
  have hk242 : kd μ240 o = 13 := by rw [eμ240]; exact hk239
  refine lv_aload_n X.1 X.2.1 dX11_init_195 rfl (lv_at hl 0 rfl) ?_
  refine W.eq (g2 := F0 m 196 ls [.ref o]) rfl ?_
  refine lv_sipush (v := 7000) X.1 X.2.1 dX11_init_196 (by decide) ?_
  obtain ⟨hb1, hb2, hw⟩ := hw
  refine my_newIk X M kw_124 dX11_init_199 7000 (by decide) (by decide) (by decide) (show k236 + 1 ≤ c by omega) (show j237 + 7000 ≤ z by omega) (fun q243 μ244 H k247 j248 ek247 ej248 hq243 eμ244 M => ?_)
  obtain ⟨c245, ec245⟩ : ∃ y, y + 1 = c234 := ⟨c234 - 1, by omega⟩
  obtain ⟨z246, ez246⟩ : ∃ y, y + 7000 = z235 := ⟨z235 - 7000, by omega⟩
  replace hw := hw q243 μ244 c245 z246 ec245 ez246 hq243 eμ244
  have hKM249 : KM μ μ244 := by rw [eμ244]; exact hKM241.tr (KM_nar hq243)
  have hk250 : kd μ244 o = 13 := by rw [eμ244]; exact (KM_nar hq243).at hk242
  have hc : k247 + (c245) ≤ c := by omega
  have hz : j248 + (z246) ≤ z := by omega
  clear hb1 hb2
  refine my_putr (C := RX11) (F := TX11) (N := 59) (ci := 12) X M 30 rfl in_X11 tyX11 tyX11_ok nmX11 (by decide) rfl (by decide) kw_995 (Or.inr ⟨hnm, rfl⟩) dX11_init_201 hk250 (some q243) (mq_na _ _) (mq_fa _ _) (fun μ251 H locs eμ251 M => ?_)
  replace hw := hw μ251 eμ251
  have hKM252 : KM μ μ251 := by rw [eμ251]; exact hKM249
  have hk253 : kd μ251 o = 13 := by rw [eμ251]; exact hk250
  refine lv_aload_n X.1 X.2.1 dX11_init_204 rfl (lv_at hl 0 rfl) ?_
  refine lv_sipush (v := 7000) X.1 X.2.1 dX11_init_205 (by decide) ?_
  obtain ⟨hb1, hb2, hw⟩ := hw
  refine my_newIk X M kw_124 dX11_init_208 7000 (by decide) (by decide) (by decide) (show k247 + 1 ≤ c by omega) (show j248 + 7000 ≤ z by omega) (fun q254 μ255 H k258 j259 ek258 ej259 hq254 eμ255 M => ?_)
  obtain ⟨c256, ec256⟩ : ∃ y, y + 1 = c245 := ⟨c245 - 1, by omega⟩
  obtain ⟨z257, ez257⟩ : ∃ y, y + 7000 = z246 := ⟨z246 - 7000, by omega⟩
  replace hw := hw q254 μ255 c256 z257 ec256 ez257 hq254 eμ255
  have hKM260 : KM μ μ255 := by rw [eμ255]; exact hKM252.tr (KM_nar hq254)
  have hk261 : kd μ255 o = 13 := by rw [eμ255]; exact (KM_nar hq254).at hk253
  have hc : k258 + (c256) ≤ c := by omega
  have hz : j259 + (z257) ≤ z := by omega
  clear hb1 hb2
  refine my_putr (C := RX11) (F := TX11) (N := 59) (ci := 12) X M 31 rfl in_X11 tyX11 tyX11_ok nmX11 (by decide) rfl (by decide) kw_996 (Or.inr ⟨hnm, rfl⟩) dX11_init_210 hk261 (some q254) (mq_na _ _) (mq_fa _ _) (fun μ262 H locs eμ262 M => ?_)
  replace hw := hw μ262 eμ262
  have hKM263 : KM μ μ262 := by rw [eμ262]; exact hKM260
  have hk264 : kd μ262 o = 13 := by rw [eμ262]; exact hk261
  refine W.eq (g2 := F0 m 213 ls []) rfl ?_
  refine lv_aload_n X.1 X.2.1 dX11_init_213 rfl (lv_at hl 0 rfl) ?_
  refine lv_sipush (v := 7000) X.1 X.2.1 dX11_init_214 (by decide) ?_
  obtain ⟨hb1, hb2, hw⟩ := hw
  refine my_newIk X M kw_124 dX11_init_217 7000 (by decide) (by decide) (by decide) (show k258 + 1 ≤ c by omega) (show j259 + 7000 ≤ z by omega) (fun q265 μ266 H k269 j270 ek269 ej270 hq265 eμ266 M => ?_)
  obtain ⟨c267, ec267⟩ : ∃ y, y + 1 = c256 := ⟨c256 - 1, by omega⟩
  obtain ⟨z268, ez268⟩ : ∃ y, y + 7000 = z257 := ⟨z257 - 7000, by omega⟩
  replace hw := hw q265 μ266 c267 z268 ec267 ez268 hq265 eμ266
  have hKM271 : KM μ μ266 := by rw [eμ266]; exact hKM263.tr (KM_nar hq265)
  have hk272 : kd μ266 o = 13 := by rw [eμ266]; exact (KM_nar hq265).at hk264
  have hc : k269 + (c267) ≤ c := by omega
  have hz : j270 + (z268) ≤ z := by omega
  clear hb1 hb2
  refine my_putr (C := RX11) (F := TX11) (N := 59) (ci := 12) X M 32 rfl in_X11 tyX11 tyX11_ok nmX11 (by decide) rfl (by decide) kw_997 (Or.inr ⟨hnm, rfl⟩) dX11_init_219 hk272 (some q265) (mq_na _ _) (mq_fa _ _) (fun μ273 H locs eμ273 M => ?_)
  replace hw := hw μ273 eμ273
  have hKM274 : KM μ μ273 := by rw [eμ273]; exact hKM271
  have hk275 : kd μ273 o = 13 := by rw [eμ273]; exact hk272
  refine lv_aload_n X.1 X.2.1 dX11_init_222 rfl (lv_at hl 0 rfl) ?_
  refine lv_sipush (v := 7000) X.1 X.2.1 dX11_init_223 (by decide) ?_
  obtain ⟨hb1, hb2, hw⟩ := hw
  refine my_newIk X M kw_124 dX11_init_226 7000 (by decide) (by decide) (by decide) (show k269 + 1 ≤ c by omega) (show j270 + 7000 ≤ z by omega) (fun q276 μ277 H k280 j281 ek280 ej281 hq276 eμ277 M => ?_)
  obtain ⟨c278, ec278⟩ : ∃ y, y + 1 = c267 := ⟨c267 - 1, by omega⟩
  obtain ⟨z279, ez279⟩ : ∃ y, y + 7000 = z268 := ⟨z268 - 7000, by omega⟩
  replace hw := hw q276 μ277 c278 z279 ec278 ez279 hq276 eμ277
  have hKM282 : KM μ μ277 := by rw [eμ277]; exact hKM274.tr (KM_nar hq276)
  have hk283 : kd μ277 o = 13 := by rw [eμ277]; exact (KM_nar hq276).at hk275
  have hc : k280 + (c278) ≤ c := by omega
  have hz : j281 + (z279) ≤ z := by omega
  clear hb1 hb2
  refine W.eq (g2 := F0 m 228 ls [.ref q276, .ref o]) rfl ?_
  refine my_putr (C := RX11) (F := TX11) (N := 59) (ci := 12) X M 33 rfl in_X11 tyX11 tyX11_ok nmX11 (by decide) rfl (by decide) kw_998 (Or.inr ⟨hnm, rfl⟩) dX11_init_228 hk283 (some q276) (mq_na _ _) (mq_fa _ _) (fun μ284 H locs eμ284 M => ?_)
  replace hw := hw μ284 eμ284
  have hKM285 : KM μ μ284 := by rw [eμ284]; exact hKM282
  have hk286 : kd μ284 o = 13 := by rw [eμ284]; exact hk283
  refine lv_aload_n X.1 X.2.1 dX11_init_231 rfl (lv_at hl 0 rfl) ?_
  refine lv_sipush (v := 7000) X.1 X.2.1 dX11_init_232 (by decide) ?_
  obtain ⟨hb1, hb2, hw⟩ := hw
  refine my_newZk X M kw_1143 dX11_init_235 7000 (by decide) (by decide) (by decide) (show k280 + 1 ≤ c by omega) (show j281 + 7000 ≤ z by omega) (fun q287 μ288 H k291 j292 ek291 ej292 hq287 eμ288 M => ?_)
  obtain ⟨c289, ec289⟩ : ∃ y, y + 1 = c278 := ⟨c278 - 1, by omega⟩
  obtain ⟨z290, ez290⟩ : ∃ y, y + 7000 = z279 := ⟨z279 - 7000, by omega⟩
  replace hw := hw q287 μ288 c289 z290 ec289 ez290 hq287 eμ288
  have hKM293 : KM μ μ288 := by rw [eμ288]; exact hKM285.tr (KM_nar hq287)
  have hk294 : kd μ288 o = 13 := by rw [eμ288]; exact (KM_nar hq287).at hk286
  have hc : k291 + (c289) ≤ c := by omega
  have hz : j292 + (z290) ≤ z := by omega
  clear hb1 hb2
  refine my_putr (C := RX11) (F := TX11) (N := 59) (ci := 12) X M 34 rfl in_X11 tyX11 tyX11_ok nmX11 (by decide) rfl (by decide) kw_999 (Or.inr ⟨hnm, rfl⟩) dX11_init_237 hk294 (some q287) (mq_na _ _) (mq_fa _ _) (fun μ295 H locs eμ295 M => ?_)
  replace hw := hw μ295 eμ295
  have hKM296 : KM μ μ295 := by rw [eμ295]; exact hKM293
  have hk297 : kd μ295 o = 13 := by rw [eμ295]; exact hk294
  refine lv_aload_n X.1 X.2.1 dX11_init_240 rfl (lv_at hl 0 rfl) ?_
  refine lv_sipush (v := 7000) X.1 X.2.1 dX11_init_241 (by decide) ?_
  refine W.eq (g2 := F0 m 244 ls [.int 7000, .ref o]) rfl ?_
  obtain ⟨hb1, hb2, hw⟩ := hw
  refine my_newIk X M kw_124 dX11_init_244 7000 (by decide) (by decide) (by decide) (show k291 + 1 ≤ c by omega) (show j292 + 7000 ≤ z by omega) (fun q298 μ299 H k302 j303 ek302 ej303 hq298 eμ299 M => ?_)
  obtain ⟨c300, ec300⟩ : ∃ y, y + 1 = c289 := ⟨c289 - 1, by omega⟩
  obtain ⟨z301, ez301⟩ : ∃ y, y + 7000 = z290 := ⟨z290 - 7000, by omega⟩
  replace hw := hw q298 μ299 c300 z301 ec300 ez301 hq298 eμ299
  have hKM304 : KM μ μ299 := by rw [eμ299]; exact hKM296.tr (KM_nar hq298)
  have hk305 : kd μ299 o = 13 := by rw [eμ299]; exact (KM_nar hq298).at hk297
  have hc : k302 + (c300) ≤ c := by omega
  have hz : j303 + (z301) ≤ z := by omega
  clear hb1 hb2
  refine my_putr (C := RX11) (F := TX11) (N := 59) (ci := 12) X M 35 rfl in_X11 tyX11 tyX11_ok nmX11 (by decide) rfl (by decide) kw_1000 (Or.inr ⟨hnm, rfl⟩) dX11_init_246 hk305 (some q298) (mq_na _ _) (mq_fa _ _) (fun μ306 H locs eμ306 M => ?_)
  replace hw := hw μ306 eμ306
  have hKM307 : KM μ μ306 := by rw [eμ306]; exact hKM304
  have hk308 : kd μ306 o = 13 := by rw [eμ306]; exact hk305
  refine lv_aload_n X.1 X.2.1 dX11_init_249 rfl (lv_at hl 0 rfl) ?_
  refine lv_sipush (v := 7000) X.1 X.2.1 dX11_init_250 (by decide) ?_
  obtain ⟨hb1, hb2, hw⟩ := hw
  refine my_newIk X M kw_124 dX11_init_253 7000 (by decide) (by decide) (by decide) (show k302 + 1 ≤ c by omega) (show j303 + 7000 ≤ z by omega) (fun q309 μ310 H k313 j314 ek313 ej314 hq309 eμ310 M => ?_)
  obtain ⟨c311, ec311⟩ : ∃ y, y + 1 = c300 := ⟨c300 - 1, by omega⟩
  obtain ⟨z312, ez312⟩ : ∃ y, y + 7000 = z301 := ⟨z301 - 7000, by omega⟩
  replace hw := hw q309 μ310 c311 z312 ec311 ez312 hq309 eμ310
  have hKM315 : KM μ μ310 := by rw [eμ310]; exact hKM307.tr (KM_nar hq309)
  have hk316 : kd μ310 o = 13 := by rw [eμ310]; exact (KM_nar hq309).at hk308
  have hc : k313 + (c311) ≤ c := by omega
  have hz : j314 + (z312) ≤ z := by omega
  clear hb1 hb2
  refine my_putr (C := RX11) (F := TX11) (N := 59) (ci := 12) X M 36 rfl in_X11 tyX11 tyX11_ok nmX11 (by decide) rfl (by decide) kw_1001 (Or.inr ⟨hnm, rfl⟩) dX11_init_255 hk316 (some q309) (mq_na _ _) (mq_fa _ _) (fun μ317 H locs eμ317 M => ?_)
  replace hw := hw μ317 eμ317
  have hKM318 : KM μ μ317 := by rw [eμ317]; exact hKM315
  have hk319 : kd μ317 o = 13 := by rw [eμ317]; exact hk316
  refine lv_aload_n X.1 X.2.1 dX11_init_258 rfl (lv_at hl 0 rfl) ?_
  refine W.eq (g2 := F0 m 259 ls [.ref o]) rfl ?_
  refine lv_sipush (v := 7000) X.1 X.2.1 dX11_init_259 (by decide) ?_
  obtain ⟨hb1, hb2, hw⟩ := hw
  refine my_newIk X M kw_124 dX11_init_262 7000 (by decide) (by decide) (by decide) (show k313 + 1 ≤ c by omega) (show j314 + 7000 ≤ z by omega) (fun q320 μ321 H k324 j325 ek324 ej325 hq320 eμ321 M => ?_)
  obtain ⟨c322, ec322⟩ : ∃ y, y + 1 = c311 := ⟨c311 - 1, by omega⟩
  obtain ⟨z323, ez323⟩ : ∃ y, y + 7000 = z312 := ⟨z312 - 7000, by omega⟩
  replace hw := hw q320 μ321 c322 z323 ec322 ez323 hq320 eμ321
  have hKM326 : KM μ μ321 := by rw [eμ321]; exact hKM318.tr (KM_nar hq320)
  have hk327 : kd μ321 o = 13 := by rw [eμ321]; exact (KM_nar hq320).at hk319
  have hc : k324 + (c322) ≤ c := by omega
  have hz : j325 + (z323) ≤ z := by omega
  clear hb1 hb2
  refine my_putr (C := RX11) (F := TX11) (N := 59) (ci := 12) X M 37 rfl in_X11 tyX11 tyX11_ok nmX11 (by decide) rfl (by decide) kw_1002 (Or.inr ⟨hnm, rfl⟩) dX11_init_264 hk327 (some q320) (mq_na _ _) (mq_fa _ _) (fun μ328 H locs eμ328 M => ?_)
  replace hw := hw μ328 eμ328
  have hKM329 : KM μ μ328 := by rw [eμ328]; exact hKM326
  have hk330 : kd μ328 o = 13 := by rw [eμ328]; exact hk327
  refine lv_aload_n X.1 X.2.1 dX11_init_267 rfl (lv_at hl 0 rfl) ?_
  refine lv_sipush (v := 7000) X.1 X.2.1 dX11_init_268 (by decide) ?_
  obtain ⟨hb1, hb2, hw⟩ := hw
  refine my_newIk X M kw_124 dX11_init_271 7000 (by decide) (by decide) (by decide) (show k324 + 1 ≤ c by omega) (show j325 + 7000 ≤ z by omega) (fun q331 μ332 H k335 j336 ek335 ej336 hq331 eμ332 M => ?_)
  obtain ⟨c333, ec333⟩ : ∃ y, y + 1 = c322 := ⟨c322 - 1, by omega⟩
  obtain ⟨z334, ez334⟩ : ∃ y, y + 7000 = z323 := ⟨z323 - 7000, by omega⟩
  replace hw := hw q331 μ332 c333 z334 ec333 ez334 hq331 eμ332
  have hKM337 : KM μ μ332 := by rw [eμ332]; exact hKM329.tr (KM_nar hq331)
  have hk338 : kd μ332 o = 13 := by rw [eμ332]; exact (KM_nar hq331).at hk330
  have hc : k335 + (c333) ≤ c := by omega
  have hz : j336 + (z334) ≤ z := by omega
  clear hb1 hb2
  refine my_putr (C := RX11) (F := TX11) (N := 59) (ci := 12) X M 38 rfl in_X11 tyX11 tyX11_ok nmX11 (by decide) rfl (by decide) kw_1003 (Or.inr ⟨hnm, rfl⟩) dX11_init_273 hk338 (some q331) (mq_na _ _) (mq_fa _ _) (fun μ339 H locs eμ339 M => ?_)
  replace hw := hw μ339 eμ339
  have hKM340 : KM μ μ339 := by rw [eμ339]; exact hKM337
  have hk341 : kd μ339 o = 13 := by rw [eμ339]; exact hk338
  refine W.eq (g2 := F0 m 276 ls []) rfl ?_
  refine lv_aload_n X.1 X.2.1 dX11_init_276 rfl (lv_at hl 0 rfl) ?_
  refine lv_sipush (v := 20100) X.1 X.2.1 dX11_init_277 (by decide) ?_
  obtain ⟨hb1, hb2, hw⟩ := hw
  refine my_newJk X M kw_152 dX11_init_280 20100 (by decide) (by decide) (by decide) (show k335 + 1 ≤ c by omega) (show j336 + 20100 ≤ z by omega) (fun q342 μ343 H k346 j347 ek346 ej347 hq342 eμ343 M => ?_)
  obtain ⟨c344, ec344⟩ : ∃ y, y + 1 = c333 := ⟨c333 - 1, by omega⟩
  obtain ⟨z345, ez345⟩ : ∃ y, y + 20100 = z334 := ⟨z334 - 20100, by omega⟩
  replace hw := hw q342 μ343 c344 z345 ec344 ez345 hq342 eμ343
  have hKM348 : KM μ μ343 := by rw [eμ343]; exact hKM340.tr (KM_nar hq342)
  have hk349 : kd μ343 o = 13 := by rw [eμ343]; exact (KM_nar hq342).at hk341
  have hc : k346 + (c344) ≤ c := by omega
  have hz : j347 + (z345) ≤ z := by omega
  clear hb1 hb2
  refine my_putr (C := RX11) (F := TX11) (N := 59) (ci := 12) X M 39 rfl in_X11 tyX11 tyX11_ok nmX11 (by decide) rfl (by decide) kw_1004 (Or.inr ⟨hnm, rfl⟩) dX11_init_282 hk349 (some q342) (mq_na _ _) (mq_fa _ _) (fun μ350 H locs eμ350 M => ?_)
  replace hw := hw μ350 eμ350
  have hKM351 : KM μ μ350 := by rw [eμ350]; exact hKM348
  have hk352 : kd μ350 o = 13 := by rw [eμ350]; exact hk349
  refine lv_aload_n X.1 X.2.1 dX11_init_285 rfl (lv_at hl 0 rfl) ?_
  refine lv_ldc (v := 200000) X.1 X.2.1 X.2.2.2.1 (X.2.2.2.2.1 _ kw_964) dX11_init_286 ?_
  obtain ⟨hb1, hb2, hw⟩ := hw
  refine my_newIk X M kw_124 dX11_init_288 200000 (by decide) (by decide) (by decide) (show k346 + 1 ≤ c by omega) (show j347 + 200000 ≤ z by omega) (fun q353 μ354 H k357 j358 ek357 ej358 hq353 eμ354 M => ?_)
  obtain ⟨c355, ec355⟩ : ∃ y, y + 1 = c344 := ⟨c344 - 1, by omega⟩
  obtain ⟨z356, ez356⟩ : ∃ y, y + 200000 = z345 := ⟨z345 - 200000, by omega⟩
  replace hw := hw q353 μ354 c355 z356 ec355 ez356 hq353 eμ354
  have hKM359 : KM μ μ354 := by rw [eμ354]; exact hKM351.tr (KM_nar hq353)
  have hk360 : kd μ354 o = 13 := by rw [eμ354]; exact (KM_nar hq353).at hk352
  have hc : k357 + (c355) ≤ c := by omega
  have hz : j358 + (z356) ≤ z := by omega
  clear hb1 hb2
  refine W.eq (g2 := F0 m 290 ls [.ref q353, .ref o]) rfl ?_
  refine my_putr (C := RX11) (F := TX11) (N := 59) (ci := 12) X M 42 rfl in_X11 tyX11 tyX11_ok nmX11 (by decide) rfl (by decide) kw_1007 (Or.inr ⟨hnm, rfl⟩) dX11_init_290 hk360 (some q353) (mq_na _ _) (mq_fa _ _) (fun μ361 H locs eμ361 M => ?_)
  replace hw := hw μ361 eμ361
  have hKM362 : KM μ μ361 := by rw [eμ361]; exact hKM359
  have hk363 : kd μ361 o = 13 := by rw [eμ361]; exact hk360
  refine lv_aload_n X.1 X.2.1 dX11_init_293 rfl (lv_at hl 0 rfl) ?_
  refine lv_ldc (v := 200000) X.1 X.2.1 X.2.2.2.1 (X.2.2.2.2.1 _ kw_964) dX11_init_294 ?_
  obtain ⟨hb1, hb2, hw⟩ := hw
  refine my_newJk X M kw_152 dX11_init_296 200000 (by decide) (by decide) (by decide) (show k357 + 1 ≤ c by omega) (show j358 + 200000 ≤ z by omega) (fun q364 μ365 H k368 j369 ek368 ej369 hq364 eμ365 M => ?_)
  obtain ⟨c366, ec366⟩ : ∃ y, y + 1 = c355 := ⟨c355 - 1, by omega⟩
  obtain ⟨z367, ez367⟩ : ∃ y, y + 200000 = z356 := ⟨z356 - 200000, by omega⟩
  replace hw := hw q364 μ365 c366 z367 ec366 ez367 hq364 eμ365
  have hKM370 : KM μ μ365 := by rw [eμ365]; exact hKM362.tr (KM_nar hq364)
  have hk371 : kd μ365 o = 13 := by rw [eμ365]; exact (KM_nar hq364).at hk363
  have hc : k368 + (c366) ≤ c := by omega
  have hz : j369 + (z367) ≤ z := by omega
  clear hb1 hb2
  refine my_putr (C := RX11) (F := TX11) (N := 59) (ci := 12) X M 43 rfl in_X11 tyX11 tyX11_ok nmX11 (by decide) rfl (by decide) kw_1008 (Or.inr ⟨hnm, rfl⟩) dX11_init_298 hk371 (some q364) (mq_na _ _) (mq_fa _ _) (fun μ372 H locs eμ372 M => ?_)
  replace hw := hw μ372 eμ372
  have hKM373 : KM μ μ372 := by rw [eμ372]; exact hKM370
  have hk374 : kd μ372 o = 13 := by rw [eμ372]; exact hk371
  refine lv_aload_n X.1 X.2.1 dX11_init_301 rfl (lv_at hl 0 rfl) ?_
  refine lv_iconst (v := (-1)) X.1 X.2.1 dX11_init_302 (by decide) ?_
  refine W.eq (g2 := F0 m 303 ls [.int (-1), .ref o]) rfl ?_
  refine my_puti (C := RX11) (F := TX11) (N := 59) (ci := 12) X M 44 rfl in_X11 tyX11 tyX11_ok nmX11 (by decide) rfl (by decide) kw_1009 (Or.inl rfl) dX11_init_303 hk374 rfl rfl (fun μ375 H locs eμ375 M => ?_)
  replace hw := hw μ375 eμ375
  have hKM376 : KM μ μ375 := by rw [eμ375]; exact hKM373
  have hk377 : kd μ375 o = 13 := by rw [eμ375]; exact hk374
  refine lv_aload_n X.1 X.2.1 dX11_init_306 rfl (lv_at hl 0 rfl) ?_
  refine lv_sipush (v := 1000) X.1 X.2.1 dX11_init_307 (by decide) ?_
  obtain ⟨hb1, hb2, hw⟩ := hw
  refine my_newIk X M kw_124 dX11_init_310 1000 (by decide) (by decide) (by decide) (show k368 + 1 ≤ c by omega) (show j369 + 1000 ≤ z by omega) (fun q378 μ379 H k382 j383 ek382 ej383 hq378 eμ379 M => ?_)
  obtain ⟨c380, ec380⟩ : ∃ y, y + 1 = c366 := ⟨c366 - 1, by omega⟩
  obtain ⟨z381, ez381⟩ : ∃ y, y + 1000 = z367 := ⟨z367 - 1000, by omega⟩
  replace hw := hw q378 μ379 c380 z381 ec380 ez381 hq378 eμ379
  have hKM384 : KM μ μ379 := by rw [eμ379]; exact hKM376.tr (KM_nar hq378)
  have hk385 : kd μ379 o = 13 := by rw [eμ379]; exact (KM_nar hq378).at hk377
  have hc : k382 + (c380) ≤ c := by omega
  have hz : j383 + (z381) ≤ z := by omega
  clear hb1 hb2
  refine my_putr (C := RX11) (F := TX11) (N := 59) (ci := 12) X M 53 rfl in_X11 tyX11 tyX11_ok nmX11 (by decide) rfl (by decide) kw_1018 (Or.inr ⟨hnm, rfl⟩) dX11_init_312 hk385 (some q378) (mq_na _ _) (mq_fa _ _) (fun μ386 H locs eμ386 M => ?_)
  replace hw := hw μ386 eμ386
  have hKM387 : KM μ μ386 := by rw [eμ386]; exact hKM384
  have hk388 : kd μ386 o = 13 := by rw [eμ386]; exact hk385
  refine lv_aload_n X.1 X.2.1 dX11_init_315 rfl (lv_at hl 0 rfl) ?_
  refine lv_sipush (v := 20100) X.1 X.2.1 dX11_init_316 (by decide) ?_
  refine W.eq (g2 := F0 m 319 ls [.int 20100, .ref o]) rfl ?_
  obtain ⟨hb1, hb2, hw⟩ := hw
  refine my_newJk X M kw_152 dX11_init_319 20100 (by decide) (by decide) (by decide) (show k382 + 1 ≤ c by omega) (show j383 + 20100 ≤ z by omega) (fun q389 μ390 H k393 j394 ek393 ej394 hq389 eμ390 M => ?_)
  obtain ⟨c391, ec391⟩ : ∃ y, y + 1 = c380 := ⟨c380 - 1, by omega⟩
  obtain ⟨z392, ez392⟩ : ∃ y, y + 20100 = z381 := ⟨z381 - 20100, by omega⟩
  replace hw := hw q389 μ390 c391 z392 ec391 ez392 hq389 eμ390
  have hKM395 : KM μ μ390 := by rw [eμ390]; exact hKM387.tr (KM_nar hq389)
  have hk396 : kd μ390 o = 13 := by rw [eμ390]; exact (KM_nar hq389).at hk388
  have hc : k393 + (c391) ≤ c := by omega
  have hz : j394 + (z392) ≤ z := by omega
  clear hb1 hb2
  refine my_putr (C := RX11) (F := TX11) (N := 59) (ci := 12) X M 55 rfl in_X11 tyX11 tyX11_ok nmX11 (by decide) rfl (by decide) kw_1020 (Or.inr ⟨hnm, rfl⟩) dX11_init_321 hk396 (some q389) (mq_na _ _) (mq_fa _ _) (fun μ397 H locs eμ397 M => ?_)
  replace hw := hw μ397 eμ397
  have hKM398 : KM μ μ397 := by rw [eμ397]; exact hKM395
  have hk399 : kd μ397 o = 13 := by rw [eμ397]; exact hk396
  refine lv_aload_n X.1 X.2.1 dX11_init_324 rfl (lv_at hl 0 rfl) ?_
  refine lv_sipush (v := 20100) X.1 X.2.1 dX11_init_325 (by decide) ?_
  obtain ⟨hb1, hb2, hw⟩ := hw
  refine my_newJk X M kw_152 dX11_init_328 20100 (by decide) (by decide) (by decide) (show k393 + 1 ≤ c by omega) (show j394 + 20100 ≤ z by omega) (fun q400 μ401 H k404 j405 ek404 ej405 hq400 eμ401 M => ?_)
  obtain ⟨c402, ec402⟩ : ∃ y, y + 1 = c391 := ⟨c391 - 1, by omega⟩
  obtain ⟨z403, ez403⟩ : ∃ y, y + 20100 = z392 := ⟨z392 - 20100, by omega⟩
  replace hw := hw q400 μ401 c402 z403 ec402 ez403 hq400 eμ401
  have hKM406 : KM μ μ401 := by rw [eμ401]; exact hKM398.tr (KM_nar hq400)
  have hk407 : kd μ401 o = 13 := by rw [eμ401]; exact (KM_nar hq400).at hk399
  have hc : k404 + (c402) ≤ c := by omega
  have hz : j405 + (z403) ≤ z := by omega
  clear hb1 hb2
  refine my_putr (C := RX11) (F := TX11) (N := 59) (ci := 12) X M 56 rfl in_X11 tyX11 tyX11_ok nmX11 (by decide) rfl (by decide) kw_1021 (Or.inr ⟨hnm, rfl⟩) dX11_init_330 hk407 (some q400) (mq_na _ _) (mq_fa _ _) (fun μ408 H locs eμ408 M => ?_)
  replace hw := hw μ408 eμ408
  have hKM409 : KM μ μ408 := by rw [eμ408]; exact hKM406
  have hk410 : kd μ408 o = 13 := by rw [eμ408]; exact hk407
  refine lv_aload_n X.1 X.2.1 dX11_init_333 rfl (lv_at hl 0 rfl) ?_
  refine W.eq (g2 := F0 m 334 ls [.ref o]) rfl ?_
  refine lv_sipush (v := 7000) X.1 X.2.1 dX11_init_334 (by decide) ?_
  obtain ⟨hb1, hb2, hw⟩ := hw
  refine my_newIk X M kw_124 dX11_init_337 7000 (by decide) (by decide) (by decide) (show k404 + 1 ≤ c by omega) (show j405 + 7000 ≤ z by omega) (fun q411 μ412 H k415 j416 ek415 ej416 hq411 eμ412 M => ?_)
  obtain ⟨c413, ec413⟩ : ∃ y, y + 1 = c402 := ⟨c402 - 1, by omega⟩
  obtain ⟨z414, ez414⟩ : ∃ y, y + 7000 = z403 := ⟨z403 - 7000, by omega⟩
  replace hw := hw q411 μ412 c413 z414 ec413 ez414 hq411 eμ412
  have hKM417 : KM μ μ412 := by rw [eμ412]; exact hKM409.tr (KM_nar hq411)
  have hk418 : kd μ412 o = 13 := by rw [eμ412]; exact (KM_nar hq411).at hk410
  have hc : k415 + (c413) ≤ c := by omega
  have hz : j416 + (z414) ≤ z := by omega
  clear hb1 hb2
  refine my_putr (C := RX11) (F := TX11) (N := 59) (ci := 12) X M 57 rfl in_X11 tyX11 tyX11_ok nmX11 (by decide) rfl (by decide) kw_1022 (Or.inr ⟨hnm, rfl⟩) dX11_init_339 hk418 (some q411) (mq_na _ _) (mq_fa _ _) (fun μ419 H locs eμ419 M => ?_)
  replace hw := hw μ419 eμ419
  have hKM420 : KM μ μ419 := by rw [eμ419]; exact hKM417
  have hk421 : kd μ419 o = 13 := by rw [eμ419]; exact hk418
  exact mx_vret X hr hk M dX11_init_342 (by omega) (by omega) ⟨hw, hKM420⟩
