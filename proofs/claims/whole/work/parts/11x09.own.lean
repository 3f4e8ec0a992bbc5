abbrev rm_X8_init (c z : Nat) : Room := { frames := 2, cells := c, slots := z, locals := 40 }
def wp_X8_init (c z : Nat) (μ : Mem) (o : Nat) (post : Mem → Prop) : Prop :=
  ¬ (1000 : Int32) < 0 ∧ (Int32.toNatClampNeg 1000) ≤ 1048576 ∧ 1 ≤ c ∧ (Int32.toNatClampNeg 1000) ≤ z ∧ ∀ (q1 : Nat) (μ2 : Mem), kd μ q1 = 0 → μ2 = nar μ 101 q1 (Int32.toNatClampNeg 1000) →
  kd μ2 o = 11 ∧
  ∀ μ6 : Mem, μ6 = sfr μ2 10 0 o (some q1) →
  ¬ (10 : Int32) < 0 ∧ (Int32.toNatClampNeg 10) ≤ 1048576 ∧ 1 ≤ c - 1 ∧ (Int32.toNatClampNeg 10) ≤ z - (Int32.toNatClampNeg 1000) ∧ ∀ (q10 : Nat) (μ11 : Mem), kd μ6 q10 = 0 → μ11 = nar μ6 101 q10 (Int32.toNatClampNeg 10) →
  ∀ μ15 : Mem, μ15 = sfr μ11 10 2 o (some q10) →
  1 ≤ (c - 1) - 1 ∧ 2 ≤ (z - (Int32.toNatClampNeg 1000)) - (Int32.toNatClampNeg 10) ∧ ∀ (q19 : Nat) (μ20 : Mem), kd μ15 q19 = 0 → μ20 = nob μ15 6 q19 →
  ∃ c25 z26, c25 ≤ ((c - 1) - 1) - 1 ∧ z26 ≤ ((z - (Int32.toNatClampNeg 1000)) - (Int32.toNatClampNeg 10)) - 2 ∧
  wp_X4_init c25 z26 μ20 q19 (fun (μ24 : Mem) =>
  KM μ20 μ24 →
  ∀ μ30 : Mem, μ30 = sfr μ24 10 3 o (some q19) →
  post μ30)
set_option maxRecDepth 100000 in
set_option maxHeartbeats 4000000 in
theorem c_X8_init (l : Launch) (T : Tb) (B : Nat) (c z : Nat) (μ : Mem) (o : Nat) (post : Mem → Prop) (hw : wp_X8_init c z μ o post) : Met l yX8_init (.code yX8_init cX8_init 1 none :: G) (rm_X8_init c z) (Pm (Rl T B) T B μ [.ref o]) (va_Qv (fun μ9 => post μ9 ∧ KM μ μ9) (Bm (Rl T B)) (Ai B)) c z (Ai B) := by
  refine mx_of RX8 rfl (by decide) (Nat.le_of_ble_eq_true rfl) ?_
  intro p e s m below meth c0 X hr hk hnm M ls hl
  have hl : lv_has ls 1 [(0, .ref o)] := hl
  unfold wp_X8_init at hw
  have hKM : KM μ μ := KM.rf μ
  have hc : 0 + c ≤ c := by omega
  have hz : 0 + z ≤ z := by omega
  refine lv_aload_n X.1 X.2.1 dX8_init_0 rfl (lv_at hl 0 rfl) ?_
  refine my_obj X kw_231 kw_96 kw_97 hl.1 (Nat.le_of_ble_eq_true rfl) (Nat.le_of_ble_eq_true rfl) (Nat.le_of_ble_eq_true rfl) dX8_init_1 ?_
  refine lv_aload_n X.1 X.2.1 dX8_init_4 rfl (lv_at hl 0 rfl) ?_
  refine lv_sipush (v := 1000) X.1 X.2.1 dX8_init_5 (by decide) ?_
  obtain ⟨hb0, hb3, hb1, hb2, hw⟩ := hw
  refine my_newB X M kw_247 dX8_init_8 hb0 hb3 (show 0 + 1 ≤ c by omega) (show 0 + (Int32.toNatClampNeg 1000) ≤ z by omega) (fun q1 μ2 H hq1 eμ2 M => ?_)
  replace hw := hw q1 μ2 hq1 eμ2
  have hKM3 : KM μ μ2 := by rw [eμ2]; exact hKM.tr (KM_nar hq1)
  have hk4 : kd μ2 q1 = 101 := by rw [eμ2]; exact kd_nar
  have hc : (0 + 1) + (c - 1) ≤ c := by omega
  have hz : (0 + (Int32.toNatClampNeg 1000)) + (z - (Int32.toNatClampNeg 1000)) ≤ z := by omega
  obtain ⟨hk5, hw⟩ := hw
  refine my_putr (C := RX8) (F := TX8) (N := 4) (ci := 10) X M 0 rfl in_X8 tyX8 tyX8_ok nmX8 (by decide) rfl (by decide) kw_234 (Or.inr ⟨hnm, rfl⟩) dX8_init_10 hk5 (some q1) (mq_na _ _) (mq_fa _ _) (fun μ6 H locs eμ6 M => ?_)
  replace hw := hw μ6 eμ6
  have hKM7 : KM μ μ6 := by rw [eμ6]; exact hKM3
  have hk8 : kd μ6 q1 = 101 := by rw [eμ6]; exact hk4
  have hk9 : kd μ6 o = 11 := by rw [eμ6]; exact hk5
  refine lv_aload_n X.1 X.2.1 dX8_init_13 rfl (lv_at hl 0 rfl) ?_
  refine lv_bipush (v := 10) X.1 X.2.1 dX8_init_14 (by decide) ?_
  obtain ⟨hb0, hb3, hb1, hb2, hw⟩ := hw
  refine my_newB X M kw_247 dX8_init_16 hb0 hb3 (show (0 + 1) + 1 ≤ c by omega) (show (0 + (Int32.toNatClampNeg 1000)) + (Int32.toNatClampNeg 10) ≤ z by omega) (fun q10 μ11 H hq10 eμ11 M => ?_)
  replace hw := hw q10 μ11 hq10 eμ11
  have hKM12 : KM μ μ11 := by rw [eμ11]; exact hKM7.tr (KM_nar hq10)
  have hk13 : kd μ11 o = 11 := by rw [eμ11]; exact (KM_nar hq10).at hk9
  have hk14 : kd μ11 q10 = 101 := by rw [eμ11]; exact kd_nar
  have hc : ((0 + 1) + 1) + ((c - 1) - 1) ≤ c := by omega
  have hz : ((0 + (Int32.toNatClampNeg 1000)) + (Int32.toNatClampNeg 10)) + ((z - (Int32.toNatClampNeg 1000)) - (Int32.toNatClampNeg 10)) ≤ z := by omega
  refine my_putr (C := RX8) (F := TX8) (N := 4) (ci := 10) X M 2 rfl in_X8 tyX8 tyX8_ok nmX8 (by decide) rfl (by decide) kw_236 (Or.inr ⟨hnm, rfl⟩) dX8_init_18 hk13 (some q10) (mq_na _ _) (mq_fa _ _) (fun μ15 H locs eμ15 M => ?_)
  replace hw := hw μ15 eμ15
  have hKM16 : KM μ μ15 := by rw [eμ15]; exact hKM12
  have hk17 : kd μ15 o = 11 := by rw [eμ15]; exact hk13
  have hk18 : kd μ15 q10 = 101 := by rw [eμ15]; exact hk14
  refine lv_aload_n X.1 X.2.1 dX8_init_21 rfl (lv_at hl 0 rfl) ?_
  obtain ⟨hb1, hb2, hw⟩ := hw
  refine my_new (C := RX4) (F := TX4) (N := 2) (ci := 6) X M rfl in_X4 tyX4 tyX4_ok df_X4 (by decide) kw_232 kw_140 kw_71 dX8_init_22 (show ((0 + 1) + 1) + 1 ≤ c by omega) (show ((0 + (Int32.toNatClampNeg 1000)) + (Int32.toNatClampNeg 10)) + 2 ≤ z by omega) (fun q19 μ20 H hq19 eμ20 M => ?_)
  replace hw := hw q19 μ20 hq19 eμ20
  have hKM21 : KM μ μ20 := by rw [eμ20]; exact hKM16.tr (KM_nob hq19)
  have hk22 : kd μ20 o = 11 := by rw [eμ20]; exact (KM_nob hq19).at hk17
  have hk23 : kd μ20 q19 = 7 := by rw [eμ20]; exact kd_nob
  have hc : (((0 + 1) + 1) + 1) + (((c - 1) - 1) - 1) ≤ c := by omega
  have hz : (((0 + (Int32.toNatClampNeg 1000)) + (Int32.toNatClampNeg 10)) + 2) + (((z - (Int32.toNatClampNeg 1000)) - (Int32.toNatClampNeg 10)) - 2) ≤ z := by omega
  refine lv_dup X.1 X.2.1 dX8_init_25 rfl ?_
  obtain ⟨c25, z26, hc25, hz26, hw⟩ := hw
  have hw27 := hw
  clear hw
  refine mx_cv M (mx_runIN (n := 0) (As := []) (rest := [.ref q19, .ref o]) X M (c_X4_init l T B c25 z26 μ20 q19 _ hw27) kw_233 kw_142 rfl kw_71 kw_143 (by decide +kernel) rfl rfl ⟨Nat.le_of_ble_eq_true rfl, Nat.le_of_ble_eq_true rfl⟩ rfl hl.1 (Nat.le_of_ble_eq_true rfl) dX8_init_26 ⟨(show (((0 + 1) + 1) + 1) + c25 ≤ c by omega), (show (((0 + (Int32.toNatClampNeg 1000)) + (Int32.toNatClampNeg 10)) + 2) + z26 ≤ z by omega)⟩) (fun μ24 H locs ⟨hw, hKM24⟩ M => ?_)
  replace hw := hw hKM24
  have hKM24_ := hKM21.tr hKM24
  have hk28 := hKM24.at hk22
  have hk29 := hKM24.at hk23
  have hc : ((((0 + 1) + 1) + 1) + c25) + ((((c - 1) - 1) - 1) - c25) ≤ c := by omega
  have hz : ((((0 + (Int32.toNatClampNeg 1000)) + (Int32.toNatClampNeg 10)) + 2) + z26) + ((((z - (Int32.toNatClampNeg 1000)) - (Int32.toNatClampNeg 10)) - 2) - z26) ≤ z := by omega
  refine my_putr (C := RX8) (F := TX8) (N := 4) (ci := 10) X M 3 rfl in_X8 tyX8 tyX8_ok nmX8 (by decide) rfl (by decide) kw_237 (Or.inr ⟨hnm, rfl⟩) dX8_init_29 hk28 (some q19) (mq_no _ _) (mq_fo _ _) (fun μ30 H locs eμ30 M => ?_)
  replace hw := hw μ30 eμ30
  have hKM31 : KM μ μ30 := by rw [eμ30]; exact hKM24_
  have hk32 : kd μ30 o = 11 := by rw [eμ30]; exact hk28
  have hk33 : kd μ30 q19 = 7 := by rw [eμ30]; exact hk29
  exact mx_vret X hr hk M dX8_init_32 (by omega) (by omega) ⟨hw, hKM31⟩

abbrev rm_X8_writeCharacter : Room := { frames := 1, cells := 0, slots := 0, locals := 21 }
def wp_X8_writeCharacter (μ : Mem) (o : Nat) (a1 : Int32) (post : Mem → Prop) : Prop :=
  kd μ o = 11 ∧
  ∃ x2, fr μ 10 0 o = some x2 ∧
  isArr (kd μ x2) ∧
  wp_X10_within μ (fi μ 10 1 o) (nI (al μ x2)) (fun (r5 : Int32) (μ3 : Mem) =>
  KM μ μ3 →
  (r5 = 0 →
   post μ3) ∧ (¬ r5 = 0 →
   ∃ x7, fr μ3 10 0 o = some x7 ∧
   kd μ3 x7 = 101 ∧
   vp_in (fi μ3 10 1 o) (al μ3 x7) ∧
   ∀ μ9 : Mem, μ9 = sai μ3 x7 (Int32.toNatClampNeg (fi μ3 10 1 o)) (vp_nar .char a1) →
   ∀ μ13 : Mem, μ13 = sfi μ9 10 1 o ((fi μ9 10 1 o) + 1) →
   post μ13))
set_option maxRecDepth 100000 in
set_option maxHeartbeats 4000000 in
theorem c_X8_writeCharacter (l : Launch) (T : Tb) (B : Nat) (μ : Mem) (o : Nat) (a1 : Int32) (post : Mem → Prop) (hw : wp_X8_writeCharacter μ o a1 post) : Met l yX8_writeCharacter (.code yX8_writeCharacter cX8_writeCharacter 2 none :: G) rm_X8_writeCharacter (Pm (Rl T B) T B μ [.ref o, .int a1]) (va_Qv (fun μ9 => post μ9 ∧ KM μ μ9) (Bm (Rl T B)) (Ai B)) 0 0 (Ai B) := by
  refine mx_of RX8 rfl (by decide) (Nat.le_of_ble_eq_true rfl) ?_
  intro p e s m below meth c0 X hr hk hnm M ls hl
  have hl : lv_has ls 2 [(0, .ref o), (1, .int a1)] := hl
  unfold wp_X8_writeCharacter at hw
  have hKM : KM μ μ := KM.rf μ
  refine lv_aload_n X.1 X.2.1 dX8_writeCharacter_0 rfl (lv_at hl 0 rfl) ?_
  obtain ⟨hk1, hw⟩ := hw
  refine mx_geti (C := RX8) (F := TX8) (N := 4) (ci := 10) X M 1 rfl in_X8 (by decide) rfl (by decide) kw_235 dX8_writeCharacter_1 hk1 ?_
  refine lv_aload_n X.1 X.2.1 dX8_writeCharacter_4 rfl (lv_at hl 0 rfl) ?_
  obtain ⟨x2, ex2, hw⟩ := hw
  refine mx_getr (C := RX8) (F := TX8) (N := 4) (ci := 10) X M 0 rfl in_X8 (by decide) rfl (by decide) kw_234 dX8_writeCharacter_5 hk1 ?_
  rw [ex2]
  obtain ⟨hia, hw⟩ := hw
  refine mx_len X M dX8_writeCharacter_8 hia ?_
  have hw4 := hw
  clear hw
  refine mx_ci M (mx_runSN (n := 2) (As := [.int (fi μ 10 1 o), .int (nI (al μ x2))]) (rest := []) X M (c_X10_within l T B μ (fi μ 10 1 o) (nI (al μ x2)) _ hw4) kw_827 kw_309 kw_65 kw_310 (by decide +kernel) rfl rfl ⟨Nat.le_of_ble_eq_true rfl, Nat.le_of_ble_eq_true rfl⟩ rfl hl.1 (Nat.le_of_ble_eq_true rfl) dX8_writeCharacter_9 ⟨by decide, by decide⟩) (fun r5 μ3 H locs ⟨hw, hKM3⟩ M => ?_)
  replace hw := hw hKM3
  have hKM3_ := hKM.tr hKM3
  have hk6 := hKM3.at hk1
  obtain ⟨hwt, hwf⟩ := hw
  refine lv_if_eq (tgt := 35) X.1 X.2.1 dX8_writeCharacter_12 (by decide) (fun hq => ?_) (fun hq => ?_)
  · have hw := hwt hq
    exact mx_vret X hr hk M dX8_writeCharacter_35 (by decide) (by decide) ⟨hw, hKM3_⟩
  · have hw := hwf hq
    refine lv_aload_n X.1 X.2.1 dX8_writeCharacter_15 rfl (lv_at hl 0 rfl) ?_
    obtain ⟨x7, ex7, hw⟩ := hw
    refine mx_getr (C := RX8) (F := TX8) (N := 4) (ci := 10) X M 0 rfl in_X8 (by decide) rfl (by decide) kw_234 dX8_writeCharacter_16 hk6 ?_
    rw [ex7]
    refine lv_aload_n X.1 X.2.1 dX8_writeCharacter_19 rfl (lv_at hl 0 rfl) ?_
    refine mx_geti (C := RX8) (F := TX8) (N := 4) (ci := 10) X M 1 rfl in_X8 (by decide) rfl (by decide) kw_235 dX8_writeCharacter_20 hk6 ?_
    refine lv_iload_n X.1 X.2.1 dX8_writeCharacter_23 rfl (lv_at hl 1 rfl) ?_
    obtain ⟨hk8, hw⟩ := hw
    obtain ⟨hi, hw⟩ := hw
    refine my_bst X M dX8_writeCharacter_24 hk8 hi (fun μ9 H locs eμ9 M => ?_)
    replace hw := hw μ9 eμ9
    have hKM10 : KM μ μ9 := by rw [eμ9]; exact hKM3_
    have hk11 : kd μ9 o = 11 := by rw [eμ9]; exact hk6
    have hk12 : kd μ9 x7 = 101 := by rw [eμ9]; exact hk8
    refine lv_aload_n X.1 X.2.1 dX8_writeCharacter_25 rfl (lv_at hl 0 rfl) ?_
    refine lv_dup X.1 X.2.1 dX8_writeCharacter_26 rfl ?_
    refine mx_geti (C := RX8) (F := TX8) (N := 4) (ci := 10) X M 1 rfl in_X8 (by decide) rfl (by decide) kw_235 dX8_writeCharacter_27 hk11 ?_
    refine lv_iconst (v := 1) X.1 X.2.1 dX8_writeCharacter_30 (by decide) ?_
    refine lv_iadd X.1 X.2.1 dX8_writeCharacter_31 ?_
    refine my_puti (C := RX8) (F := TX8) (N := 4) (ci := 10) X M 1 rfl in_X8 tyX8 tyX8_ok nmX8 (by decide) rfl (by decide) kw_235 (Or.inl rfl) dX8_writeCharacter_32 hk11 rfl rfl (fun μ13 H locs eμ13 M => ?_)
    replace hw := hw μ13 eμ13
    have hKM14 : KM μ μ13 := by rw [eμ13]; exact hKM10
    have hk15 : kd μ13 o = 11 := by rw [eμ13]; exact hk11
    exact mx_vret X hr hk M dX8_writeCharacter_35 (by decide) (by decide) ⟨hw, hKM14⟩

abbrev rm_X8_writeNumber : Room := { frames := 2, cells := 0, slots := 0, locals := 42 }
def wp_X8_writeNumber_77 (o : Nat) (post : Mem → Prop) : Nat → Mem → Int32 → Prop
  | 0, _, _ => False
  | n + 1, μ, x6 =>
    (x6 < 0 →
     post μ) ∧ (¬ x6 < 0 →
     kd μ o = 11 ∧
     ∃ x16, fr μ 10 2 o = some x16 ∧
     kd μ x16 = 101 ∧
     vp_in x6 (al μ x16) ∧
     wp_X8_writeCharacter μ o (ai μ x16 (Int32.toNatClampNeg x6)) (fun (μ18 : Mem) =>
     KM μ μ18 →
     ∀ v21 : Int32, v21 = x6 + (-1) →
     wp_X8_writeNumber_77 o post n μ18 v21))
def wp_X8_writeNumber_41 (o : Nat) (post : Mem → Prop) (K20 : Mem → Int64 → Int32 → Prop) (μ : Mem) (x3 : Int64) (x5 : Int32) : Prop :=
  kd μ o = 11 ∧
  ∃ x24, fr μ 10 2 o = some x24 ∧
  ¬ (10 : Int64) = 0 ∧
  kd μ x24 = 101 ∧
  vp_in x5 (al μ x24) ∧
  ∀ μ26 : Mem, μ26 = sai μ x24 (Int32.toNatClampNeg x5) (vp_nar .char (UInt32.toInt32 (Int32.toUInt32 (Int64.toInt32 ((48 : Int64) + (x3 - x3 / (10 : Int64) * (10 : Int64)))) % 65536))) →
  ¬ (10 : Int64) = 0 ∧
  ∀ v30 : Int64, v30 = (x3 / (10 : Int64)) →
  ∀ v31 : Int32, v31 = x5 + 1 →
  K20 μ26 v30 v31
def wp_X8_writeNumber_20 (o : Nat) (post : Mem → Prop) : Nat → Mem → Int64 → Int32 → Prop
  | 0, _, _, _ => False
  | n + 1, μ, x3, x5 =>
    kd μ o = 11 ∧
    ∃ x13, fr μ 10 2 o = some x13 ∧
    isArr (kd μ x13) ∧
    ((nI (al μ x13)) ≤ x5 →
     ∀ v14 : Int32, v14 = (x5 - 1) →
     ∃ n22, wp_X8_writeNumber_77 o post n22 μ v14) ∧ (¬ (nI (al μ x13)) ≤ x5 →
     (x5 = 0 →
      wp_X8_writeNumber_41 o post (fun s0 y0 y1 => wp_X8_writeNumber_20 o post n s0 y0 y1) μ x3 x5) ∧ (¬ x5 = 0 →
      ((lg_cmp x3 0) ≤ 0 →
       ∀ v32 : Int32, v32 = (x5 - 1) →
       ∃ n33, wp_X8_writeNumber_77 o post n33 μ v32) ∧ (¬ (lg_cmp x3 0) ≤ 0 →
       wp_X8_writeNumber_41 o post (fun s0 y0 y1 => wp_X8_writeNumber_20 o post n s0 y0 y1) μ x3 x5)))
def wp_X8_writeNumber (μ : Mem) (o : Nat) (a1 : Int64) (post : Mem → Prop) : Prop :=
  (0 ≤ (lg_cmp a1 0) →
   ∀ v11 : Int64, v11 = (if (0 : Int64) < a1 then a1 else -a1) →
   ∃ n34, wp_X8_writeNumber_20 o post n34 μ v11 0) ∧ (¬ 0 ≤ (lg_cmp a1 0) →
   kd μ o = 11 ∧
   wp_X8_writeCharacter μ o 45 (fun (μ35 : Mem) =>
   KM μ μ35 →
   ∀ v39 : Int64, v39 = (if (0 : Int64) < a1 then a1 else -a1) →
   ∃ n40, wp_X8_writeNumber_20 o post n40 μ35 v39 0))
set_option maxRecDepth 100000 in
set_option maxHeartbeats 4000000 in
theorem b_X8_writeNumber_77 {T : Tb} {B : Nat} {p : Program} {l : Launch} {e : Env} {s : State} {m : MethodId} {args : Array Value} {below : List Frame} {meth : Method} {c0 : Code} {post : Mem → Prop} {μ0 : Mem} {o : Nat} (X : CX T B p m c0 cX8_writeNumber 7 s args RX8) (hr : meth.sig.returnType = none) (hk : meth.locks = false) : ∀ (n : Nat) (μ : Mem) (x6 : Int32) (H : Heap) (locs : List Loc) (ls : Array Slot), KM μ0 μ → wp_X8_writeNumber_77 o post n μ x6 → MG (Rl T B) B s μ H locs → lv_has ls 7 [(0, .ref o), (6, .int x6)] → W p l e rm_X8_writeNumber s m args below meth c0 H locs 0 0 (MQ below (va_Qv (fun μ9 => post μ9 ∧ KM μ0 μ9) (Bm (Rl T B)) (Ai B)) args s 0 0 (Ai B)) (F0 m 77 ls []) := by
  intro n
  induction n with
  | zero =>
    intro μ x6 H locs ls hKM hw
    exact hw.elim
  | succ n ih =>
    intro μ x6 H locs ls hKM hw M hl
    rw [wp_X8_writeNumber_77] at hw
    refine lv_iload X.1 X.2.1 dX8_writeNumber_77 (lv_at hl 1 rfl) ?_
    obtain ⟨hwt, hwf⟩ := hw
    refine lv_if_lt (tgt := 99) X.1 X.2.1 dX8_writeNumber_79 (by decide) (fun hq => ?_) (fun hq => ?_)
    · have hw := hwt hq
      exact mx_vret X hr hk M dX8_writeNumber_99 (by decide) (by decide) ⟨hw, hKM⟩
    · have hw := hwf hq
      refine lv_aload_n X.1 X.2.1 dX8_writeNumber_82 rfl (lv_at hl 0 rfl) ?_
      refine lv_aload_n X.1 X.2.1 dX8_writeNumber_83 rfl (lv_at hl 0 rfl) ?_
      obtain ⟨hk15, hw⟩ := hw
      obtain ⟨x16, ex16, hw⟩ := hw
      refine mx_getr (C := RX8) (F := TX8) (N := 4) (ci := 10) X M 2 rfl in_X8 (by decide) rfl (by decide) kw_236 dX8_writeNumber_84 hk15 ?_
      rw [ex16]
      refine lv_iload X.1 X.2.1 dX8_writeNumber_87 (lv_at hl 1 rfl) ?_
      obtain ⟨hk17, hw⟩ := hw
      obtain ⟨hi, hw⟩ := hw
      refine mx_bld X M dX8_writeNumber_89 hk17 hi ?_
      have hw19 := hw
      clear hw
      refine mx_cv M (mx_runV (n := 1) (As := [.int (ai μ x16 (Int32.toNatClampNeg x6))]) (rest := []) X M (c_X8_writeCharacter l T B μ o (ai μ x16 (Int32.toNatClampNeg x6)) _ hw19) (mx_recv (C := RX8) (F := TX8) (N := 4) (ci := 10) X M rfl (by decide) hk15) kw_938 kw_940 kw_28 kw_73 kw_941 (by decide +kernel) rfl rfl ⟨Nat.le_of_ble_eq_true rfl, Nat.le_of_ble_eq_true rfl⟩ rfl hl.1 (Nat.le_of_ble_eq_true rfl) dX8_writeNumber_90 ⟨by decide, by decide⟩) (fun μ18 H locs ⟨hw, hKM18⟩ M => ?_)
      replace hw := hw hKM18
      have hKM18_ := hKM.tr hKM18
      have hk20 := hKM18.at hk15
      obtain ⟨v21, ev21⟩ : ∃ y : Int32, y = x6 + (-1) := ⟨_, rfl⟩
      replace hw := hw v21 ev21
      refine lv_iinc (v := v21) (lv' := [(6, .int v21), (0, .ref o)]) X.1 X.2.1 dX8_writeNumber_93 hl (k := 1) rfl (by rw [ev21]; rfl) (by decide) rfl (fun ls hl => ?_)
      refine lv_goto (tgt := 77) X.1 X.2.1 dX8_writeNumber_96 (by decide) ?_
      exact ih μ18 v21 _ _ _ hKM18_ hw M (lv_sub hl [1, 0] rfl)
set_option maxRecDepth 100000 in
set_option maxHeartbeats 4000000 in
theorem b_X8_writeNumber_41 {T : Tb} {B : Nat} {p : Program} {l : Launch} {e : Env} {s : State} {m : MethodId} {args : Array Value} {below : List Frame} {meth : Method} {c0 : Code} {post : Mem → Prop} {K20 : Mem → Int64 → Int32 → Prop} {μ0 : Mem} {o : Nat} (X : CX T B p m c0 cX8_writeNumber 7 s args RX8) (hr : meth.sig.returnType = none) (hk : meth.locks = false) (hK20 : ∀ (μ : Mem) (x3 : Int64) (x5 : Int32) (H : Heap) (locs : List Loc) (ls : Array Slot), KM μ0 μ → K20 μ x3 x5 → MG (Rl T B) B s μ H locs → lv_has ls 7 [(0, .ref o), (3, .long x3), (5, .int x5)] → W p l e rm_X8_writeNumber s m args below meth c0 H locs 0 0 (MQ below (va_Qv (fun μ9 => post μ9 ∧ KM μ0 μ9) (Bm (Rl T B)) (Ai B)) args s 0 0 (Ai B)) (F0 m 20 ls [])) : ∀ (μ : Mem) (x3 : Int64) (x5 : Int32) (H : Heap) (locs : List Loc) (ls : Array Slot), KM μ0 μ → wp_X8_writeNumber_41 o post K20 μ x3 x5 → MG (Rl T B) B s μ H locs → lv_has ls 7 [(0, .ref o), (3, .long x3), (5, .int x5)] → W p l e rm_X8_writeNumber s m args below meth c0 H locs 0 0 (MQ below (va_Qv (fun μ9 => post μ9 ∧ KM μ0 μ9) (Bm (Rl T B)) (Ai B)) args s 0 0 (Ai B)) (F0 m 41 ls []) := by
  intro μ x3 x5 H locs ls hKM hw M hl
  unfold wp_X8_writeNumber_41 at hw
  refine lv_aload_n X.1 X.2.1 dX8_writeNumber_41 rfl (lv_at hl 0 rfl) ?_
  obtain ⟨hk23, hw⟩ := hw
  obtain ⟨x24, ex24, hw⟩ := hw
  refine mx_getr (C := RX8) (F := TX8) (N := 4) (ci := 10) X M 2 rfl in_X8 (by decide) rfl (by decide) kw_236 dX8_writeNumber_42 hk23 ?_
  rw [ex24]
  refine lv_iload X.1 X.2.1 dX8_writeNumber_45 (lv_at hl 2 rfl) ?_
  refine lv_ldc2 (v := 48) X.1 X.2.1 X.2.2.2.1 (X.2.2.2.2.1 _ kw_945) dX8_writeNumber_47 ?_
  refine lv_lload_n X.1 X.2.1 dX8_writeNumber_50 rfl (lv_at hl 1 rfl) ?_
  refine lv_ldc2 (v := 10) X.1 X.2.1 X.2.2.2.1 (X.2.2.2.2.1 _ kw_946) dX8_writeNumber_51 ?_
  obtain ⟨hne, hw⟩ := hw
  refine lv_lrem X.1 X.2.1 dX8_writeNumber_54 hne ?_
  refine lv_ladd X.1 X.2.1 dX8_writeNumber_55 ?_
  refine lv_l2i X.1 X.2.1 dX8_writeNumber_56 rfl ?_
  refine lv_i2c X.1 X.2.1 dX8_writeNumber_57 rfl ?_
  obtain ⟨hk25, hw⟩ := hw
  obtain ⟨hi, hw⟩ := hw
  refine my_bst X M dX8_writeNumber_58 hk25 hi (fun μ26 H locs eμ26 M => ?_)
  replace hw := hw μ26 eμ26
  have hKM27 : KM μ0 μ26 := by rw [eμ26]; exact hKM
  have hk28 : kd μ26 o = 11 := by rw [eμ26]; exact hk23
  have hk29 : kd μ26 x24 = 101 := by rw [eμ26]; exact hk25
  refine lv_lload_n X.1 X.2.1 dX8_writeNumber_59 rfl (lv_at hl 1 rfl) ?_
  refine lv_ldc2 (v := 10) X.1 X.2.1 X.2.2.2.1 (X.2.2.2.2.1 _ kw_946) dX8_writeNumber_60 ?_
  obtain ⟨hne, hw⟩ := hw
  refine lv_ldiv X.1 X.2.1 dX8_writeNumber_63 hne ?_
  refine lv_topl (fun v30 ev30 => ?_)
  replace hw := hw v30 ev30
  refine lv_lstore_n (lv' := [(3, .long v30), (0, .ref o), (5, .int x5)]) X.1 X.2.1 dX8_writeNumber_64 rfl hl (by decide) rfl (fun ls hl => ?_)
  obtain ⟨v31, ev31⟩ : ∃ y : Int32, y = x5 + 1 := ⟨_, rfl⟩
  replace hw := hw v31 ev31
  refine lv_iinc (v := v31) (lv' := [(5, .int v31), (3, .long v30), (0, .ref o)]) X.1 X.2.1 dX8_writeNumber_65 hl (k := 2) rfl (by rw [ev31]; rfl) (by decide) rfl (fun ls hl => ?_)
  refine lv_goto (tgt := 20) X.1 X.2.1 dX8_writeNumber_68 (by decide) ?_
  exact hK20 μ26 v30 v31 _ _ _ hKM27 hw M (lv_sub hl [2, 1, 0] rfl)
set_option maxRecDepth 100000 in
set_option maxHeartbeats 4000000 in
theorem b_X8_writeNumber_20 {T : Tb} {B : Nat} {p : Program} {l : Launch} {e : Env} {s : State} {m : MethodId} {args : Array Value} {below : List Frame} {meth : Method} {c0 : Code} {post : Mem → Prop} {μ0 : Mem} {o : Nat} (X : CX T B p m c0 cX8_writeNumber 7 s args RX8) (hr : meth.sig.returnType = none) (hk : meth.locks = false) : ∀ (n : Nat) (μ : Mem) (x3 : Int64) (x5 : Int32) (H : Heap) (locs : List Loc) (ls : Array Slot), KM μ0 μ → wp_X8_writeNumber_20 o post n μ x3 x5 → MG (Rl T B) B s μ H locs → lv_has ls 7 [(0, .ref o), (3, .long x3), (5, .int x5)] → W p l e rm_X8_writeNumber s m args below meth c0 H locs 0 0 (MQ below (va_Qv (fun μ9 => post μ9 ∧ KM μ0 μ9) (Bm (Rl T B)) (Ai B)) args s 0 0 (Ai B)) (F0 m 20 ls []) := by
  intro n
  induction n with
  | zero =>
    intro μ x3 x5 H locs ls hKM hw
    exact hw.elim
  | succ n ih =>
    intro μ x3 x5 H locs ls hKM hw M hl
    rw [wp_X8_writeNumber_20] at hw
    refine lv_iload X.1 X.2.1 dX8_writeNumber_20 (lv_at hl 2 rfl) ?_
    refine lv_aload_n X.1 X.2.1 dX8_writeNumber_22 rfl (lv_at hl 0 rfl) ?_
    obtain ⟨hk12, hw⟩ := hw
    obtain ⟨x13, ex13, hw⟩ := hw
    refine mx_getr (C := RX8) (F := TX8) (N := 4) (ci := 10) X M 2 rfl in_X8 (by decide) rfl (by decide) kw_236 dX8_writeNumber_23 hk12 ?_
    rw [ex13]
    obtain ⟨hia, hw⟩ := hw
    refine mx_len X M dX8_writeNumber_26 hia ?_
    obtain ⟨hwt, hwf⟩ := hw
    refine lv_icmp_ge (tgt := 71) X.1 X.2.1 dX8_writeNumber_27 (by decide) (fun hq => ?_) (fun hq => ?_)
    · have hw := hwt hq
      refine lv_iload X.1 X.2.1 dX8_writeNumber_71 (lv_at hl 2 rfl) ?_
      refine lv_iconst (v := 1) X.1 X.2.1 dX8_writeNumber_73 (by decide) ?_
      refine lv_isub X.1 X.2.1 dX8_writeNumber_74 ?_
      refine lv_topi (fun v14 ev14 => ?_)
      replace hw := hw v14 ev14
      refine lv_istore (lv' := [(6, .int v14), (0, .ref o), (3, .long x3), (5, .int x5)]) X.1 X.2.1 dX8_writeNumber_75 hl (by decide) rfl (fun ls hl => ?_)
      obtain ⟨n22, hw⟩ := hw
      exact b_X8_writeNumber_77 X hr hk n22 μ v14 _ _ _ hKM hw M (lv_sub hl [1, 0] rfl)
    · have hw := hwf hq
      refine lv_iload X.1 X.2.1 dX8_writeNumber_30 (lv_at hl 2 rfl) ?_
      obtain ⟨hwt, hwf⟩ := hw
      refine lv_if_eq (tgt := 41) X.1 X.2.1 dX8_writeNumber_32 (by decide) (fun hq => ?_) (fun hq => ?_)
      · have hw := hwt hq
        exact b_X8_writeNumber_41 X hr hk (K20 := fun s0 y0 y1 => wp_X8_writeNumber_20 o post n s0 y0 y1) ih μ x3 x5 _ _ _ hKM hw M (lv_sub hl [0, 1, 2] rfl)
      · have hw := hwf hq
        refine lv_lload_n X.1 X.2.1 dX8_writeNumber_35 rfl (lv_at hl 1 rfl) ?_
        refine lv_lconst (v := 0) X.1 X.2.1 dX8_writeNumber_36 (by decide) ?_
        refine W.lcmp X.1 X.2.1 dX8_writeNumber_37 ?_
        obtain ⟨hwt, hwf⟩ := hw
        refine lv_if_le (tgt := 71) X.1 X.2.1 dX8_writeNumber_38 (by decide) (fun hq => ?_) (fun hq => ?_)
        · have hw := hwt hq
          refine lv_iload X.1 X.2.1 dX8_writeNumber_71 (lv_at hl 2 rfl) ?_
          refine lv_iconst (v := 1) X.1 X.2.1 dX8_writeNumber_73 (by decide) ?_
          refine lv_isub X.1 X.2.1 dX8_writeNumber_74 ?_
          refine lv_topi (fun v32 ev32 => ?_)
          replace hw := hw v32 ev32
          refine lv_istore (lv' := [(6, .int v32), (0, .ref o), (3, .long x3), (5, .int x5)]) X.1 X.2.1 dX8_writeNumber_75 hl (by decide) rfl (fun ls hl => ?_)
          obtain ⟨n33, hw⟩ := hw
          exact b_X8_writeNumber_77 X hr hk n33 μ v32 _ _ _ hKM hw M (lv_sub hl [1, 0] rfl)
        · have hw := hwf hq
          exact b_X8_writeNumber_41 X hr hk (K20 := fun s0 y0 y1 => wp_X8_writeNumber_20 o post n s0 y0 y1) ih μ x3 x5 _ _ _ hKM hw M (lv_sub hl [0, 1, 2] rfl)
set_option maxRecDepth 100000 in
set_option maxHeartbeats 4000000 in
theorem c_X8_writeNumber (l : Launch) (T : Tb) (B : Nat) (μ : Mem) (o : Nat) (a1 : Int64) (post : Mem → Prop) (hw : wp_X8_writeNumber μ o a1 post) : Met l yX8_writeNumber (.code yX8_writeNumber cX8_writeNumber 7 none :: G) rm_X8_writeNumber (Pm (Rl T B) T B μ [.ref o, .long a1]) (va_Qv (fun μ9 => post μ9 ∧ KM μ μ9) (Bm (Rl T B)) (Ai B)) 0 0 (Ai B) := by
  refine mx_of RX8 rfl (by decide) (Nat.le_of_ble_eq_true rfl) ?_
  intro p e s m below meth c0 X hr hk hnm M ls hl
  have hl : lv_has ls 7 [(0, .ref o), (1, .long a1)] := hl
  unfold wp_X8_writeNumber at hw
  have hKM : KM μ μ := KM.rf μ
  refine lv_lload_n X.1 X.2.1 dX8_writeNumber_0 rfl (lv_at hl 1 rfl) ?_
  refine lv_lconst (v := 0) X.1 X.2.1 dX8_writeNumber_1 (by decide) ?_
  refine W.lcmp X.1 X.2.1 dX8_writeNumber_2 ?_
  obtain ⟨hwt, hwf⟩ := hw
  refine lv_if_ge (tgt := 12) X.1 X.2.1 dX8_writeNumber_3 (by decide) (fun hq => ?_) (fun hq => ?_)
  · have hw := hwt hq
    refine lv_lload_n X.1 X.2.1 dX8_writeNumber_12 rfl (lv_at hl 1 rfl) ?_
    refine my_absL X kw_942 kw_943 kw_75 kw_944 hl.1 (Nat.le_of_ble_eq_true rfl) (Nat.le_of_ble_eq_true rfl) (by decide) (by decide) dX8_writeNumber_13 ?_
    refine lv_topl (fun v11 ev11 => ?_)
    replace hw := hw v11 ev11
    refine lv_lstore_n (lv' := [(3, .long v11), (0, .ref o), (1, .long a1)]) X.1 X.2.1 dX8_writeNumber_16 rfl hl (by decide) rfl (fun ls hl => ?_)
    refine lv_iconst (v := 0) X.1 X.2.1 dX8_writeNumber_17 (by decide) ?_
    refine lv_istore (lv' := [(5, .int 0), (3, .long v11), (0, .ref o), (1, .long a1)]) X.1 X.2.1 dX8_writeNumber_18 hl (by decide) rfl (fun ls hl => ?_)
    obtain ⟨n34, hw⟩ := hw
    exact b_X8_writeNumber_20 X hr hk n34 μ v11 0 _ _ _ hKM hw M (lv_sub hl [2, 1, 0] rfl)
  · have hw := hwf hq
    refine lv_aload_n X.1 X.2.1 dX8_writeNumber_6 rfl (lv_at hl 0 rfl) ?_
    refine lv_bipush (v := 45) X.1 X.2.1 dX8_writeNumber_7 (by decide) ?_
    obtain ⟨hk37, hw⟩ := hw
    have hw36 := hw
    clear hw
    refine mx_cv M (mx_runV (n := 1) (As := [.int 45]) (rest := []) X M (c_X8_writeCharacter l T B μ o 45 _ hw36) (mx_recv (C := RX8) (F := TX8) (N := 4) (ci := 10) X M rfl (by decide) hk37) kw_938 kw_940 kw_28 kw_73 kw_941 (by decide +kernel) rfl rfl ⟨Nat.le_of_ble_eq_true rfl, Nat.le_of_ble_eq_true rfl⟩ rfl hl.1 (Nat.le_of_ble_eq_true rfl) dX8_writeNumber_9 ⟨by decide, by decide⟩) (fun μ35 H locs ⟨hw, hKM35⟩ M => ?_)
    replace hw := hw hKM35
    have hKM35_ := hKM.tr hKM35
    have hk38 := hKM35.at hk37
    refine lv_lload_n X.1 X.2.1 dX8_writeNumber_12 rfl (lv_at hl 1 rfl) ?_
    refine my_absL X kw_942 kw_943 kw_75 kw_944 hl.1 (Nat.le_of_ble_eq_true rfl) (Nat.le_of_ble_eq_true rfl) (by decide) (by decide) dX8_writeNumber_13 ?_
    refine lv_topl (fun v39 ev39 => ?_)
    replace hw := hw v39 ev39
    refine lv_lstore_n (lv' := [(3, .long v39), (0, .ref o), (1, .long a1)]) X.1 X.2.1 dX8_writeNumber_16 rfl hl (by decide) rfl (fun ls hl => ?_)
    refine lv_iconst (v := 0) X.1 X.2.1 dX8_writeNumber_17 (by decide) ?_
    refine lv_istore (lv' := [(5, .int 0), (3, .long v39), (0, .ref o), (1, .long a1)]) X.1 X.2.1 dX8_writeNumber_18 hl (by decide) rfl (fun ls hl => ?_)
    obtain ⟨n40, hw⟩ := hw
    exact b_X8_writeNumber_20 X hr hk n40 μ35 v39 0 _ _ _ hKM35_ hw M (lv_sub hl [2, 1, 0] rfl)

abbrev rm_X8_writeHead (c z : Nat) : Room := { frames := 3, cells := c, slots := z, locals := 84 }
def wp_X8_writeHead (c z : Nat) (μ : Mem) (o : Nat) (a1 : Int64) (post : Mem → Prop) : Prop :=
  wp_X9_isCell μ a1 (fun (r3 : Int32) (μ1 : Mem) =>
  KM μ μ1 →
  (r3 = 0 →
   kd μ1 o = 11 ∧
   wp_X8_writeNumber μ1 o a1 (fun (μ38 : Mem) =>
   KM μ1 μ38 →
   post μ38)) ∧ (¬ r3 = 0 →
   kd μ1 o = 11 ∧
   wp_X8_writeCharacter μ1 o 99 (fun (μ4 : Mem) =>
   KM μ1 μ4 →
   wp_X9_tag μ4 a1 (fun (r10 : Int32) (μ8 : Mem) =>
   KM μ4 μ8 →
   wp_X8_writeNumber μ8 o (Int32.toInt64 r10) (fun (μ12 : Mem) =>
   KM μ8 μ12 →
   wp_X9_fields μ12 a1 (fun (r17 : Int32) (μ15 : Mem) =>
   KM μ12 μ15 →
   (r17 ≤ 0 →
    post μ15) ∧ (¬ r17 ≤ 0 →
    wp_X8_writeCharacter μ15 o 40 (fun (μ19 : Mem) =>
    KM μ15 μ19 →
    ∃ x22, fr μ19 10 3 o = some x22 ∧
    kd μ19 x22 = 7 ∧
    ∃ c24 z25, c24 ≤ c ∧ z25 ≤ z ∧
    wp_X4_push c24 z25 μ19 x22 a1 (fun (μ23 : Mem) =>
    KM μ19 μ23 →
    ∃ x30, fr μ23 10 3 o = some x30 ∧
    kd μ23 x30 = 7 ∧
    ∃ c32 z33, c32 ≤ c - c24 ∧ z33 ≤ z - z25 ∧
    wp_X4_push c32 z33 μ23 x30 0 (fun (μ31 : Mem) =>
    KM μ23 μ31 →
    post μ31))))))))))
set_option maxRecDepth 100000 in
set_option maxHeartbeats 4000000 in
theorem c_X8_writeHead (l : Launch) (T : Tb) (B : Nat) (c z : Nat) (μ : Mem) (o : Nat) (a1 : Int64) (post : Mem → Prop) (hw : wp_X8_writeHead c z μ o a1 post) : Met l yX8_writeHead (.code yX8_writeHead cX8_writeHead 3 none :: G) (rm_X8_writeHead c z) (Pm (Rl T B) T B μ [.ref o, .long a1]) (va_Qv (fun μ9 => post μ9 ∧ KM μ μ9) (Bm (Rl T B)) (Ai B)) c z (Ai B) := by
  refine mx_of RX8 rfl (by decide) (Nat.le_of_ble_eq_true rfl) ?_
  intro p e s m below meth c0 X hr hk hnm M ls hl
  have hl : lv_has ls 3 [(0, .ref o), (1, .long a1)] := hl
  unfold wp_X8_writeHead at hw
  have hKM : KM μ μ := KM.rf μ
  have hc : 0 + c ≤ c := by omega
  have hz : 0 + z ≤ z := by omega
  refine lv_lload_n X.1 X.2.1 dX8_writeHead_0 rfl (lv_at hl 1 rfl) ?_
  have hw2 := hw
  clear hw
  refine mx_ci M (mx_runS (n := 1) (As := [.long a1]) (rest := []) X M (c_X9_isCell l T B μ a1 _ hw2) kw_933 kw_674 kw_84 kw_675 (by decide +kernel) rfl rfl ⟨Nat.le_of_ble_eq_true rfl, Nat.le_of_ble_eq_true rfl⟩ rfl hl.1 (Nat.le_of_ble_eq_true rfl) dX8_writeHead_1 ⟨(show 0 + 0 ≤ c by omega), (show 0 + 0 ≤ z by omega)⟩) (fun r3 μ1 H locs ⟨hw, hKM1⟩ M => ?_)
  replace hw := hw hKM1
  have hKM1_ := hKM.tr hKM1
  have hc : (0 + 0) + (c) ≤ c := by omega
  have hz : (0 + 0) + (z) ≤ z := by omega
  obtain ⟨hwf, hwt⟩ := hw
  refine lv_if_ne (tgt := 13) X.1 X.2.1 dX8_writeHead_4 (by decide) (fun hq => ?_) (fun hq => ?_)
  · have hw := hwt hq
    refine lv_aload_n X.1 X.2.1 dX8_writeHead_13 rfl (lv_at hl 0 rfl) ?_
    refine lv_bipush (v := 99) X.1 X.2.1 dX8_writeHead_14 (by decide) ?_
    obtain ⟨hk6, hw⟩ := hw
    have hw5 := hw
    clear hw
    refine mx_cv M (mx_runV (n := 1) (As := [.int 99]) (rest := []) X M (c_X8_writeCharacter l T B μ1 o 99 _ hw5) (mx_recv (C := RX8) (F := TX8) (N := 4) (ci := 10) X M rfl (by decide) hk6) kw_938 kw_940 kw_28 kw_73 kw_941 (by decide +kernel) rfl rfl ⟨Nat.le_of_ble_eq_true rfl, Nat.le_of_ble_eq_true rfl⟩ rfl hl.1 (Nat.le_of_ble_eq_true rfl) dX8_writeHead_16 ⟨(show (0 + 0) + 0 ≤ c by omega), (show (0 + 0) + 0 ≤ z by omega)⟩) (fun μ4 H locs ⟨hw, hKM4⟩ M => ?_)
    replace hw := hw hKM4
    have hKM4_ := hKM1_.tr hKM4
    have hk7 := hKM4.at hk6
    have hc : ((0 + 0) + 0) + (c) ≤ c := by omega
    have hz : ((0 + 0) + 0) + (z) ≤ z := by omega
    refine lv_aload_n X.1 X.2.1 dX8_writeHead_19 rfl (lv_at hl 0 rfl) ?_
    refine lv_lload_n X.1 X.2.1 dX8_writeHead_20 rfl (lv_at hl 1 rfl) ?_
    have hw9 := hw
    clear hw
    refine mx_ci M (mx_runS (n := 1) (As := [.long a1]) (rest := [.ref o]) X M (c_X9_tag l T B μ4 a1 _ hw9) kw_947 kw_677 kw_84 kw_678 (by decide +kernel) rfl rfl ⟨Nat.le_of_ble_eq_true rfl, Nat.le_of_ble_eq_true rfl⟩ rfl hl.1 (Nat.le_of_ble_eq_true rfl) dX8_writeHead_21 ⟨(show ((0 + 0) + 0) + 0 ≤ c by omega), (show ((0 + 0) + 0) + 0 ≤ z by omega)⟩) (fun r10 μ8 H locs ⟨hw, hKM8⟩ M => ?_)
    replace hw := hw hKM8
    have hKM8_ := hKM4_.tr hKM8
    have hk11 := hKM8.at hk7
    have hc : (((0 + 0) + 0) + 0) + (c) ≤ c := by omega
    have hz : (((0 + 0) + 0) + 0) + (z) ≤ z := by omega
    refine lv_i2l X.1 X.2.1 dX8_writeHead_24 rfl ?_
    have hw13 := hw
    clear hw
    refine mx_cv M (mx_runV (n := 1) (As := [.long (Int32.toInt64 r10)]) (rest := []) X M (c_X8_writeNumber l T B μ8 o (Int32.toInt64 r10) _ hw13) (mx_recv (C := RX8) (F := TX8) (N := 4) (ci := 10) X M rfl (by decide) hk11) kw_934 kw_936 kw_27 kw_73 kw_937 (by decide +kernel) rfl rfl ⟨Nat.le_of_ble_eq_true rfl, Nat.le_of_ble_eq_true rfl⟩ rfl hl.1 (Nat.le_of_ble_eq_true rfl) dX8_writeHead_25 ⟨(show (((0 + 0) + 0) + 0) + 0 ≤ c by omega), (show (((0 + 0) + 0) + 0) + 0 ≤ z by omega)⟩) (fun μ12 H locs ⟨hw, hKM12⟩ M => ?_)
    replace hw := hw hKM12
    have hKM12_ := hKM8_.tr hKM12
    have hk14 := hKM12.at hk11
    have hc : ((((0 + 0) + 0) + 0) + 0) + (c) ≤ c := by omega
    have hz : ((((0 + 0) + 0) + 0) + 0) + (z) ≤ z := by omega
    refine lv_lload_n X.1 X.2.1 dX8_writeHead_28 rfl (lv_at hl 1 rfl) ?_
    have hw16 := hw
    clear hw
    refine mx_ci M (mx_runS (n := 1) (As := [.long a1]) (rest := []) X M (c_X9_fields l T B μ12 a1 _ hw16) kw_948 kw_681 kw_84 kw_682 (by decide +kernel) rfl rfl ⟨Nat.le_of_ble_eq_true rfl, Nat.le_of_ble_eq_true rfl⟩ rfl hl.1 (Nat.le_of_ble_eq_true rfl) dX8_writeHead_29 ⟨(show ((((0 + 0) + 0) + 0) + 0) + 0 ≤ c by omega), (show ((((0 + 0) + 0) + 0) + 0) + 0 ≤ z by omega)⟩) (fun r17 μ15 H locs ⟨hw, hKM15⟩ M => ?_)
    replace hw := hw hKM15
    have hKM15_ := hKM12_.tr hKM15
    have hk18 := hKM15.at hk14
    have hc : (((((0 + 0) + 0) + 0) + 0) + 0) + (c) ≤ c := by omega
    have hz : (((((0 + 0) + 0) + 0) + 0) + 0) + (z) ≤ z := by omega
    obtain ⟨hwt, hwf⟩ := hw
    refine lv_if_le (tgt := 57) X.1 X.2.1 dX8_writeHead_32 (by decide) (fun hq => ?_) (fun hq => ?_)
    · have hw := hwt hq
      exact mx_vret X hr hk M dX8_writeHead_57 (by omega) (by omega) ⟨hw, hKM15_⟩
    · have hw := hwf hq
      refine lv_aload_n X.1 X.2.1 dX8_writeHead_35 rfl (lv_at hl 0 rfl) ?_
      refine lv_bipush (v := 40) X.1 X.2.1 dX8_writeHead_36 (by decide) ?_
      have hw20 := hw
      clear hw
      refine mx_cv M (mx_runV (n := 1) (As := [.int 40]) (rest := []) X M (c_X8_writeCharacter l T B μ15 o 40 _ hw20) (mx_recv (C := RX8) (F := TX8) (N := 4) (ci := 10) X M rfl (by decide) hk18) kw_938 kw_940 kw_28 kw_73 kw_941 (by decide +kernel) rfl rfl ⟨Nat.le_of_ble_eq_true rfl, Nat.le_of_ble_eq_true rfl⟩ rfl hl.1 (Nat.le_of_ble_eq_true rfl) dX8_writeHead_38 ⟨(show (((((0 + 0) + 0) + 0) + 0) + 0) + 0 ≤ c by omega), (show (((((0 + 0) + 0) + 0) + 0) + 0) + 0 ≤ z by omega)⟩) (fun μ19 H locs ⟨hw, hKM19⟩ M => ?_)
      replace hw := hw hKM19
      have hKM19_ := hKM15_.tr hKM19
      have hk21 := hKM19.at hk18
      have hc : ((((((0 + 0) + 0) + 0) + 0) + 0) + 0) + (c) ≤ c := by omega
      have hz : ((((((0 + 0) + 0) + 0) + 0) + 0) + 0) + (z) ≤ z := by omega
      refine lv_aload_n X.1 X.2.1 dX8_writeHead_41 rfl (lv_at hl 0 rfl) ?_
      obtain ⟨x22, ex22, hw⟩ := hw
      refine mx_getr (C := RX8) (F := TX8) (N := 4) (ci := 10) X M 3 rfl in_X8 (by decide) rfl (by decide) kw_237 dX8_writeHead_42 hk21 ?_
      rw [ex22]
      refine lv_lload_n X.1 X.2.1 dX8_writeHead_45 rfl (lv_at hl 1 rfl) ?_
      obtain ⟨hk27, hw⟩ := hw
      obtain ⟨c24, z25, hc24, hz25, hw⟩ := hw
      have hw26 := hw
      clear hw
      refine mx_cv M (mx_runV (n := 1) (As := [.long a1]) (rest := []) X M (c_X4_push l T B c24 z25 μ19 x22 a1 _ hw26) (mx_recv (C := RX4) (F := TX4) (N := 2) (ci := 6) X M rfl (by decide) hk27) kw_949 kw_552 kw_553 kw_71 kw_554 (by decide +kernel) rfl rfl ⟨Nat.le_of_ble_eq_true rfl, Nat.le_of_ble_eq_true rfl⟩ rfl hl.1 (Nat.le_of_ble_eq_true rfl) dX8_writeHead_46 ⟨(show ((((((0 + 0) + 0) + 0) + 0) + 0) + 0) + c24 ≤ c by omega), (show ((((((0 + 0) + 0) + 0) + 0) + 0) + 0) + z25 ≤ z by omega)⟩) (fun μ23 H locs ⟨hw, hKM23⟩ M => ?_)
      replace hw := hw hKM23
      have hKM23_ := hKM19_.tr hKM23
      have hk28 := hKM23.at hk21
      have hk29 := hKM23.at hk27
      have hc : (((((((0 + 0) + 0) + 0) + 0) + 0) + 0) + c24) + (c - c24) ≤ c := by omega
      have hz : (((((((0 + 0) + 0) + 0) + 0) + 0) + 0) + z25) + (z - z25) ≤ z := by omega
      refine lv_aload_n X.1 X.2.1 dX8_writeHead_49 rfl (lv_at hl 0 rfl) ?_
      obtain ⟨x30, ex30, hw⟩ := hw
      refine mx_getr (C := RX8) (F := TX8) (N := 4) (ci := 10) X M 3 rfl in_X8 (by decide) rfl (by decide) kw_237 dX8_writeHead_50 hk28 ?_
      rw [ex30]
      refine lv_lconst (v := 0) X.1 X.2.1 dX8_writeHead_53 (by decide) ?_
      obtain ⟨hk35, hw⟩ := hw
      obtain ⟨c32, z33, hc32, hz33, hw⟩ := hw
      have hw34 := hw
      clear hw
      refine mx_cv M (mx_runV (n := 1) (As := [.long 0]) (rest := []) X M (c_X4_push l T B c32 z33 μ23 x30 0 _ hw34) (mx_recv (C := RX4) (F := TX4) (N := 2) (ci := 6) X M rfl (by decide) hk35) kw_949 kw_552 kw_553 kw_71 kw_554 (by decide +kernel) rfl rfl ⟨Nat.le_of_ble_eq_true rfl, Nat.le_of_ble_eq_true rfl⟩ rfl hl.1 (Nat.le_of_ble_eq_true rfl) dX8_writeHead_54 ⟨(show (((((((0 + 0) + 0) + 0) + 0) + 0) + 0) + c24) + c32 ≤ c by omega), (show (((((((0 + 0) + 0) + 0) + 0) + 0) + 0) + z25) + z33 ≤ z by omega)⟩) (fun μ31 H locs ⟨hw, hKM31⟩ M => ?_)
      replace hw := hw hKM31
      have hKM31_ := hKM23_.tr hKM31
      have hk36 := hKM31.at hk28
      have hk37 := hKM31.at hk35
      have hc : ((((((((0 + 0) + 0) + 0) + 0) + 0) + 0) + c24) + c32) + ((c - c24) - c32) ≤ c := by omega
      have hz : ((((((((0 + 0) + 0) + 0) + 0) + 0) + 0) + z25) + z33) + ((z - z25) - z33) ≤ z := by omega
      exact mx_vret X hr hk M dX8_writeHead_57 (by omega) (by omega) ⟨hw, hKM31_⟩
  · have hw := hwf hq
    refine lv_aload_n X.1 X.2.1 dX8_writeHead_7 rfl (lv_at hl 0 rfl) ?_
    refine lv_lload_n X.1 X.2.1 dX8_writeHead_8 rfl (lv_at hl 1 rfl) ?_
    obtain ⟨hk40, hw⟩ := hw
    have hw39 := hw
    clear hw
    refine mx_cv M (mx_runV (n := 1) (As := [.long a1]) (rest := []) X M (c_X8_writeNumber l T B μ1 o a1 _ hw39) (mx_recv (C := RX8) (F := TX8) (N := 4) (ci := 10) X M rfl (by decide) hk40) kw_934 kw_936 kw_27 kw_73 kw_937 (by decide +kernel) rfl rfl ⟨Nat.le_of_ble_eq_true rfl, Nat.le_of_ble_eq_true rfl⟩ rfl hl.1 (Nat.le_of_ble_eq_true rfl) dX8_writeHead_9 ⟨(show (0 + 0) + 0 ≤ c by omega), (show (0 + 0) + 0 ≤ z by omega)⟩) (fun μ38 H locs ⟨hw, hKM38⟩ M => ?_)
    replace hw := hw hKM38
    have hKM38_ := hKM1_.tr hKM38
    have hk41 := hKM38.at hk40
    have hc : ((0 + 0) + 0) + (c) ≤ c := by omega
    have hz : ((0 + 0) + 0) + (z) ≤ z := by omega
    exact mx_vret X hr hk M dX8_writeHead_12 (by omega) (by omega) ⟨hw, hKM38_⟩

abbrev rm_X8_writeMore (c z : Nat) : Room := { frames := 4, cells := c, slots := z, locals := 106 }
def wp_X8_writeMore_42 (o : Nat) (post : Mem → Prop) (c z : Nat) (μ : Mem) (x1 : Nat) (x2 : Int32) (x3 : Int64) : Prop :=
  kd μ o = 11 ∧
  ∃ x22, fr μ 10 3 o = some x22 ∧
  kd μ x22 = 7 ∧
  ∃ c24 z25, c24 ≤ c ∧ z25 ≤ z ∧
  wp_X4_push c24 z25 μ x22 x3 (fun (μ23 : Mem) =>
  KM μ μ23 →
  ∃ x30, fr μ23 10 3 o = some x30 ∧
  kd μ23 x30 = 7 ∧
  ∃ c32 z33, c32 ≤ c - c24 ∧ z33 ≤ z - z25 ∧
  wp_X4_push c32 z33 μ23 x30 (Int32.toInt64 (x2 + 1)) (fun (μ31 : Mem) =>
  KM μ23 μ31 →
  kd μ31 x1 = 5 ∧
  wp_X2_field μ31 x1 x3 x2 (fun (r40 : Int64) (μ38 : Mem) =>
  KM μ31 μ38 →
  ∃ c45 z46, c45 ≤ (c - c24) - c32 ∧ z46 ≤ (z - z25) - z33 ∧
  wp_X8_writeHead c45 z46 μ38 o r40 (fun (μ44 : Mem) =>
  KM μ38 μ44 →
  post μ44))))
def wp_X8_writeMore (c z : Nat) (μ : Mem) (o : Nat) (a1 : Nat) (post : Mem → Prop) : Prop :=
  kd μ o = 11 ∧
  ∃ x2, fr μ 10 3 o = some x2 ∧
  kd μ x2 = 7 ∧
  wp_X4_pop μ x2 (fun (r5 : Int64) (μ3 : Mem) =>
  KM μ μ3 →
  ∀ v9 : Int32, v9 = (Int64.toInt32 r5) →
  ∃ x10, fr μ3 10 3 o = some x10 ∧
  kd μ3 x10 = 7 ∧
  wp_X4_pop μ3 x10 (fun (r13 : Int64) (μ11 : Mem) =>
  KM μ3 μ11 →
  wp_X9_fields μ11 r13 (fun (r19 : Int32) (μ17 : Mem) =>
  KM μ11 μ17 →
  (v9 < r19 →
   (v9 ≤ 0 →
    wp_X8_writeMore_42 o post c z μ17 a1 v9 r13) ∧ (¬ v9 ≤ 0 →
    wp_X8_writeCharacter μ17 o 44 (fun (μ50 : Mem) =>
    KM μ17 μ50 →
    wp_X8_writeMore_42 o post c z μ50 a1 v9 r13))) ∧ (¬ v9 < r19 →
   wp_X8_writeCharacter μ17 o 41 (fun (μ53 : Mem) =>
   KM μ17 μ53 →
   post μ53)))))
set_option maxRecDepth 100000 in
set_option maxHeartbeats 4000000 in
theorem b_X8_writeMore_42 {T : Tb} {B : Nat} {p : Program} {l : Launch} {e : Env} {s : State} {m : MethodId} {args : Array Value} {below : List Frame} {meth : Method} {c0 : Code} {post : Mem → Prop} {μ0 : Mem} {o : Nat} {cT zT : Nat} (X : CX T B p m c0 cX8_writeMore 5 s args RX8) (hr : meth.sig.returnType = none) (hk : meth.locks = false) : ∀ (c z cells slots : Nat) (μ : Mem) (x1 : Nat) (x2 : Int32) (x3 : Int64) (H : Heap) (locs : List Loc) (ls : Array Slot), cells + c ≤ cT → slots + z ≤ zT → KM μ0 μ → wp_X8_writeMore_42 o post c z μ x1 x2 x3 → MG (Rl T B) B s μ H locs → lv_has ls 5 [(0, .ref o), (1, .ref x1), (2, .int x2), (3, .long x3)] → W p l e (rm_X8_writeMore cT zT) s m args below meth c0 H locs cells slots (MQ below (va_Qv (fun μ9 => post μ9 ∧ KM μ0 μ9) (Bm (Rl T B)) (Ai B)) args s cT zT (Ai B)) (F0 m 42 ls []) := by
  intro c z cells slots μ x1 x2 x3 H locs ls hc hz hKM hw M hl
  unfold wp_X8_writeMore_42 at hw
  refine lv_aload_n X.1 X.2.1 dX8_writeMore_42 rfl (lv_at hl 0 rfl) ?_
  obtain ⟨hk21, hw⟩ := hw
  obtain ⟨x22, ex22, hw⟩ := hw
  refine mx_getr (C := RX8) (F := TX8) (N := 4) (ci := 10) X M 3 rfl in_X8 (by decide) rfl (by decide) kw_237 dX8_writeMore_43 hk21 ?_
  rw [ex22]
  refine lv_lload_n X.1 X.2.1 dX8_writeMore_46 rfl (lv_at hl 3 rfl) ?_
  obtain ⟨hk27, hw⟩ := hw
  obtain ⟨c24, z25, hc24, hz25, hw⟩ := hw
  have hw26 := hw
  clear hw
  refine mx_cv M (mx_runV (n := 1) (As := [.long x3]) (rest := []) X M (c_X4_push l T B c24 z25 μ x22 x3 _ hw26) (mx_recv (C := RX4) (F := TX4) (N := 2) (ci := 6) X M rfl (by decide) hk27) kw_949 kw_552 kw_553 kw_71 kw_554 (by decide +kernel) rfl rfl ⟨Nat.le_of_ble_eq_true rfl, Nat.le_of_ble_eq_true rfl⟩ rfl hl.1 (Nat.le_of_ble_eq_true rfl) dX8_writeMore_47 ⟨(show cells + c24 ≤ cT by omega), (show slots + z25 ≤ zT by omega)⟩) (fun μ23 H locs ⟨hw, hKM23⟩ M => ?_)
  replace hw := hw hKM23
  have hKM23_ := hKM.tr hKM23
  have hk28 := hKM23.at hk21
  have hk29 := hKM23.at hk27
  have hc : (cells + c24) + (c - c24) ≤ cT := by omega
  have hz : (slots + z25) + (z - z25) ≤ zT := by omega
  refine lv_aload_n X.1 X.2.1 dX8_writeMore_50 rfl (lv_at hl 0 rfl) ?_
  obtain ⟨x30, ex30, hw⟩ := hw
  refine mx_getr (C := RX8) (F := TX8) (N := 4) (ci := 10) X M 3 rfl in_X8 (by decide) rfl (by decide) kw_237 dX8_writeMore_51 hk28 ?_
  rw [ex30]
  refine lv_iload_n X.1 X.2.1 dX8_writeMore_54 rfl (lv_at hl 2 rfl) ?_
  refine lv_iconst (v := 1) X.1 X.2.1 dX8_writeMore_55 (by decide) ?_
  refine lv_iadd X.1 X.2.1 dX8_writeMore_56 ?_
  refine lv_i2l X.1 X.2.1 dX8_writeMore_57 rfl ?_
  obtain ⟨hk35, hw⟩ := hw
  obtain ⟨c32, z33, hc32, hz33, hw⟩ := hw
  have hw34 := hw
  clear hw
  refine mx_cv M (mx_runV (n := 1) (As := [.long (Int32.toInt64 (x2 + 1))]) (rest := []) X M (c_X4_push l T B c32 z33 μ23 x30 (Int32.toInt64 (x2 + 1)) _ hw34) (mx_recv (C := RX4) (F := TX4) (N := 2) (ci := 6) X M rfl (by decide) hk35) kw_949 kw_552 kw_553 kw_71 kw_554 (by decide +kernel) rfl rfl ⟨Nat.le_of_ble_eq_true rfl, Nat.le_of_ble_eq_true rfl⟩ rfl hl.1 (Nat.le_of_ble_eq_true rfl) dX8_writeMore_58 ⟨(show (cells + c24) + c32 ≤ cT by omega), (show (slots + z25) + z33 ≤ zT by omega)⟩) (fun μ31 H locs ⟨hw, hKM31⟩ M => ?_)
  replace hw := hw hKM31
  have hKM31_ := hKM23_.tr hKM31
  have hk36 := hKM31.at hk28
  have hk37 := hKM31.at hk35
  have hc : ((cells + c24) + c32) + ((c - c24) - c32) ≤ cT := by omega
  have hz : ((slots + z25) + z33) + ((z - z25) - z33) ≤ zT := by omega
  refine lv_aload_n X.1 X.2.1 dX8_writeMore_61 rfl (lv_at hl 0 rfl) ?_
  refine lv_aload_n X.1 X.2.1 dX8_writeMore_62 rfl (lv_at hl 1 rfl) ?_
  refine lv_lload_n X.1 X.2.1 dX8_writeMore_63 rfl (lv_at hl 3 rfl) ?_
  refine lv_iload_n X.1 X.2.1 dX8_writeMore_64 rfl (lv_at hl 2 rfl) ?_
  obtain ⟨hk41, hw⟩ := hw
  have hw39 := hw
  clear hw
  refine mx_cl M (mx_runV (n := 2) (As := [.long x3, .int x2]) (rest := [.ref o]) X M (c_X2_field l T B μ31 x1 x3 x2 _ hw39) (mx_recv (C := RX2) (F := TX2) (N := 4) (ci := 4) X M rfl (by decide) hk41) kw_956 kw_685 kw_686 kw_72 kw_687 (by decide +kernel) rfl rfl ⟨Nat.le_of_ble_eq_true rfl, Nat.le_of_ble_eq_true rfl⟩ rfl hl.1 (Nat.le_of_ble_eq_true rfl) dX8_writeMore_65 ⟨(show ((cells + c24) + c32) + 0 ≤ cT by omega), (show ((slots + z25) + z33) + 0 ≤ zT by omega)⟩) (fun r40 μ38 H locs ⟨hw, hKM38⟩ M => ?_)
  replace hw := hw hKM38
  have hKM38_ := hKM31_.tr hKM38
  have hk42 := hKM38.at hk36
  have hk43 := hKM38.at hk41
  have hc : (((cells + c24) + c32) + 0) + ((c - c24) - c32) ≤ cT := by omega
  have hz : (((slots + z25) + z33) + 0) + ((z - z25) - z33) ≤ zT := by omega
  obtain ⟨c45, z46, hc45, hz46, hw⟩ := hw
  have hw47 := hw
  clear hw
  refine mx_cv M (mx_runV (n := 1) (As := [.long r40]) (rest := []) X M (c_X8_writeHead l T B c45 z46 μ38 o r40 _ hw47) (mx_recv (C := RX8) (F := TX8) (N := 4) (ci := 10) X M rfl (by decide) hk42) kw_929 kw_931 kw_26 kw_73 kw_932 (by decide +kernel) rfl rfl ⟨Nat.le_of_ble_eq_true rfl, Nat.le_of_ble_eq_true rfl⟩ rfl hl.1 (Nat.le_of_ble_eq_true rfl) dX8_writeMore_68 ⟨(show (((cells + c24) + c32) + 0) + c45 ≤ cT by omega), (show (((slots + z25) + z33) + 0) + z46 ≤ zT by omega)⟩) (fun μ44 H locs ⟨hw, hKM44⟩ M => ?_)
  replace hw := hw hKM44
  have hKM44_ := hKM38_.tr hKM44
  have hk48 := hKM44.at hk42
  have hk49 := hKM44.at hk43
  have hc : ((((cells + c24) + c32) + 0) + c45) + (((c - c24) - c32) - c45) ≤ cT := by omega
  have hz : ((((slots + z25) + z33) + 0) + z46) + (((z - z25) - z33) - z46) ≤ zT := by omega
  exact mx_vret X hr hk M dX8_writeMore_71 (by omega) (by omega) ⟨hw, hKM44_⟩
set_option maxRecDepth 100000 in
set_option maxHeartbeats 4000000 in
theorem c_X8_writeMore (l : Launch) (T : Tb) (B : Nat) (c z : Nat) (μ : Mem) (o : Nat) (a1 : Nat) (post : Mem → Prop) (hw : wp_X8_writeMore c z μ o a1 post) : Met l yX8_writeMore (.code yX8_writeMore cX8_writeMore 5 none :: G) (rm_X8_writeMore c z) (Pm (Rl T B) T B μ [.ref o, .ref a1]) (va_Qv (fun μ9 => post μ9 ∧ KM μ μ9) (Bm (Rl T B)) (Ai B)) c z (Ai B) := by
  refine mx_of RX8 rfl (by decide) (Nat.le_of_ble_eq_true rfl) ?_
  intro p e s m below meth c0 X hr hk hnm M ls hl
  have hl : lv_has ls 5 [(0, .ref o), (1, .ref a1)] := hl
  unfold wp_X8_writeMore at hw
  have hKM : KM μ μ := KM.rf μ
  have hc : 0 + c ≤ c := by omega
  have hz : 0 + z ≤ z := by omega
  refine lv_aload_n X.1 X.2.1 dX8_writeMore_0 rfl (lv_at hl 0 rfl) ?_
  obtain ⟨hk1, hw⟩ := hw
  obtain ⟨x2, ex2, hw⟩ := hw
  refine mx_getr (C := RX8) (F := TX8) (N := 4) (ci := 10) X M 3 rfl in_X8 (by decide) rfl (by decide) kw_237 dX8_writeMore_1 hk1 ?_
  rw [ex2]
  obtain ⟨hk6, hw⟩ := hw
  have hw4 := hw
  clear hw
  refine mx_cl M (mx_runV (n := 0) (As := []) (rest := []) X M (c_X4_pop l T B μ x2 _ hw4) (mx_recv (C := RX4) (F := TX4) (N := 2) (ci := 6) X M rfl (by decide) hk6) kw_955 kw_615 kw_616 kw_71 kw_617 (by decide +kernel) rfl rfl ⟨Nat.le_of_ble_eq_true rfl, Nat.le_of_ble_eq_true rfl⟩ rfl hl.1 (Nat.le_of_ble_eq_true rfl) dX8_writeMore_4 ⟨(show 0 + 0 ≤ c by omega), (show 0 + 0 ≤ z by omega)⟩) (fun r5 μ3 H locs ⟨hw, hKM3⟩ M => ?_)
  replace hw := hw hKM3
  have hKM3_ := hKM.tr hKM3
  have hk7 := hKM3.at hk1
  have hk8 := hKM3.at hk6
  have hc : (0 + 0) + (c) ≤ c := by omega
  have hz : (0 + 0) + (z) ≤ z := by omega
  refine lv_l2i X.1 X.2.1 dX8_writeMore_7 rfl ?_
  refine lv_topi (fun v9 ev9 => ?_)
  replace hw := hw v9 ev9
  refine lv_istore_n (lv' := [(2, .int v9), (0, .ref o), (1, .ref a1)]) X.1 X.2.1 dX8_writeMore_8 rfl hl (by decide) rfl (fun ls hl => ?_)
  refine lv_aload_n X.1 X.2.1 dX8_writeMore_9 rfl (lv_at hl 1 rfl) ?_
  obtain ⟨x10, ex10, hw⟩ := hw
  refine mx_getr (C := RX8) (F := TX8) (N := 4) (ci := 10) X M 3 rfl in_X8 (by decide) rfl (by decide) kw_237 dX8_writeMore_10 hk7 ?_
  rw [ex10]
  obtain ⟨hk14, hw⟩ := hw
  have hw12 := hw
  clear hw
  refine mx_cl M (mx_runV (n := 0) (As := []) (rest := []) X M (c_X4_pop l T B μ3 x10 _ hw12) (mx_recv (C := RX4) (F := TX4) (N := 2) (ci := 6) X M rfl (by decide) hk14) kw_955 kw_615 kw_616 kw_71 kw_617 (by decide +kernel) rfl rfl ⟨Nat.le_of_ble_eq_true rfl, Nat.le_of_ble_eq_true rfl⟩ rfl hl.1 (Nat.le_of_ble_eq_true rfl) dX8_writeMore_13 ⟨(show (0 + 0) + 0 ≤ c by omega), (show (0 + 0) + 0 ≤ z by omega)⟩) (fun r13 μ11 H locs ⟨hw, hKM11⟩ M => ?_)
  replace hw := hw hKM11
  have hKM11_ := hKM3_.tr hKM11
  have hk15 := hKM11.at hk7
  have hk16 := hKM11.at hk14
  have hc : ((0 + 0) + 0) + (c) ≤ c := by omega
  have hz : ((0 + 0) + 0) + (z) ≤ z := by omega
  refine lv_lstore_n (lv' := [(3, .long r13), (2, .int v9), (0, .ref o), (1, .ref a1)]) X.1 X.2.1 dX8_writeMore_16 rfl hl (by decide) rfl (fun ls hl => ?_)
  refine lv_iload_n X.1 X.2.1 dX8_writeMore_17 rfl (lv_at hl 1 rfl) ?_
  refine lv_lload_n X.1 X.2.1 dX8_writeMore_18 rfl (lv_at hl 0 rfl) ?_
  have hw18 := hw
  clear hw
  refine mx_ci M (mx_runS (n := 1) (As := [.long r13]) (rest := [.int v9]) X M (c_X9_fields l T B μ11 r13 _ hw18) kw_948 kw_681 kw_84 kw_682 (by decide +kernel) rfl rfl ⟨Nat.le_of_ble_eq_true rfl, Nat.le_of_ble_eq_true rfl⟩ rfl hl.1 (Nat.le_of_ble_eq_true rfl) dX8_writeMore_19 ⟨(show ((0 + 0) + 0) + 0 ≤ c by omega), (show ((0 + 0) + 0) + 0 ≤ z by omega)⟩) (fun r19 μ17 H locs ⟨hw, hKM17⟩ M => ?_)
  replace hw := hw hKM17
  have hKM17_ := hKM11_.tr hKM17
  have hk20 := hKM17.at hk15
  have hc : (((0 + 0) + 0) + 0) + (c) ≤ c := by omega
  have hz : (((0 + 0) + 0) + 0) + (z) ≤ z := by omega
  obtain ⟨hwt, hwf⟩ := hw
  refine lv_icmp_lt (tgt := 32) X.1 X.2.1 dX8_writeMore_22 (by decide) (fun hq => ?_) (fun hq => ?_)
  · have hw := hwt hq
    refine lv_iload_n X.1 X.2.1 dX8_writeMore_32 rfl (lv_at hl 1 rfl) ?_
    obtain ⟨hwt, hwf⟩ := hw
    refine lv_if_le (tgt := 42) X.1 X.2.1 dX8_writeMore_33 (by decide) (fun hq => ?_) (fun hq => ?_)
    · have hw := hwt hq
      exact b_X8_writeMore_42 X hr hk _ _ _ _ μ17 a1 v9 r13 _ _ _ (by omega) (by omega) hKM17_ hw M (lv_sub hl [2, 3, 1, 0] rfl)
    · have hw := hwf hq
      refine lv_aload_n X.1 X.2.1 dX8_writeMore_36 rfl (lv_at hl 2 rfl) ?_
      refine lv_bipush (v := 44) X.1 X.2.1 dX8_writeMore_37 (by decide) ?_
      have hw51 := hw
      clear hw
      refine mx_cv M (mx_runV (n := 1) (As := [.int 44]) (rest := []) X M (c_X8_writeCharacter l T B μ17 o 44 _ hw51) (mx_recv (C := RX8) (F := TX8) (N := 4) (ci := 10) X M rfl (by decide) hk20) kw_938 kw_940 kw_28 kw_73 kw_941 (by decide +kernel) rfl rfl ⟨Nat.le_of_ble_eq_true rfl, Nat.le_of_ble_eq_true rfl⟩ rfl hl.1 (Nat.le_of_ble_eq_true rfl) dX8_writeMore_39 ⟨(show (((0 + 0) + 0) + 0) + 0 ≤ c by omega), (show (((0 + 0) + 0) + 0) + 0 ≤ z by omega)⟩) (fun μ50 H locs ⟨hw, hKM50⟩ M => ?_)
      replace hw := hw hKM50
      have hKM50_ := hKM17_.tr hKM50
      have hk52 := hKM50.at hk20
      have hc : ((((0 + 0) + 0) + 0) + 0) + (c) ≤ c := by omega
      have hz : ((((0 + 0) + 0) + 0) + 0) + (z) ≤ z := by omega
      exact b_X8_writeMore_42 X hr hk _ _ _ _ μ50 a1 v9 r13 _ _ _ (by omega) (by omega) hKM50_ hw M (lv_sub hl [2, 3, 1, 0] rfl)
  · have hw := hwf hq
    refine lv_aload_n X.1 X.2.1 dX8_writeMore_25 rfl (lv_at hl 2 rfl) ?_
    refine lv_bipush (v := 41) X.1 X.2.1 dX8_writeMore_26 (by decide) ?_
    have hw54 := hw
    clear hw
    refine mx_cv M (mx_runV (n := 1) (As := [.int 41]) (rest := []) X M (c_X8_writeCharacter l T B μ17 o 41 _ hw54) (mx_recv (C := RX8) (F := TX8) (N := 4) (ci := 10) X M rfl (by decide) hk20) kw_938 kw_940 kw_28 kw_73 kw_941 (by decide +kernel) rfl rfl ⟨Nat.le_of_ble_eq_true rfl, Nat.le_of_ble_eq_true rfl⟩ rfl hl.1 (Nat.le_of_ble_eq_true rfl) dX8_writeMore_28 ⟨(show (((0 + 0) + 0) + 0) + 0 ≤ c by omega), (show (((0 + 0) + 0) + 0) + 0 ≤ z by omega)⟩) (fun μ53 H locs ⟨hw, hKM53⟩ M => ?_)
    replace hw := hw hKM53
    have hKM53_ := hKM17_.tr hKM53
    have hk55 := hKM53.at hk20
    have hc : ((((0 + 0) + 0) + 0) + 0) + (c) ≤ c := by omega
    have hz : ((((0 + 0) + 0) + 0) + 0) + (z) ≤ z := by omega
    exact mx_vret X hr hk M dX8_writeMore_31 (by omega) (by omega) ⟨hw, hKM53_⟩

abbrev rm_X8_write (c z : Nat) : Room := { frames := 5, cells := c, slots := z, locals := 130 }
def wp_X8_write_21 (o : Nat) (post : Int32 → Mem → Prop) : Nat → Nat → Nat → Mem → Nat → Int32 → Prop
  | 0, _, _, _, _, _ => False
  | n + 1, c, z, μ, x3, x4 =>
    (1000 ≤ x4 →
     kd μ o = 11 ∧
     post (fi μ 10 1 o) μ) ∧ (¬ 1000 ≤ x4 →
     kd μ o = 11 ∧
     (1000 ≤ (fi μ 10 1 o) →
      post (fi μ 10 1 o) μ) ∧ (¬ 1000 ≤ (fi μ 10 1 o) →
      ∃ x18, fr μ 10 3 o = some x18 ∧
      kd μ x18 = 7 ∧
      wp_X4_size μ x18 (fun (r21 : Int32) (μ19 : Mem) =>
      KM μ μ19 →
      (r21 ≤ 0 →
       post (fi μ19 10 1 o) μ19) ∧ (¬ r21 ≤ 0 →
       ∃ c26 z27, c26 ≤ c ∧ z27 ≤ z ∧
       wp_X8_writeMore c26 z27 μ19 o x3 (fun (μ25 : Mem) =>
       KM μ19 μ25 →
       ∀ v30 : Int32, v30 = x4 + 1 →
       wp_X8_write_21 o post n (c - c26) (z - z27) μ25 x3 v30)))))
def wp_X8_write (c z : Nat) (μ : Mem) (o : Nat) (a1 : Int64) (a2 : Nat) (post : Int32 → Mem → Prop) : Prop :=
  kd μ o = 11 ∧
  ∀ μ2 : Mem, μ2 = sfi μ 10 1 o 0 →
  ∃ x5, fr μ2 10 3 o = some x5 ∧
  kd μ2 x5 = 7 ∧
  wp_X4_shrink μ2 x5 0 (fun (μ6 : Mem) =>
  KM μ2 μ6 →
  ∃ c12 z13, c12 ≤ c ∧ z13 ≤ z ∧
  wp_X8_writeHead c12 z13 μ6 o a1 (fun (μ11 : Mem) =>
  KM μ6 μ11 →
  ∃ n31, wp_X8_write_21 o post n31 (c - c12) (z - z13) μ11 a2 0))
set_option maxRecDepth 100000 in
set_option maxHeartbeats 4000000 in
theorem b_X8_write_21 {T : Tb} {B : Nat} {p : Program} {l : Launch} {e : Env} {s : State} {m : MethodId} {args : Array Value} {below : List Frame} {meth : Method} {c0 : Code} {post : Int32 → Mem → Prop} {μ0 : Mem} {o : Nat} {cT zT : Nat} (X : CX T B p m c0 cX8_write 5 s args RX8) (hr : meth.sig.returnType = (some .int)) (hk : meth.locks = false) : ∀ (n : Nat) (c z cells slots : Nat) (μ : Mem) (x3 : Nat) (x4 : Int32) (H : Heap) (locs : List Loc) (ls : Array Slot), cells + c ≤ cT → slots + z ≤ zT → KM μ0 μ → wp_X8_write_21 o post n c z μ x3 x4 → MG (Rl T B) B s μ H locs → lv_has ls 5 [(0, .ref o), (3, .ref x3), (4, .int x4)] → W p l e (rm_X8_write cT zT) s m args below meth c0 H locs cells slots (MQ below (va_Qi (fun r9 μ9 => post r9 μ9 ∧ KM μ0 μ9) (Bm (Rl T B)) (Ai B)) args s cT zT (Ai B)) (F0 m 21 ls []) := by
  intro n
  induction n with
  | zero =>
    intro c z cells slots μ x3 x4 H locs ls hc hz hKM hw
    exact hw.elim
  | succ n ih =>
    intro c z cells slots μ x3 x4 H locs ls hc hz hKM hw M hl
    rw [wp_X8_write_21] at hw
    refine lv_iload X.1 X.2.1 dX8_write_21 (lv_at hl 2 rfl) ?_
    refine lv_sipush (v := 1000) X.1 X.2.1 dX8_write_23 (by decide) ?_
    obtain ⟨hwt, hwf⟩ := hw
    refine lv_icmp_ge (tgt := 60) X.1 X.2.1 dX8_write_26 (by decide) (fun hq => ?_) (fun hq => ?_)
    · have hw := hwt hq
      refine lv_aload_n X.1 X.2.1 dX8_write_60 rfl (lv_at hl 0 rfl) ?_
      obtain ⟨hk16, hw⟩ := hw
      refine mx_geti (C := RX8) (F := TX8) (N := 4) (ci := 10) X M 1 rfl in_X8 (by decide) rfl (by decide) kw_235 dX8_write_61 hk16 ?_
      exact mx_iret X hr hk M dX8_write_64 (by omega) (by omega) ⟨hw, hKM⟩
    · have hw := hwf hq
      refine lv_aload_n X.1 X.2.1 dX8_write_29 rfl (lv_at hl 0 rfl) ?_
      obtain ⟨hk17, hw⟩ := hw
      refine mx_geti (C := RX8) (F := TX8) (N := 4) (ci := 10) X M 1 rfl in_X8 (by decide) rfl (by decide) kw_235 dX8_write_30 hk17 ?_
      refine lv_sipush (v := 1000) X.1 X.2.1 dX8_write_33 (by decide) ?_
      obtain ⟨hwt, hwf⟩ := hw
      refine lv_icmp_ge (tgt := 60) X.1 X.2.1 dX8_write_36 (by decide) (fun hq => ?_) (fun hq => ?_)
      · have hw := hwt hq
        refine lv_aload_n X.1 X.2.1 dX8_write_60 rfl (lv_at hl 0 rfl) ?_
        refine mx_geti (C := RX8) (F := TX8) (N := 4) (ci := 10) X M 1 rfl in_X8 (by decide) rfl (by decide) kw_235 dX8_write_61 hk17 ?_
        exact mx_iret X hr hk M dX8_write_64 (by omega) (by omega) ⟨hw, hKM⟩
      · have hw := hwf hq
        refine lv_aload_n X.1 X.2.1 dX8_write_39 rfl (lv_at hl 0 rfl) ?_
        obtain ⟨x18, ex18, hw⟩ := hw
        refine mx_getr (C := RX8) (F := TX8) (N := 4) (ci := 10) X M 3 rfl in_X8 (by decide) rfl (by decide) kw_237 dX8_write_40 hk17 ?_
        rw [ex18]
        obtain ⟨hk22, hw⟩ := hw
        have hw20 := hw
        clear hw
        refine mx_ci M (mx_runV (n := 0) (As := []) (rest := []) X M (c_X4_size l T B μ x18 _ hw20) (mx_recv (C := RX4) (F := TX4) (N := 2) (ci := 6) X M rfl (by decide) hk22) kw_950 kw_548 kw_549 kw_71 kw_550 (by decide +kernel) rfl rfl ⟨Nat.le_of_ble_eq_true rfl, Nat.le_of_ble_eq_true rfl⟩ rfl hl.1 (Nat.le_of_ble_eq_true rfl) dX8_write_43 ⟨(show cells + 0 ≤ cT by omega), (show slots + 0 ≤ zT by omega)⟩) (fun r21 μ19 H locs ⟨hw, hKM19⟩ M => ?_)
        replace hw := hw hKM19
        have hKM19_ := hKM.tr hKM19
        have hk23 := hKM19.at hk17
        have hk24 := hKM19.at hk22
        have hc : (cells + 0) + (c) ≤ cT := by omega
        have hz : (slots + 0) + (z) ≤ zT := by omega
        obtain ⟨hwt, hwf⟩ := hw
        refine lv_if_le (tgt := 60) X.1 X.2.1 dX8_write_46 (by decide) (fun hq => ?_) (fun hq => ?_)
        · have hw := hwt hq
          refine lv_aload_n X.1 X.2.1 dX8_write_60 rfl (lv_at hl 0 rfl) ?_
          refine mx_geti (C := RX8) (F := TX8) (N := 4) (ci := 10) X M 1 rfl in_X8 (by decide) rfl (by decide) kw_235 dX8_write_61 hk23 ?_
          exact mx_iret X hr hk M dX8_write_64 (by omega) (by omega) ⟨hw, hKM19_⟩
        · have hw := hwf hq
          refine lv_aload_n X.1 X.2.1 dX8_write_49 rfl (lv_at hl 0 rfl) ?_
          refine lv_aload_n X.1 X.2.1 dX8_write_50 rfl (lv_at hl 1 rfl) ?_
          obtain ⟨c26, z27, hc26, hz27, hw⟩ := hw
          have hw28 := hw
          clear hw
          refine mx_cv M (mx_runV (n := 1) (As := [.ref x3]) (rest := []) X M (c_X8_writeMore l T B c26 z27 μ19 o x3 _ hw28) (mx_recv (C := RX8) (F := TX8) (N := 4) (ci := 10) X M rfl (by decide) hk23) kw_951 kw_953 kw_29 kw_73 kw_954 (by decide +kernel) rfl rfl ⟨Nat.le_of_ble_eq_true rfl, Nat.le_of_ble_eq_true rfl⟩ rfl hl.1 (Nat.le_of_ble_eq_true rfl) dX8_write_51 ⟨(show (cells + 0) + c26 ≤ cT by omega), (show (slots + 0) + z27 ≤ zT by omega)⟩) (fun μ25 H locs ⟨hw, hKM25⟩ M => ?_)
          replace hw := hw hKM25
          have hKM25_ := hKM19_.tr hKM25
          have hk29 := hKM25.at hk23
          have hc : ((cells + 0) + c26) + (c - c26) ≤ cT := by omega
          have hz : ((slots + 0) + z27) + (z - z27) ≤ zT := by omega
          obtain ⟨v30, ev30⟩ : ∃ y : Int32, y = x4 + 1 := ⟨_, rfl⟩
          replace hw := hw v30 ev30
          refine lv_iinc (v := v30) (lv' := [(4, .int v30), (0, .ref o), (3, .ref x3)]) X.1 X.2.1 dX8_write_54 hl (k := 2) rfl (by rw [ev30]; rfl) (by decide) rfl (fun ls hl => ?_)
          refine lv_goto (tgt := 21) X.1 X.2.1 dX8_write_57 (by decide) ?_
          exact ih _ _ _ _ μ25 x3 v30 _ _ _ (by omega) (by omega) hKM25_ hw M (lv_sub hl [1, 2, 0] rfl)
set_option maxRecDepth 100000 in
set_option maxHeartbeats 4000000 in
theorem c_X8_write (l : Launch) (T : Tb) (B : Nat) (c z : Nat) (μ : Mem) (o : Nat) (a1 : Int64) (a2 : Nat) (post : Int32 → Mem → Prop) (hw : wp_X8_write c z μ o a1 a2 post) : Met l yX8_write (.code yX8_write cX8_write 5 (some .int) :: G) (rm_X8_write c z) (Pm (Rl T B) T B μ [.ref o, .long a1, .ref a2]) (va_Qi (fun r9 μ9 => post r9 μ9 ∧ KM μ μ9) (Bm (Rl T B)) (Ai B)) c z (Ai B) := by
  refine mx_of RX8 rfl (by decide) (Nat.le_of_ble_eq_true rfl) ?_
  intro p e s m below meth c0 X hr hk hnm M ls hl
  have hl : lv_has ls 5 [(0, .ref o), (1, .long a1), (3, .ref a2)] := hl
  unfold wp_X8_write at hw
  have hKM : KM μ μ := KM.rf μ
  have hc : 0 + c ≤ c := by omega
  have hz : 0 + z ≤ z := by omega
  refine lv_aload_n X.1 X.2.1 dX8_write_0 rfl (lv_at hl 0 rfl) ?_
  refine lv_iconst (v := 0) X.1 X.2.1 dX8_write_1 (by decide) ?_
  obtain ⟨hk1, hw⟩ := hw
  refine my_puti (C := RX8) (F := TX8) (N := 4) (ci := 10) X M 1 rfl in_X8 tyX8 tyX8_ok nmX8 (by decide) rfl (by decide) kw_235 (Or.inl rfl) dX8_write_2 hk1 rfl rfl (fun μ2 H locs eμ2 M => ?_)
  replace hw := hw μ2 eμ2
  have hKM3 : KM μ μ2 := by rw [eμ2]; exact hKM
  have hk4 : kd μ2 o = 11 := by rw [eμ2]; exact hk1
  refine lv_aload_n X.1 X.2.1 dX8_write_5 rfl (lv_at hl 0 rfl) ?_
  obtain ⟨x5, ex5, hw⟩ := hw
  refine mx_getr (C := RX8) (F := TX8) (N := 4) (ci := 10) X M 3 rfl in_X8 (by decide) rfl (by decide) kw_237 dX8_write_6 hk4 ?_
  rw [ex5]
  refine lv_iconst (v := 0) X.1 X.2.1 dX8_write_9 (by decide) ?_
  obtain ⟨hk8, hw⟩ := hw
  have hw7 := hw
  clear hw
  refine mx_cv M (mx_runV (n := 1) (As := [.int 0]) (rest := []) X M (c_X4_shrink l T B μ2 x5 0 _ hw7) (mx_recv (C := RX4) (F := TX4) (N := 2) (ci := 6) X M rfl (by decide) hk8) kw_928 kw_496 kw_497 kw_71 kw_498 (by decide +kernel) rfl rfl ⟨Nat.le_of_ble_eq_true rfl, Nat.le_of_ble_eq_true rfl⟩ rfl hl.1 (Nat.le_of_ble_eq_true rfl) dX8_write_10 ⟨(show 0 + 0 ≤ c by omega), (show 0 + 0 ≤ z by omega)⟩) (fun μ6 H locs ⟨hw, hKM6⟩ M => ?_)
  replace hw := hw hKM6
  have hKM6_ := hKM3.tr hKM6
  have hk9 := hKM6.at hk4
  have hk10 := hKM6.at hk8
  have hc : (0 + 0) + (c) ≤ c := by omega
  have hz : (0 + 0) + (z) ≤ z := by omega
  refine lv_aload_n X.1 X.2.1 dX8_write_13 rfl (lv_at hl 0 rfl) ?_
  refine lv_lload_n X.1 X.2.1 dX8_write_14 rfl (lv_at hl 1 rfl) ?_
  obtain ⟨c12, z13, hc12, hz13, hw⟩ := hw
  have hw14 := hw
  clear hw
  refine mx_cv M (mx_runV (n := 1) (As := [.long a1]) (rest := []) X M (c_X8_writeHead l T B c12 z13 μ6 o a1 _ hw14) (mx_recv (C := RX8) (F := TX8) (N := 4) (ci := 10) X M rfl (by decide) hk9) kw_929 kw_931 kw_26 kw_73 kw_932 (by decide +kernel) rfl rfl ⟨Nat.le_of_ble_eq_true rfl, Nat.le_of_ble_eq_true rfl⟩ rfl hl.1 (Nat.le_of_ble_eq_true rfl) dX8_write_15 ⟨(show (0 + 0) + c12 ≤ c by omega), (show (0 + 0) + z13 ≤ z by omega)⟩) (fun μ11 H locs ⟨hw, hKM11⟩ M => ?_)
  replace hw := hw hKM11
  have hKM11_ := hKM6_.tr hKM11
  have hk15 := hKM11.at hk9
  have hc : ((0 + 0) + c12) + (c - c12) ≤ c := by omega
  have hz : ((0 + 0) + z13) + (z - z13) ≤ z := by omega
  refine lv_iconst (v := 0) X.1 X.2.1 dX8_write_18 (by decide) ?_
  refine lv_istore (lv' := [(4, .int 0), (0, .ref o), (1, .long a1), (3, .ref a2)]) X.1 X.2.1 dX8_write_19 hl (by decide) rfl (fun ls hl => ?_)
  obtain ⟨n31, hw⟩ := hw
  exact b_X8_write_21 X hr hk n31 _ _ _ _ μ11 a2 0 _ _ _ (by omega) (by omega) hKM11_ hw M (lv_sub hl [1, 3, 0] rfl)
