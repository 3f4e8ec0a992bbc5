abbrev rm_J5_append_c97b9 (c z : Nat) : Room := { frames := 4, cells := c, slots := z, locals := 84 }
def wp_J5_append_c97b9 (c z : Nat) (μ : Mem) (o : Nat) (a1 : Int32) (post : Option Nat → Mem → Prop) : Prop :=
  kd μ o = 1 ∧
  ∀ v2 : Int32, v2 = (fi μ 0 3 o) →
  wp_J6_stringSize_0f7a4 μ a1 (fun (r5 : Int32) (μ3 : Mem) =>
  KM μ μ3 →
  ∀ v7 : Int32, v7 = (v2 + r5) →
  ∃ c9 z10, c9 ≤ c ∧ z10 ≤ z ∧
  wp_J5_ensureCapacityInternal_d00df c9 z10 μ3 o v7 (fun (μ8 : Mem) =>
  KM μ3 μ8 →
  wp_J5_isLatin1_aae02 μ8 o (fun (r15 : Int32) (μ13 : Mem) =>
  KM μ8 μ13 →
  (r15 = 0 →
   ∃ x17, fr μ13 0 0 o = some x17 ∧
   False) ∧ (¬ r15 = 0 →
   ∃ x18, fr μ13 0 0 o = some x18 ∧
   wp_J6_getChars_ba4f3 μ13 a1 v7 x18 (fun (r21 : Int32) (μ19 : Mem) =>
   KM μ13 μ19 →
   ∀ μ23 : Mem, μ23 = sfi μ19 0 3 o v7 →
   post (some o) μ23)))))
set_option maxRecDepth 100000 in
set_option maxHeartbeats 4000000 in
theorem c_J5_append_c97b9 (l : Launch) (T : Tb) (B : Nat) (c z : Nat) (μ : Mem) (o : Nat) (a1 : Int32) (post : Option Nat → Mem → Prop) (hw : wp_J5_append_c97b9 c z μ o a1 post) : Met l yJ5_append_c97b9 (.code yJ5_append_c97b9 cJ5_append_c97b9 4 (some (.object "java/lang/AbstractStringBuilder")) :: G) (rm_J5_append_c97b9 c z) (Pm (Rl T B) T B μ [.ref o, .int a1]) (va_Qq (fun r9 μ9 => post r9 μ9 ∧ KM μ μ9) (Bm (Rl T B)) (Ai B)) c z (Ai B) := by
  refine mx_of RJ5 rfl (by decide) (Nat.le_of_ble_eq_true rfl) ?_
  intro p e s m below meth c0 X hr hk hnm M ls hl
  have hl : lv_has ls 4 [(0, .ref o), (1, .int a1)] := hl
  unfold wp_J5_append_c97b9 at hw
  have hKM : KM μ μ := KM.rf μ
  have hc : 0 + c ≤ c := by omega
  have hz : 0 + z ≤ z := by omega
  refine lv_aload_n X.1 X.2.1 dJ5_append_c97b9_0 rfl (lv_at hl 0 rfl) ?_
  obtain ⟨hk1, hw⟩ := hw
  refine mx_geti (C := RJ4) (F := TJ4) (N := 4) (ci := 0) X M 3 rfl in_J4 (by decide) rfl (by decide) kw_257 dJ5_append_c97b9_1 hk1 ?_
  refine lv_topi (fun v2 ev2 => ?_)
  replace hw := hw v2 ev2
  refine lv_istore_n (lv' := [(2, .int v2), (0, .ref o), (1, .int a1)]) X.1 X.2.1 dJ5_append_c97b9_4 rfl hl (by decide) rfl (fun ls hl => ?_)
  refine lv_iload_n X.1 X.2.1 dJ5_append_c97b9_5 rfl (lv_at hl 0 rfl) ?_
  refine lv_iload_n X.1 X.2.1 dJ5_append_c97b9_6 rfl (lv_at hl 2 rfl) ?_
  have hw4 := hw
  clear hw
  refine mx_ci M (mx_runS (n := 1) (As := [.int a1]) (rest := [.int v2]) X M (c_J6_stringSize_0f7a4 l T B μ a1 _ hw4) kw_1046 kw_1047 kw_93 kw_1048 (by decide +kernel) rfl rfl ⟨Nat.le_of_ble_eq_true rfl, Nat.le_of_ble_eq_true rfl⟩ rfl hl.1 (Nat.le_of_ble_eq_true rfl) dJ5_append_c97b9_7 ⟨(show 0 + 0 ≤ c by omega), (show 0 + 0 ≤ z by omega)⟩) (fun r5 μ3 H locs ⟨hw, hKM3⟩ M => ?_)
  replace hw := hw hKM3
  have hKM3_ := hKM.tr hKM3
  have hk6 := hKM3.at hk1
  have hc : (0 + 0) + (c) ≤ c := by omega
  have hz : (0 + 0) + (z) ≤ z := by omega
  refine lv_iadd X.1 X.2.1 dJ5_append_c97b9_10 ?_
  refine lv_topi (fun v7 ev7 => ?_)
  replace hw := hw v7 ev7
  refine lv_istore_n (lv' := [(3, .int v7), (2, .int v2), (0, .ref o), (1, .int a1)]) X.1 X.2.1 dJ5_append_c97b9_11 rfl hl (by decide) rfl (fun ls hl => ?_)
  refine lv_aload_n X.1 X.2.1 dJ5_append_c97b9_12 rfl (lv_at hl 2 rfl) ?_
  refine lv_iload_n X.1 X.2.1 dJ5_append_c97b9_13 rfl (lv_at hl 0 rfl) ?_
  obtain ⟨c9, z10, hc9, hz10, hw⟩ := hw
  have hw11 := hw
  clear hw
  refine mx_cv M (mx_runV (n := 1) (As := [.int v7]) (rest := []) X M (c_J5_ensureCapacityInternal_d00df l T B c9 z10 μ3 o v7 _ hw11) (mx_recv (C := RJ4) (F := TJ4) (N := 4) (ci := 0) X M rfl (by decide) hk6) kw_997 kw_999 kx_0 kw_72 kw_1000 (by decide +kernel) rfl rfl ⟨Nat.le_of_ble_eq_true rfl, Nat.le_of_ble_eq_true rfl⟩ rfl hl.1 (Nat.le_of_ble_eq_true rfl) dJ5_append_c97b9_14 ⟨(show (0 + 0) + c9 ≤ c by omega), (show (0 + 0) + z10 ≤ z by omega)⟩) (fun μ8 H locs ⟨hw, hKM8⟩ M => ?_)
  replace hw := hw hKM8
  have hKM8_ := hKM3_.tr hKM8
  have hk12 := hKM8.at hk6
  have hc : ((0 + 0) + c9) + (c - c9) ≤ c := by omega
  have hz : ((0 + 0) + z10) + (z - z10) ≤ z := by omega
  refine lv_aload_n X.1 X.2.1 dJ5_append_c97b9_17 rfl (lv_at hl 2 rfl) ?_
  have hw14 := hw
  clear hw
  refine mx_ci M (mx_runV (n := 0) (As := []) (rest := []) X M (c_J5_isLatin1_aae02 l T B μ8 o _ hw14) (mx_recv (C := RJ4) (F := TJ4) (N := 4) (ci := 0) X M rfl (by decide) hk12) kw_1015 kw_1016 kw_1018 kw_72 kw_1019 (by decide +kernel) rfl rfl ⟨Nat.le_of_ble_eq_true rfl, Nat.le_of_ble_eq_true rfl⟩ rfl hl.1 (Nat.le_of_ble_eq_true rfl) dJ5_append_c97b9_18 ⟨(show ((0 + 0) + c9) + 0 ≤ c by omega), (show ((0 + 0) + z10) + 0 ≤ z by omega)⟩) (fun r15 μ13 H locs ⟨hw, hKM13⟩ M => ?_)
  replace hw := hw hKM13
  have hKM13_ := hKM8_.tr hKM13
  have hk16 := hKM13.at hk12
  have hc : (((0 + 0) + c9) + 0) + (c - c9) ≤ c := by omega
  have hz : (((0 + 0) + z10) + 0) + (z - z10) ≤ z := by omega
  obtain ⟨hwt, hwf⟩ := hw
  refine lv_if_eq (tgt := 37) X.1 X.2.1 dJ5_append_c97b9_21 (by decide) (fun hq => ?_) (fun hq => ?_)
  · have hw := hwt hq
    refine lv_iload_n X.1 X.2.1 dJ5_append_c97b9_37 rfl (lv_at hl 3 rfl) ?_
    refine lv_iload_n X.1 X.2.1 dJ5_append_c97b9_38 rfl (lv_at hl 1 rfl) ?_
    refine lv_iload_n X.1 X.2.1 dJ5_append_c97b9_39 rfl (lv_at hl 0 rfl) ?_
    refine lv_aload_n X.1 X.2.1 dJ5_append_c97b9_40 rfl (lv_at hl 2 rfl) ?_
    obtain ⟨x17, ex17, hw⟩ := hw
    refine mx_getr (C := RJ4) (F := TJ4) (N := 4) (ci := 0) X M 0 rfl in_J4 (by decide) rfl (by decide) kw_254 dJ5_append_c97b9_41 hk16 ?_
    rw [ex17]
    exact hw.elim
  · have hw := hwf hq
    refine lv_iload_n X.1 X.2.1 dJ5_append_c97b9_24 rfl (lv_at hl 3 rfl) ?_
    refine lv_iload_n X.1 X.2.1 dJ5_append_c97b9_25 rfl (lv_at hl 0 rfl) ?_
    refine lv_aload_n X.1 X.2.1 dJ5_append_c97b9_26 rfl (lv_at hl 2 rfl) ?_
    obtain ⟨x18, ex18, hw⟩ := hw
    refine mx_getr (C := RJ4) (F := TJ4) (N := 4) (ci := 0) X M 0 rfl in_J4 (by decide) rfl (by decide) kw_254 dJ5_append_c97b9_27 hk16 ?_
    rw [ex18]
    have hw20 := hw
    clear hw
    refine mx_ci M (mx_runS (n := 3) (As := [.int a1, .int v7, .ref x18]) (rest := []) X M (c_J6_getChars_ba4f3 l T B μ13 a1 v7 x18 _ hw20) kw_1049 kw_1050 kw_93 kw_1051 (by decide +kernel) rfl rfl ⟨Nat.le_of_ble_eq_true rfl, Nat.le_of_ble_eq_true rfl⟩ rfl hl.1 (Nat.le_of_ble_eq_true rfl) dJ5_append_c97b9_30 ⟨(show (((0 + 0) + c9) + 0) + 0 ≤ c by omega), (show (((0 + 0) + z10) + 0) + 0 ≤ z by omega)⟩) (fun r21 μ19 H locs ⟨hw, hKM19⟩ M => ?_)
    replace hw := hw hKM19
    have hKM19_ := hKM13_.tr hKM19
    have hk22 := hKM19.at hk16
    have hc : ((((0 + 0) + c9) + 0) + 0) + (c - c9) ≤ c := by omega
    have hz : ((((0 + 0) + z10) + 0) + 0) + (z - z10) ≤ z := by omega
    refine lv_pop X.1 X.2.1 dJ5_append_c97b9_33 rfl ?_
    refine lv_goto (tgt := 48) X.1 X.2.1 dJ5_append_c97b9_34 (by decide) ?_
    refine lv_aload_n X.1 X.2.1 dJ5_append_c97b9_48 rfl (lv_at hl 2 rfl) ?_
    refine lv_iload_n X.1 X.2.1 dJ5_append_c97b9_49 rfl (lv_at hl 0 rfl) ?_
    refine my_puti (C := RJ4) (F := TJ4) (N := 4) (ci := 0) X M 3 rfl in_J4 tyJ4 tyJ4_ok nmJ4 (by decide) rfl (by decide) kw_257 (Or.inl rfl) dJ5_append_c97b9_50 hk22 rfl rfl (fun μ23 H locs eμ23 M => ?_)
    replace hw := hw μ23 eμ23
    have hKM24 : KM μ μ23 := by rw [eμ23]; exact hKM19_
    have hk25 : kd μ23 o = 1 := by rw [eμ23]; exact hk22
    refine lv_aload_n X.1 X.2.1 dJ5_append_c97b9_53 rfl (lv_at hl 2 rfl) ?_
    exact mx_aret (r := (some o)) X hr (Or.inl ⟨_, rfl⟩) hk M dJ5_append_c97b9_54 (by omega) (by omega) ⟨hw, hKM24⟩

abbrev rm_J4_init_da8c8 (c z : Nat) : Room := { frames := 2, cells := c, slots := z, locals := 41 }
def wp_J4_init_da8c8 (c z : Nat) (μ : Mem) (o : Nat) (post : Mem → Prop) : Prop :=
  ∃ c2 z3, c2 ≤ c ∧ z3 ≤ z ∧
  wp_J5_init_d00df c2 z3 μ o 16 (fun (μ1 : Mem) =>
  KM μ μ1 →
  post μ1)
set_option maxRecDepth 100000 in
set_option maxHeartbeats 4000000 in
theorem c_J4_init_da8c8 (l : Launch) (T : Tb) (B : Nat) (c z : Nat) (μ : Mem) (o : Nat) (post : Mem → Prop) (hw : wp_J4_init_da8c8 c z μ o post) : Met l yJ4_init_da8c8 (.code yJ4_init_da8c8 cJ4_init_da8c8 1 none :: G) (rm_J4_init_da8c8 c z) (Pm (Rl T B) T B μ [.ref o]) (va_Qv (fun μ9 => post μ9 ∧ KM μ μ9) (Bm (Rl T B)) (Ai B)) c z (Ai B) := by
  refine mx_of RJ4 rfl (by decide) (Nat.le_of_ble_eq_true rfl) ?_
  intro p e s m below meth c0 X hr hk hnm M ls hl
  have hl : lv_has ls 1 [(0, .ref o)] := hl
  unfold wp_J4_init_da8c8 at hw
  have hKM : KM μ μ := KM.rf μ
  have hc : 0 + c ≤ c := by omega
  have hz : 0 + z ≤ z := by omega
  refine lv_aload_n X.1 X.2.1 dJ4_init_da8c8_0 rfl (lv_at hl 0 rfl) ?_
  refine lv_bipush (v := 16) X.1 X.2.1 dJ4_init_da8c8_1 (by decide) ?_
  obtain ⟨c2, z3, hc2, hz3, hw⟩ := hw
  have hw4 := hw
  clear hw
  refine mx_cv M (mx_runI (n := 1) (As := [.int 16]) (rest := []) X M (c_J5_init_d00df l T B c2 z3 μ o 16 _ hw4) kw_241 kw_242 rfl kw_72 kw_243 (by decide +kernel) rfl rfl ⟨Nat.le_of_ble_eq_true rfl, Nat.le_of_ble_eq_true rfl⟩ rfl hl.1 (Nat.le_of_ble_eq_true rfl) dJ4_init_da8c8_3 ⟨(show 0 + c2 ≤ c by omega), (show 0 + z3 ≤ z by omega)⟩) (fun μ1 H locs ⟨hw, hKM1⟩ M => ?_)
  replace hw := hw hKM1
  have hKM1_ := hKM.tr hKM1
  have hc : (0 + c2) + (c - c2) ≤ c := by omega
  have hz : (0 + z3) + (z - z3) ≤ z := by omega
  exact mx_vret X hr hk M dJ4_init_da8c8_6 (by omega) (by omega) ⟨hw, hKM1_⟩

abbrev rm_J4_append_cf468 (c z : Nat) : Room := { frames := 5, cells := c, slots := z, locals := 105 }
def wp_J4_append_cf468 (c z : Nat) (μ : Mem) (o : Nat) (a1 : Int32) (post : Option Nat → Mem → Prop) : Prop :=
  kd μ o = 1 ∧
  ∃ c2 z3, c2 ≤ c ∧ z3 ≤ z ∧
  wp_J5_append_3fe6f c2 z3 μ o a1 (fun (r5 : Option Nat) (μ1 : Mem) =>
  KM μ μ1 →
  post (some o) μ1)
set_option maxRecDepth 100000 in
set_option maxHeartbeats 4000000 in
theorem c_J4_append_cf468 (l : Launch) (T : Tb) (B : Nat) (c z : Nat) (μ : Mem) (o : Nat) (a1 : Int32) (post : Option Nat → Mem → Prop) (hw : wp_J4_append_cf468 c z μ o a1 post) : Met l yJ4_append_cf468 (.code yJ4_append_cf468 cJ4_append_cf468 2 (some (.object "java/lang/StringBuilder")) :: G) (rm_J4_append_cf468 c z) (Pm (Rl T B) T B μ [.ref o, .int a1]) (va_Qq (fun r9 μ9 => post r9 μ9 ∧ KM μ μ9) (Bm (Rl T B)) (Ai B)) c z (Ai B) := by
  refine mx_of RJ4 rfl (by decide) (Nat.le_of_ble_eq_true rfl) ?_
  intro p e s m below meth c0 X hr hk hnm M ls hl
  have hl : lv_has ls 2 [(0, .ref o), (1, .int a1)] := hl
  unfold wp_J4_append_cf468 at hw
  have hKM : KM μ μ := KM.rf μ
  have hc : 0 + c ≤ c := by omega
  have hz : 0 + z ≤ z := by omega
  refine lv_aload_n X.1 X.2.1 dJ4_append_cf468_0 rfl (lv_at hl 0 rfl) ?_
  refine lv_iload_n X.1 X.2.1 dJ4_append_cf468_1 rfl (lv_at hl 1 rfl) ?_
  obtain ⟨hk6, hw⟩ := hw
  obtain ⟨c2, z3, hc2, hz3, hw⟩ := hw
  have hw4 := hw
  clear hw
  refine mx_cq M (mx_runSU (n := 1) (As := [.int a1]) (rest := []) X M (c_J5_append_3fe6f l T B c2 z3 μ o a1 _ hw4) hk6 kw_1080 kw_1510 kw_266 kw_1081 kw_72 kw_1082 (by decide +kernel) rfl rfl ⟨Nat.le_of_ble_eq_true rfl, Nat.le_of_ble_eq_true rfl⟩ rfl hl.1 (Nat.le_of_ble_eq_true rfl) dJ4_append_cf468_2 ⟨(show 0 + c2 ≤ c by omega), (show 0 + z3 ≤ z by omega)⟩) (fun r5 μ1 H locs ⟨hw, hKM1⟩ M => ?_)
  replace hw := hw hKM1
  have hKM1_ := hKM.tr hKM1
  have hk7 := hKM1.at hk6
  have hc : (0 + c2) + (c - c2) ≤ c := by omega
  have hz : (0 + z3) + (z - z3) ≤ z := by omega
  refine lv_pop X.1 X.2.1 dJ4_append_cf468_5 (mq_cat _) ?_
  refine lv_aload_n X.1 X.2.1 dJ4_append_cf468_6 rfl (lv_at hl 0 rfl) ?_
  exact mx_aret (r := (some o)) X hr (Or.inl ⟨_, rfl⟩) hk M dJ4_append_cf468_7 (by omega) (by omega) ⟨hw, hKM1_⟩

abbrev rm_J4_append_bf812 (c z : Nat) : Room := { frames := 5, cells := c, slots := z, locals := 107 }
def wp_J4_append_bf812 (c z : Nat) (μ : Mem) (o : Nat) (a1 : Int32) (post : Option Nat → Mem → Prop) : Prop :=
  kd μ o = 1 ∧
  ∃ c2 z3, c2 ≤ c ∧ z3 ≤ z ∧
  wp_J5_append_c97b9 c2 z3 μ o a1 (fun (r5 : Option Nat) (μ1 : Mem) =>
  KM μ μ1 →
  post (some o) μ1)
set_option maxRecDepth 100000 in
set_option maxHeartbeats 4000000 in
theorem c_J4_append_bf812 (l : Launch) (T : Tb) (B : Nat) (c z : Nat) (μ : Mem) (o : Nat) (a1 : Int32) (post : Option Nat → Mem → Prop) (hw : wp_J4_append_bf812 c z μ o a1 post) : Met l yJ4_append_bf812 (.code yJ4_append_bf812 cJ4_append_bf812 2 (some (.object "java/lang/StringBuilder")) :: G) (rm_J4_append_bf812 c z) (Pm (Rl T B) T B μ [.ref o, .int a1]) (va_Qq (fun r9 μ9 => post r9 μ9 ∧ KM μ μ9) (Bm (Rl T B)) (Ai B)) c z (Ai B) := by
  refine mx_of RJ4 rfl (by decide) (Nat.le_of_ble_eq_true rfl) ?_
  intro p e s m below meth c0 X hr hk hnm M ls hl
  have hl : lv_has ls 2 [(0, .ref o), (1, .int a1)] := hl
  unfold wp_J4_append_bf812 at hw
  have hKM : KM μ μ := KM.rf μ
  have hc : 0 + c ≤ c := by omega
  have hz : 0 + z ≤ z := by omega
  refine lv_aload_n X.1 X.2.1 dJ4_append_bf812_0 rfl (lv_at hl 0 rfl) ?_
  refine lv_iload_n X.1 X.2.1 dJ4_append_bf812_1 rfl (lv_at hl 1 rfl) ?_
  obtain ⟨hk6, hw⟩ := hw
  obtain ⟨c2, z3, hc2, hz3, hw⟩ := hw
  have hw4 := hw
  clear hw
  refine mx_cq M (mx_runSU (n := 1) (As := [.int a1]) (rest := []) X M (c_J5_append_c97b9 l T B c2 z3 μ o a1 _ hw4) hk6 kw_1043 kw_1509 kw_266 kw_1044 kw_72 kw_1045 (by decide +kernel) rfl rfl ⟨Nat.le_of_ble_eq_true rfl, Nat.le_of_ble_eq_true rfl⟩ rfl hl.1 (Nat.le_of_ble_eq_true rfl) dJ4_append_bf812_2 ⟨(show 0 + c2 ≤ c by omega), (show 0 + z3 ≤ z by omega)⟩) (fun r5 μ1 H locs ⟨hw, hKM1⟩ M => ?_)
  replace hw := hw hKM1
  have hKM1_ := hKM.tr hKM1
  have hk7 := hKM1.at hk6
  have hc : (0 + c2) + (c - c2) ≤ c := by omega
  have hz : (0 + z3) + (z - z3) ≤ z := by omega
  refine lv_pop X.1 X.2.1 dJ4_append_bf812_5 (mq_cat _) ?_
  refine lv_aload_n X.1 X.2.1 dJ4_append_bf812_6 rfl (lv_at hl 0 rfl) ?_
  exact mx_aret (r := (some o)) X hr (Or.inl ⟨_, rfl⟩) hk M dJ4_append_bf812_7 (by omega) (by omega) ⟨hw, hKM1_⟩

abbrev rm_J4_charAt_5068e : Room := { frames := 3, cells := 0, slots := 0, locals := 67 }
def wp_J4_charAt_5068e (μ : Mem) (o : Nat) (a1 : Int32) (post : Int32 → Mem → Prop) : Prop :=
  kd μ o = 1 ∧
  wp_J5_charAt_5068e μ o a1 (fun (r3 : Int32) (μ1 : Mem) =>
  KM μ μ1 →
  narrow .char (.int r3) = .int r3 ∧ post r3 μ1)
set_option maxRecDepth 100000 in
set_option maxHeartbeats 4000000 in
theorem c_J4_charAt_5068e (l : Launch) (T : Tb) (B : Nat) (μ : Mem) (o : Nat) (a1 : Int32) (post : Int32 → Mem → Prop) (hw : wp_J4_charAt_5068e μ o a1 post) : Met l yJ4_charAt_5068e (.code yJ4_charAt_5068e cJ4_charAt_5068e 2 (some .char) :: G) rm_J4_charAt_5068e (Pm (Rl T B) T B μ [.ref o, .int a1]) (va_Qi (fun r9 μ9 => post r9 μ9 ∧ KM μ μ9) (Bm (Rl T B)) (Ai B)) 0 0 (Ai B) := by
  refine mx_of RJ4 rfl (by decide) (Nat.le_of_ble_eq_true rfl) ?_
  intro p e s m below meth c0 X hr hk hnm M ls hl
  have hl : lv_has ls 2 [(0, .ref o), (1, .int a1)] := hl
  unfold wp_J4_charAt_5068e at hw
  have hKM : KM μ μ := KM.rf μ
  refine lv_aload_n X.1 X.2.1 dJ4_charAt_5068e_0 rfl (lv_at hl 0 rfl) ?_
  refine lv_iload_n X.1 X.2.1 dJ4_charAt_5068e_1 rfl (lv_at hl 1 rfl) ?_
  obtain ⟨hk4, hw⟩ := hw
  have hw2 := hw
  clear hw
  refine mx_ci M (mx_runSU (n := 1) (As := [.int a1]) (rest := []) X M (c_J5_charAt_5068e l T B μ o a1 _ hw2) hk4 kw_869 kw_1504 kw_266 kw_870 kw_72 kw_871 (by decide +kernel) rfl rfl ⟨Nat.le_of_ble_eq_true rfl, Nat.le_of_ble_eq_true rfl⟩ rfl hl.1 (Nat.le_of_ble_eq_true rfl) dJ4_charAt_5068e_2 ⟨by decide, by decide⟩) (fun r3 μ1 H locs ⟨hw, hKM1⟩ M => ?_)
  replace hw := hw hKM1
  have hKM1_ := hKM.tr hKM1
  have hk5 := hKM1.at hk4
  exact mx_zret X hr hk M dJ4_charAt_5068e_5 (by decide) (by decide) hw.1 ⟨hw.2, hKM1_⟩

abbrev rm_J4_setLength_d00df (c z : Nat) : Room := { frames := 5, cells := c, slots := z, locals := 105 }
def wp_J4_setLength_d00df (c z : Nat) (μ : Mem) (o : Nat) (a1 : Int32) (post : Mem → Prop) : Prop :=
  kd μ o = 1 ∧
  ∃ c2 z3, c2 ≤ c ∧ z3 ≤ z ∧
  wp_J5_setLength_d00df c2 z3 μ o a1 (fun (μ1 : Mem) =>
  KM μ μ1 →
  post μ1)
set_option maxRecDepth 100000 in
set_option maxHeartbeats 4000000 in
theorem c_J4_setLength_d00df (l : Launch) (T : Tb) (B : Nat) (c z : Nat) (μ : Mem) (o : Nat) (a1 : Int32) (post : Mem → Prop) (hw : wp_J4_setLength_d00df c z μ o a1 post) : Met l yJ4_setLength_d00df (.code yJ4_setLength_d00df cJ4_setLength_d00df 2 none :: G) (rm_J4_setLength_d00df c z) (Pm (Rl T B) T B μ [.ref o, .int a1]) (va_Qv (fun μ9 => post μ9 ∧ KM μ μ9) (Bm (Rl T B)) (Ai B)) c z (Ai B) := by
  refine mx_of RJ4 rfl (by decide) (Nat.le_of_ble_eq_true rfl) ?_
  intro p e s m below meth c0 X hr hk hnm M ls hl
  have hl : lv_has ls 2 [(0, .ref o), (1, .int a1)] := hl
  unfold wp_J4_setLength_d00df at hw
  have hKM : KM μ μ := KM.rf μ
  have hc : 0 + c ≤ c := by omega
  have hz : 0 + z ≤ z := by omega
  refine lv_aload_n X.1 X.2.1 dJ4_setLength_d00df_0 rfl (lv_at hl 0 rfl) ?_
  refine lv_iload_n X.1 X.2.1 dJ4_setLength_d00df_1 rfl (lv_at hl 1 rfl) ?_
  obtain ⟨hk5, hw⟩ := hw
  obtain ⟨c2, z3, hc2, hz3, hw⟩ := hw
  have hw4 := hw
  clear hw
  refine mx_cv M (mx_runSU (n := 1) (As := [.int a1]) (rest := []) X M (c_J5_setLength_d00df l T B c2 z3 μ o a1 _ hw4) hk5 kw_994 kw_1506 kw_266 kw_995 kw_72 kw_996 (by decide +kernel) rfl rfl ⟨Nat.le_of_ble_eq_true rfl, Nat.le_of_ble_eq_true rfl⟩ rfl hl.1 (Nat.le_of_ble_eq_true rfl) dJ4_setLength_d00df_2 ⟨(show 0 + c2 ≤ c by omega), (show 0 + z3 ≤ z by omega)⟩) (fun μ1 H locs ⟨hw, hKM1⟩ M => ?_)
  replace hw := hw hKM1
  have hKM1_ := hKM.tr hKM1
  have hk6 := hKM1.at hk5
  have hc : (0 + c2) + (c - c2) ≤ c := by omega
  have hz : (0 + z3) + (z - z3) ≤ z := by omega
  exact mx_vret X hr hk M dJ4_setLength_d00df_5 (by omega) (by omega) ⟨hw, hKM1_⟩

abbrev rm_J4_length_8abf5 : Room := { frames := 1, cells := 0, slots := 0, locals := 20 }
def wp_J4_length_8abf5 (μ : Mem) (o : Nat) (post : Int32 → Mem → Prop) : Prop :=
  kd μ o = 1 ∧
  wp_J5_length_8abf5 μ o (fun (r3 : Int32) (μ1 : Mem) =>
  KM μ μ1 →
  post r3 μ1)
set_option maxRecDepth 100000 in
set_option maxHeartbeats 4000000 in
theorem c_J4_length_8abf5 (l : Launch) (T : Tb) (B : Nat) (μ : Mem) (o : Nat) (post : Int32 → Mem → Prop) (hw : wp_J4_length_8abf5 μ o post) : Met l yJ4_length_8abf5 (.code yJ4_length_8abf5 cJ4_length_8abf5 1 (some .int) :: G) rm_J4_length_8abf5 (Pm (Rl T B) T B μ [.ref o]) (va_Qi (fun r9 μ9 => post r9 μ9 ∧ KM μ μ9) (Bm (Rl T B)) (Ai B)) 0 0 (Ai B) := by
  refine mx_of RJ4 rfl (by decide) (Nat.le_of_ble_eq_true rfl) ?_
  intro p e s m below meth c0 X hr hk hnm M ls hl
  have hl : lv_has ls 1 [(0, .ref o)] := hl
  unfold wp_J4_length_8abf5 at hw
  have hKM : KM μ μ := KM.rf μ
  refine lv_aload_n X.1 X.2.1 dJ4_length_8abf5_0 rfl (lv_at hl 0 rfl) ?_
  obtain ⟨hk4, hw⟩ := hw
  have hw2 := hw
  clear hw
  refine mx_ci M (mx_runSU (n := 0) (As := []) (rest := []) X M (c_J5_length_8abf5 l T B μ o _ hw2) hk4 kw_861 kw_1503 kw_266 kw_862 kw_72 kw_863 (by decide +kernel) rfl rfl ⟨Nat.le_of_ble_eq_true rfl, Nat.le_of_ble_eq_true rfl⟩ rfl hl.1 (Nat.le_of_ble_eq_true rfl) dJ4_length_8abf5_1 ⟨by decide, by decide⟩) (fun r3 μ1 H locs ⟨hw, hKM1⟩ M => ?_)
  replace hw := hw hKM1
  have hKM1_ := hKM.tr hKM1
  have hk5 := hKM1.at hk4
  exact mx_iret X hr hk M dJ4_length_8abf5_4 (by decide) (by decide) ⟨hw, hKM1_⟩

abbrev rm_X8_init (c z : Nat) : Room := { frames := 3, cells := c, slots := z, locals := 61 }
def wp_X8_init (c z : Nat) (μ : Mem) (o : Nat) (post : Mem → Prop) : Prop :=
  1 ≤ c ∧ 4 ≤ z ∧ ∀ (q1 : Nat) (μ2 : Mem), kd μ q1 = 0 → μ2 = nob μ 0 q1 →
  ∃ c6 z7, c6 ≤ c - 1 ∧ z7 ≤ z - 4 ∧
  wp_J4_init_da8c8 c6 z7 μ2 q1 (fun (μ5 : Mem) =>
  KM μ2 μ5 →
  kd μ5 o = 11 ∧
  ∀ μ11 : Mem, μ11 = sfr μ5 10 0 o (some q1) →
  1 ≤ (c - 1) - c6 ∧ 2 ≤ (z - 4) - z7 ∧ ∀ (q15 : Nat) (μ16 : Mem), kd μ11 q15 = 0 → μ16 = nob μ11 6 q15 →
  ∃ c21 z22, c21 ≤ ((c - 1) - c6) - 1 ∧ z22 ≤ ((z - 4) - z7) - 2 ∧
  wp_X4_init c21 z22 μ16 q15 (fun (μ20 : Mem) =>
  KM μ16 μ20 →
  ∀ μ26 : Mem, μ26 = sfr μ20 10 1 o (some q15) →
  post μ26))
set_option maxRecDepth 100000 in
set_option maxHeartbeats 4000000 in
theorem c_X8_init (l : Launch) (T : Tb) (B : Nat) (c z : Nat) (μ : Mem) (o : Nat) (post : Mem → Prop) (hw : wp_X8_init c z μ o post) : Met l yX8_init (.code yX8_init cX8_init 1 none :: G) (rm_X8_init c z) (Pm (Rl T B) T B μ [.ref o]) (va_Qv (fun μ9 => post μ9 ∧ KM μ μ9) (Bm (Rl T B)) (Ai B)) c z (Ai B) := by
  refine mx_of RX8 rfl (by decide) (Nat.le_of_ble_eq_true rfl) ?_
  intro p e s m below meth c0 X hr hk hnm M ls hl
  have hl : lv_has ls 1 [(0, .ref o)] := hl
  unfold wp_X8_init at hw
  have hKM : KM μ μ := KM.rf μ
  have hc : 0 + c ≤ c := by omega
  have hz : 0 + z ≤ z := by omega
  refine lv_aload_n X.1 X.2.1 dX8_init_0 rfl (lv_at hl 0 rfl) ?_
  refine my_obj X kw_235 kw_100 kw_101 hl.1 (Nat.le_of_ble_eq_true rfl) (Nat.le_of_ble_eq_true rfl) (Nat.le_of_ble_eq_true rfl) dX8_init_1 ?_
  refine lv_aload_n X.1 X.2.1 dX8_init_4 rfl (lv_at hl 0 rfl) ?_
  obtain ⟨hb1, hb2, hw⟩ := hw
  refine my_new (C := RJ4) (F := TJ4) (N := 4) (ci := 0) X M rfl in_J4 tyJ4 tyJ4_ok df_J4 (by decide) kw_236 kw_237 kw_73 dX8_init_5 (show 0 + 1 ≤ c by omega) (show 0 + 4 ≤ z by omega) (fun q1 μ2 H hq1 eμ2 M => ?_)
  replace hw := hw q1 μ2 hq1 eμ2
  have hKM3 : KM μ μ2 := by rw [eμ2]; exact hKM.tr (KM_nob hq1)
  have hk4 : kd μ2 q1 = 1 := by rw [eμ2]; exact kd_nob
  have hc : (0 + 1) + (c - 1) ≤ c := by omega
  have hz : (0 + 4) + (z - 4) ≤ z := by omega
  refine lv_dup X.1 X.2.1 dX8_init_8 rfl ?_
  obtain ⟨c6, z7, hc6, hz7, hw⟩ := hw
  have hw8 := hw
  clear hw
  refine mx_cv M (mx_runI (n := 0) (As := []) (rest := [.ref q1, .ref o]) X M (c_J4_init_da8c8 l T B c6 z7 μ2 q1 _ hw8) kw_238 kw_239 rfl kw_73 kw_240 (by decide +kernel) rfl rfl ⟨Nat.le_of_ble_eq_true rfl, Nat.le_of_ble_eq_true rfl⟩ rfl hl.1 (Nat.le_of_ble_eq_true rfl) dX8_init_9 ⟨(show (0 + 1) + c6 ≤ c by omega), (show (0 + 4) + z7 ≤ z by omega)⟩) (fun μ5 H locs ⟨hw, hKM5⟩ M => ?_)
  replace hw := hw hKM5
  have hKM5_ := hKM3.tr hKM5
  have hk9 := hKM5.at hk4
  have hc : ((0 + 1) + c6) + ((c - 1) - c6) ≤ c := by omega
  have hz : ((0 + 4) + z7) + ((z - 4) - z7) ≤ z := by omega
  obtain ⟨hk10, hw⟩ := hw
  refine my_putr (C := RX8) (F := TX8) (N := 2) (ci := 10) X M 0 rfl in_X8 tyX8 tyX8_ok nmX8 (by decide) rfl (by decide) kw_270 (Or.inr ⟨hnm, rfl⟩) dX8_init_12 hk10 (some q1) (mq_no _ _) (mq_fo _ _) (fun μ11 H locs eμ11 M => ?_)
  replace hw := hw μ11 eμ11
  have hKM12 : KM μ μ11 := by rw [eμ11]; exact hKM5_
  have hk13 : kd μ11 q1 = 1 := by rw [eμ11]; exact hk9
  have hk14 : kd μ11 o = 11 := by rw [eμ11]; exact hk10
  refine lv_aload_n X.1 X.2.1 dX8_init_15 rfl (lv_at hl 0 rfl) ?_
  obtain ⟨hb1, hb2, hw⟩ := hw
  refine my_new (C := RX4) (F := TX4) (N := 2) (ci := 6) X M rfl in_X4 tyX4 tyX4_ok df_X4 (by decide) kw_268 kw_144 kw_69 dX8_init_16 (show ((0 + 1) + c6) + 1 ≤ c by omega) (show ((0 + 4) + z7) + 2 ≤ z by omega) (fun q15 μ16 H hq15 eμ16 M => ?_)
  replace hw := hw q15 μ16 hq15 eμ16
  have hKM17 : KM μ μ16 := by rw [eμ16]; exact hKM12.tr (KM_nob hq15)
  have hk18 : kd μ16 o = 11 := by rw [eμ16]; exact (KM_nob hq15).at hk14
  have hk19 : kd μ16 q15 = 7 := by rw [eμ16]; exact kd_nob
  have hc : (((0 + 1) + c6) + 1) + (((c - 1) - c6) - 1) ≤ c := by omega
  have hz : (((0 + 4) + z7) + 2) + (((z - 4) - z7) - 2) ≤ z := by omega
  refine lv_dup X.1 X.2.1 dX8_init_19 rfl ?_
  obtain ⟨c21, z22, hc21, hz22, hw⟩ := hw
  have hw23 := hw
  clear hw
  refine mx_cv M (mx_runIN (n := 0) (As := []) (rest := [.ref q15, .ref o]) X M (c_X4_init l T B c21 z22 μ16 q15 _ hw23) kw_269 kw_146 rfl kw_69 kw_147 (by decide +kernel) rfl rfl ⟨Nat.le_of_ble_eq_true rfl, Nat.le_of_ble_eq_true rfl⟩ rfl hl.1 (Nat.le_of_ble_eq_true rfl) dX8_init_20 ⟨(show (((0 + 1) + c6) + 1) + c21 ≤ c by omega), (show (((0 + 4) + z7) + 2) + z22 ≤ z by omega)⟩) (fun μ20 H locs ⟨hw, hKM20⟩ M => ?_)
  replace hw := hw hKM20
  have hKM20_ := hKM17.tr hKM20
  have hk24 := hKM20.at hk18
  have hk25 := hKM20.at hk19
  have hc : ((((0 + 1) + c6) + 1) + c21) + ((((c - 1) - c6) - 1) - c21) ≤ c := by omega
  have hz : ((((0 + 4) + z7) + 2) + z22) + ((((z - 4) - z7) - 2) - z22) ≤ z := by omega
  refine my_putr (C := RX8) (F := TX8) (N := 2) (ci := 10) X M 1 rfl in_X8 tyX8 tyX8_ok nmX8 (by decide) rfl (by decide) kw_271 (Or.inr ⟨hnm, rfl⟩) dX8_init_23 hk24 (some q15) (mq_no _ _) (mq_fo _ _) (fun μ26 H locs eμ26 M => ?_)
  replace hw := hw μ26 eμ26
  have hKM27 : KM μ μ26 := by rw [eμ26]; exact hKM20_
  have hk28 : kd μ26 o = 11 := by rw [eμ26]; exact hk24
  have hk29 : kd μ26 q15 = 7 := by rw [eμ26]; exact hk25
  exact mx_vret X hr hk M dX8_init_26 (by omega) (by omega) ⟨hw, hKM27⟩

abbrev rm_X8_writeHead (c z : Nat) : Room := { frames := 6, cells := c, slots := z, locals := 128 }
def wp_X8_writeHead (c z : Nat) (μ : Mem) (o : Nat) (a1 : Int64) (post : Mem → Prop) : Prop :=
  wp_X9_isCell μ a1 (fun (r3 : Int32) (μ1 : Mem) =>
  KM μ μ1 →
  (r3 = 0 →
   kd μ1 o = 11 ∧
   ∃ x57, fr μ1 10 0 o = some x57 ∧
   kd μ1 x57 = 1 ∧
   ∃ c59 z60, c59 ≤ c ∧ z60 ≤ z ∧
   wp_J4_append_bf812 c59 z60 μ1 x57 (Int64.toInt32 a1) (fun (r62 : Option Nat) (μ58 : Mem) =>
   KM μ1 μ58 →
   post μ58)) ∧ (¬ r3 = 0 →
   kd μ1 o = 11 ∧
   ∃ x5, fr μ1 10 0 o = some x5 ∧
   kd μ1 x5 = 1 ∧
   ∃ c7 z8, c7 ≤ c ∧ z8 ≤ z ∧
   wp_J4_append_cf468 c7 z8 μ1 x5 99 (fun (r10 : Option Nat) (μ6 : Mem) =>
   KM μ1 μ6 →
   ∃ x14, fr μ6 10 0 o = some x14 ∧
   wp_X9_tag μ6 a1 (fun (r17 : Int32) (μ15 : Mem) =>
   KM μ6 μ15 →
   kd μ15 x14 = 1 ∧
   ∃ c20 z21, c20 ≤ c - c7 ∧ z21 ≤ z - z8 ∧
   wp_J4_append_bf812 c20 z21 μ15 x14 r17 (fun (r23 : Option Nat) (μ19 : Mem) =>
   KM μ15 μ19 →
   wp_X9_fields μ19 a1 (fun (r29 : Int32) (μ27 : Mem) =>
   KM μ19 μ27 →
   (r29 ≤ 0 →
    post μ27) ∧ (¬ r29 ≤ 0 →
    ∃ x31, fr μ27 10 0 o = some x31 ∧
    kd μ27 x31 = 1 ∧
    ∃ c33 z34, c33 ≤ (c - c7) - c20 ∧ z34 ≤ (z - z8) - z21 ∧
    wp_J4_append_cf468 c33 z34 μ27 x31 40 (fun (r36 : Option Nat) (μ32 : Mem) =>
    KM μ27 μ32 →
    ∃ x40, fr μ32 10 1 o = some x40 ∧
    kd μ32 x40 = 7 ∧
    ∃ c42 z43, c42 ≤ ((c - c7) - c20) - c33 ∧ z43 ≤ ((z - z8) - z21) - z34 ∧
    wp_X4_push c42 z43 μ32 x40 a1 (fun (μ41 : Mem) =>
    KM μ32 μ41 →
    ∃ x48, fr μ41 10 1 o = some x48 ∧
    kd μ41 x48 = 7 ∧
    ∃ c50 z51, c50 ≤ (((c - c7) - c20) - c33) - c42 ∧ z51 ≤ (((z - z8) - z21) - z34) - z43 ∧
    wp_X4_push c50 z51 μ41 x48 0 (fun (μ49 : Mem) =>
    KM μ41 μ49 →
    post μ49))))))))))
set_option maxRecDepth 100000 in
set_option maxHeartbeats 4000000 in
theorem c_X8_writeHead (l : Launch) (T : Tb) (B : Nat) (c z : Nat) (μ : Mem) (o : Nat) (a1 : Int64) (post : Mem → Prop) (hw : wp_X8_writeHead c z μ o a1 post) : Met l yX8_writeHead (.code yX8_writeHead cX8_writeHead 3 none :: G) (rm_X8_writeHead c z) (Pm (Rl T B) T B μ [.ref o, .long a1]) (va_Qv (fun μ9 => post μ9 ∧ KM μ μ9) (Bm (Rl T B)) (Ai B)) c z (Ai B) := by
  refine mx_of RX8 rfl (by decide) (Nat.le_of_ble_eq_true rfl) ?_
  intro p e s m below meth c0 X hr hk hnm M ls hl
  have hl : lv_has ls 3 [(0, .ref o), (1, .long a1)] := hl
  unfold wp_X8_writeHead at hw
  have hKM : KM μ μ := KM.rf μ
  have hc : 0 + c ≤ c := by omega
  have hz : 0 + z ≤ z := by omega
  refine lv_lload_n X.1 X.2.1 dX8_writeHead_0 rfl (lv_at hl 1 rfl) ?_
  have hw2 := hw
  clear hw
  refine mx_ci M (mx_runS (n := 1) (As := [.long a1]) (rest := []) X M (c_X9_isCell l T B μ a1 _ hw2) kw_1038 kw_704 kw_86 kw_705 (by decide +kernel) rfl rfl ⟨Nat.le_of_ble_eq_true rfl, Nat.le_of_ble_eq_true rfl⟩ rfl hl.1 (Nat.le_of_ble_eq_true rfl) dX8_writeHead_1 ⟨(show 0 + 0 ≤ c by omega), (show 0 + 0 ≤ z by omega)⟩) (fun r3 μ1 H locs ⟨hw, hKM1⟩ M => ?_)
  replace hw := hw hKM1
  have hKM1_ := hKM.tr hKM1
  have hc : (0 + 0) + (c) ≤ c := by omega
  have hz : (0 + 0) + (z) ≤ z := by omega
  obtain ⟨hwf, hwt⟩ := hw
  refine lv_if_ne (tgt := 18) X.1 X.2.1 dX8_writeHead_4 (by decide) (fun hq => ?_) (fun hq => ?_)
  · have hw := hwt hq
    refine lv_aload_n X.1 X.2.1 dX8_writeHead_18 rfl (lv_at hl 0 rfl) ?_
    obtain ⟨hk4, hw⟩ := hw
    obtain ⟨x5, ex5, hw⟩ := hw
    refine mx_getr (C := RX8) (F := TX8) (N := 2) (ci := 10) X M 0 rfl in_X8 (by decide) rfl (by decide) kw_270 dX8_writeHead_19 hk4 ?_
    rw [ex5]
    refine lv_bipush (v := 99) X.1 X.2.1 dX8_writeHead_22 (by decide) ?_
    obtain ⟨hk11, hw⟩ := hw
    obtain ⟨c7, z8, hc7, hz8, hw⟩ := hw
    have hw9 := hw
    clear hw
    refine mx_cq M (mx_runV (n := 1) (As := [.int 99]) (rest := []) X M (c_J4_append_cf468 l T B c7 z8 μ1 x5 99 _ hw9) (mx_recv (C := RJ4) (F := TJ4) (N := 4) (ci := 0) X M rfl (by decide) hk11) kw_1076 kw_1077 kw_1078 kw_73 kw_1079 (by decide +kernel) rfl rfl ⟨Nat.le_of_ble_eq_true rfl, Nat.le_of_ble_eq_true rfl⟩ rfl hl.1 (Nat.le_of_ble_eq_true rfl) dX8_writeHead_24 ⟨(show (0 + 0) + c7 ≤ c by omega), (show (0 + 0) + z8 ≤ z by omega)⟩) (fun r10 μ6 H locs ⟨hw, hKM6⟩ M => ?_)
    replace hw := hw hKM6
    have hKM6_ := hKM1_.tr hKM6
    have hk12 := hKM6.at hk4
    have hk13 := hKM6.at hk11
    have hc : ((0 + 0) + c7) + (c - c7) ≤ c := by omega
    have hz : ((0 + 0) + z8) + (z - z8) ≤ z := by omega
    refine lv_pop X.1 X.2.1 dX8_writeHead_27 (mq_cat _) ?_
    refine lv_aload_n X.1 X.2.1 dX8_writeHead_28 rfl (lv_at hl 0 rfl) ?_
    obtain ⟨x14, ex14, hw⟩ := hw
    refine mx_getr (C := RX8) (F := TX8) (N := 2) (ci := 10) X M 0 rfl in_X8 (by decide) rfl (by decide) kw_270 dX8_writeHead_29 hk12 ?_
    rw [ex14]
    refine lv_lload_n X.1 X.2.1 dX8_writeHead_32 rfl (lv_at hl 1 rfl) ?_
    have hw16 := hw
    clear hw
    refine mx_ci M (mx_runS (n := 1) (As := [.long a1]) (rest := [.ref x14]) X M (c_X9_tag l T B μ6 a1 _ hw16) kw_1112 kw_707 kw_86 kw_708 (by decide +kernel) rfl rfl ⟨Nat.le_of_ble_eq_true rfl, Nat.le_of_ble_eq_true rfl⟩ rfl hl.1 (Nat.le_of_ble_eq_true rfl) dX8_writeHead_33 ⟨(show ((0 + 0) + c7) + 0 ≤ c by omega), (show ((0 + 0) + z8) + 0 ≤ z by omega)⟩) (fun r17 μ15 H locs ⟨hw, hKM15⟩ M => ?_)
    replace hw := hw hKM15
    have hKM15_ := hKM6_.tr hKM15
    have hk18 := hKM15.at hk12
    have hc : (((0 + 0) + c7) + 0) + (c - c7) ≤ c := by omega
    have hz : (((0 + 0) + z8) + 0) + (z - z8) ≤ z := by omega
    obtain ⟨hk24, hw⟩ := hw
    obtain ⟨c20, z21, hc20, hz21, hw⟩ := hw
    have hw22 := hw
    clear hw
    refine mx_cq M (mx_runV (n := 1) (As := [.int r17]) (rest := []) X M (c_J4_append_bf812 l T B c20 z21 μ15 x14 r17 _ hw22) (mx_recv (C := RJ4) (F := TJ4) (N := 4) (ci := 0) X M rfl (by decide) hk24) kw_1039 kw_1040 kw_1041 kw_73 kw_1042 (by decide +kernel) rfl rfl ⟨Nat.le_of_ble_eq_true rfl, Nat.le_of_ble_eq_true rfl⟩ rfl hl.1 (Nat.le_of_ble_eq_true rfl) dX8_writeHead_36 ⟨(show (((0 + 0) + c7) + 0) + c20 ≤ c by omega), (show (((0 + 0) + z8) + 0) + z21 ≤ z by omega)⟩) (fun r23 μ19 H locs ⟨hw, hKM19⟩ M => ?_)
    replace hw := hw hKM19
    have hKM19_ := hKM15_.tr hKM19
    have hk25 := hKM19.at hk18
    have hk26 := hKM19.at hk24
    have hc : ((((0 + 0) + c7) + 0) + c20) + ((c - c7) - c20) ≤ c := by omega
    have hz : ((((0 + 0) + z8) + 0) + z21) + ((z - z8) - z21) ≤ z := by omega
    refine lv_pop X.1 X.2.1 dX8_writeHead_39 (mq_cat _) ?_
    refine lv_lload_n X.1 X.2.1 dX8_writeHead_40 rfl (lv_at hl 1 rfl) ?_
    have hw28 := hw
    clear hw
    refine mx_ci M (mx_runS (n := 1) (As := [.long a1]) (rest := []) X M (c_X9_fields l T B μ19 a1 _ hw28) kw_1113 kw_711 kw_86 kw_712 (by decide +kernel) rfl rfl ⟨Nat.le_of_ble_eq_true rfl, Nat.le_of_ble_eq_true rfl⟩ rfl hl.1 (Nat.le_of_ble_eq_true rfl) dX8_writeHead_41 ⟨(show ((((0 + 0) + c7) + 0) + c20) + 0 ≤ c by omega), (show ((((0 + 0) + z8) + 0) + z21) + 0 ≤ z by omega)⟩) (fun r29 μ27 H locs ⟨hw, hKM27⟩ M => ?_)
    replace hw := hw hKM27
    have hKM27_ := hKM19_.tr hKM27
    have hk30 := hKM27.at hk25
    have hc : (((((0 + 0) + c7) + 0) + c20) + 0) + ((c - c7) - c20) ≤ c := by omega
    have hz : (((((0 + 0) + z8) + 0) + z21) + 0) + ((z - z8) - z21) ≤ z := by omega
    obtain ⟨hwt, hwf⟩ := hw
    refine lv_if_le (tgt := 73) X.1 X.2.1 dX8_writeHead_44 (by decide) (fun hq => ?_) (fun hq => ?_)
    · have hw := hwt hq
      exact mx_vret X hr hk M dX8_writeHead_73 (by omega) (by omega) ⟨hw, hKM27_⟩
    · have hw := hwf hq
      refine lv_aload_n X.1 X.2.1 dX8_writeHead_47 rfl (lv_at hl 0 rfl) ?_
      obtain ⟨x31, ex31, hw⟩ := hw
      refine mx_getr (C := RX8) (F := TX8) (N := 2) (ci := 10) X M 0 rfl in_X8 (by decide) rfl (by decide) kw_270 dX8_writeHead_48 hk30 ?_
      rw [ex31]
      refine lv_bipush (v := 40) X.1 X.2.1 dX8_writeHead_51 (by decide) ?_
      obtain ⟨hk37, hw⟩ := hw
      obtain ⟨c33, z34, hc33, hz34, hw⟩ := hw
      have hw35 := hw
      clear hw
      refine mx_cq M (mx_runV (n := 1) (As := [.int 40]) (rest := []) X M (c_J4_append_cf468 l T B c33 z34 μ27 x31 40 _ hw35) (mx_recv (C := RJ4) (F := TJ4) (N := 4) (ci := 0) X M rfl (by decide) hk37) kw_1076 kw_1077 kw_1078 kw_73 kw_1079 (by decide +kernel) rfl rfl ⟨Nat.le_of_ble_eq_true rfl, Nat.le_of_ble_eq_true rfl⟩ rfl hl.1 (Nat.le_of_ble_eq_true rfl) dX8_writeHead_53 ⟨(show (((((0 + 0) + c7) + 0) + c20) + 0) + c33 ≤ c by omega), (show (((((0 + 0) + z8) + 0) + z21) + 0) + z34 ≤ z by omega)⟩) (fun r36 μ32 H locs ⟨hw, hKM32⟩ M => ?_)
      replace hw := hw hKM32
      have hKM32_ := hKM27_.tr hKM32
      have hk38 := hKM32.at hk30
      have hk39 := hKM32.at hk37
      have hc : ((((((0 + 0) + c7) + 0) + c20) + 0) + c33) + (((c - c7) - c20) - c33) ≤ c := by omega
      have hz : ((((((0 + 0) + z8) + 0) + z21) + 0) + z34) + (((z - z8) - z21) - z34) ≤ z := by omega
      refine lv_pop X.1 X.2.1 dX8_writeHead_56 (mq_cat _) ?_
      refine lv_aload_n X.1 X.2.1 dX8_writeHead_57 rfl (lv_at hl 0 rfl) ?_
      obtain ⟨x40, ex40, hw⟩ := hw
      refine mx_getr (C := RX8) (F := TX8) (N := 2) (ci := 10) X M 1 rfl in_X8 (by decide) rfl (by decide) kw_271 dX8_writeHead_58 hk38 ?_
      rw [ex40]
      refine lv_lload_n X.1 X.2.1 dX8_writeHead_61 rfl (lv_at hl 1 rfl) ?_
      obtain ⟨hk45, hw⟩ := hw
      obtain ⟨c42, z43, hc42, hz43, hw⟩ := hw
      have hw44 := hw
      clear hw
      refine mx_cv M (mx_runV (n := 1) (As := [.long a1]) (rest := []) X M (c_X4_push l T B c42 z43 μ32 x40 a1 _ hw44) (mx_recv (C := RX4) (F := TX4) (N := 2) (ci := 6) X M rfl (by decide) hk45) kw_1114 kw_582 kw_583 kw_69 kw_584 (by decide +kernel) rfl rfl ⟨Nat.le_of_ble_eq_true rfl, Nat.le_of_ble_eq_true rfl⟩ rfl hl.1 (Nat.le_of_ble_eq_true rfl) dX8_writeHead_62 ⟨(show ((((((0 + 0) + c7) + 0) + c20) + 0) + c33) + c42 ≤ c by omega), (show ((((((0 + 0) + z8) + 0) + z21) + 0) + z34) + z43 ≤ z by omega)⟩) (fun μ41 H locs ⟨hw, hKM41⟩ M => ?_)
      replace hw := hw hKM41
      have hKM41_ := hKM32_.tr hKM41
      have hk46 := hKM41.at hk38
      have hk47 := hKM41.at hk45
      have hc : (((((((0 + 0) + c7) + 0) + c20) + 0) + c33) + c42) + ((((c - c7) - c20) - c33) - c42) ≤ c := by omega
      have hz : (((((((0 + 0) + z8) + 0) + z21) + 0) + z34) + z43) + ((((z - z8) - z21) - z34) - z43) ≤ z := by omega
      refine lv_aload_n X.1 X.2.1 dX8_writeHead_65 rfl (lv_at hl 0 rfl) ?_
      obtain ⟨x48, ex48, hw⟩ := hw
      refine mx_getr (C := RX8) (F := TX8) (N := 2) (ci := 10) X M 1 rfl in_X8 (by decide) rfl (by decide) kw_271 dX8_writeHead_66 hk46 ?_
      rw [ex48]
      refine lv_lconst (v := 0) X.1 X.2.1 dX8_writeHead_69 (by decide) ?_
      obtain ⟨hk53, hw⟩ := hw
      obtain ⟨c50, z51, hc50, hz51, hw⟩ := hw
      have hw52 := hw
      clear hw
      refine mx_cv M (mx_runV (n := 1) (As := [.long 0]) (rest := []) X M (c_X4_push l T B c50 z51 μ41 x48 0 _ hw52) (mx_recv (C := RX4) (F := TX4) (N := 2) (ci := 6) X M rfl (by decide) hk53) kw_1114 kw_582 kw_583 kw_69 kw_584 (by decide +kernel) rfl rfl ⟨Nat.le_of_ble_eq_true rfl, Nat.le_of_ble_eq_true rfl⟩ rfl hl.1 (Nat.le_of_ble_eq_true rfl) dX8_writeHead_70 ⟨(show (((((((0 + 0) + c7) + 0) + c20) + 0) + c33) + c42) + c50 ≤ c by omega), (show (((((((0 + 0) + z8) + 0) + z21) + 0) + z34) + z43) + z51 ≤ z by omega)⟩) (fun μ49 H locs ⟨hw, hKM49⟩ M => ?_)
      replace hw := hw hKM49
      have hKM49_ := hKM41_.tr hKM49
      have hk54 := hKM49.at hk46
      have hk55 := hKM49.at hk53
      have hc : ((((((((0 + 0) + c7) + 0) + c20) + 0) + c33) + c42) + c50) + (((((c - c7) - c20) - c33) - c42) - c50) ≤ c := by omega
      have hz : ((((((((0 + 0) + z8) + 0) + z21) + 0) + z34) + z43) + z51) + (((((z - z8) - z21) - z34) - z43) - z51) ≤ z := by omega
      exact mx_vret X hr hk M dX8_writeHead_73 (by omega) (by omega) ⟨hw, hKM49_⟩
  · have hw := hwf hq
    refine lv_aload_n X.1 X.2.1 dX8_writeHead_7 rfl (lv_at hl 0 rfl) ?_
    obtain ⟨hk56, hw⟩ := hw
    obtain ⟨x57, ex57, hw⟩ := hw
    refine mx_getr (C := RX8) (F := TX8) (N := 2) (ci := 10) X M 0 rfl in_X8 (by decide) rfl (by decide) kw_270 dX8_writeHead_8 hk56 ?_
    rw [ex57]
    refine lv_lload_n X.1 X.2.1 dX8_writeHead_11 rfl (lv_at hl 1 rfl) ?_
    refine lv_l2i X.1 X.2.1 dX8_writeHead_12 rfl ?_
    obtain ⟨hk63, hw⟩ := hw
    obtain ⟨c59, z60, hc59, hz60, hw⟩ := hw
    have hw61 := hw
    clear hw
    refine mx_cq M (mx_runV (n := 1) (As := [.int (Int64.toInt32 a1)]) (rest := []) X M (c_J4_append_bf812 l T B c59 z60 μ1 x57 (Int64.toInt32 a1) _ hw61) (mx_recv (C := RJ4) (F := TJ4) (N := 4) (ci := 0) X M rfl (by decide) hk63) kw_1039 kw_1040 kw_1041 kw_73 kw_1042 (by decide +kernel) rfl rfl ⟨Nat.le_of_ble_eq_true rfl, Nat.le_of_ble_eq_true rfl⟩ rfl hl.1 (Nat.le_of_ble_eq_true rfl) dX8_writeHead_13 ⟨(show (0 + 0) + c59 ≤ c by omega), (show (0 + 0) + z60 ≤ z by omega)⟩) (fun r62 μ58 H locs ⟨hw, hKM58⟩ M => ?_)
    replace hw := hw hKM58
    have hKM58_ := hKM1_.tr hKM58
    have hk64 := hKM58.at hk56
    have hk65 := hKM58.at hk63
    have hc : ((0 + 0) + c59) + (c - c59) ≤ c := by omega
    have hz : ((0 + 0) + z60) + (z - z60) ≤ z := by omega
    refine lv_pop X.1 X.2.1 dX8_writeHead_16 (mq_cat _) ?_
    exact mx_vret X hr hk M dX8_writeHead_17 (by omega) (by omega) ⟨hw, hKM58_⟩

abbrev rm_X8_writeMore (c z : Nat) : Room := { frames := 7, cells := c, slots := z, locals := 150 }
def wp_X8_writeMore_50 (o : Nat) (post : Mem → Prop) (c z : Nat) (μ : Mem) (x1 : Nat) (x2 : Int32) (x3 : Int64) : Prop :=
  kd μ o = 11 ∧
  ∃ x22, fr μ 10 1 o = some x22 ∧
  kd μ x22 = 7 ∧
  ∃ c24 z25, c24 ≤ c ∧ z25 ≤ z ∧
  wp_X4_push c24 z25 μ x22 x3 (fun (μ23 : Mem) =>
  KM μ μ23 →
  ∃ x30, fr μ23 10 1 o = some x30 ∧
  kd μ23 x30 = 7 ∧
  ∃ c32 z33, c32 ≤ c - c24 ∧ z33 ≤ z - z25 ∧
  wp_X4_push c32 z33 μ23 x30 (Int32.toInt64 (x2 + 1)) (fun (μ31 : Mem) =>
  KM μ23 μ31 →
  kd μ31 x1 = 5 ∧
  wp_X2_field μ31 x1 x3 x2 (fun (r40 : Int64) (μ38 : Mem) =>
  KM μ31 μ38 →
  ∃ c45 z46, c45 ≤ (c - c24) - c32 ∧ z46 ≤ (z - z25) - z33 ∧
  wp_X8_writeHead c45 z46 μ38 o r40 (fun (μ44 : Mem) =>
  KM μ38 μ44 →
  post μ44))))
def wp_X8_writeMore (c z : Nat) (μ : Mem) (o : Nat) (a1 : Nat) (post : Mem → Prop) : Prop :=
  kd μ o = 11 ∧
  ∃ x2, fr μ 10 1 o = some x2 ∧
  kd μ x2 = 7 ∧
  wp_X4_pop μ x2 (fun (r5 : Int64) (μ3 : Mem) =>
  KM μ μ3 →
  ∀ v9 : Int32, v9 = (Int64.toInt32 r5) →
  ∃ x10, fr μ3 10 1 o = some x10 ∧
  kd μ3 x10 = 7 ∧
  wp_X4_pop μ3 x10 (fun (r13 : Int64) (μ11 : Mem) =>
  KM μ3 μ11 →
  wp_X9_fields μ11 r13 (fun (r19 : Int32) (μ17 : Mem) =>
  KM μ11 μ17 →
  (v9 < r19 →
   (v9 ≤ 0 →
    wp_X8_writeMore_50 o post c z μ17 a1 v9 r13) ∧ (¬ v9 ≤ 0 →
    ∃ x50, fr μ17 10 0 o = some x50 ∧
    kd μ17 x50 = 1 ∧
    ∃ c52 z53, c52 ≤ c ∧ z53 ≤ z ∧
    wp_J4_append_cf468 c52 z53 μ17 x50 44 (fun (r55 : Option Nat) (μ51 : Mem) =>
    KM μ17 μ51 →
    wp_X8_writeMore_50 o post (c - c52) (z - z53) μ51 a1 v9 r13))) ∧ (¬ v9 < r19 →
   ∃ x59, fr μ17 10 0 o = some x59 ∧
   kd μ17 x59 = 1 ∧
   ∃ c61 z62, c61 ≤ c ∧ z62 ≤ z ∧
   wp_J4_append_cf468 c61 z62 μ17 x59 41 (fun (r64 : Option Nat) (μ60 : Mem) =>
   KM μ17 μ60 →
   post μ60)))))
set_option maxRecDepth 100000 in
set_option maxHeartbeats 4000000 in
theorem b_X8_writeMore_50 {T : Tb} {B : Nat} {p : Program} {l : Launch} {e : Env} {s : State} {m : MethodId} {args : Array Value} {below : List Frame} {meth : Method} {c0 : Code} {post : Mem → Prop} {μ0 : Mem} {o : Nat} {cT zT : Nat} (X : CX T B p m c0 cX8_writeMore 5 s args RX8) (hr : meth.sig.returnType = none) (hk : meth.locks = false) : ∀ (c z cells slots : Nat) (μ : Mem) (x1 : Nat) (x2 : Int32) (x3 : Int64) (H : Heap) (locs : List Loc) (ls : Array Slot), cells + c ≤ cT → slots + z ≤ zT → KM μ0 μ → wp_X8_writeMore_50 o post c z μ x1 x2 x3 → MG (Rl T B) B s μ H locs → lv_has ls 5 [(0, .ref o), (1, .ref x1), (2, .int x2), (3, .long x3)] → W p l e (rm_X8_writeMore cT zT) s m args below meth c0 H locs cells slots (MQ below (va_Qv (fun μ9 => post μ9 ∧ KM μ0 μ9) (Bm (Rl T B)) (Ai B)) args s cT zT (Ai B)) (F0 m 50 ls []) := by
  intro c z cells slots μ x1 x2 x3 H locs ls hc hz hKM hw M hl
  unfold wp_X8_writeMore_50 at hw
  refine lv_aload_n X.1 X.2.1 dX8_writeMore_50 rfl (lv_at hl 0 rfl) ?_
  obtain ⟨hk21, hw⟩ := hw
  obtain ⟨x22, ex22, hw⟩ := hw
  refine mx_getr (C := RX8) (F := TX8) (N := 2) (ci := 10) X M 1 rfl in_X8 (by decide) rfl (by decide) kw_271 dX8_writeMore_51 hk21 ?_
  rw [ex22]
  refine lv_lload_n X.1 X.2.1 dX8_writeMore_54 rfl (lv_at hl 3 rfl) ?_
  obtain ⟨hk27, hw⟩ := hw
  obtain ⟨c24, z25, hc24, hz25, hw⟩ := hw
  have hw26 := hw
  clear hw
  refine mx_cv M (mx_runV (n := 1) (As := [.long x3]) (rest := []) X M (c_X4_push l T B c24 z25 μ x22 x3 _ hw26) (mx_recv (C := RX4) (F := TX4) (N := 2) (ci := 6) X M rfl (by decide) hk27) kw_1114 kw_582 kw_583 kw_69 kw_584 (by decide +kernel) rfl rfl ⟨Nat.le_of_ble_eq_true rfl, Nat.le_of_ble_eq_true rfl⟩ rfl hl.1 (Nat.le_of_ble_eq_true rfl) dX8_writeMore_55 ⟨(show cells + c24 ≤ cT by omega), (show slots + z25 ≤ zT by omega)⟩) (fun μ23 H locs ⟨hw, hKM23⟩ M => ?_)
  replace hw := hw hKM23
  have hKM23_ := hKM.tr hKM23
  have hk28 := hKM23.at hk21
  have hk29 := hKM23.at hk27
  have hc : (cells + c24) + (c - c24) ≤ cT := by omega
  have hz : (slots + z25) + (z - z25) ≤ zT := by omega
  refine lv_aload_n X.1 X.2.1 dX8_writeMore_58 rfl (lv_at hl 0 rfl) ?_
  obtain ⟨x30, ex30, hw⟩ := hw
  refine mx_getr (C := RX8) (F := TX8) (N := 2) (ci := 10) X M 1 rfl in_X8 (by decide) rfl (by decide) kw_271 dX8_writeMore_59 hk28 ?_
  rw [ex30]
  refine lv_iload_n X.1 X.2.1 dX8_writeMore_62 rfl (lv_at hl 2 rfl) ?_
  refine lv_iconst (v := 1) X.1 X.2.1 dX8_writeMore_63 (by decide) ?_
  refine lv_iadd X.1 X.2.1 dX8_writeMore_64 ?_
  refine lv_i2l X.1 X.2.1 dX8_writeMore_65 rfl ?_
  obtain ⟨hk35, hw⟩ := hw
  obtain ⟨c32, z33, hc32, hz33, hw⟩ := hw
  have hw34 := hw
  clear hw
  refine mx_cv M (mx_runV (n := 1) (As := [.long (Int32.toInt64 (x2 + 1))]) (rest := []) X M (c_X4_push l T B c32 z33 μ23 x30 (Int32.toInt64 (x2 + 1)) _ hw34) (mx_recv (C := RX4) (F := TX4) (N := 2) (ci := 6) X M rfl (by decide) hk35) kw_1114 kw_582 kw_583 kw_69 kw_584 (by decide +kernel) rfl rfl ⟨Nat.le_of_ble_eq_true rfl, Nat.le_of_ble_eq_true rfl⟩ rfl hl.1 (Nat.le_of_ble_eq_true rfl) dX8_writeMore_66 ⟨(show (cells + c24) + c32 ≤ cT by omega), (show (slots + z25) + z33 ≤ zT by omega)⟩) (fun μ31 H locs ⟨hw, hKM31⟩ M => ?_)
  replace hw := hw hKM31
  have hKM31_ := hKM23_.tr hKM31
  have hk36 := hKM31.at hk28
  have hk37 := hKM31.at hk35
  have hc : ((cells + c24) + c32) + ((c - c24) - c32) ≤ cT := by omega
  have hz : ((slots + z25) + z33) + ((z - z25) - z33) ≤ zT := by omega
  refine lv_aload_n X.1 X.2.1 dX8_writeMore_69 rfl (lv_at hl 0 rfl) ?_
  refine lv_aload_n X.1 X.2.1 dX8_writeMore_70 rfl (lv_at hl 1 rfl) ?_
  refine lv_lload_n X.1 X.2.1 dX8_writeMore_71 rfl (lv_at hl 3 rfl) ?_
  refine lv_iload_n X.1 X.2.1 dX8_writeMore_72 rfl (lv_at hl 2 rfl) ?_
  obtain ⟨hk41, hw⟩ := hw
  have hw39 := hw
  clear hw
  refine mx_cl M (mx_runV (n := 2) (As := [.long x3, .int x2]) (rest := [.ref o]) X M (c_X2_field l T B μ31 x1 x3 x2 _ hw39) (mx_recv (C := RX2) (F := TX2) (N := 4) (ci := 4) X M rfl (by decide) hk41) kw_1121 kw_715 kw_716 kw_70 kw_717 (by decide +kernel) rfl rfl ⟨Nat.le_of_ble_eq_true rfl, Nat.le_of_ble_eq_true rfl⟩ rfl hl.1 (Nat.le_of_ble_eq_true rfl) dX8_writeMore_73 ⟨(show ((cells + c24) + c32) + 0 ≤ cT by omega), (show ((slots + z25) + z33) + 0 ≤ zT by omega)⟩) (fun r40 μ38 H locs ⟨hw, hKM38⟩ M => ?_)
  replace hw := hw hKM38
  have hKM38_ := hKM31_.tr hKM38
  have hk42 := hKM38.at hk36
  have hk43 := hKM38.at hk41
  have hc : (((cells + c24) + c32) + 0) + ((c - c24) - c32) ≤ cT := by omega
  have hz : (((slots + z25) + z33) + 0) + ((z - z25) - z33) ≤ zT := by omega
  obtain ⟨c45, z46, hc45, hz46, hw⟩ := hw
  have hw47 := hw
  clear hw
  refine mx_cv M (mx_runV (n := 1) (As := [.long r40]) (rest := []) X M (c_X8_writeHead l T B c45 z46 μ38 o r40 _ hw47) (mx_recv (C := RX8) (F := TX8) (N := 2) (ci := 10) X M rfl (by decide) hk42) kw_1034 kw_1036 kw_26 kw_71 kw_1037 (by decide +kernel) rfl rfl ⟨Nat.le_of_ble_eq_true rfl, Nat.le_of_ble_eq_true rfl⟩ rfl hl.1 (Nat.le_of_ble_eq_true rfl) dX8_writeMore_76 ⟨(show (((cells + c24) + c32) + 0) + c45 ≤ cT by omega), (show (((slots + z25) + z33) + 0) + z46 ≤ zT by omega)⟩) (fun μ44 H locs ⟨hw, hKM44⟩ M => ?_)
  replace hw := hw hKM44
  have hKM44_ := hKM38_.tr hKM44
  have hk48 := hKM44.at hk42
  have hk49 := hKM44.at hk43
  have hc : ((((cells + c24) + c32) + 0) + c45) + (((c - c24) - c32) - c45) ≤ cT := by omega
  have hz : ((((slots + z25) + z33) + 0) + z46) + (((z - z25) - z33) - z46) ≤ zT := by omega
  exact mx_vret X hr hk M dX8_writeMore_79 (by omega) (by omega) ⟨hw, hKM44_⟩
set_option maxRecDepth 100000 in
set_option maxHeartbeats 4000000 in
theorem c_X8_writeMore (l : Launch) (T : Tb) (B : Nat) (c z : Nat) (μ : Mem) (o : Nat) (a1 : Nat) (post : Mem → Prop) (hw : wp_X8_writeMore c z μ o a1 post) : Met l yX8_writeMore (.code yX8_writeMore cX8_writeMore 5 none :: G) (rm_X8_writeMore c z) (Pm (Rl T B) T B μ [.ref o, .ref a1]) (va_Qv (fun μ9 => post μ9 ∧ KM μ μ9) (Bm (Rl T B)) (Ai B)) c z (Ai B) := by
  refine mx_of RX8 rfl (by decide) (Nat.le_of_ble_eq_true rfl) ?_
  intro p e s m below meth c0 X hr hk hnm M ls hl
  have hl : lv_has ls 5 [(0, .ref o), (1, .ref a1)] := hl
  unfold wp_X8_writeMore at hw
  have hKM : KM μ μ := KM.rf μ
  have hc : 0 + c ≤ c := by omega
  have hz : 0 + z ≤ z := by omega
  refine lv_aload_n X.1 X.2.1 dX8_writeMore_0 rfl (lv_at hl 0 rfl) ?_
  obtain ⟨hk1, hw⟩ := hw
  obtain ⟨x2, ex2, hw⟩ := hw
  refine mx_getr (C := RX8) (F := TX8) (N := 2) (ci := 10) X M 1 rfl in_X8 (by decide) rfl (by decide) kw_271 dX8_writeMore_1 hk1 ?_
  rw [ex2]
  obtain ⟨hk6, hw⟩ := hw
  have hw4 := hw
  clear hw
  refine mx_cl M (mx_runV (n := 0) (As := []) (rest := []) X M (c_X4_pop l T B μ x2 _ hw4) (mx_recv (C := RX4) (F := TX4) (N := 2) (ci := 6) X M rfl (by decide) hk6) kw_1120 kw_645 kw_646 kw_69 kw_647 (by decide +kernel) rfl rfl ⟨Nat.le_of_ble_eq_true rfl, Nat.le_of_ble_eq_true rfl⟩ rfl hl.1 (Nat.le_of_ble_eq_true rfl) dX8_writeMore_4 ⟨(show 0 + 0 ≤ c by omega), (show 0 + 0 ≤ z by omega)⟩) (fun r5 μ3 H locs ⟨hw, hKM3⟩ M => ?_)
  replace hw := hw hKM3
  have hKM3_ := hKM.tr hKM3
  have hk7 := hKM3.at hk1
  have hk8 := hKM3.at hk6
  have hc : (0 + 0) + (c) ≤ c := by omega
  have hz : (0 + 0) + (z) ≤ z := by omega
  refine lv_l2i X.1 X.2.1 dX8_writeMore_7 rfl ?_
  refine lv_topi (fun v9 ev9 => ?_)
  replace hw := hw v9 ev9
  refine lv_istore_n (lv' := [(2, .int v9), (0, .ref o), (1, .ref a1)]) X.1 X.2.1 dX8_writeMore_8 rfl hl (by decide) rfl (fun ls hl => ?_)
  refine lv_aload_n X.1 X.2.1 dX8_writeMore_9 rfl (lv_at hl 1 rfl) ?_
  obtain ⟨x10, ex10, hw⟩ := hw
  refine mx_getr (C := RX8) (F := TX8) (N := 2) (ci := 10) X M 1 rfl in_X8 (by decide) rfl (by decide) kw_271 dX8_writeMore_10 hk7 ?_
  rw [ex10]
  obtain ⟨hk14, hw⟩ := hw
  have hw12 := hw
  clear hw
  refine mx_cl M (mx_runV (n := 0) (As := []) (rest := []) X M (c_X4_pop l T B μ3 x10 _ hw12) (mx_recv (C := RX4) (F := TX4) (N := 2) (ci := 6) X M rfl (by decide) hk14) kw_1120 kw_645 kw_646 kw_69 kw_647 (by decide +kernel) rfl rfl ⟨Nat.le_of_ble_eq_true rfl, Nat.le_of_ble_eq_true rfl⟩ rfl hl.1 (Nat.le_of_ble_eq_true rfl) dX8_writeMore_13 ⟨(show (0 + 0) + 0 ≤ c by omega), (show (0 + 0) + 0 ≤ z by omega)⟩) (fun r13 μ11 H locs ⟨hw, hKM11⟩ M => ?_)
  replace hw := hw hKM11
  have hKM11_ := hKM3_.tr hKM11
  have hk15 := hKM11.at hk7
  have hk16 := hKM11.at hk14
  have hc : ((0 + 0) + 0) + (c) ≤ c := by omega
  have hz : ((0 + 0) + 0) + (z) ≤ z := by omega
  refine lv_lstore_n (lv' := [(3, .long r13), (2, .int v9), (0, .ref o), (1, .ref a1)]) X.1 X.2.1 dX8_writeMore_16 rfl hl (by decide) rfl (fun ls hl => ?_)
  refine lv_iload_n X.1 X.2.1 dX8_writeMore_17 rfl (lv_at hl 1 rfl) ?_
  refine lv_lload_n X.1 X.2.1 dX8_writeMore_18 rfl (lv_at hl 0 rfl) ?_
  have hw18 := hw
  clear hw
  refine mx_ci M (mx_runS (n := 1) (As := [.long r13]) (rest := [.int v9]) X M (c_X9_fields l T B μ11 r13 _ hw18) kw_1113 kw_711 kw_86 kw_712 (by decide +kernel) rfl rfl ⟨Nat.le_of_ble_eq_true rfl, Nat.le_of_ble_eq_true rfl⟩ rfl hl.1 (Nat.le_of_ble_eq_true rfl) dX8_writeMore_19 ⟨(show ((0 + 0) + 0) + 0 ≤ c by omega), (show ((0 + 0) + 0) + 0 ≤ z by omega)⟩) (fun r19 μ17 H locs ⟨hw, hKM17⟩ M => ?_)
  replace hw := hw hKM17
  have hKM17_ := hKM11_.tr hKM17
  have hk20 := hKM17.at hk15
  have hc : (((0 + 0) + 0) + 0) + (c) ≤ c := by omega
  have hz : (((0 + 0) + 0) + 0) + (z) ≤ z := by omega
  obtain ⟨hwt, hwf⟩ := hw
  refine lv_icmp_lt (tgt := 36) X.1 X.2.1 dX8_writeMore_22 (by decide) (fun hq => ?_) (fun hq => ?_)
  · have hw := hwt hq
    refine lv_iload_n X.1 X.2.1 dX8_writeMore_36 rfl (lv_at hl 1 rfl) ?_
    obtain ⟨hwt, hwf⟩ := hw
    refine lv_if_le (tgt := 50) X.1 X.2.1 dX8_writeMore_37 (by decide) (fun hq => ?_) (fun hq => ?_)
    · have hw := hwt hq
      exact b_X8_writeMore_50 X hr hk _ _ _ _ μ17 a1 v9 r13 _ _ _ (by omega) (by omega) hKM17_ hw M (lv_sub hl [2, 3, 1, 0] rfl)
    · have hw := hwf hq
      refine lv_aload_n X.1 X.2.1 dX8_writeMore_40 rfl (lv_at hl 2 rfl) ?_
      obtain ⟨x50, ex50, hw⟩ := hw
      refine mx_getr (C := RX8) (F := TX8) (N := 2) (ci := 10) X M 0 rfl in_X8 (by decide) rfl (by decide) kw_270 dX8_writeMore_41 hk20 ?_
      rw [ex50]
      refine lv_bipush (v := 44) X.1 X.2.1 dX8_writeMore_44 (by decide) ?_
      obtain ⟨hk56, hw⟩ := hw
      obtain ⟨c52, z53, hc52, hz53, hw⟩ := hw
      have hw54 := hw
      clear hw
      refine mx_cq M (mx_runV (n := 1) (As := [.int 44]) (rest := []) X M (c_J4_append_cf468 l T B c52 z53 μ17 x50 44 _ hw54) (mx_recv (C := RJ4) (F := TJ4) (N := 4) (ci := 0) X M rfl (by decide) hk56) kw_1076 kw_1077 kw_1078 kw_73 kw_1079 (by decide +kernel) rfl rfl ⟨Nat.le_of_ble_eq_true rfl, Nat.le_of_ble_eq_true rfl⟩ rfl hl.1 (Nat.le_of_ble_eq_true rfl) dX8_writeMore_46 ⟨(show (((0 + 0) + 0) + 0) + c52 ≤ c by omega), (show (((0 + 0) + 0) + 0) + z53 ≤ z by omega)⟩) (fun r55 μ51 H locs ⟨hw, hKM51⟩ M => ?_)
      replace hw := hw hKM51
      have hKM51_ := hKM17_.tr hKM51
      have hk57 := hKM51.at hk20
      have hk58 := hKM51.at hk56
      have hc : ((((0 + 0) + 0) + 0) + c52) + (c - c52) ≤ c := by omega
      have hz : ((((0 + 0) + 0) + 0) + z53) + (z - z53) ≤ z := by omega
      refine lv_pop X.1 X.2.1 dX8_writeMore_49 (mq_cat _) ?_
      exact b_X8_writeMore_50 X hr hk _ _ _ _ μ51 a1 v9 r13 _ _ _ (by omega) (by omega) hKM51_ hw M (lv_sub hl [2, 3, 1, 0] rfl)
  · have hw := hwf hq
    refine lv_aload_n X.1 X.2.1 dX8_writeMore_25 rfl (lv_at hl 2 rfl) ?_
    obtain ⟨x59, ex59, hw⟩ := hw
    refine mx_getr (C := RX8) (F := TX8) (N := 2) (ci := 10) X M 0 rfl in_X8 (by decide) rfl (by decide) kw_270 dX8_writeMore_26 hk20 ?_
    rw [ex59]
    refine lv_bipush (v := 41) X.1 X.2.1 dX8_writeMore_29 (by decide) ?_
    obtain ⟨hk65, hw⟩ := hw
    obtain ⟨c61, z62, hc61, hz62, hw⟩ := hw
    have hw63 := hw
    clear hw
    refine mx_cq M (mx_runV (n := 1) (As := [.int 41]) (rest := []) X M (c_J4_append_cf468 l T B c61 z62 μ17 x59 41 _ hw63) (mx_recv (C := RJ4) (F := TJ4) (N := 4) (ci := 0) X M rfl (by decide) hk65) kw_1076 kw_1077 kw_1078 kw_73 kw_1079 (by decide +kernel) rfl rfl ⟨Nat.le_of_ble_eq_true rfl, Nat.le_of_ble_eq_true rfl⟩ rfl hl.1 (Nat.le_of_ble_eq_true rfl) dX8_writeMore_31 ⟨(show (((0 + 0) + 0) + 0) + c61 ≤ c by omega), (show (((0 + 0) + 0) + 0) + z62 ≤ z by omega)⟩) (fun r64 μ60 H locs ⟨hw, hKM60⟩ M => ?_)
    replace hw := hw hKM60
    have hKM60_ := hKM17_.tr hKM60
    have hk66 := hKM60.at hk20
    have hk67 := hKM60.at hk65
    have hc : ((((0 + 0) + 0) + 0) + c61) + (c - c61) ≤ c := by omega
    have hz : ((((0 + 0) + 0) + 0) + z62) + (z - z62) ≤ z := by omega
    refine lv_pop X.1 X.2.1 dX8_writeMore_34 (mq_cat _) ?_
    exact mx_vret X hr hk M dX8_writeMore_35 (by omega) (by omega) ⟨hw, hKM60_⟩

abbrev rm_X8_write (c z : Nat) : Room := { frames := 8, cells := c, slots := z, locals := 174 }
def wp_X8_write_69 (o : Nat) (post : Int32 → Mem → Prop) (c z : Nat) (μ : Mem) : Prop :=
  kd μ o = 11 ∧
  ∃ x22, fr μ 10 0 o = some x22 ∧
  kd μ x22 = 1 ∧
  wp_J4_length_8abf5 μ x22 (fun (r25 : Int32) (μ23 : Mem) =>
  KM μ μ23 →
  (r25 ≤ 1000 →
   ∃ x29, fr μ23 10 0 o = some x29 ∧
   kd μ23 x29 = 1 ∧
   wp_J4_length_8abf5 μ23 x29 (fun (r32 : Int32) (μ30 : Mem) =>
   KM μ23 μ30 →
   post r32 μ30)) ∧ (¬ r25 ≤ 1000 →
   ∃ x36, fr μ23 10 0 o = some x36 ∧
   kd μ23 x36 = 1 ∧
   ∃ c38 z39, c38 ≤ c ∧ z39 ≤ z ∧
   wp_J4_setLength_d00df c38 z39 μ23 x36 1000 (fun (μ37 : Mem) =>
   KM μ23 μ37 →
   ∃ x44, fr μ37 10 0 o = some x44 ∧
   kd μ37 x44 = 1 ∧
   wp_J4_length_8abf5 μ37 x44 (fun (r47 : Int32) (μ45 : Mem) =>
   KM μ37 μ45 →
   post r47 μ45))))
def wp_X8_write_24 (o : Nat) (post : Int32 → Mem → Prop) : Nat → Nat → Nat → Mem → Nat → Int32 → Prop
  | 0, _, _, _, _, _ => False
  | n + 1, c, z, μ, x3, x4 =>
    (1000 ≤ x4 →
     wp_X8_write_69 o post c z μ ) ∧ (¬ 1000 ≤ x4 →
     kd μ o = 11 ∧
     ∃ x52, fr μ 10 1 o = some x52 ∧
     kd μ x52 = 7 ∧
     wp_X4_size μ x52 (fun (r55 : Int32) (μ53 : Mem) =>
     KM μ μ53 →
     (r55 ≤ 0 →
      wp_X8_write_69 o post c z μ53 ) ∧ (¬ r55 ≤ 0 →
      ∃ x59, fr μ53 10 0 o = some x59 ∧
      kd μ53 x59 = 1 ∧
      wp_J4_length_8abf5 μ53 x59 (fun (r62 : Int32) (μ60 : Mem) =>
      KM μ53 μ60 →
      (r62 < 1000 →
       ∃ c67 z68, c67 ≤ c ∧ z68 ≤ z ∧
       wp_X8_writeMore c67 z68 μ60 o x3 (fun (μ66 : Mem) =>
       KM μ60 μ66 →
       ∀ v71 : Int32, v71 = x4 + 1 →
       wp_X8_write_24 o post n (c - c67) (z - z68) μ66 x3 v71)) ∧ (¬ r62 < 1000 →
       wp_X8_write_69 o post c z μ60 )))))
def wp_X8_write (c z : Nat) (μ : Mem) (o : Nat) (a1 : Int64) (a2 : Nat) (post : Int32 → Mem → Prop) : Prop :=
  kd μ o = 11 ∧
  ∃ x2, fr μ 10 0 o = some x2 ∧
  kd μ x2 = 1 ∧
  ∃ c4 z5, c4 ≤ c ∧ z5 ≤ z ∧
  wp_J4_setLength_d00df c4 z5 μ x2 0 (fun (μ3 : Mem) =>
  KM μ μ3 →
  ∃ x10, fr μ3 10 1 o = some x10 ∧
  kd μ3 x10 = 7 ∧
  wp_X4_shrink μ3 x10 0 (fun (μ11 : Mem) =>
  KM μ3 μ11 →
  ∃ c17 z18, c17 ≤ c - c4 ∧ z18 ≤ z - z5 ∧
  wp_X8_writeHead c17 z18 μ11 o a1 (fun (μ16 : Mem) =>
  KM μ11 μ16 →
  ∃ n72, wp_X8_write_24 o post n72 ((c - c4) - c17) ((z - z5) - z18) μ16 a2 0)))
set_option maxRecDepth 100000 in
set_option maxHeartbeats 4000000 in
theorem b_X8_write_69 {T : Tb} {B : Nat} {p : Program} {l : Launch} {e : Env} {s : State} {m : MethodId} {args : Array Value} {below : List Frame} {meth : Method} {c0 : Code} {post : Int32 → Mem → Prop} {μ0 : Mem} {o : Nat} {cT zT : Nat} (X : CX T B p m c0 cX8_write 5 s args RX8) (hr : meth.sig.returnType = (some .int)) (hk : meth.locks = false) : ∀ (c z cells slots : Nat) (μ : Mem) (H : Heap) (locs : List Loc) (ls : Array Slot), cells + c ≤ cT → slots + z ≤ zT → KM μ0 μ → wp_X8_write_69 o post c z μ  → MG (Rl T B) B s μ H locs → lv_has ls 5 [(0, .ref o)] → W p l e (rm_X8_write cT zT) s m args below meth c0 H locs cells slots (MQ below (va_Qi (fun r9 μ9 => post r9 μ9 ∧ KM μ0 μ9) (Bm (Rl T B)) (Ai B)) args s cT zT (Ai B)) (F0 m 69 ls []) := by
  intro c z cells slots μ  H locs ls hc hz hKM hw M hl
  unfold wp_X8_write_69 at hw
  refine lv_aload_n X.1 X.2.1 dX8_write_69 rfl (lv_at hl 0 rfl) ?_
  obtain ⟨hk21, hw⟩ := hw
  obtain ⟨x22, ex22, hw⟩ := hw
  refine mx_getr (C := RX8) (F := TX8) (N := 2) (ci := 10) X M 0 rfl in_X8 (by decide) rfl (by decide) kw_270 dX8_write_70 hk21 ?_
  rw [ex22]
  obtain ⟨hk26, hw⟩ := hw
  have hw24 := hw
  clear hw
  refine mx_ci M (mx_runV (n := 0) (As := []) (rest := []) X M (c_J4_length_8abf5 l T B μ x22 _ hw24) (mx_recv (C := RJ4) (F := TJ4) (N := 4) (ci := 0) X M rfl (by decide) hk26) kw_857 kw_858 kw_859 kw_73 kw_860 (by decide +kernel) rfl rfl ⟨Nat.le_of_ble_eq_true rfl, Nat.le_of_ble_eq_true rfl⟩ rfl hl.1 (Nat.le_of_ble_eq_true rfl) dX8_write_73 ⟨(show cells + 0 ≤ cT by omega), (show slots + 0 ≤ zT by omega)⟩) (fun r25 μ23 H locs ⟨hw, hKM23⟩ M => ?_)
  replace hw := hw hKM23
  have hKM23_ := hKM.tr hKM23
  have hk27 := hKM23.at hk21
  have hk28 := hKM23.at hk26
  have hc : (cells + 0) + (c) ≤ cT := by omega
  have hz : (slots + 0) + (z) ≤ zT := by omega
  refine lv_sipush (v := 1000) X.1 X.2.1 dX8_write_76 (by decide) ?_
  obtain ⟨hwt, hwf⟩ := hw
  refine lv_icmp_le (tgt := 92) X.1 X.2.1 dX8_write_79 (by decide) (fun hq => ?_) (fun hq => ?_)
  · have hw := hwt hq
    refine lv_aload_n X.1 X.2.1 dX8_write_92 rfl (lv_at hl 0 rfl) ?_
    obtain ⟨x29, ex29, hw⟩ := hw
    refine mx_getr (C := RX8) (F := TX8) (N := 2) (ci := 10) X M 0 rfl in_X8 (by decide) rfl (by decide) kw_270 dX8_write_93 hk27 ?_
    rw [ex29]
    obtain ⟨hk33, hw⟩ := hw
    have hw31 := hw
    clear hw
    refine mx_ci M (mx_runV (n := 0) (As := []) (rest := []) X M (c_J4_length_8abf5 l T B μ23 x29 _ hw31) (mx_recv (C := RJ4) (F := TJ4) (N := 4) (ci := 0) X M rfl (by decide) hk33) kw_857 kw_858 kw_859 kw_73 kw_860 (by decide +kernel) rfl rfl ⟨Nat.le_of_ble_eq_true rfl, Nat.le_of_ble_eq_true rfl⟩ rfl hl.1 (Nat.le_of_ble_eq_true rfl) dX8_write_96 ⟨(show (cells + 0) + 0 ≤ cT by omega), (show (slots + 0) + 0 ≤ zT by omega)⟩) (fun r32 μ30 H locs ⟨hw, hKM30⟩ M => ?_)
    replace hw := hw hKM30
    have hKM30_ := hKM23_.tr hKM30
    have hk34 := hKM30.at hk27
    have hk35 := hKM30.at hk33
    have hc : ((cells + 0) + 0) + (c) ≤ cT := by omega
    have hz : ((slots + 0) + 0) + (z) ≤ zT := by omega
    exact mx_iret X hr hk M dX8_write_99 (by omega) (by omega) ⟨hw, hKM30_⟩
  · have hw := hwf hq
    refine lv_aload_n X.1 X.2.1 dX8_write_82 rfl (lv_at hl 0 rfl) ?_
    obtain ⟨x36, ex36, hw⟩ := hw
    refine mx_getr (C := RX8) (F := TX8) (N := 2) (ci := 10) X M 0 rfl in_X8 (by decide) rfl (by decide) kw_270 dX8_write_83 hk27 ?_
    rw [ex36]
    refine lv_sipush (v := 1000) X.1 X.2.1 dX8_write_86 (by decide) ?_
    obtain ⟨hk41, hw⟩ := hw
    obtain ⟨c38, z39, hc38, hz39, hw⟩ := hw
    have hw40 := hw
    clear hw
    refine mx_cv M (mx_runV (n := 1) (As := [.int 1000]) (rest := []) X M (c_J4_setLength_d00df l T B c38 z39 μ23 x36 1000 _ hw40) (mx_recv (C := RJ4) (F := TJ4) (N := 4) (ci := 0) X M rfl (by decide) hk41) kw_990 kw_991 kw_992 kw_73 kw_993 (by decide +kernel) rfl rfl ⟨Nat.le_of_ble_eq_true rfl, Nat.le_of_ble_eq_true rfl⟩ rfl hl.1 (Nat.le_of_ble_eq_true rfl) dX8_write_89 ⟨(show (cells + 0) + c38 ≤ cT by omega), (show (slots + 0) + z39 ≤ zT by omega)⟩) (fun μ37 H locs ⟨hw, hKM37⟩ M => ?_)
    replace hw := hw hKM37
    have hKM37_ := hKM23_.tr hKM37
    have hk42 := hKM37.at hk27
    have hk43 := hKM37.at hk41
    have hc : ((cells + 0) + c38) + (c - c38) ≤ cT := by omega
    have hz : ((slots + 0) + z39) + (z - z39) ≤ zT := by omega
    refine lv_aload_n X.1 X.2.1 dX8_write_92 rfl (lv_at hl 0 rfl) ?_
    obtain ⟨x44, ex44, hw⟩ := hw
    refine mx_getr (C := RX8) (F := TX8) (N := 2) (ci := 10) X M 0 rfl in_X8 (by decide) rfl (by decide) kw_270 dX8_write_93 hk42 ?_
    rw [ex44]
    obtain ⟨hk48, hw⟩ := hw
    have hw46 := hw
    clear hw
    refine mx_ci M (mx_runV (n := 0) (As := []) (rest := []) X M (c_J4_length_8abf5 l T B μ37 x44 _ hw46) (mx_recv (C := RJ4) (F := TJ4) (N := 4) (ci := 0) X M rfl (by decide) hk48) kw_857 kw_858 kw_859 kw_73 kw_860 (by decide +kernel) rfl rfl ⟨Nat.le_of_ble_eq_true rfl, Nat.le_of_ble_eq_true rfl⟩ rfl hl.1 (Nat.le_of_ble_eq_true rfl) dX8_write_96 ⟨(show ((cells + 0) + c38) + 0 ≤ cT by omega), (show ((slots + 0) + z39) + 0 ≤ zT by omega)⟩) (fun r47 μ45 H locs ⟨hw, hKM45⟩ M => ?_)
    replace hw := hw hKM45
    have hKM45_ := hKM37_.tr hKM45
    have hk49 := hKM45.at hk42
    have hk50 := hKM45.at hk48
    have hc : (((cells + 0) + c38) + 0) + (c - c38) ≤ cT := by omega
    have hz : (((slots + 0) + z39) + 0) + (z - z39) ≤ zT := by omega
    exact mx_iret X hr hk M dX8_write_99 (by omega) (by omega) ⟨hw, hKM45_⟩
set_option maxRecDepth 100000 in
set_option maxHeartbeats 4000000 in
theorem b_X8_write_24 {T : Tb} {B : Nat} {p : Program} {l : Launch} {e : Env} {s : State} {m : MethodId} {args : Array Value} {below : List Frame} {meth : Method} {c0 : Code} {post : Int32 → Mem → Prop} {μ0 : Mem} {o : Nat} {cT zT : Nat} (X : CX T B p m c0 cX8_write 5 s args RX8) (hr : meth.sig.returnType = (some .int)) (hk : meth.locks = false) : ∀ (n : Nat) (c z cells slots : Nat) (μ : Mem) (x3 : Nat) (x4 : Int32) (H : Heap) (locs : List Loc) (ls : Array Slot), cells + c ≤ cT → slots + z ≤ zT → KM μ0 μ → wp_X8_write_24 o post n c z μ x3 x4 → MG (Rl T B) B s μ H locs → lv_has ls 5 [(0, .ref o), (3, .ref x3), (4, .int x4)] → W p l e (rm_X8_write cT zT) s m args below meth c0 H locs cells slots (MQ below (va_Qi (fun r9 μ9 => post r9 μ9 ∧ KM μ0 μ9) (Bm (Rl T B)) (Ai B)) args s cT zT (Ai B)) (F0 m 24 ls []) := by
  intro n
  induction n with
  | zero =>
    intro c z cells slots μ x3 x4 H locs ls hc hz hKM hw
    exact hw.elim
  | succ n ih =>
    intro c z cells slots μ x3 x4 H locs ls hc hz hKM hw M hl
    rw [wp_X8_write_24] at hw
    refine lv_iload X.1 X.2.1 dX8_write_24 (lv_at hl 2 rfl) ?_
    refine lv_sipush (v := 1000) X.1 X.2.1 dX8_write_26 (by decide) ?_
    obtain ⟨hwt, hwf⟩ := hw
    refine lv_icmp_ge (tgt := 69) X.1 X.2.1 dX8_write_29 (by decide) (fun hq => ?_) (fun hq => ?_)
    · have hw := hwt hq
      exact b_X8_write_69 X hr hk _ _ _ _ μ  _ _ _ (by omega) (by omega) hKM hw M (lv_sub hl [0] rfl)
    · have hw := hwf hq
      refine lv_aload_n X.1 X.2.1 dX8_write_32 rfl (lv_at hl 0 rfl) ?_
      obtain ⟨hk51, hw⟩ := hw
      obtain ⟨x52, ex52, hw⟩ := hw
      refine mx_getr (C := RX8) (F := TX8) (N := 2) (ci := 10) X M 1 rfl in_X8 (by decide) rfl (by decide) kw_271 dX8_write_33 hk51 ?_
      rw [ex52]
      obtain ⟨hk56, hw⟩ := hw
      have hw54 := hw
      clear hw
      refine mx_ci M (mx_runV (n := 0) (As := []) (rest := []) X M (c_X4_size l T B μ x52 _ hw54) (mx_recv (C := RX4) (F := TX4) (N := 2) (ci := 6) X M rfl (by decide) hk56) kw_1115 kw_578 kw_579 kw_69 kw_580 (by decide +kernel) rfl rfl ⟨Nat.le_of_ble_eq_true rfl, Nat.le_of_ble_eq_true rfl⟩ rfl hl.1 (Nat.le_of_ble_eq_true rfl) dX8_write_36 ⟨(show cells + 0 ≤ cT by omega), (show slots + 0 ≤ zT by omega)⟩) (fun r55 μ53 H locs ⟨hw, hKM53⟩ M => ?_)
      replace hw := hw hKM53
      have hKM53_ := hKM.tr hKM53
      have hk57 := hKM53.at hk51
      have hk58 := hKM53.at hk56
      have hc : (cells + 0) + (c) ≤ cT := by omega
      have hz : (slots + 0) + (z) ≤ zT := by omega
      obtain ⟨hwt, hwf⟩ := hw
      refine lv_if_le (tgt := 69) X.1 X.2.1 dX8_write_39 (by decide) (fun hq => ?_) (fun hq => ?_)
      · have hw := hwt hq
        exact b_X8_write_69 X hr hk _ _ _ _ μ53  _ _ _ (by omega) (by omega) hKM53_ hw M (lv_sub hl [0] rfl)
      · have hw := hwf hq
        refine lv_aload_n X.1 X.2.1 dX8_write_42 rfl (lv_at hl 0 rfl) ?_
        obtain ⟨x59, ex59, hw⟩ := hw
        refine mx_getr (C := RX8) (F := TX8) (N := 2) (ci := 10) X M 0 rfl in_X8 (by decide) rfl (by decide) kw_270 dX8_write_43 hk57 ?_
        rw [ex59]
        obtain ⟨hk63, hw⟩ := hw
        have hw61 := hw
        clear hw
        refine mx_ci M (mx_runV (n := 0) (As := []) (rest := []) X M (c_J4_length_8abf5 l T B μ53 x59 _ hw61) (mx_recv (C := RJ4) (F := TJ4) (N := 4) (ci := 0) X M rfl (by decide) hk63) kw_857 kw_858 kw_859 kw_73 kw_860 (by decide +kernel) rfl rfl ⟨Nat.le_of_ble_eq_true rfl, Nat.le_of_ble_eq_true rfl⟩ rfl hl.1 (Nat.le_of_ble_eq_true rfl) dX8_write_46 ⟨(show (cells + 0) + 0 ≤ cT by omega), (show (slots + 0) + 0 ≤ zT by omega)⟩) (fun r62 μ60 H locs ⟨hw, hKM60⟩ M => ?_)
        replace hw := hw hKM60
        have hKM60_ := hKM53_.tr hKM60
        have hk64 := hKM60.at hk57
        have hk65 := hKM60.at hk63
        have hc : ((cells + 0) + 0) + (c) ≤ cT := by omega
        have hz : ((slots + 0) + 0) + (z) ≤ zT := by omega
        refine lv_sipush (v := 1000) X.1 X.2.1 dX8_write_49 (by decide) ?_
        obtain ⟨hwt, hwf⟩ := hw
        refine lv_icmp_lt (tgt := 58) X.1 X.2.1 dX8_write_52 (by decide) (fun hq => ?_) (fun hq => ?_)
        · have hw := hwt hq
          refine lv_aload_n X.1 X.2.1 dX8_write_58 rfl (lv_at hl 0 rfl) ?_
          refine lv_aload_n X.1 X.2.1 dX8_write_59 rfl (lv_at hl 1 rfl) ?_
          obtain ⟨c67, z68, hc67, hz68, hw⟩ := hw
          have hw69 := hw
          clear hw
          refine mx_cv M (mx_runV (n := 1) (As := [.ref x3]) (rest := []) X M (c_X8_writeMore l T B c67 z68 μ60 o x3 _ hw69) (mx_recv (C := RX8) (F := TX8) (N := 2) (ci := 10) X M rfl (by decide) hk64) kw_1116 kw_1118 kw_27 kw_71 kw_1119 (by decide +kernel) rfl rfl ⟨Nat.le_of_ble_eq_true rfl, Nat.le_of_ble_eq_true rfl⟩ rfl hl.1 (Nat.le_of_ble_eq_true rfl) dX8_write_60 ⟨(show ((cells + 0) + 0) + c67 ≤ cT by omega), (show ((slots + 0) + 0) + z68 ≤ zT by omega)⟩) (fun μ66 H locs ⟨hw, hKM66⟩ M => ?_)
          replace hw := hw hKM66
          have hKM66_ := hKM60_.tr hKM66
          have hk70 := hKM66.at hk64
          have hc : (((cells + 0) + 0) + c67) + (c - c67) ≤ cT := by omega
          have hz : (((slots + 0) + 0) + z68) + (z - z68) ≤ zT := by omega
          obtain ⟨v71, ev71⟩ : ∃ y : Int32, y = x4 + 1 := ⟨_, rfl⟩
          replace hw := hw v71 ev71
          refine lv_iinc (v := v71) (lv' := [(4, .int v71), (0, .ref o), (3, .ref x3)]) X.1 X.2.1 dX8_write_63 hl (k := 2) rfl (by rw [ev71]; rfl) (by decide) rfl (fun ls hl => ?_)
          refine lv_goto (tgt := 24) X.1 X.2.1 dX8_write_66 (by decide) ?_
          exact ih _ _ _ _ μ66 x3 v71 _ _ _ (by omega) (by omega) hKM66_ hw M (lv_sub hl [1, 2, 0] rfl)
        · have hw := hwf hq
          refine lv_goto (tgt := 69) X.1 X.2.1 dX8_write_55 (by decide) ?_
          exact b_X8_write_69 X hr hk _ _ _ _ μ60  _ _ _ (by omega) (by omega) hKM60_ hw M (lv_sub hl [0] rfl)
set_option maxRecDepth 100000 in
set_option maxHeartbeats 4000000 in
theorem c_X8_write (l : Launch) (T : Tb) (B : Nat) (c z : Nat) (μ : Mem) (o : Nat) (a1 : Int64) (a2 : Nat) (post : Int32 → Mem → Prop) (hw : wp_X8_write c z μ o a1 a2 post) : Met l yX8_write (.code yX8_write cX8_write 5 (some .int) :: G) (rm_X8_write c z) (Pm (Rl T B) T B μ [.ref o, .long a1, .ref a2]) (va_Qi (fun r9 μ9 => post r9 μ9 ∧ KM μ μ9) (Bm (Rl T B)) (Ai B)) c z (Ai B) := by
  refine mx_of RX8 rfl (by decide) (Nat.le_of_ble_eq_true rfl) ?_
  intro p e s m below meth c0 X hr hk hnm M ls hl
  have hl : lv_has ls 5 [(0, .ref o), (1, .long a1), (3, .ref a2)] := hl
  unfold wp_X8_write at hw
  have hKM : KM μ μ := KM.rf μ
  have hc : 0 + c ≤ c := by omega
  have hz : 0 + z ≤ z := by omega
  refine lv_aload_n X.1 X.2.1 dX8_write_0 rfl (lv_at hl 0 rfl) ?_
  obtain ⟨hk1, hw⟩ := hw
  obtain ⟨x2, ex2, hw⟩ := hw
  refine mx_getr (C := RX8) (F := TX8) (N := 2) (ci := 10) X M 0 rfl in_X8 (by decide) rfl (by decide) kw_270 dX8_write_1 hk1 ?_
  rw [ex2]
  refine lv_iconst (v := 0) X.1 X.2.1 dX8_write_4 (by decide) ?_
  obtain ⟨hk7, hw⟩ := hw
  obtain ⟨c4, z5, hc4, hz5, hw⟩ := hw
  have hw6 := hw
  clear hw
  refine mx_cv M (mx_runV (n := 1) (As := [.int 0]) (rest := []) X M (c_J4_setLength_d00df l T B c4 z5 μ x2 0 _ hw6) (mx_recv (C := RJ4) (F := TJ4) (N := 4) (ci := 0) X M rfl (by decide) hk7) kw_990 kw_991 kw_992 kw_73 kw_993 (by decide +kernel) rfl rfl ⟨Nat.le_of_ble_eq_true rfl, Nat.le_of_ble_eq_true rfl⟩ rfl hl.1 (Nat.le_of_ble_eq_true rfl) dX8_write_5 ⟨(show 0 + c4 ≤ c by omega), (show 0 + z5 ≤ z by omega)⟩) (fun μ3 H locs ⟨hw, hKM3⟩ M => ?_)
  replace hw := hw hKM3
  have hKM3_ := hKM.tr hKM3
  have hk8 := hKM3.at hk1
  have hk9 := hKM3.at hk7
  have hc : (0 + c4) + (c - c4) ≤ c := by omega
  have hz : (0 + z5) + (z - z5) ≤ z := by omega
  refine lv_aload_n X.1 X.2.1 dX8_write_8 rfl (lv_at hl 0 rfl) ?_
  obtain ⟨x10, ex10, hw⟩ := hw
  refine mx_getr (C := RX8) (F := TX8) (N := 2) (ci := 10) X M 1 rfl in_X8 (by decide) rfl (by decide) kw_271 dX8_write_9 hk8 ?_
  rw [ex10]
  refine lv_iconst (v := 0) X.1 X.2.1 dX8_write_12 (by decide) ?_
  obtain ⟨hk13, hw⟩ := hw
  have hw12 := hw
  clear hw
  refine mx_cv M (mx_runV (n := 1) (As := [.int 0]) (rest := []) X M (c_X4_shrink l T B μ3 x10 0 _ hw12) (mx_recv (C := RX4) (F := TX4) (N := 2) (ci := 6) X M rfl (by decide) hk13) kw_1033 kw_526 kw_527 kw_69 kw_528 (by decide +kernel) rfl rfl ⟨Nat.le_of_ble_eq_true rfl, Nat.le_of_ble_eq_true rfl⟩ rfl hl.1 (Nat.le_of_ble_eq_true rfl) dX8_write_13 ⟨(show (0 + c4) + 0 ≤ c by omega), (show (0 + z5) + 0 ≤ z by omega)⟩) (fun μ11 H locs ⟨hw, hKM11⟩ M => ?_)
  replace hw := hw hKM11
  have hKM11_ := hKM3_.tr hKM11
  have hk14 := hKM11.at hk8
  have hk15 := hKM11.at hk13
  have hc : ((0 + c4) + 0) + (c - c4) ≤ c := by omega
  have hz : ((0 + z5) + 0) + (z - z5) ≤ z := by omega
  refine lv_aload_n X.1 X.2.1 dX8_write_16 rfl (lv_at hl 0 rfl) ?_
  refine lv_lload_n X.1 X.2.1 dX8_write_17 rfl (lv_at hl 1 rfl) ?_
  obtain ⟨c17, z18, hc17, hz18, hw⟩ := hw
  have hw19 := hw
  clear hw
  refine mx_cv M (mx_runV (n := 1) (As := [.long a1]) (rest := []) X M (c_X8_writeHead l T B c17 z18 μ11 o a1 _ hw19) (mx_recv (C := RX8) (F := TX8) (N := 2) (ci := 10) X M rfl (by decide) hk14) kw_1034 kw_1036 kw_26 kw_71 kw_1037 (by decide +kernel) rfl rfl ⟨Nat.le_of_ble_eq_true rfl, Nat.le_of_ble_eq_true rfl⟩ rfl hl.1 (Nat.le_of_ble_eq_true rfl) dX8_write_18 ⟨(show ((0 + c4) + 0) + c17 ≤ c by omega), (show ((0 + z5) + 0) + z18 ≤ z by omega)⟩) (fun μ16 H locs ⟨hw, hKM16⟩ M => ?_)
  replace hw := hw hKM16
  have hKM16_ := hKM11_.tr hKM16
  have hk20 := hKM16.at hk14
  have hc : (((0 + c4) + 0) + c17) + ((c - c4) - c17) ≤ c := by omega
  have hz : (((0 + z5) + 0) + z18) + ((z - z5) - z18) ≤ z := by omega
  refine lv_iconst (v := 0) X.1 X.2.1 dX8_write_21 (by decide) ?_
  refine lv_istore (lv' := [(4, .int 0), (0, .ref o), (1, .long a1), (3, .ref a2)]) X.1 X.2.1 dX8_write_22 hl (by decide) rfl (fun ls hl => ?_)
  obtain ⟨n72, hw⟩ := hw
  exact b_X8_write_24 X hr hk n72 _ _ _ _ μ16 a2 0 _ _ _ (by omega) (by omega) hKM16_ hw M (lv_sub hl [1, 3, 0] rfl)
