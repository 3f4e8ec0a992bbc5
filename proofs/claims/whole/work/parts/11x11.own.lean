abbrev rm_X10_takeRow (c z : Nat) : Room := { frames := 2, cells := c, slots := z, locals := 62 }
def wp_X10_takeRow (c z : Nat) (μ : Mem) (o : Nat) (post : Option Nat → Mem → Prop) : Prop :=
  kd μ o = 12 ∧
  ∃ x2, fr μ 11 0 o = some x2 ∧
  ∃ c4 z5, c4 ≤ c ∧ z5 ≤ z ∧
  wp_J7_copyOf_59c91 c4 z5 μ x2 (if (fi μ 11 1 o) < 0 then 0 else (fi μ 11 1 o)) (fun (r7 : Option Nat) (μ3 : Mem) =>
  KM μ μ3 →
  ∀ μ9 : Mem, μ9 = sfi μ3 11 1 o 0 →
  post r7 μ9)
set_option maxRecDepth 100000 in
set_option maxHeartbeats 4000000 in
theorem c_X10_takeRow (l : Launch) (T : Tb) (B : Nat) (c z : Nat) (μ : Mem) (o : Nat) (post : Option Nat → Mem → Prop) (hw : wp_X10_takeRow c z μ o post) : Met l yX10_takeRow (.code yX10_takeRow cX10_takeRow 2 (some (.array .int)) :: G) (rm_X10_takeRow c z) (Pm (Rl T B) T B μ [.ref o]) (va_Qq (fun r9 μ9 => post r9 μ9 ∧ KM μ μ9) (Bm (Rl T B)) (Ai B)) c z (Ai B) := by
  refine mx_of RX10 rfl (by decide) (Nat.le_of_ble_eq_true rfl) ?_
  intro p e s m below meth c0 X hr hk hnm M ls hl
  have hl : lv_has ls 2 [(0, .ref o)] := hl
  unfold wp_X10_takeRow at hw
  have hKM : KM μ μ := KM.rf μ
  have hc : 0 + c ≤ c := by omega
  have hz : 0 + z ≤ z := by omega
  refine lv_aload_n X.1 X.2.1 dX10_takeRow_0 rfl (lv_at hl 0 rfl) ?_
  obtain ⟨hk1, hw⟩ := hw
  obtain ⟨x2, ex2, hw⟩ := hw
  refine mx_getr (C := RX10) (F := TX10) (N := 6) (ci := 11) X M 0 rfl in_X10 (by decide) rfl (by decide) kw_248 dX10_takeRow_1 hk1 ?_
  rw [ex2]
  refine lv_aload_n X.1 X.2.1 dX10_takeRow_4 rfl (lv_at hl 0 rfl) ?_
  refine mx_geti (C := RX10) (F := TX10) (N := 6) (ci := 11) X M 1 rfl in_X10 (by decide) rfl (by decide) kw_249 dX10_takeRow_5 hk1 ?_
  refine lv_iconst (v := 0) X.1 X.2.1 dX10_takeRow_8 (by decide) ?_
  refine my_max X kw_279 kw_280 kw_75 kw_281 hl.1 (Nat.le_of_ble_eq_true rfl) (Nat.le_of_ble_eq_true rfl) (show 0 ≤ c by omega) (show 0 ≤ z by omega) dX10_takeRow_9 ?_
  obtain ⟨c4, z5, hc4, hz5, hw⟩ := hw
  have hw6 := hw
  clear hw
  refine mx_cq M (mx_runS (n := 2) (As := [.ref x2, .int (if (fi μ 11 1 o) < 0 then 0 else (fi μ 11 1 o))]) (rest := []) X M (c_J7_copyOf_59c91 l T B c4 z5 μ x2 (if (fi μ 11 1 o) < 0 then 0 else (fi μ 11 1 o)) _ hw6) kw_282 kw_283 kw_76 kw_284 (by decide +kernel) rfl rfl ⟨Nat.le_of_ble_eq_true rfl, Nat.le_of_ble_eq_true rfl⟩ rfl hl.1 (Nat.le_of_ble_eq_true rfl) dX10_takeRow_12 ⟨(show 0 + c4 ≤ c by omega), (show 0 + z5 ≤ z by omega)⟩) (fun r7 μ3 H locs ⟨hw, hKM3⟩ M => ?_)
  replace hw := hw hKM3
  have hKM3_ := hKM.tr hKM3
  have hk8 := hKM3.at hk1
  have hc : (0 + c4) + (c - c4) ≤ c := by omega
  have hz : (0 + z5) + (z - z5) ≤ z := by omega
  refine mq_astore_n (lv' := [(1, va_rf r7), (0, .ref o)]) X.1 X.2.1 dX10_takeRow_15 rfl hl (by decide) rfl (fun ls hl => ?_)
  refine lv_aload_n X.1 X.2.1 dX10_takeRow_16 rfl (lv_at hl 1 rfl) ?_
  refine lv_iconst (v := 0) X.1 X.2.1 dX10_takeRow_17 (by decide) ?_
  refine my_puti (C := RX10) (F := TX10) (N := 6) (ci := 11) X M 1 rfl in_X10 tyX10 tyX10_ok nmX10 (by decide) rfl (by decide) kw_249 (Or.inl rfl) dX10_takeRow_18 hk8 rfl rfl (fun μ9 H locs eμ9 M => ?_)
  replace hw := hw μ9 eμ9
  have hKM10 : KM μ μ9 := by rw [eμ9]; exact hKM3_
  have hk11 : kd μ9 o = 12 := by rw [eμ9]; exact hk8
  refine mq_aload_n X.1 X.2.1 dX10_takeRow_21 rfl (lv_at hl 0 rfl) ?_
  exact mx_aret (r := r7) X hr (Or.inr ⟨_, rfl⟩) hk M dX10_takeRow_22 (by omega) (by omega) ⟨hw, hKM10⟩

abbrev rm_X10_procedureAt : Room := { frames := 3, cells := 0, slots := 0, locals := 64 }
def wp_X10_procedureAt (μ : Mem) (o : Nat) (a1 : Int32) (post : Option Nat → Mem → Prop) : Prop :=
  kd μ o = 12 ∧
  ∃ x2, fr μ 11 2 o = some x2 ∧
  kd μ x2 = 2 ∧
  wp_Jx4a65c_size_8abf5 μ x2 (fun (r5 : Int32) (μ3 : Mem) =>
  KM μ μ3 →
  wp_X10_within μ3 a1 r5 (fun (r11 : Int32) (μ9 : Mem) =>
  KM μ3 μ9 →
  (r11 = 0 →
   post none μ9) ∧ (¬ r11 = 0 →
   ∃ x13, fr μ9 11 2 o = some x13 ∧
   kd μ9 x13 = 2 ∧
   wp_Jx4a65c_get_915e3 μ9 x13 a1 (fun (r16 : Option Nat) (μ14 : Mem) =>
   KM μ9 μ14 →
   ∃ x20, r16 = some x20 ∧
   kd μ14 x20 = 8 ∧
   post (some x20) μ14))))
set_option maxRecDepth 100000 in
set_option maxHeartbeats 4000000 in
theorem c_X10_procedureAt (l : Launch) (T : Tb) (B : Nat) (μ : Mem) (o : Nat) (a1 : Int32) (post : Option Nat → Mem → Prop) (hw : wp_X10_procedureAt μ o a1 post) : Met l yX10_procedureAt (.code yX10_procedureAt cX10_procedureAt 2 (some (.object "RedoMachine$Procedure")) :: G) rm_X10_procedureAt (Pm (Rl T B) T B μ [.ref o, .int a1]) (va_Qq (fun r9 μ9 => post r9 μ9 ∧ KM μ μ9) (Bm (Rl T B)) (Ai B)) 0 0 (Ai B) := by
  refine mx_of RX10 rfl (by decide) (Nat.le_of_ble_eq_true rfl) ?_
  intro p e s m below meth c0 X hr hk hnm M ls hl
  have hl : lv_has ls 2 [(0, .ref o), (1, .int a1)] := hl
  unfold wp_X10_procedureAt at hw
  have hKM : KM μ μ := KM.rf μ
  refine lv_iload_n X.1 X.2.1 dX10_procedureAt_0 rfl (lv_at hl 1 rfl) ?_
  refine lv_aload_n X.1 X.2.1 dX10_procedureAt_1 rfl (lv_at hl 0 rfl) ?_
  obtain ⟨hk1, hw⟩ := hw
  obtain ⟨x2, ex2, hw⟩ := hw
  refine mx_getr (C := RX10) (F := TX10) (N := 6) (ci := 11) X M 2 rfl in_X10 (by decide) rfl (by decide) kw_250 dX10_procedureAt_2 hk1 ?_
  rw [ex2]
  obtain ⟨hk6, hw⟩ := hw
  have hw4 := hw
  clear hw
  refine mx_ci M (mx_runV (n := 0) (As := []) (rest := [.int a1]) X M (c_Jx4a65c_size_8abf5 l T B μ x2 _ hw4) (mx_recv (C := RJx4a65c) (F := TJx4a65c) (N := 3) (ci := 1) X M rfl (by decide) hk6) kw_298 kw_299 kw_300 kw_68 kw_301 (by decide +kernel) rfl rfl ⟨Nat.le_of_ble_eq_true rfl, Nat.le_of_ble_eq_true rfl⟩ rfl hl.1 (Nat.le_of_ble_eq_true rfl) dX10_procedureAt_5 ⟨by decide, by decide⟩) (fun r5 μ3 H locs ⟨hw, hKM3⟩ M => ?_)
  replace hw := hw hKM3
  have hKM3_ := hKM.tr hKM3
  have hk7 := hKM3.at hk1
  have hk8 := hKM3.at hk6
  have hw10 := hw
  clear hw
  refine mx_ci M (mx_runS (n := 2) (As := [.int a1, .int r5]) (rest := []) X M (c_X10_within l T B μ3 a1 r5 _ hw10) kw_443 kw_309 kw_65 kw_310 (by decide +kernel) rfl rfl ⟨Nat.le_of_ble_eq_true rfl, Nat.le_of_ble_eq_true rfl⟩ rfl hl.1 (Nat.le_of_ble_eq_true rfl) dX10_procedureAt_8 ⟨by decide, by decide⟩) (fun r11 μ9 H locs ⟨hw, hKM9⟩ M => ?_)
  replace hw := hw hKM9
  have hKM9_ := hKM3_.tr hKM9
  have hk12 := hKM9.at hk7
  obtain ⟨hwt, hwf⟩ := hw
  refine lv_if_eq (tgt := 28) X.1 X.2.1 dX10_procedureAt_11 (by decide) (fun hq => ?_) (fun hq => ?_)
  · have hw := hwt hq
    refine lv_null X.1 X.2.1 dX10_procedureAt_28 ?_
    exact mx_aret (r := none) X hr (Or.inl ⟨_, rfl⟩) hk M dX10_procedureAt_29 (by decide) (by decide) ⟨hw, hKM9_⟩
  · have hw := hwf hq
    refine lv_aload_n X.1 X.2.1 dX10_procedureAt_14 rfl (lv_at hl 0 rfl) ?_
    obtain ⟨x13, ex13, hw⟩ := hw
    refine mx_getr (C := RX10) (F := TX10) (N := 6) (ci := 11) X M 2 rfl in_X10 (by decide) rfl (by decide) kw_250 dX10_procedureAt_15 hk12 ?_
    rw [ex13]
    refine lv_iload_n X.1 X.2.1 dX10_procedureAt_18 rfl (lv_at hl 1 rfl) ?_
    obtain ⟨hk17, hw⟩ := hw
    have hw15 := hw
    clear hw
    refine mx_cq M (mx_runV (n := 1) (As := [.int a1]) (rest := []) X M (c_Jx4a65c_get_915e3 l T B μ9 x13 a1 _ hw15) (mx_recv (C := RJx4a65c) (F := TJx4a65c) (N := 3) (ci := 1) X M rfl (by decide) hk17) kw_444 kw_445 kw_446 kw_68 kw_447 (by decide +kernel) rfl rfl ⟨Nat.le_of_ble_eq_true rfl, Nat.le_of_ble_eq_true rfl⟩ rfl hl.1 (Nat.le_of_ble_eq_true rfl) dX10_procedureAt_19 ⟨by decide, by decide⟩) (fun r16 μ14 H locs ⟨hw, hKM14⟩ M => ?_)
    replace hw := hw hKM14
    have hKM14_ := hKM9_.tr hKM14
    have hk18 := hKM14.at hk12
    have hk19 := hKM14.at hk17
    obtain ⟨x20, ex20, hw⟩ := hw
    subst ex20
    have hl : lv_has ls 2 [(0, .ref o), (1, .int a1)] := hl
    obtain ⟨hk21, hw⟩ := hw
    refine va_castY (C := RX5) X.1 X.2.1 X.2.2.2.1 (X.2.2.2.2.1 _ kw_311) (X.2.2.2.2.2.1.2.1 _ kw_1339) (mx_recv (C := RX5) (F := TX5) (N := 5) (ci := 7) X M rfl (by decide) hk21) dX10_procedureAt_22 ?_
    refine lv_goto (tgt := 29) X.1 X.2.1 dX10_procedureAt_25 (by decide) ?_
    exact mx_aret (r := (some x20)) X hr (Or.inl ⟨_, rfl⟩) hk M dX10_procedureAt_29 (by decide) (by decide) ⟨hw, hKM14_⟩

abbrev rm_X10_put : Room := { frames := 0, cells := 0, slots := 0, locals := 0 }
def wp_X10_put (μ : Mem) (o : Nat) (a1 : Int32) (post : Int32 → Mem → Prop) : Prop :=
  kd μ o = 12 ∧
  ((fi μ 11 1 o) < 0 →
   post 0 μ) ∧ (¬ (fi μ 11 1 o) < 0 →
   ∃ x2, fr μ 11 0 o = some x2 ∧
   isArr (kd μ x2) ∧
   ((fi μ 11 1 o) < (nI (al μ x2)) →
    ∃ x3, fr μ 11 0 o = some x3 ∧
    kd μ x3 = 102 ∧
    vp_in (fi μ 11 1 o) (al μ x3) ∧
    ∀ μ5 : Mem, μ5 = sai μ x3 (Int32.toNatClampNeg (fi μ 11 1 o)) a1 →
    ∀ μ9 : Mem, μ9 = sfi μ5 11 1 o ((fi μ5 11 1 o) + 1) →
    post 1 μ9) ∧ (¬ (fi μ 11 1 o) < (nI (al μ x2)) →
    post 0 μ))
set_option maxRecDepth 100000 in
set_option maxHeartbeats 4000000 in
theorem c_X10_put (l : Launch) (T : Tb) (B : Nat) (μ : Mem) (o : Nat) (a1 : Int32) (post : Int32 → Mem → Prop) (hw : wp_X10_put μ o a1 post) : Met l yX10_put (.code yX10_put cX10_put 2 (some .boolean) :: G) rm_X10_put (Pm (Rl T B) T B μ [.ref o, .int a1]) (va_Qi (fun r9 μ9 => post r9 μ9 ∧ KM μ μ9) (Bm (Rl T B)) (Ai B)) 0 0 (Ai B) := by
  refine mx_of RX10 rfl (by decide) (Nat.le_of_ble_eq_true rfl) ?_
  intro p e s m below meth c0 X hr hk hnm M ls hl
  have hl : lv_has ls 2 [(0, .ref o), (1, .int a1)] := hl
  unfold wp_X10_put at hw
  have hKM : KM μ μ := KM.rf μ
  refine lv_aload_n X.1 X.2.1 dX10_put_0 rfl (lv_at hl 0 rfl) ?_
  obtain ⟨hk1, hw⟩ := hw
  refine mx_geti (C := RX10) (F := TX10) (N := 6) (ci := 11) X M 1 rfl in_X10 (by decide) rfl (by decide) kw_249 dX10_put_1 hk1 ?_
  obtain ⟨hwt, hwf⟩ := hw
  refine lv_if_lt (tgt := 19) X.1 X.2.1 dX10_put_4 (by decide) (fun hq => ?_) (fun hq => ?_)
  · have hw := hwt hq
    refine lv_iconst (v := 0) X.1 X.2.1 dX10_put_19 (by decide) ?_
    exact mx_zret X hr hk M dX10_put_20 (by decide) (by decide) (by decide) ⟨hw, hKM⟩
  · have hw := hwf hq
    refine lv_aload_n X.1 X.2.1 dX10_put_7 rfl (lv_at hl 0 rfl) ?_
    refine mx_geti (C := RX10) (F := TX10) (N := 6) (ci := 11) X M 1 rfl in_X10 (by decide) rfl (by decide) kw_249 dX10_put_8 hk1 ?_
    refine lv_aload_n X.1 X.2.1 dX10_put_11 rfl (lv_at hl 0 rfl) ?_
    obtain ⟨x2, ex2, hw⟩ := hw
    refine mx_getr (C := RX10) (F := TX10) (N := 6) (ci := 11) X M 0 rfl in_X10 (by decide) rfl (by decide) kw_248 dX10_put_12 hk1 ?_
    rw [ex2]
    obtain ⟨hia, hw⟩ := hw
    refine mx_len X M dX10_put_15 hia ?_
    obtain ⟨hwt, hwf⟩ := hw
    refine lv_icmp_lt (tgt := 21) X.1 X.2.1 dX10_put_16 (by decide) (fun hq => ?_) (fun hq => ?_)
    · have hw := hwt hq
      refine lv_aload_n X.1 X.2.1 dX10_put_21 rfl (lv_at hl 0 rfl) ?_
      obtain ⟨x3, ex3, hw⟩ := hw
      refine mx_getr (C := RX10) (F := TX10) (N := 6) (ci := 11) X M 0 rfl in_X10 (by decide) rfl (by decide) kw_248 dX10_put_22 hk1 ?_
      rw [ex3]
      refine lv_aload_n X.1 X.2.1 dX10_put_25 rfl (lv_at hl 0 rfl) ?_
      refine mx_geti (C := RX10) (F := TX10) (N := 6) (ci := 11) X M 1 rfl in_X10 (by decide) rfl (by decide) kw_249 dX10_put_26 hk1 ?_
      refine lv_iload_n X.1 X.2.1 dX10_put_29 rfl (lv_at hl 1 rfl) ?_
      obtain ⟨hk4, hw⟩ := hw
      obtain ⟨hi, hw⟩ := hw
      refine my_ast X M dX10_put_30 hk4 hi (fun μ5 H locs eμ5 M => ?_)
      replace hw := hw μ5 eμ5
      have hKM6 : KM μ μ5 := by rw [eμ5]; exact hKM
      have hk7 : kd μ5 o = 12 := by rw [eμ5]; exact hk1
      have hk8 : kd μ5 x3 = 102 := by rw [eμ5]; exact hk4
      refine lv_aload_n X.1 X.2.1 dX10_put_31 rfl (lv_at hl 0 rfl) ?_
      refine lv_dup X.1 X.2.1 dX10_put_32 rfl ?_
      refine mx_geti (C := RX10) (F := TX10) (N := 6) (ci := 11) X M 1 rfl in_X10 (by decide) rfl (by decide) kw_249 dX10_put_33 hk7 ?_
      refine lv_iconst (v := 1) X.1 X.2.1 dX10_put_36 (by decide) ?_
      refine lv_iadd X.1 X.2.1 dX10_put_37 ?_
      refine my_puti (C := RX10) (F := TX10) (N := 6) (ci := 11) X M 1 rfl in_X10 tyX10 tyX10_ok nmX10 (by decide) rfl (by decide) kw_249 (Or.inl rfl) dX10_put_38 hk7 rfl rfl (fun μ9 H locs eμ9 M => ?_)
      replace hw := hw μ9 eμ9
      have hKM10 : KM μ μ9 := by rw [eμ9]; exact hKM6
      have hk11 : kd μ9 o = 12 := by rw [eμ9]; exact hk7
      refine lv_iconst (v := 1) X.1 X.2.1 dX10_put_41 (by decide) ?_
      exact mx_zret X hr hk M dX10_put_42 (by decide) (by decide) (by decide) ⟨hw, hKM10⟩
    · have hw := hwf hq
      refine lv_iconst (v := 0) X.1 X.2.1 dX10_put_19 (by decide) ?_
      exact mx_zret X hr hk M dX10_put_20 (by decide) (by decide) (by decide) ⟨hw, hKM⟩

abbrev rm_X10_procedure (c z : Nat) : Room := { frames := 7, cells := c, slots := z, locals := 171 }
def wp_X10_procedure (c z : Nat) (μ : Mem) (o : Nat) (a1 : Int32) (a2 : Int32) (a3 : Int32) (post : Int32 → Mem → Prop) : Prop :=
  kd μ o = 12 ∧
  ∃ c2 z3, c2 ≤ c ∧ z3 ≤ z ∧
  wp_X10_takeRow c2 z3 μ o (fun (r5 : Option Nat) (μ1 : Mem) =>
  KM μ μ1 →
  ∃ x8, fr μ1 11 2 o = some x8 ∧
  kd μ1 x8 = 2 ∧
  wp_Jx4a65c_size_8abf5 μ1 x8 (fun (r11 : Int32) (μ9 : Mem) =>
  KM μ1 μ9 →
  (60 ≤ r11 →
   post (-1) μ9) ∧ (¬ 60 ≤ r11 →
   ∃ x15, r5 = some x15 ∧
   wp_X5_fits μ9 a2 a3 x15 (fun (r18 : Int32) (μ16 : Mem) =>
   KM μ9 μ16 →
   (r18 = 0 →
    post (-1) μ16) ∧ (¬ r18 = 0 →
    ∃ x20, fr μ16 11 2 o = some x20 ∧
    1 ≤ c - c2 ∧ 5 ≤ z - z3 ∧ ∀ (q21 : Nat) (μ22 : Mem), kd μ16 q21 = 0 → μ22 = nob μ16 7 q21 →
    ∃ c27 z28, c27 ≤ (c - c2) - 1 ∧ z28 ≤ (z - z3) - 5 ∧
    wp_X5_init c27 z28 μ22 q21 a1 a2 a3 x15 (fun (μ26 : Mem) =>
    KM μ22 μ26 →
    kd μ26 x20 = 2 ∧
    ∃ c33 z34, c33 ≤ ((c - c2) - 1) - c27 ∧ z34 ≤ ((z - z3) - 5) - z28 ∧
    wp_Jx4a65c_add_9ea2d c33 z34 μ26 x20 q21 (fun (r36 : Int32) (μ32 : Mem) =>
    KM μ26 μ32 →
    ∃ x41, fr μ32 11 2 o = some x41 ∧
    kd μ32 x41 = 2 ∧
    wp_Jx4a65c_size_8abf5 μ32 x41 (fun (r44 : Int32) (μ42 : Mem) =>
    KM μ32 μ42 →
    post (r44 - 1) μ42))))))))
set_option maxRecDepth 100000 in
set_option maxHeartbeats 4000000 in
theorem c_X10_procedure (l : Launch) (T : Tb) (B : Nat) (c z : Nat) (μ : Mem) (o : Nat) (a1 : Int32) (a2 : Int32) (a3 : Int32) (post : Int32 → Mem → Prop) (hw : wp_X10_procedure c z μ o a1 a2 a3 post) : Met l yX10_procedure (.code yX10_procedure cX10_procedure 5 (some .int) :: G) (rm_X10_procedure c z) (Pm (Rl T B) T B μ [.ref o, .int a1, .int a2, .int a3]) (va_Qi (fun r9 μ9 => post r9 μ9 ∧ KM μ μ9) (Bm (Rl T B)) (Ai B)) c z (Ai B) := by
  refine mx_of RX10 rfl (by decide) (Nat.le_of_ble_eq_true rfl) ?_
  intro p e s m below meth c0 X hr hk hnm M ls hl
  have hl : lv_has ls 5 [(0, .ref o), (1, .int a1), (2, .int a2), (3, .int a3)] := hl
  unfold wp_X10_procedure at hw
  have hKM : KM μ μ := KM.rf μ
  have hc : 0 + c ≤ c := by omega
  have hz : 0 + z ≤ z := by omega
  refine lv_aload_n X.1 X.2.1 dX10_procedure_0 rfl (lv_at hl 0 rfl) ?_
  obtain ⟨hk6, hw⟩ := hw
  obtain ⟨c2, z3, hc2, hz3, hw⟩ := hw
  have hw4 := hw
  clear hw
  refine mx_cq M (mx_runV (n := 0) (As := []) (rest := []) X M (c_X10_takeRow l T B c2 z3 μ o _ hw4) (mx_recv (C := RX10) (F := TX10) (N := 6) (ci := 11) X M rfl (by decide) hk6) kw_275 kw_277 kw_0 kw_65 kw_278 (by decide +kernel) rfl rfl ⟨Nat.le_of_ble_eq_true rfl, Nat.le_of_ble_eq_true rfl⟩ rfl hl.1 (Nat.le_of_ble_eq_true rfl) dX10_procedure_1 ⟨(show 0 + c2 ≤ c by omega), (show 0 + z3 ≤ z by omega)⟩) (fun r5 μ1 H locs ⟨hw, hKM1⟩ M => ?_)
  replace hw := hw hKM1
  have hKM1_ := hKM.tr hKM1
  have hk7 := hKM1.at hk6
  have hc : (0 + c2) + (c - c2) ≤ c := by omega
  have hz : (0 + z3) + (z - z3) ≤ z := by omega
  refine mq_astore (lv' := [(4, va_rf r5), (0, .ref o), (1, .int a1), (2, .int a2), (3, .int a3)]) X.1 X.2.1 dX10_procedure_4 hl (by decide) rfl (fun ls hl => ?_)
  refine lv_aload_n X.1 X.2.1 dX10_procedure_6 rfl (lv_at hl 1 rfl) ?_
  obtain ⟨x8, ex8, hw⟩ := hw
  refine mx_getr (C := RX10) (F := TX10) (N := 6) (ci := 11) X M 2 rfl in_X10 (by decide) rfl (by decide) kw_250 dX10_procedure_7 hk7 ?_
  rw [ex8]
  obtain ⟨hk12, hw⟩ := hw
  have hw10 := hw
  clear hw
  refine mx_ci M (mx_runV (n := 0) (As := []) (rest := []) X M (c_Jx4a65c_size_8abf5 l T B μ1 x8 _ hw10) (mx_recv (C := RJx4a65c) (F := TJx4a65c) (N := 3) (ci := 1) X M rfl (by decide) hk12) kw_298 kw_299 kw_300 kw_68 kw_301 (by decide +kernel) rfl rfl ⟨Nat.le_of_ble_eq_true rfl, Nat.le_of_ble_eq_true rfl⟩ rfl hl.1 (Nat.le_of_ble_eq_true rfl) dX10_procedure_10 ⟨(show (0 + c2) + 0 ≤ c by omega), (show (0 + z3) + 0 ≤ z by omega)⟩) (fun r11 μ9 H locs ⟨hw, hKM9⟩ M => ?_)
  replace hw := hw hKM9
  have hKM9_ := hKM1_.tr hKM9
  have hk13 := hKM9.at hk7
  have hk14 := hKM9.at hk12
  have hc : ((0 + c2) + 0) + (c - c2) ≤ c := by omega
  have hz : ((0 + z3) + 0) + (z - z3) ≤ z := by omega
  refine lv_bipush (v := 60) X.1 X.2.1 dX10_procedure_13 (by decide) ?_
  obtain ⟨hwt, hwf⟩ := hw
  refine lv_icmp_ge (tgt := 28) X.1 X.2.1 dX10_procedure_15 (by decide) (fun hq => ?_) (fun hq => ?_)
  · have hw := hwt hq
    refine lv_iconst (v := (-1)) X.1 X.2.1 dX10_procedure_28 (by decide) ?_
    exact mx_iret X hr hk M dX10_procedure_29 (by omega) (by omega) ⟨hw, hKM9_⟩
  · have hw := hwf hq
    refine lv_iload_n X.1 X.2.1 dX10_procedure_18 rfl (lv_at hl 3 rfl) ?_
    refine lv_iload_n X.1 X.2.1 dX10_procedure_19 rfl (lv_at hl 4 rfl) ?_
    refine mq_aload X.1 X.2.1 dX10_procedure_20 (lv_at hl 0 rfl) ?_
    obtain ⟨x15, ex15, hw⟩ := hw
    subst ex15
    have hl : lv_has ls 5 [(4, .ref x15), (0, .ref o), (1, .int a1), (2, .int a2), (3, .int a3)] := hl
    have hw17 := hw
    clear hw
    refine mx_ci M (mx_runS (n := 3) (As := [.int a2, .int a3, .ref x15]) (rest := []) X M (c_X5_fits l T B μ9 a2 a3 x15 _ hw17) kw_302 kw_303 kw_78 kw_304 (by decide +kernel) rfl rfl ⟨Nat.le_of_ble_eq_true rfl, Nat.le_of_ble_eq_true rfl⟩ rfl hl.1 (Nat.le_of_ble_eq_true rfl) dX10_procedure_22 ⟨(show ((0 + c2) + 0) + 0 ≤ c by omega), (show ((0 + z3) + 0) + 0 ≤ z by omega)⟩) (fun r18 μ16 H locs ⟨hw, hKM16⟩ M => ?_)
    replace hw := hw hKM16
    have hKM16_ := hKM9_.tr hKM16
    have hk19 := hKM16.at hk13
    have hc : (((0 + c2) + 0) + 0) + (c - c2) ≤ c := by omega
    have hz : (((0 + z3) + 0) + 0) + (z - z3) ≤ z := by omega
    obtain ⟨hwf, hwt⟩ := hw
    refine lv_if_ne (tgt := 30) X.1 X.2.1 dX10_procedure_25 (by decide) (fun hq => ?_) (fun hq => ?_)
    · have hw := hwt hq
      refine lv_aload_n X.1 X.2.1 dX10_procedure_30 rfl (lv_at hl 1 rfl) ?_
      obtain ⟨x20, ex20, hw⟩ := hw
      refine mx_getr (C := RX10) (F := TX10) (N := 6) (ci := 11) X M 2 rfl in_X10 (by decide) rfl (by decide) kw_250 dX10_procedure_31 hk19 ?_
      rw [ex20]
      obtain ⟨hb1, hb2, hw⟩ := hw
      refine my_new (C := RX5) (F := TX5) (N := 5) (ci := 7) X M rfl in_X5 tyX5 tyX5_ok df_X5 (by decide) kw_311 kw_312 kw_78 dX10_procedure_34 (show (((0 + c2) + 0) + 0) + 1 ≤ c by omega) (show (((0 + z3) + 0) + 0) + 5 ≤ z by omega) (fun q21 μ22 H hq21 eμ22 M => ?_)
      replace hw := hw q21 μ22 hq21 eμ22
      have hKM23 : KM μ μ22 := by rw [eμ22]; exact hKM16_.tr (KM_nob hq21)
      have hk24 : kd μ22 o = 12 := by rw [eμ22]; exact (KM_nob hq21).at hk19
      have hk25 : kd μ22 q21 = 8 := by rw [eμ22]; exact kd_nob
      have hc : ((((0 + c2) + 0) + 0) + 1) + ((c - c2) - 1) ≤ c := by omega
      have hz : ((((0 + z3) + 0) + 0) + 5) + ((z - z3) - 5) ≤ z := by omega
      refine lv_dup X.1 X.2.1 dX10_procedure_37 rfl ?_
      refine lv_iload_n X.1 X.2.1 dX10_procedure_38 rfl (lv_at hl 2 rfl) ?_
      refine lv_iload_n X.1 X.2.1 dX10_procedure_39 rfl (lv_at hl 3 rfl) ?_
      refine lv_iload_n X.1 X.2.1 dX10_procedure_40 rfl (lv_at hl 4 rfl) ?_
      refine lv_aload X.1 X.2.1 dX10_procedure_41 (lv_at hl 0 rfl) ?_
      obtain ⟨c27, z28, hc27, hz28, hw⟩ := hw
      have hw29 := hw
      clear hw
      refine mx_cv M (mx_runI (n := 4) (As := [.int a1, .int a2, .int a3, .ref x15]) (rest := [.ref q21, .ref x20]) X M (c_X5_init l T B c27 z28 μ22 q21 a1 a2 a3 x15 _ hw29) kw_313 kw_314 rfl kw_78 kw_315 (by decide +kernel) rfl rfl ⟨Nat.le_of_ble_eq_true rfl, Nat.le_of_ble_eq_true rfl⟩ rfl hl.1 (Nat.le_of_ble_eq_true rfl) dX10_procedure_43 ⟨(show ((((0 + c2) + 0) + 0) + 1) + c27 ≤ c by omega), (show ((((0 + z3) + 0) + 0) + 5) + z28 ≤ z by omega)⟩) (fun μ26 H locs ⟨hw, hKM26⟩ M => ?_)
      replace hw := hw hKM26
      have hKM26_ := hKM23.tr hKM26
      have hk30 := hKM26.at hk24
      have hk31 := hKM26.at hk25
      have hc : (((((0 + c2) + 0) + 0) + 1) + c27) + (((c - c2) - 1) - c27) ≤ c := by omega
      have hz : (((((0 + z3) + 0) + 0) + 5) + z28) + (((z - z3) - 5) - z28) ≤ z := by omega
      obtain ⟨hk37, hw⟩ := hw
      obtain ⟨c33, z34, hc33, hz34, hw⟩ := hw
      have hw35 := hw
      clear hw
      refine mx_ci M (mx_runV (n := 1) (As := [.ref q21]) (rest := []) X M (c_Jx4a65c_add_9ea2d l T B c33 z34 μ26 x20 q21 _ hw35) (mx_recv (C := RJx4a65c) (F := TJx4a65c) (N := 3) (ci := 1) X M rfl (by decide) hk37) kw_341 kw_342 kw_343 kw_68 kw_344 (by decide +kernel) rfl rfl ⟨Nat.le_of_ble_eq_true rfl, Nat.le_of_ble_eq_true rfl⟩ rfl hl.1 (Nat.le_of_ble_eq_true rfl) dX10_procedure_46 ⟨(show (((((0 + c2) + 0) + 0) + 1) + c27) + c33 ≤ c by omega), (show (((((0 + z3) + 0) + 0) + 5) + z28) + z34 ≤ z by omega)⟩) (fun r36 μ32 H locs ⟨hw, hKM32⟩ M => ?_)
      replace hw := hw hKM32
      have hKM32_ := hKM26_.tr hKM32
      have hk38 := hKM32.at hk30
      have hk39 := hKM32.at hk31
      have hk40 := hKM32.at hk37
      have hc : ((((((0 + c2) + 0) + 0) + 1) + c27) + c33) + ((((c - c2) - 1) - c27) - c33) ≤ c := by omega
      have hz : ((((((0 + z3) + 0) + 0) + 5) + z28) + z34) + ((((z - z3) - 5) - z28) - z34) ≤ z := by omega
      refine lv_pop X.1 X.2.1 dX10_procedure_49 rfl ?_
      refine lv_aload_n X.1 X.2.1 dX10_procedure_50 rfl (lv_at hl 1 rfl) ?_
      obtain ⟨x41, ex41, hw⟩ := hw
      refine mx_getr (C := RX10) (F := TX10) (N := 6) (ci := 11) X M 2 rfl in_X10 (by decide) rfl (by decide) kw_250 dX10_procedure_51 hk38 ?_
      rw [ex41]
      obtain ⟨hk45, hw⟩ := hw
      have hw43 := hw
      clear hw
      refine mx_ci M (mx_runV (n := 0) (As := []) (rest := []) X M (c_Jx4a65c_size_8abf5 l T B μ32 x41 _ hw43) (mx_recv (C := RJx4a65c) (F := TJx4a65c) (N := 3) (ci := 1) X M rfl (by decide) hk45) kw_298 kw_299 kw_300 kw_68 kw_301 (by decide +kernel) rfl rfl ⟨Nat.le_of_ble_eq_true rfl, Nat.le_of_ble_eq_true rfl⟩ rfl hl.1 (Nat.le_of_ble_eq_true rfl) dX10_procedure_54 ⟨(show ((((((0 + c2) + 0) + 0) + 1) + c27) + c33) + 0 ≤ c by omega), (show ((((((0 + z3) + 0) + 0) + 5) + z28) + z34) + 0 ≤ z by omega)⟩) (fun r44 μ42 H locs ⟨hw, hKM42⟩ M => ?_)
      replace hw := hw hKM42
      have hKM42_ := hKM32_.tr hKM42
      have hk46 := hKM42.at hk38
      have hk47 := hKM42.at hk45
      have hc : (((((((0 + c2) + 0) + 0) + 1) + c27) + c33) + 0) + ((((c - c2) - 1) - c27) - c33) ≤ c := by omega
      have hz : (((((((0 + z3) + 0) + 0) + 5) + z28) + z34) + 0) + ((((z - z3) - 5) - z28) - z34) ≤ z := by omega
      refine lv_iconst (v := 1) X.1 X.2.1 dX10_procedure_57 (by decide) ?_
      refine lv_isub X.1 X.2.1 dX10_procedure_58 ?_
      exact mx_iret X hr hk M dX10_procedure_59 (by omega) (by omega) ⟨hw, hKM42_⟩
    · have hw := hwf hq
      refine lv_iconst (v := (-1)) X.1 X.2.1 dX10_procedure_28 (by decide) ?_
      exact mx_iret X hr hk M dX10_procedure_29 (by omega) (by omega) ⟨hw, hKM16_⟩

abbrev rm_X10_add (c z : Nat) : Room := { frames := 8, cells := c, slots := z, locals := 192 }
def wp_X10_add_37 (o : Nat) (post : Int32 → Mem → Prop) (c z : Nat) (μ : Mem) (x1 : Int32) (x7 : Nat) : Prop :=
  kd μ o = 12 ∧
  wp_X10_procedureAt μ o x1 (fun (r20 : Option Nat) (μ18 : Mem) =>
  KM μ μ18 →
  (r20 = none →
   post (-1) μ18) ∧ (∀ x23, r20 = some x23 →
   (2000 ≤ (fi μ18 11 3 o) →
    post (-1) μ18) ∧ (¬ 2000 ≤ (fi μ18 11 3 o) →
    kd μ18 x23 = 8 ∧
    wp_X5_admits μ18 x23 x7 (fun (r26 : Int32) (μ24 : Mem) =>
    KM μ18 μ24 →
    (r26 = 0 →
     post (-1) μ24) ∧ (¬ r26 = 0 →
     ∀ μ30 : Mem, μ30 = sfi μ24 11 3 o ((fi μ24 11 3 o) + 1) →
     ∃ c35 z36, c35 ≤ c ∧ z36 ≤ z ∧
     wp_X5_append c35 z36 μ30 x23 x7 (fun (r38 : Int32) (μ34 : Mem) =>
     KM μ30 μ34 →
     post r38 μ34))))))
def wp_X10_add (c z : Nat) (μ : Mem) (o : Nat) (a1 : Int32) (a2 : Int32) (a3 : Int32) (a4 : Int32) (a5 : Int32) (a6 : Int32) (post : Int32 → Mem → Prop) : Prop :=
  1 ≤ c ∧ 7 ≤ z ∧ ∀ (q1 : Nat) (μ2 : Mem), kd μ q1 = 0 → μ2 = nob μ 5 q1 →
  kd μ2 o = 12 ∧
  ∃ c6 z7, c6 ≤ c - 1 ∧ z7 ≤ z - 7 ∧
  wp_X10_takeRow c6 z7 μ2 o (fun (r9 : Option Nat) (μ5 : Mem) =>
  KM μ2 μ5 →
  ∃ x13, r9 = some x13 ∧
  wp_X3_init μ5 q1 a2 a3 a4 a5 a6 x13 (fun (μ14 : Mem) =>
  KM μ5 μ14 →
  (a2 = 10 →
   wp_X10_procedureAt μ14 o a3 (fun (r43 : Option Nat) (μ41 : Mem) =>
   KM μ14 μ41 →
   ∀ μ46 : Mem, μ46 = sfr μ41 5 6 q1 r43 →
   wp_X10_add_37 o post ((c - 1) - c6) ((z - 7) - z7) μ46 a1 q1)) ∧ (¬ a2 = 10 →
   wp_X10_add_37 o post ((c - 1) - c6) ((z - 7) - z7) μ14 a1 q1)))
set_option maxRecDepth 100000 in
set_option maxHeartbeats 4000000 in
theorem b_X10_add_37 {T : Tb} {B : Nat} {p : Program} {l : Launch} {e : Env} {s : State} {m : MethodId} {args : Array Value} {below : List Frame} {meth : Method} {c0 : Code} {post : Int32 → Mem → Prop} {μ0 : Mem} {o : Nat} {cT zT : Nat} (X : CX T B p m c0 cX10_add 9 s args RX10) (hr : meth.sig.returnType = (some .int)) (hk : meth.locks = false) : ∀ (c z cells slots : Nat) (μ : Mem) (x1 : Int32) (x7 : Nat) (H : Heap) (locs : List Loc) (ls : Array Slot), cells + c ≤ cT → slots + z ≤ zT → KM μ0 μ → wp_X10_add_37 o post c z μ x1 x7 → MG (Rl T B) B s μ H locs → lv_has ls 9 [(0, .ref o), (1, .int x1), (7, .ref x7)] → W p l e (rm_X10_add cT zT) s m args below meth c0 H locs cells slots (MQ below (va_Qi (fun r9 μ9 => post r9 μ9 ∧ KM μ0 μ9) (Bm (Rl T B)) (Ai B)) args s cT zT (Ai B)) (F0 m 37 ls []) := by
  intro c z cells slots μ x1 x7 H locs ls hc hz hKM hw M hl
  unfold wp_X10_add_37 at hw
  refine lv_aload_n X.1 X.2.1 dX10_add_37 rfl (lv_at hl 0 rfl) ?_
  refine lv_iload_n X.1 X.2.1 dX10_add_38 rfl (lv_at hl 1 rfl) ?_
  obtain ⟨hk21, hw⟩ := hw
  have hw19 := hw
  clear hw
  refine mx_cq M (mx_runV (n := 1) (As := [.int x1]) (rest := []) X M (c_X10_procedureAt l T B μ o x1 _ hw19) (mx_recv (C := RX10) (F := TX10) (N := 6) (ci := 11) X M rfl (by decide) hk21) kw_439 kw_441 kw_4 kw_65 kw_442 (by decide +kernel) rfl rfl ⟨Nat.le_of_ble_eq_true rfl, Nat.le_of_ble_eq_true rfl⟩ rfl hl.1 (Nat.le_of_ble_eq_true rfl) dX10_add_39 ⟨(show cells + 0 ≤ cT by omega), (show slots + 0 ≤ zT by omega)⟩) (fun r20 μ18 H locs ⟨hw, hKM18⟩ M => ?_)
  replace hw := hw hKM18
  have hKM18_ := hKM.tr hKM18
  have hk22 := hKM18.at hk21
  have hc : (cells + 0) + (c) ≤ cT := by omega
  have hz : (slots + 0) + (z) ≤ zT := by omega
  refine mq_astore (lv' := [(8, va_rf r20), (0, .ref o), (1, .int x1), (7, .ref x7)]) X.1 X.2.1 dX10_add_42 hl (by decide) rfl (fun ls hl => ?_)
  refine mq_aload X.1 X.2.1 dX10_add_44 (lv_at hl 0 rfl) ?_
  obtain ⟨hwn, hws⟩ := hw
  rcases r20 with _ | x23
  · have hw := hwn rfl
    have hl : lv_has ls 9 [(8, .null), (0, .ref o), (1, .int x1), (7, .ref x7)] := hl
    refine lv_ifnullN (tgt := 69) X.1 X.2.1 dX10_add_46 (by decide) ?_
    refine lv_iconst (v := (-1)) X.1 X.2.1 dX10_add_69 (by decide) ?_
    exact mx_iret X hr hk M dX10_add_70 (by omega) (by omega) ⟨hw, hKM18_⟩
  · have hw := hws x23 rfl
    have hl : lv_has ls 9 [(8, .ref x23), (0, .ref o), (1, .int x1), (7, .ref x7)] := hl
    refine lv_ifnull X.1 X.2.1 dX10_add_46 ?_
    refine lv_aload_n X.1 X.2.1 dX10_add_49 rfl (lv_at hl 1 rfl) ?_
    refine mx_geti (C := RX10) (F := TX10) (N := 6) (ci := 11) X M 3 rfl in_X10 (by decide) rfl (by decide) kw_251 dX10_add_50 hk22 ?_
    refine lv_sipush (v := 2000) X.1 X.2.1 dX10_add_53 (by decide) ?_
    obtain ⟨hwt, hwf⟩ := hw
    refine lv_icmp_ge (tgt := 69) X.1 X.2.1 dX10_add_56 (by decide) (fun hq => ?_) (fun hq => ?_)
    · have hw := hwt hq
      refine lv_iconst (v := (-1)) X.1 X.2.1 dX10_add_69 (by decide) ?_
      exact mx_iret X hr hk M dX10_add_70 (by omega) (by omega) ⟨hw, hKM18_⟩
    · have hw := hwf hq
      refine lv_aload X.1 X.2.1 dX10_add_59 (lv_at hl 0 rfl) ?_
      refine lv_aload X.1 X.2.1 dX10_add_61 (lv_at hl 3 rfl) ?_
      obtain ⟨hk27, hw⟩ := hw
      have hw25 := hw
      clear hw
      refine mx_ci M (mx_runV (n := 1) (As := [.ref x7]) (rest := []) X M (c_X5_admits l T B μ18 x23 x7 _ hw25) (mx_recv (C := RX5) (F := TX5) (N := 5) (ci := 7) X M rfl (by decide) hk27) kw_458 kw_459 kw_460 kw_78 kw_461 (by decide +kernel) rfl rfl ⟨Nat.le_of_ble_eq_true rfl, Nat.le_of_ble_eq_true rfl⟩ rfl hl.1 (Nat.le_of_ble_eq_true rfl) dX10_add_63 ⟨(show (cells + 0) + 0 ≤ cT by omega), (show (slots + 0) + 0 ≤ zT by omega)⟩) (fun r26 μ24 H locs ⟨hw, hKM24⟩ M => ?_)
      replace hw := hw hKM24
      have hKM24_ := hKM18_.tr hKM24
      have hk28 := hKM24.at hk22
      have hk29 := hKM24.at hk27
      have hc : ((cells + 0) + 0) + (c) ≤ cT := by omega
      have hz : ((slots + 0) + 0) + (z) ≤ zT := by omega
      obtain ⟨hwf, hwt⟩ := hw
      refine lv_if_ne (tgt := 71) X.1 X.2.1 dX10_add_66 (by decide) (fun hq => ?_) (fun hq => ?_)
      · have hw := hwt hq
        refine lv_aload_n X.1 X.2.1 dX10_add_71 rfl (lv_at hl 1 rfl) ?_
        refine lv_dup X.1 X.2.1 dX10_add_72 rfl ?_
        refine mx_geti (C := RX10) (F := TX10) (N := 6) (ci := 11) X M 3 rfl in_X10 (by decide) rfl (by decide) kw_251 dX10_add_73 hk28 ?_
        refine lv_iconst (v := 1) X.1 X.2.1 dX10_add_76 (by decide) ?_
        refine lv_iadd X.1 X.2.1 dX10_add_77 ?_
        refine my_puti (C := RX10) (F := TX10) (N := 6) (ci := 11) X M 3 rfl in_X10 tyX10 tyX10_ok nmX10 (by decide) rfl (by decide) kw_251 (Or.inl rfl) dX10_add_78 hk28 rfl rfl (fun μ30 H locs eμ30 M => ?_)
        replace hw := hw μ30 eμ30
        have hKM31 : KM μ0 μ30 := by rw [eμ30]; exact hKM24_
        have hk32 : kd μ30 o = 12 := by rw [eμ30]; exact hk28
        have hk33 : kd μ30 x23 = 8 := by rw [eμ30]; exact hk29
        refine lv_aload X.1 X.2.1 dX10_add_81 (lv_at hl 0 rfl) ?_
        refine lv_aload X.1 X.2.1 dX10_add_83 (lv_at hl 3 rfl) ?_
        obtain ⟨c35, z36, hc35, hz36, hw⟩ := hw
        have hw37 := hw
        clear hw
        refine mx_ci M (mx_runV (n := 1) (As := [.ref x7]) (rest := []) X M (c_X5_append l T B c35 z36 μ30 x23 x7 _ hw37) (mx_recv (C := RX5) (F := TX5) (N := 5) (ci := 7) X M rfl (by decide) hk33) kw_470 kw_471 kw_472 kw_78 kw_473 (by decide +kernel) rfl rfl ⟨Nat.le_of_ble_eq_true rfl, Nat.le_of_ble_eq_true rfl⟩ rfl hl.1 (Nat.le_of_ble_eq_true rfl) dX10_add_85 ⟨(show ((cells + 0) + 0) + c35 ≤ cT by omega), (show ((slots + 0) + 0) + z36 ≤ zT by omega)⟩) (fun r38 μ34 H locs ⟨hw, hKM34⟩ M => ?_)
        replace hw := hw hKM34
        have hKM34_ := hKM31.tr hKM34
        have hk39 := hKM34.at hk32
        have hk40 := hKM34.at hk33
        have hc : (((cells + 0) + 0) + c35) + (c - c35) ≤ cT := by omega
        have hz : (((slots + 0) + 0) + z36) + (z - z36) ≤ zT := by omega
        exact mx_iret X hr hk M dX10_add_88 (by omega) (by omega) ⟨hw, hKM34_⟩
      · have hw := hwf hq
        refine lv_iconst (v := (-1)) X.1 X.2.1 dX10_add_69 (by decide) ?_
        exact mx_iret X hr hk M dX10_add_70 (by omega) (by omega) ⟨hw, hKM24_⟩
set_option maxRecDepth 100000 in
set_option maxHeartbeats 4000000 in
theorem c_X10_add (l : Launch) (T : Tb) (B : Nat) (c z : Nat) (μ : Mem) (o : Nat) (a1 : Int32) (a2 : Int32) (a3 : Int32) (a4 : Int32) (a5 : Int32) (a6 : Int32) (post : Int32 → Mem → Prop) (hw : wp_X10_add c z μ o a1 a2 a3 a4 a5 a6 post) : Met l yX10_add (.code yX10_add cX10_add 9 (some .int) :: G) (rm_X10_add c z) (Pm (Rl T B) T B μ [.ref o, .int a1, .int a2, .int a3, .int a4, .int a5, .int a6]) (va_Qi (fun r9 μ9 => post r9 μ9 ∧ KM μ μ9) (Bm (Rl T B)) (Ai B)) c z (Ai B) := by
  refine mx_of RX10 rfl (by decide) (Nat.le_of_ble_eq_true rfl) ?_
  intro p e s m below meth c0 X hr hk hnm M ls hl
  have hl : lv_has ls 9 [(0, .ref o), (1, .int a1), (2, .int a2), (3, .int a3), (4, .int a4), (5, .int a5), (6, .int a6)] := hl
  unfold wp_X10_add at hw
  have hKM : KM μ μ := KM.rf μ
  have hc : 0 + c ≤ c := by omega
  have hz : 0 + z ≤ z := by omega
  obtain ⟨hb1, hb2, hw⟩ := hw
  refine my_new (C := RX3) (F := TX3) (N := 7) (ci := 5) X M rfl in_X3 tyX3 tyX3_ok df_X3 (by decide) kw_397 kw_398 kw_80 dX10_add_0 (show 0 + 1 ≤ c by omega) (show 0 + 7 ≤ z by omega) (fun q1 μ2 H hq1 eμ2 M => ?_)
  replace hw := hw q1 μ2 hq1 eμ2
  have hKM3 : KM μ μ2 := by rw [eμ2]; exact hKM.tr (KM_nob hq1)
  have hk4 : kd μ2 q1 = 6 := by rw [eμ2]; exact kd_nob
  have hc : (0 + 1) + (c - 1) ≤ c := by omega
  have hz : (0 + 7) + (z - 7) ≤ z := by omega
  refine lv_dup X.1 X.2.1 dX10_add_3 rfl ?_
  refine lv_iload_n X.1 X.2.1 dX10_add_4 rfl (lv_at hl 2 rfl) ?_
  refine lv_iload_n X.1 X.2.1 dX10_add_5 rfl (lv_at hl 3 rfl) ?_
  refine lv_iload X.1 X.2.1 dX10_add_6 (lv_at hl 4 rfl) ?_
  refine lv_iload X.1 X.2.1 dX10_add_8 (lv_at hl 5 rfl) ?_
  refine lv_iload X.1 X.2.1 dX10_add_10 (lv_at hl 6 rfl) ?_
  refine lv_aload_n X.1 X.2.1 dX10_add_12 rfl (lv_at hl 0 rfl) ?_
  obtain ⟨hk10, hw⟩ := hw
  obtain ⟨c6, z7, hc6, hz7, hw⟩ := hw
  have hw8 := hw
  clear hw
  refine mx_cq M (mx_runV (n := 0) (As := []) (rest := [.int a6, .int a5, .int a4, .int a3, .int a2, .ref q1, .ref q1]) X M (c_X10_takeRow l T B c6 z7 μ2 o _ hw8) (mx_recv (C := RX10) (F := TX10) (N := 6) (ci := 11) X M rfl (by decide) hk10) kw_275 kw_277 kw_0 kw_65 kw_278 (by decide +kernel) rfl rfl ⟨Nat.le_of_ble_eq_true rfl, Nat.le_of_ble_eq_true rfl⟩ rfl hl.1 (Nat.le_of_ble_eq_true rfl) dX10_add_13 ⟨(show (0 + 1) + c6 ≤ c by omega), (show (0 + 7) + z7 ≤ z by omega)⟩) (fun r9 μ5 H locs ⟨hw, hKM5⟩ M => ?_)
  replace hw := hw hKM5
  have hKM5_ := hKM3.tr hKM5
  have hk11 := hKM5.at hk4
  have hk12 := hKM5.at hk10
  have hc : ((0 + 1) + c6) + ((c - 1) - c6) ≤ c := by omega
  have hz : ((0 + 7) + z7) + ((z - 7) - z7) ≤ z := by omega
  obtain ⟨x13, ex13, hw⟩ := hw
  subst ex13
  have hl : lv_has ls 9 [(0, .ref o), (1, .int a1), (2, .int a2), (3, .int a3), (4, .int a4), (5, .int a5), (6, .int a6)] := hl
  have hw15 := hw
  clear hw
  refine mx_cv M (mx_runI (n := 6) (As := [.int a2, .int a3, .int a4, .int a5, .int a6, .ref x13]) (rest := [.ref q1]) X M (c_X3_init l T B μ5 q1 a2 a3 a4 a5 a6 x13 _ hw15) kw_399 kw_400 rfl kw_80 kw_401 (by decide +kernel) rfl rfl ⟨Nat.le_of_ble_eq_true rfl, Nat.le_of_ble_eq_true rfl⟩ rfl hl.1 (Nat.le_of_ble_eq_true rfl) dX10_add_16 ⟨(show ((0 + 1) + c6) + 0 ≤ c by omega), (show ((0 + 7) + z7) + 0 ≤ z by omega)⟩) (fun μ14 H locs ⟨hw, hKM14⟩ M => ?_)
  replace hw := hw hKM14
  have hKM14_ := hKM5_.tr hKM14
  have hk16 := hKM14.at hk11
  have hk17 := hKM14.at hk12
  have hc : (((0 + 1) + c6) + 0) + ((c - 1) - c6) ≤ c := by omega
  have hz : (((0 + 7) + z7) + 0) + ((z - 7) - z7) ≤ z := by omega
  refine lv_astore (lv' := [(7, .ref q1), (0, .ref o), (1, .int a1), (2, .int a2), (3, .int a3), (4, .int a4), (5, .int a5), (6, .int a6)]) X.1 X.2.1 dX10_add_19 hl (by decide) rfl (fun ls hl => ?_)
  refine lv_iload_n X.1 X.2.1 dX10_add_21 rfl (lv_at hl 3 rfl) ?_
  refine lv_bipush (v := 10) X.1 X.2.1 dX10_add_22 (by decide) ?_
  obtain ⟨hwf, hwt⟩ := hw
  refine lv_icmp_ne (tgt := 37) X.1 X.2.1 dX10_add_24 (by decide) (fun hq => ?_) (fun hq => ?_)
  · have hw := hwt hq
    exact b_X10_add_37 X hr hk _ _ _ _ μ14 a1 q1 _ _ _ (by omega) (by omega) hKM14_ hw M (lv_sub hl [1, 2, 0] rfl)
  · have hw := hwf hq
    refine lv_aload X.1 X.2.1 dX10_add_27 (lv_at hl 0 rfl) ?_
    refine lv_aload_n X.1 X.2.1 dX10_add_29 rfl (lv_at hl 1 rfl) ?_
    refine lv_iload_n X.1 X.2.1 dX10_add_30 rfl (lv_at hl 4 rfl) ?_
    have hw42 := hw
    clear hw
    refine mx_cq M (mx_runV (n := 1) (As := [.int a3]) (rest := [.ref q1]) X M (c_X10_procedureAt l T B μ14 o a3 _ hw42) (mx_recv (C := RX10) (F := TX10) (N := 6) (ci := 11) X M rfl (by decide) hk17) kw_439 kw_441 kw_4 kw_65 kw_442 (by decide +kernel) rfl rfl ⟨Nat.le_of_ble_eq_true rfl, Nat.le_of_ble_eq_true rfl⟩ rfl hl.1 (Nat.le_of_ble_eq_true rfl) dX10_add_31 ⟨(show (((0 + 1) + c6) + 0) + 0 ≤ c by omega), (show (((0 + 7) + z7) + 0) + 0 ≤ z by omega)⟩) (fun r43 μ41 H locs ⟨hw, hKM41⟩ M => ?_)
    replace hw := hw hKM41
    have hKM41_ := hKM14_.tr hKM41
    have hk44 := hKM41.at hk16
    have hk45 := hKM41.at hk17
    have hc : ((((0 + 1) + c6) + 0) + 0) + ((c - 1) - c6) ≤ c := by omega
    have hz : ((((0 + 7) + z7) + 0) + 0) + ((z - 7) - z7) ≤ z := by omega
    refine my_putr (C := RX3) (F := TX3) (N := 7) (ci := 5) X M 6 rfl in_X3 tyX3 tyX3_ok nmX3 (by decide) rfl (by decide) kw_421 (Or.inl rfl) dX10_add_34 hk44 r43 (mq_no _ _) (mq_fo _ _) (fun μ46 H locs eμ46 M => ?_)
    replace hw := hw μ46 eμ46
    have hKM47 : KM μ μ46 := by rw [eμ46]; exact hKM41_
    have hk48 : kd μ46 q1 = 6 := by rw [eμ46]; exact hk44
    have hk49 : kd μ46 o = 12 := by rw [eμ46]; exact hk45
    exact b_X10_add_37 X hr hk _ _ _ _ μ46 a1 q1 _ _ _ (by omega) (by omega) hKM47 hw M (lv_sub hl [1, 2, 0] rfl)

abbrev rm_X10_begin (c z : Nat) : Room := { frames := 9, cells := c, slots := z, locals := 220 }
def wp_X10_begin (c z : Nat) (μ : Mem) (o : Nat) (a1 : Int32) (a2 : Int32) (a3 : Int32) (post : Int32 → Mem → Prop) : Prop :=
  kd μ o = 12 ∧
  ∃ c2 z3, c2 ≤ c ∧ z3 ≤ z ∧
  wp_X10_takeRow c2 z3 μ o (fun (r5 : Option Nat) (μ1 : Mem) =>
  KM μ μ1 →
  wp_X10_procedureAt μ1 o a1 (fun (r10 : Option Nat) (μ8 : Mem) =>
  KM μ1 μ8 →
  (r10 = none →
   post 0 μ8) ∧ (∀ x12, r10 = some x12 →
   ∃ x13, r5 = some x13 ∧
   isArr (kd μ8 x13) ∧
   kd μ8 x12 = 8 ∧
   ((nI (al μ8 x13)) = (fi μ8 7 2 x12) →
    wp_X10_isLimit μ8 a2 (fun (r17 : Int32) (μ15 : Mem) =>
    KM μ8 μ15 →
    (r17 = 0 →
     post 0 μ15) ∧ (¬ r17 = 0 →
     wp_X10_isLimit μ15 a3 (fun (r22 : Int32) (μ20 : Mem) =>
     KM μ15 μ20 →
     (r22 = 0 →
      post 0 μ20) ∧ (¬ r22 = 0 →
      wp_X5_frameSize μ20 x12 (fun (r27 : Int32) (μ25 : Mem) =>
      KM μ20 μ25 →
      (r27 ≤ a2 →
       ∃ x30, fr μ25 11 4 o = some x30 ∧
       kd μ25 x30 = 3 ∧
       ∃ c32 z33, c32 ≤ c - c2 ∧ z33 ≤ z - z3 ∧
       wp_X0_start c32 z33 μ25 x30 x12 x13 a2 a3 (fun (μ31 : Mem) =>
       KM μ25 μ31 →
       post 1 μ31)) ∧ (¬ r27 ≤ a2 →
       post 0 μ25))))))) ∧ (¬ (nI (al μ8 x13)) = (fi μ8 7 2 x12) →
    post 0 μ8))))
set_option maxRecDepth 100000 in
set_option maxHeartbeats 4000000 in
theorem c_X10_begin (l : Launch) (T : Tb) (B : Nat) (c z : Nat) (μ : Mem) (o : Nat) (a1 : Int32) (a2 : Int32) (a3 : Int32) (post : Int32 → Mem → Prop) (hw : wp_X10_begin c z μ o a1 a2 a3 post) : Met l yX10_begin (.code yX10_begin cX10_begin 6 (some .boolean) :: G) (rm_X10_begin c z) (Pm (Rl T B) T B μ [.ref o, .int a1, .int a2, .int a3]) (va_Qi (fun r9 μ9 => post r9 μ9 ∧ KM μ μ9) (Bm (Rl T B)) (Ai B)) c z (Ai B) := by
  refine mx_of RX10 rfl (by decide) (Nat.le_of_ble_eq_true rfl) ?_
  intro p e s m below meth c0 X hr hk hnm M ls hl
  have hl : lv_has ls 6 [(0, .ref o), (1, .int a1), (2, .int a2), (3, .int a3)] := hl
  unfold wp_X10_begin at hw
  have hKM : KM μ μ := KM.rf μ
  have hc : 0 + c ≤ c := by omega
  have hz : 0 + z ≤ z := by omega
  refine lv_aload_n X.1 X.2.1 dX10_begin_0 rfl (lv_at hl 0 rfl) ?_
  obtain ⟨hk6, hw⟩ := hw
  obtain ⟨c2, z3, hc2, hz3, hw⟩ := hw
  have hw4 := hw
  clear hw
  refine mx_cq M (mx_runV (n := 0) (As := []) (rest := []) X M (c_X10_takeRow l T B c2 z3 μ o _ hw4) (mx_recv (C := RX10) (F := TX10) (N := 6) (ci := 11) X M rfl (by decide) hk6) kw_275 kw_277 kw_0 kw_65 kw_278 (by decide +kernel) rfl rfl ⟨Nat.le_of_ble_eq_true rfl, Nat.le_of_ble_eq_true rfl⟩ rfl hl.1 (Nat.le_of_ble_eq_true rfl) dX10_begin_1 ⟨(show 0 + c2 ≤ c by omega), (show 0 + z3 ≤ z by omega)⟩) (fun r5 μ1 H locs ⟨hw, hKM1⟩ M => ?_)
  replace hw := hw hKM1
  have hKM1_ := hKM.tr hKM1
  have hk7 := hKM1.at hk6
  have hc : (0 + c2) + (c - c2) ≤ c := by omega
  have hz : (0 + z3) + (z - z3) ≤ z := by omega
  refine mq_astore (lv' := [(4, va_rf r5), (0, .ref o), (1, .int a1), (2, .int a2), (3, .int a3)]) X.1 X.2.1 dX10_begin_4 hl (by decide) rfl (fun ls hl => ?_)
  refine lv_aload_n X.1 X.2.1 dX10_begin_6 rfl (lv_at hl 1 rfl) ?_
  refine lv_iload_n X.1 X.2.1 dX10_begin_7 rfl (lv_at hl 2 rfl) ?_
  have hw9 := hw
  clear hw
  refine mx_cq M (mx_runV (n := 1) (As := [.int a1]) (rest := []) X M (c_X10_procedureAt l T B μ1 o a1 _ hw9) (mx_recv (C := RX10) (F := TX10) (N := 6) (ci := 11) X M rfl (by decide) hk7) kw_439 kw_441 kw_4 kw_65 kw_442 (by decide +kernel) rfl rfl ⟨Nat.le_of_ble_eq_true rfl, Nat.le_of_ble_eq_true rfl⟩ rfl hl.1 (Nat.le_of_ble_eq_true rfl) dX10_begin_8 ⟨(show (0 + c2) + 0 ≤ c by omega), (show (0 + z3) + 0 ≤ z by omega)⟩) (fun r10 μ8 H locs ⟨hw, hKM8⟩ M => ?_)
  replace hw := hw hKM8
  have hKM8_ := hKM1_.tr hKM8
  have hk11 := hKM8.at hk7
  have hc : ((0 + c2) + 0) + (c - c2) ≤ c := by omega
  have hz : ((0 + z3) + 0) + (z - z3) ≤ z := by omega
  refine mq_astore (lv' := [(5, va_rf r10), (4, va_rf r5), (0, .ref o), (1, .int a1), (2, .int a2), (3, .int a3)]) X.1 X.2.1 dX10_begin_11 hl (by decide) (by simp [mq_cat]) (fun ls hl => ?_)
  refine mq_aload X.1 X.2.1 dX10_begin_13 (lv_at hl 0 rfl) ?_
  obtain ⟨hwn, hws⟩ := hw
  rcases r10 with _ | x12
  · have hw := hwn rfl
    have hl : lv_has ls 6 [(5, .null), (4, va_rf r5), (0, .ref o), (1, .int a1), (2, .int a2), (3, .int a3)] := hl
    refine lv_ifnullN (tgt := 52) X.1 X.2.1 dX10_begin_15 (by decide) ?_
    refine lv_iconst (v := 0) X.1 X.2.1 dX10_begin_52 (by decide) ?_
    exact mx_zret X hr hk M dX10_begin_53 (by omega) (by omega) (by decide) ⟨hw, hKM8_⟩
  · have hw := hws x12 rfl
    have hl : lv_has ls 6 [(5, .ref x12), (4, va_rf r5), (0, .ref o), (1, .int a1), (2, .int a2), (3, .int a3)] := hl
    refine lv_ifnull X.1 X.2.1 dX10_begin_15 ?_
    refine mq_aload X.1 X.2.1 dX10_begin_18 (lv_at hl 1 rfl) ?_
    obtain ⟨x13, ex13, hw⟩ := hw
    subst ex13
    have hl : lv_has ls 6 [(5, .ref x12), (4, .ref x13), (0, .ref o), (1, .int a1), (2, .int a2), (3, .int a3)] := hl
    obtain ⟨hia, hw⟩ := hw
    refine mx_len X M dX10_begin_20 hia ?_
    refine lv_aload X.1 X.2.1 dX10_begin_21 (lv_at hl 0 rfl) ?_
    obtain ⟨hk14, hw⟩ := hw
    refine mx_geti (C := RX5) (F := TX5) (N := 5) (ci := 7) X M 2 rfl in_X5 (by decide) rfl (by decide) kw_325 dX10_begin_23 hk14 ?_
    obtain ⟨hwf, hwt⟩ := hw
    refine lv_icmp_ne (tgt := 52) X.1 X.2.1 dX10_begin_26 (by decide) (fun hq => ?_) (fun hq => ?_)
    · have hw := hwt hq
      refine lv_iconst (v := 0) X.1 X.2.1 dX10_begin_52 (by decide) ?_
      exact mx_zret X hr hk M dX10_begin_53 (by omega) (by omega) (by decide) ⟨hw, hKM8_⟩
    · have hw := hwf hq
      refine lv_iload_n X.1 X.2.1 dX10_begin_29 rfl (lv_at hl 4 rfl) ?_
      have hw16 := hw
      clear hw
      refine mx_ci M (mx_runS (n := 1) (As := [.int a2]) (rest := []) X M (c_X10_isLimit l T B μ8 a2 _ hw16) kw_480 kw_481 kw_65 kw_482 (by decide +kernel) rfl rfl ⟨Nat.le_of_ble_eq_true rfl, Nat.le_of_ble_eq_true rfl⟩ rfl hl.1 (Nat.le_of_ble_eq_true rfl) dX10_begin_30 ⟨(show ((0 + c2) + 0) + 0 ≤ c by omega), (show ((0 + z3) + 0) + 0 ≤ z by omega)⟩) (fun r17 μ15 H locs ⟨hw, hKM15⟩ M => ?_)
      replace hw := hw hKM15
      have hKM15_ := hKM8_.tr hKM15
      have hk18 := hKM15.at hk11
      have hk19 := hKM15.at hk14
      have hc : (((0 + c2) + 0) + 0) + (c - c2) ≤ c := by omega
      have hz : (((0 + z3) + 0) + 0) + (z - z3) ≤ z := by omega
      obtain ⟨hwt, hwf⟩ := hw
      refine lv_if_eq (tgt := 52) X.1 X.2.1 dX10_begin_33 (by decide) (fun hq => ?_) (fun hq => ?_)
      · have hw := hwt hq
        refine lv_iconst (v := 0) X.1 X.2.1 dX10_begin_52 (by decide) ?_
        exact mx_zret X hr hk M dX10_begin_53 (by omega) (by omega) (by decide) ⟨hw, hKM15_⟩
      · have hw := hwf hq
        refine lv_iload_n X.1 X.2.1 dX10_begin_36 rfl (lv_at hl 5 rfl) ?_
        have hw21 := hw
        clear hw
        refine mx_ci M (mx_runS (n := 1) (As := [.int a3]) (rest := []) X M (c_X10_isLimit l T B μ15 a3 _ hw21) kw_480 kw_481 kw_65 kw_482 (by decide +kernel) rfl rfl ⟨Nat.le_of_ble_eq_true rfl, Nat.le_of_ble_eq_true rfl⟩ rfl hl.1 (Nat.le_of_ble_eq_true rfl) dX10_begin_37 ⟨(show (((0 + c2) + 0) + 0) + 0 ≤ c by omega), (show (((0 + z3) + 0) + 0) + 0 ≤ z by omega)⟩) (fun r22 μ20 H locs ⟨hw, hKM20⟩ M => ?_)
        replace hw := hw hKM20
        have hKM20_ := hKM15_.tr hKM20
        have hk23 := hKM20.at hk18
        have hk24 := hKM20.at hk19
        have hc : ((((0 + c2) + 0) + 0) + 0) + (c - c2) ≤ c := by omega
        have hz : ((((0 + z3) + 0) + 0) + 0) + (z - z3) ≤ z := by omega
        obtain ⟨hwt, hwf⟩ := hw
        refine lv_if_eq (tgt := 52) X.1 X.2.1 dX10_begin_40 (by decide) (fun hq => ?_) (fun hq => ?_)
        · have hw := hwt hq
          refine lv_iconst (v := 0) X.1 X.2.1 dX10_begin_52 (by decide) ?_
          exact mx_zret X hr hk M dX10_begin_53 (by omega) (by omega) (by decide) ⟨hw, hKM20_⟩
        · have hw := hwf hq
          refine lv_aload X.1 X.2.1 dX10_begin_43 (lv_at hl 0 rfl) ?_
          have hw26 := hw
          clear hw
          refine mx_ci M (mx_runV (n := 0) (As := []) (rest := []) X M (c_X5_frameSize l T B μ20 x12 _ hw26) (mx_recv (C := RX5) (F := TX5) (N := 5) (ci := 7) X M rfl (by decide) hk24) kw_483 kw_484 kw_485 kw_78 kw_486 (by decide +kernel) rfl rfl ⟨Nat.le_of_ble_eq_true rfl, Nat.le_of_ble_eq_true rfl⟩ rfl hl.1 (Nat.le_of_ble_eq_true rfl) dX10_begin_45 ⟨(show ((((0 + c2) + 0) + 0) + 0) + 0 ≤ c by omega), (show ((((0 + z3) + 0) + 0) + 0) + 0 ≤ z by omega)⟩) (fun r27 μ25 H locs ⟨hw, hKM25⟩ M => ?_)
          replace hw := hw hKM25
          have hKM25_ := hKM20_.tr hKM25
          have hk28 := hKM25.at hk23
          have hk29 := hKM25.at hk24
          have hc : (((((0 + c2) + 0) + 0) + 0) + 0) + (c - c2) ≤ c := by omega
          have hz : (((((0 + z3) + 0) + 0) + 0) + 0) + (z - z3) ≤ z := by omega
          refine lv_iload_n X.1 X.2.1 dX10_begin_48 rfl (lv_at hl 4 rfl) ?_
          obtain ⟨hwt, hwf⟩ := hw
          refine lv_icmp_le (tgt := 54) X.1 X.2.1 dX10_begin_49 (by decide) (fun hq => ?_) (fun hq => ?_)
          · have hw := hwt hq
            refine lv_aload_n X.1 X.2.1 dX10_begin_54 rfl (lv_at hl 2 rfl) ?_
            obtain ⟨x30, ex30, hw⟩ := hw
            refine mx_getr (C := RX10) (F := TX10) (N := 6) (ci := 11) X M 4 rfl in_X10 (by decide) rfl (by decide) kw_252 dX10_begin_55 hk28 ?_
            rw [ex30]
            refine lv_aload X.1 X.2.1 dX10_begin_58 (lv_at hl 0 rfl) ?_
            refine lv_aload X.1 X.2.1 dX10_begin_60 (lv_at hl 1 rfl) ?_
            refine lv_iload_n X.1 X.2.1 dX10_begin_62 rfl (lv_at hl 4 rfl) ?_
            refine lv_iload_n X.1 X.2.1 dX10_begin_63 rfl (lv_at hl 5 rfl) ?_
            obtain ⟨hk35, hw⟩ := hw
            obtain ⟨c32, z33, hc32, hz33, hw⟩ := hw
            have hw34 := hw
            clear hw
            refine mx_cv M (mx_runV (n := 4) (As := [.ref x12, .ref x13, .int a2, .int a3]) (rest := []) X M (c_X0_start l T B c32 z33 μ25 x30 x12 x13 a2 a3 _ hw34) (mx_recv (C := RX0) (F := TX0) (N := 7) (ci := 2) X M rfl (by decide) hk35) kw_487 kw_488 kw_489 kw_69 kw_490 (by decide +kernel) rfl rfl ⟨Nat.le_of_ble_eq_true rfl, Nat.le_of_ble_eq_true rfl⟩ rfl hl.1 (Nat.le_of_ble_eq_true rfl) dX10_begin_64 ⟨(show (((((0 + c2) + 0) + 0) + 0) + 0) + c32 ≤ c by omega), (show (((((0 + z3) + 0) + 0) + 0) + 0) + z33 ≤ z by omega)⟩) (fun μ31 H locs ⟨hw, hKM31⟩ M => ?_)
            replace hw := hw hKM31
            have hKM31_ := hKM25_.tr hKM31
            have hk36 := hKM31.at hk28
            have hk37 := hKM31.at hk29
            have hk38 := hKM31.at hk35
            have hc : ((((((0 + c2) + 0) + 0) + 0) + 0) + c32) + ((c - c2) - c32) ≤ c := by omega
            have hz : ((((((0 + z3) + 0) + 0) + 0) + 0) + z33) + ((z - z3) - z33) ≤ z := by omega
            refine lv_iconst (v := 1) X.1 X.2.1 dX10_begin_67 (by decide) ?_
            exact mx_zret X hr hk M dX10_begin_68 (by omega) (by omega) (by decide) ⟨hw, hKM31_⟩
          · have hw := hwf hq
            refine lv_iconst (v := 0) X.1 X.2.1 dX10_begin_52 (by decide) ?_
            exact mx_zret X hr hk M dX10_begin_53 (by omega) (by omega) (by decide) ⟨hw, hKM25_⟩

abbrev rm_X10_run (c z : Nat) : Room := { frames := 11, cells := c, slots := z, locals := 263 }
def wp_X10_run (c z : Nat) (μ : Mem) (o : Nat) (a1 : Int32) (post : Int32 → Mem → Prop) : Prop :=
  kd μ o = 12 ∧
  ∃ x2, fr μ 11 4 o = some x2 ∧
  kd μ x2 = 3 ∧
  ∃ c4 z5, c4 ≤ c ∧ z5 ≤ z ∧
  wp_X0_advance c4 z5 μ x2 a1 (fun (r7 : Int32) (μ3 : Mem) =>
  KM μ μ3 →
  post r7 μ3)
set_option maxRecDepth 100000 in
set_option maxHeartbeats 4000000 in
theorem c_X10_run (l : Launch) (T : Tb) (B : Nat) (c z : Nat) (μ : Mem) (o : Nat) (a1 : Int32) (post : Int32 → Mem → Prop) (hw : wp_X10_run c z μ o a1 post) : Met l yX10_run (.code yX10_run cX10_run 2 (some .int) :: G) (rm_X10_run c z) (Pm (Rl T B) T B μ [.ref o, .int a1]) (va_Qi (fun r9 μ9 => post r9 μ9 ∧ KM μ μ9) (Bm (Rl T B)) (Ai B)) c z (Ai B) := by
  refine mx_of RX10 rfl (by decide) (Nat.le_of_ble_eq_true rfl) ?_
  intro p e s m below meth c0 X hr hk hnm M ls hl
  have hl : lv_has ls 2 [(0, .ref o), (1, .int a1)] := hl
  unfold wp_X10_run at hw
  have hKM : KM μ μ := KM.rf μ
  have hc : 0 + c ≤ c := by omega
  have hz : 0 + z ≤ z := by omega
  refine lv_aload_n X.1 X.2.1 dX10_run_0 rfl (lv_at hl 0 rfl) ?_
  obtain ⟨hk1, hw⟩ := hw
  obtain ⟨x2, ex2, hw⟩ := hw
  refine mx_getr (C := RX10) (F := TX10) (N := 6) (ci := 11) X M 4 rfl in_X10 (by decide) rfl (by decide) kw_252 dX10_run_1 hk1 ?_
  rw [ex2]
  refine lv_iload_n X.1 X.2.1 dX10_run_4 rfl (lv_at hl 1 rfl) ?_
  obtain ⟨hk8, hw⟩ := hw
  obtain ⟨c4, z5, hc4, hz5, hw⟩ := hw
  have hw6 := hw
  clear hw
  refine mx_ci M (mx_runV (n := 1) (As := [.int a1]) (rest := []) X M (c_X0_advance l T B c4 z5 μ x2 a1 _ hw6) (mx_recv (C := RX0) (F := TX0) (N := 7) (ci := 2) X M rfl (by decide) hk8) kw_594 kw_595 kw_596 kw_69 kw_597 (by decide +kernel) rfl rfl ⟨Nat.le_of_ble_eq_true rfl, Nat.le_of_ble_eq_true rfl⟩ rfl hl.1 (Nat.le_of_ble_eq_true rfl) dX10_run_5 ⟨(show 0 + c4 ≤ c by omega), (show 0 + z5 ≤ z by omega)⟩) (fun r7 μ3 H locs ⟨hw, hKM3⟩ M => ?_)
  replace hw := hw hKM3
  have hKM3_ := hKM.tr hKM3
  have hk9 := hKM3.at hk1
  have hk10 := hKM3.at hk8
  have hc : (0 + c4) + (c - c4) ≤ c := by omega
  have hz : (0 + z5) + (z - z5) ≤ z := by omega
  exact mx_iret X hr hk M dX10_run_8 (by omega) (by omega) ⟨hw, hKM3_⟩

abbrev rm_X10_told : Room := { frames := 3, cells := 0, slots := 0, locals := 61 }
def wp_X10_told (μ : Mem) (o : Nat) (a1 : Int32) (post : Int32 → Mem → Prop) : Prop :=
  kd μ o = 12 ∧
  ∃ x2, fr μ 11 4 o = some x2 ∧
  kd μ x2 = 3 ∧
  wp_X0_figure μ x2 a1 (fun (r5 : Int32) (μ3 : Mem) =>
  KM μ μ3 →
  post r5 μ3)
set_option maxRecDepth 100000 in
set_option maxHeartbeats 4000000 in
theorem c_X10_told (l : Launch) (T : Tb) (B : Nat) (μ : Mem) (o : Nat) (a1 : Int32) (post : Int32 → Mem → Prop) (hw : wp_X10_told μ o a1 post) : Met l yX10_told (.code yX10_told cX10_told 2 (some .int) :: G) rm_X10_told (Pm (Rl T B) T B μ [.ref o, .int a1]) (va_Qi (fun r9 μ9 => post r9 μ9 ∧ KM μ μ9) (Bm (Rl T B)) (Ai B)) 0 0 (Ai B) := by
  refine mx_of RX10 rfl (by decide) (Nat.le_of_ble_eq_true rfl) ?_
  intro p e s m below meth c0 X hr hk hnm M ls hl
  have hl : lv_has ls 2 [(0, .ref o), (1, .int a1)] := hl
  unfold wp_X10_told at hw
  have hKM : KM μ μ := KM.rf μ
  refine lv_aload_n X.1 X.2.1 dX10_told_0 rfl (lv_at hl 0 rfl) ?_
  obtain ⟨hk1, hw⟩ := hw
  obtain ⟨x2, ex2, hw⟩ := hw
  refine mx_getr (C := RX10) (F := TX10) (N := 6) (ci := 11) X M 4 rfl in_X10 (by decide) rfl (by decide) kw_252 dX10_told_1 hk1 ?_
  rw [ex2]
  refine lv_iload_n X.1 X.2.1 dX10_told_4 rfl (lv_at hl 1 rfl) ?_
  obtain ⟨hk6, hw⟩ := hw
  have hw4 := hw
  clear hw
  refine mx_ci M (mx_runV (n := 1) (As := [.int a1]) (rest := []) X M (c_X0_figure l T B μ x2 a1 _ hw4) (mx_recv (C := RX0) (F := TX0) (N := 7) (ci := 2) X M rfl (by decide) hk6) kw_814 kw_815 kw_816 kw_69 kw_817 (by decide +kernel) rfl rfl ⟨Nat.le_of_ble_eq_true rfl, Nat.le_of_ble_eq_true rfl⟩ rfl hl.1 (Nat.le_of_ble_eq_true rfl) dX10_told_5 ⟨by decide, by decide⟩) (fun r5 μ3 H locs ⟨hw, hKM3⟩ M => ?_)
  replace hw := hw hKM3
  have hKM3_ := hKM.tr hKM3
  have hk7 := hKM3.at hk1
  have hk8 := hKM3.at hk6
  exact mx_iret X hr hk M dX10_told_8 (by decide) (by decide) ⟨hw, hKM3_⟩

abbrev rm_X10_slot : Room := { frames := 4, cells := 0, slots := 0, locals := 86 }
def wp_X10_slot (μ : Mem) (o : Nat) (a1 : Int32) (post : Int64 → Mem → Prop) : Prop :=
  kd μ o = 12 ∧
  ∃ x2, fr μ 11 4 o = some x2 ∧
  kd μ x2 = 3 ∧
  wp_X0_slotSeen μ x2 a1 (fun (r5 : Int64) (μ3 : Mem) =>
  KM μ μ3 →
  post r5 μ3)
set_option maxRecDepth 100000 in
set_option maxHeartbeats 4000000 in
theorem c_X10_slot (l : Launch) (T : Tb) (B : Nat) (μ : Mem) (o : Nat) (a1 : Int32) (post : Int64 → Mem → Prop) (hw : wp_X10_slot μ o a1 post) : Met l yX10_slot (.code yX10_slot cX10_slot 2 (some .long) :: G) rm_X10_slot (Pm (Rl T B) T B μ [.ref o, .int a1]) (va_Ql (fun r9 μ9 => post r9 μ9 ∧ KM μ μ9) (Bm (Rl T B)) (Ai B)) 0 0 (Ai B) := by
  refine mx_of RX10 rfl (by decide) (Nat.le_of_ble_eq_true rfl) ?_
  intro p e s m below meth c0 X hr hk hnm M ls hl
  have hl : lv_has ls 2 [(0, .ref o), (1, .int a1)] := hl
  unfold wp_X10_slot at hw
  have hKM : KM μ μ := KM.rf μ
  refine lv_aload_n X.1 X.2.1 dX10_slot_0 rfl (lv_at hl 0 rfl) ?_
  obtain ⟨hk1, hw⟩ := hw
  obtain ⟨x2, ex2, hw⟩ := hw
  refine mx_getr (C := RX10) (F := TX10) (N := 6) (ci := 11) X M 4 rfl in_X10 (by decide) rfl (by decide) kw_252 dX10_slot_1 hk1 ?_
  rw [ex2]
  refine lv_iload_n X.1 X.2.1 dX10_slot_4 rfl (lv_at hl 1 rfl) ?_
  obtain ⟨hk6, hw⟩ := hw
  have hw4 := hw
  clear hw
  refine mx_cl M (mx_runV (n := 1) (As := [.int a1]) (rest := []) X M (c_X0_slotSeen l T B μ x2 a1 _ hw4) (mx_recv (C := RX0) (F := TX0) (N := 7) (ci := 2) X M rfl (by decide) hk6) kw_832 kw_833 kw_834 kw_69 kw_835 (by decide +kernel) rfl rfl ⟨Nat.le_of_ble_eq_true rfl, Nat.le_of_ble_eq_true rfl⟩ rfl hl.1 (Nat.le_of_ble_eq_true rfl) dX10_slot_5 ⟨by decide, by decide⟩) (fun r5 μ3 H locs ⟨hw, hKM3⟩ M => ?_)
  replace hw := hw hKM3
  have hKM3_ := hKM.tr hKM3
  have hk7 := hKM3.at hk1
  have hk8 := hKM3.at hk6
  exact mx_lret X hr hk M dX10_slot_8 (by decide) (by decide) ⟨hw, hKM3_⟩
