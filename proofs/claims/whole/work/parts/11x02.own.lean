abbrev rm_X5_fits : Room := { frames := 2, cells := 0, slots := 0, locals := 46 }
def wp_X5_fits (μ : Mem) (a1 : Int32) (a2 : Int32) (a3 : Nat) (post : Int32 → Mem → Prop) : Prop :=
  (a1 < 1 →
   post 0 μ) ∧ (¬ a1 < 1 →
   (40 < a1 →
    post 0 μ) ∧ (¬ 40 < a1 →
    (a2 < 0 →
     post 0 μ) ∧ (¬ a2 < 0 →
     (a1 < a2 →
      post 0 μ) ∧ (¬ a1 < a2 →
      isArr (kd μ a3) ∧
      (8 < (nI (al μ a3)) →
       post 0 μ) ∧ (¬ 8 < (nI (al μ a3)) →
       isArr (kd μ a3) ∧
       (10 < (a2 + (nI (al μ a3))) →
        post 0 μ) ∧ (¬ 10 < (a2 + (nI (al μ a3))) →
        wp_X5_allWithin μ a3 a1 (fun (r3 : Int32) (μ1 : Mem) =>
        KM μ μ1 →
        (r3 = 0 →
         post 0 μ1) ∧ (¬ r3 = 0 →
         post 1 μ1))))))))
set_option maxRecDepth 100000 in
set_option maxHeartbeats 4000000 in
theorem c_X5_fits (l : Launch) (T : Tb) (B : Nat) (μ : Mem) (a1 : Int32) (a2 : Int32) (a3 : Nat) (post : Int32 → Mem → Prop) (hw : wp_X5_fits μ a1 a2 a3 post) : Met l yX5_fits (.code yX5_fits cX5_fits 3 (some .boolean) :: G) rm_X5_fits (Pm (Rl T B) T B μ [.int a1, .int a2, .ref a3]) (va_Qi (fun r9 μ9 => post r9 μ9 ∧ KM μ μ9) (Bm (Rl T B)) (Ai B)) 0 0 (Ai B) := by
  refine mx_of RX5 rfl (by decide) (Nat.le_of_ble_eq_true rfl) ?_
  intro p e s m below meth c0 X hr hk hnm M ls hl
  have hl : lv_has ls 3 [(0, .int a1), (1, .int a2), (2, .ref a3)] := hl
  unfold wp_X5_fits at hw
  have hKM : KM μ μ := KM.rf μ
  refine lv_iload_n X.1 X.2.1 dX5_fits_0 rfl (lv_at hl 0 rfl) ?_
  refine lv_iconst (v := 1) X.1 X.2.1 dX5_fits_1 (by decide) ?_
  obtain ⟨hwt, hwf⟩ := hw
  refine lv_icmp_lt (tgt := 48) X.1 X.2.1 dX5_fits_2 (by decide) (fun hq => ?_) (fun hq => ?_)
  · have hw := hwt hq
    refine lv_iconst (v := 0) X.1 X.2.1 dX5_fits_48 (by decide) ?_
    exact mx_zret X hr hk M dX5_fits_49 (by decide) (by decide) (by decide) ⟨hw, hKM⟩
  · have hw := hwf hq
    refine lv_iload_n X.1 X.2.1 dX5_fits_5 rfl (lv_at hl 0 rfl) ?_
    refine lv_bipush (v := 40) X.1 X.2.1 dX5_fits_6 (by decide) ?_
    obtain ⟨hwt, hwf⟩ := hw
    refine lv_icmp_gt (tgt := 48) X.1 X.2.1 dX5_fits_8 (by decide) (fun hq => ?_) (fun hq => ?_)
    · have hw := hwt hq
      refine lv_iconst (v := 0) X.1 X.2.1 dX5_fits_48 (by decide) ?_
      exact mx_zret X hr hk M dX5_fits_49 (by decide) (by decide) (by decide) ⟨hw, hKM⟩
    · have hw := hwf hq
      refine lv_iload_n X.1 X.2.1 dX5_fits_11 rfl (lv_at hl 1 rfl) ?_
      obtain ⟨hwt, hwf⟩ := hw
      refine lv_if_lt (tgt := 48) X.1 X.2.1 dX5_fits_12 (by decide) (fun hq => ?_) (fun hq => ?_)
      · have hw := hwt hq
        refine lv_iconst (v := 0) X.1 X.2.1 dX5_fits_48 (by decide) ?_
        exact mx_zret X hr hk M dX5_fits_49 (by decide) (by decide) (by decide) ⟨hw, hKM⟩
      · have hw := hwf hq
        refine lv_iload_n X.1 X.2.1 dX5_fits_15 rfl (lv_at hl 1 rfl) ?_
        refine lv_iload_n X.1 X.2.1 dX5_fits_16 rfl (lv_at hl 0 rfl) ?_
        obtain ⟨hwt, hwf⟩ := hw
        refine lv_icmp_gt (tgt := 48) X.1 X.2.1 dX5_fits_17 (by decide) (fun hq => ?_) (fun hq => ?_)
        · have hw := hwt hq
          refine lv_iconst (v := 0) X.1 X.2.1 dX5_fits_48 (by decide) ?_
          exact mx_zret X hr hk M dX5_fits_49 (by decide) (by decide) (by decide) ⟨hw, hKM⟩
        · have hw := hwf hq
          refine lv_aload_n X.1 X.2.1 dX5_fits_20 rfl (lv_at hl 2 rfl) ?_
          obtain ⟨hia, hw⟩ := hw
          refine mx_len X M dX5_fits_21 hia ?_
          refine lv_bipush (v := 8) X.1 X.2.1 dX5_fits_22 (by decide) ?_
          obtain ⟨hwt, hwf⟩ := hw
          refine lv_icmp_gt (tgt := 48) X.1 X.2.1 dX5_fits_24 (by decide) (fun hq => ?_) (fun hq => ?_)
          · have hw := hwt hq
            refine lv_iconst (v := 0) X.1 X.2.1 dX5_fits_48 (by decide) ?_
            exact mx_zret X hr hk M dX5_fits_49 (by decide) (by decide) (by decide) ⟨hw, hKM⟩
          · have hw := hwf hq
            refine lv_iload_n X.1 X.2.1 dX5_fits_27 rfl (lv_at hl 1 rfl) ?_
            refine lv_aload_n X.1 X.2.1 dX5_fits_28 rfl (lv_at hl 2 rfl) ?_
            obtain ⟨hia, hw⟩ := hw
            refine mx_len X M dX5_fits_29 hia ?_
            refine lv_iadd X.1 X.2.1 dX5_fits_30 ?_
            refine lv_bipush (v := 10) X.1 X.2.1 dX5_fits_31 (by decide) ?_
            obtain ⟨hwt, hwf⟩ := hw
            refine lv_icmp_gt (tgt := 48) X.1 X.2.1 dX5_fits_33 (by decide) (fun hq => ?_) (fun hq => ?_)
            · have hw := hwt hq
              refine lv_iconst (v := 0) X.1 X.2.1 dX5_fits_48 (by decide) ?_
              exact mx_zret X hr hk M dX5_fits_49 (by decide) (by decide) (by decide) ⟨hw, hKM⟩
            · have hw := hwf hq
              refine lv_aload_n X.1 X.2.1 dX5_fits_36 rfl (lv_at hl 2 rfl) ?_
              refine lv_iload_n X.1 X.2.1 dX5_fits_37 rfl (lv_at hl 0 rfl) ?_
              have hw2 := hw
              clear hw
              refine mx_ci M (mx_runS (n := 2) (As := [.ref a3, .int a1]) (rest := []) X M (c_X5_allWithin l T B μ a3 a1 _ hw2) kw_305 kw_306 kw_78 kw_307 (by decide +kernel) rfl rfl ⟨Nat.le_of_ble_eq_true rfl, Nat.le_of_ble_eq_true rfl⟩ rfl hl.1 (Nat.le_of_ble_eq_true rfl) dX5_fits_38 ⟨by decide, by decide⟩) (fun r3 μ1 H locs ⟨hw, hKM1⟩ M => ?_)
              replace hw := hw hKM1
              have hKM1_ := hKM.tr hKM1
              obtain ⟨hwt, hwf⟩ := hw
              refine lv_if_eq (tgt := 48) X.1 X.2.1 dX5_fits_41 (by decide) (fun hq => ?_) (fun hq => ?_)
              · have hw := hwt hq
                refine lv_iconst (v := 0) X.1 X.2.1 dX5_fits_48 (by decide) ?_
                exact mx_zret X hr hk M dX5_fits_49 (by decide) (by decide) (by decide) ⟨hw, hKM1_⟩
              · have hw := hwf hq
                refine lv_iconst (v := 1) X.1 X.2.1 dX5_fits_44 (by decide) ?_
                refine lv_goto (tgt := 49) X.1 X.2.1 dX5_fits_45 (by decide) ?_
                exact mx_zret X hr hk M dX5_fits_49 (by decide) (by decide) (by decide) ⟨hw, hKM1_⟩

abbrev rm_X5_frameSize : Room := { frames := 0, cells := 0, slots := 0, locals := 0 }
def wp_X5_frameSize (μ : Mem) (o : Nat) (post : Int32 → Mem → Prop) : Prop :=
  kd μ o = 8 ∧
  post ((2 : Int32) + (fi μ 7 1 o)) μ
set_option maxRecDepth 100000 in
set_option maxHeartbeats 4000000 in
theorem c_X5_frameSize (l : Launch) (T : Tb) (B : Nat) (μ : Mem) (o : Nat) (post : Int32 → Mem → Prop) (hw : wp_X5_frameSize μ o post) : Met l yX5_frameSize (.code yX5_frameSize cX5_frameSize 1 (some .int) :: G) rm_X5_frameSize (Pm (Rl T B) T B μ [.ref o]) (va_Qi (fun r9 μ9 => post r9 μ9 ∧ KM μ μ9) (Bm (Rl T B)) (Ai B)) 0 0 (Ai B) := by
  refine mx_of RX5 rfl (by decide) (Nat.le_of_ble_eq_true rfl) ?_
  intro p e s m below meth c0 X hr hk hnm M ls hl
  have hl : lv_has ls 1 [(0, .ref o)] := hl
  unfold wp_X5_frameSize at hw
  have hKM : KM μ μ := KM.rf μ
  refine lv_iconst (v := 2) X.1 X.2.1 dX5_frameSize_0 (by decide) ?_
  refine lv_aload_n X.1 X.2.1 dX5_frameSize_1 rfl (lv_at hl 0 rfl) ?_
  obtain ⟨hk1, hw⟩ := hw
  refine mx_geti (C := RX5) (F := TX5) (N := 5) (ci := 7) X M 1 rfl in_X5 (by decide) rfl (by decide) kw_321 dX5_frameSize_2 hk1 ?_
  refine lv_iadd X.1 X.2.1 dX5_frameSize_5 ?_
  exact mx_iret X hr hk M dX5_frameSize_6 (by decide) (by decide) ⟨hw, hKM⟩

abbrev rm_X5_append (c z : Nat) : Room := { frames := 7, cells := c, slots := z, locals := 171 }
def wp_X5_append (c z : Nat) (μ : Mem) (o : Nat) (a1 : Nat) (post : Int32 → Mem → Prop) : Prop :=
  kd μ o = 8 ∧
  ∃ x2, fr μ 7 4 o = some x2 ∧
  kd μ x2 = 2 ∧
  ∃ c4 z5, c4 ≤ c ∧ z5 ≤ z ∧
  wp_Jx4a65c_add_9ea2d c4 z5 μ x2 a1 (fun (r7 : Int32) (μ3 : Mem) =>
  KM μ μ3 →
  ∃ x11, fr μ3 7 4 o = some x11 ∧
  kd μ3 x11 = 2 ∧
  wp_Jx4a65c_size_8abf5 μ3 x11 (fun (r14 : Int32) (μ12 : Mem) =>
  KM μ3 μ12 →
  post (r14 - 1) μ12))
set_option maxRecDepth 100000 in
set_option maxHeartbeats 4000000 in
theorem c_X5_append (l : Launch) (T : Tb) (B : Nat) (c z : Nat) (μ : Mem) (o : Nat) (a1 : Nat) (post : Int32 → Mem → Prop) (hw : wp_X5_append c z μ o a1 post) : Met l yX5_append (.code yX5_append cX5_append 2 (some .int) :: G) (rm_X5_append c z) (Pm (Rl T B) T B μ [.ref o, .ref a1]) (va_Qi (fun r9 μ9 => post r9 μ9 ∧ KM μ μ9) (Bm (Rl T B)) (Ai B)) c z (Ai B) := by
  refine mx_of RX5 rfl (by decide) (Nat.le_of_ble_eq_true rfl) ?_
  intro p e s m below meth c0 X hr hk hnm M ls hl
  have hl : lv_has ls 2 [(0, .ref o), (1, .ref a1)] := hl
  unfold wp_X5_append at hw
  have hKM : KM μ μ := KM.rf μ
  have hc : 0 + c ≤ c := by omega
  have hz : 0 + z ≤ z := by omega
  refine lv_aload_n X.1 X.2.1 dX5_append_0 rfl (lv_at hl 0 rfl) ?_
  obtain ⟨hk1, hw⟩ := hw
  obtain ⟨x2, ex2, hw⟩ := hw
  refine mx_getr (C := RX5) (F := TX5) (N := 5) (ci := 7) X M 4 rfl in_X5 (by decide) rfl (by decide) kw_329 dX5_append_1 hk1 ?_
  rw [ex2]
  refine lv_aload_n X.1 X.2.1 dX5_append_4 rfl (lv_at hl 1 rfl) ?_
  obtain ⟨hk8, hw⟩ := hw
  obtain ⟨c4, z5, hc4, hz5, hw⟩ := hw
  have hw6 := hw
  clear hw
  refine mx_ci M (mx_runV (n := 1) (As := [.ref a1]) (rest := []) X M (c_Jx4a65c_add_9ea2d l T B c4 z5 μ x2 a1 _ hw6) (mx_recv (C := RJx4a65c) (F := TJx4a65c) (N := 3) (ci := 1) X M rfl (by decide) hk8) kw_474 kw_342 kw_343 kw_68 kw_344 (by decide +kernel) rfl rfl ⟨Nat.le_of_ble_eq_true rfl, Nat.le_of_ble_eq_true rfl⟩ rfl hl.1 (Nat.le_of_ble_eq_true rfl) dX5_append_5 ⟨(show 0 + c4 ≤ c by omega), (show 0 + z5 ≤ z by omega)⟩) (fun r7 μ3 H locs ⟨hw, hKM3⟩ M => ?_)
  replace hw := hw hKM3
  have hKM3_ := hKM.tr hKM3
  have hk9 := hKM3.at hk1
  have hk10 := hKM3.at hk8
  have hc : (0 + c4) + (c - c4) ≤ c := by omega
  have hz : (0 + z5) + (z - z5) ≤ z := by omega
  refine lv_pop X.1 X.2.1 dX5_append_8 rfl ?_
  refine lv_aload_n X.1 X.2.1 dX5_append_9 rfl (lv_at hl 0 rfl) ?_
  obtain ⟨x11, ex11, hw⟩ := hw
  refine mx_getr (C := RX5) (F := TX5) (N := 5) (ci := 7) X M 4 rfl in_X5 (by decide) rfl (by decide) kw_329 dX5_append_10 hk9 ?_
  rw [ex11]
  obtain ⟨hk15, hw⟩ := hw
  have hw13 := hw
  clear hw
  refine mx_ci M (mx_runV (n := 0) (As := []) (rest := []) X M (c_Jx4a65c_size_8abf5 l T B μ3 x11 _ hw13) (mx_recv (C := RJx4a65c) (F := TJx4a65c) (N := 3) (ci := 1) X M rfl (by decide) hk15) kw_475 kw_299 kw_300 kw_68 kw_301 (by decide +kernel) rfl rfl ⟨Nat.le_of_ble_eq_true rfl, Nat.le_of_ble_eq_true rfl⟩ rfl hl.1 (Nat.le_of_ble_eq_true rfl) dX5_append_13 ⟨(show (0 + c4) + 0 ≤ c by omega), (show (0 + z5) + 0 ≤ z by omega)⟩) (fun r14 μ12 H locs ⟨hw, hKM12⟩ M => ?_)
  replace hw := hw hKM12
  have hKM12_ := hKM3_.tr hKM12
  have hk16 := hKM12.at hk9
  have hk17 := hKM12.at hk15
  have hc : ((0 + c4) + 0) + (c - c4) ≤ c := by omega
  have hz : ((0 + z5) + 0) + (z - z5) ≤ z := by omega
  refine lv_iconst (v := 1) X.1 X.2.1 dX5_append_16 (by decide) ?_
  refine lv_isub X.1 X.2.1 dX5_append_17 ?_
  exact mx_iret X hr hk M dX5_append_18 (by omega) (by omega) ⟨hw, hKM12_⟩

abbrev rm_X5_instructionAt : Room := { frames := 3, cells := 0, slots := 0, locals := 64 }
def wp_X5_instructionAt (μ : Mem) (o : Nat) (a1 : Int32) (post : Option Nat → Mem → Prop) : Prop :=
  kd μ o = 8 ∧
  ∃ x2, fr μ 7 4 o = some x2 ∧
  kd μ x2 = 2 ∧
  wp_Jx4a65c_size_8abf5 μ x2 (fun (r5 : Int32) (μ3 : Mem) =>
  KM μ μ3 →
  wp_X10_within μ3 a1 r5 (fun (r11 : Int32) (μ9 : Mem) =>
  KM μ3 μ9 →
  (r11 = 0 →
   post none μ9) ∧ (¬ r11 = 0 →
   ∃ x13, fr μ9 7 4 o = some x13 ∧
   kd μ9 x13 = 2 ∧
   wp_Jx4a65c_get_915e3 μ9 x13 a1 (fun (r16 : Option Nat) (μ14 : Mem) =>
   KM μ9 μ14 →
   ∃ x20, r16 = some x20 ∧
   kd μ14 x20 = 6 ∧
   post (some x20) μ14))))
set_option maxRecDepth 100000 in
set_option maxHeartbeats 4000000 in
theorem c_X5_instructionAt (l : Launch) (T : Tb) (B : Nat) (μ : Mem) (o : Nat) (a1 : Int32) (post : Option Nat → Mem → Prop) (hw : wp_X5_instructionAt μ o a1 post) : Met l yX5_instructionAt (.code yX5_instructionAt cX5_instructionAt 2 (some (.object "RedoMachine$Instruction")) :: G) rm_X5_instructionAt (Pm (Rl T B) T B μ [.ref o, .int a1]) (va_Qq (fun r9 μ9 => post r9 μ9 ∧ KM μ μ9) (Bm (Rl T B)) (Ai B)) 0 0 (Ai B) := by
  refine mx_of RX5 rfl (by decide) (Nat.le_of_ble_eq_true rfl) ?_
  intro p e s m below meth c0 X hr hk hnm M ls hl
  have hl : lv_has ls 2 [(0, .ref o), (1, .int a1)] := hl
  unfold wp_X5_instructionAt at hw
  have hKM : KM μ μ := KM.rf μ
  refine lv_iload_n X.1 X.2.1 dX5_instructionAt_0 rfl (lv_at hl 1 rfl) ?_
  refine lv_aload_n X.1 X.2.1 dX5_instructionAt_1 rfl (lv_at hl 0 rfl) ?_
  obtain ⟨hk1, hw⟩ := hw
  obtain ⟨x2, ex2, hw⟩ := hw
  refine mx_getr (C := RX5) (F := TX5) (N := 5) (ci := 7) X M 4 rfl in_X5 (by decide) rfl (by decide) kw_329 dX5_instructionAt_2 hk1 ?_
  rw [ex2]
  obtain ⟨hk6, hw⟩ := hw
  have hw4 := hw
  clear hw
  refine mx_ci M (mx_runV (n := 0) (As := []) (rest := [.int a1]) X M (c_Jx4a65c_size_8abf5 l T B μ x2 _ hw4) (mx_recv (C := RJx4a65c) (F := TJx4a65c) (N := 3) (ci := 1) X M rfl (by decide) hk6) kw_475 kw_299 kw_300 kw_68 kw_301 (by decide +kernel) rfl rfl ⟨Nat.le_of_ble_eq_true rfl, Nat.le_of_ble_eq_true rfl⟩ rfl hl.1 (Nat.le_of_ble_eq_true rfl) dX5_instructionAt_5 ⟨by decide, by decide⟩) (fun r5 μ3 H locs ⟨hw, hKM3⟩ M => ?_)
  replace hw := hw hKM3
  have hKM3_ := hKM.tr hKM3
  have hk7 := hKM3.at hk1
  have hk8 := hKM3.at hk6
  have hw10 := hw
  clear hw
  refine mx_ci M (mx_runSN (n := 2) (As := [.int a1, .int r5]) (rest := []) X M (c_X10_within l T B μ3 a1 r5 _ hw10) kw_308 kw_309 kw_65 kw_310 (by decide +kernel) rfl rfl ⟨Nat.le_of_ble_eq_true rfl, Nat.le_of_ble_eq_true rfl⟩ rfl hl.1 (Nat.le_of_ble_eq_true rfl) dX5_instructionAt_8 ⟨by decide, by decide⟩) (fun r11 μ9 H locs ⟨hw, hKM9⟩ M => ?_)
  replace hw := hw hKM9
  have hKM9_ := hKM3_.tr hKM9
  have hk12 := hKM9.at hk7
  obtain ⟨hwt, hwf⟩ := hw
  refine lv_if_eq (tgt := 28) X.1 X.2.1 dX5_instructionAt_11 (by decide) (fun hq => ?_) (fun hq => ?_)
  · have hw := hwt hq
    refine lv_null X.1 X.2.1 dX5_instructionAt_28 ?_
    exact mx_aret (r := none) X hr (Or.inl ⟨_, rfl⟩) hk M dX5_instructionAt_29 (by decide) (by decide) ⟨hw, hKM9_⟩
  · have hw := hwf hq
    refine lv_aload_n X.1 X.2.1 dX5_instructionAt_14 rfl (lv_at hl 0 rfl) ?_
    obtain ⟨x13, ex13, hw⟩ := hw
    refine mx_getr (C := RX5) (F := TX5) (N := 5) (ci := 7) X M 4 rfl in_X5 (by decide) rfl (by decide) kw_329 dX5_instructionAt_15 hk12 ?_
    rw [ex13]
    refine lv_iload_n X.1 X.2.1 dX5_instructionAt_18 rfl (lv_at hl 1 rfl) ?_
    obtain ⟨hk17, hw⟩ := hw
    have hw15 := hw
    clear hw
    refine mx_cq M (mx_runV (n := 1) (As := [.int a1]) (rest := []) X M (c_Jx4a65c_get_915e3 l T B μ9 x13 a1 _ hw15) (mx_recv (C := RJx4a65c) (F := TJx4a65c) (N := 3) (ci := 1) X M rfl (by decide) hk17) kw_633 kw_445 kw_446 kw_68 kw_447 (by decide +kernel) rfl rfl ⟨Nat.le_of_ble_eq_true rfl, Nat.le_of_ble_eq_true rfl⟩ rfl hl.1 (Nat.le_of_ble_eq_true rfl) dX5_instructionAt_19 ⟨by decide, by decide⟩) (fun r16 μ14 H locs ⟨hw, hKM14⟩ M => ?_)
    replace hw := hw hKM14
    have hKM14_ := hKM9_.tr hKM14
    have hk18 := hKM14.at hk12
    have hk19 := hKM14.at hk17
    obtain ⟨x20, ex20, hw⟩ := hw
    subst ex20
    have hl : lv_has ls 2 [(0, .ref o), (1, .int a1)] := hl
    obtain ⟨hk21, hw⟩ := hw
    refine va_castY (C := RX3) X.1 X.2.1 X.2.2.2.1 (X.2.2.2.2.1 _ kw_634) (X.2.2.2.2.2.1.2.1 _ kw_1342) (mx_recv (C := RX3) (F := TX3) (N := 7) (ci := 5) X M rfl (by decide) hk21) dX5_instructionAt_22 ?_
    refine lv_goto (tgt := 29) X.1 X.2.1 dX5_instructionAt_25 (by decide) ?_
    exact mx_aret (r := (some x20)) X hr (Or.inl ⟨_, rfl⟩) hk M dX5_instructionAt_29 (by decide) (by decide) ⟨hw, hKM14_⟩

abbrev rm_X5_hasSlot : Room := { frames := 1, cells := 0, slots := 0, locals := 21 }
def wp_X5_hasSlot (μ : Mem) (o : Nat) (a1 : Int32) (post : Int32 → Mem → Prop) : Prop :=
  kd μ o = 8 ∧
  wp_X10_within μ a1 (fi μ 7 1 o) (fun (r4 : Int32) (μ2 : Mem) =>
  KM μ μ2 →
  narrow .boolean (.int r4) = .int r4 ∧ post r4 μ2)
set_option maxRecDepth 100000 in
set_option maxHeartbeats 4000000 in
theorem c_X5_hasSlot (l : Launch) (T : Tb) (B : Nat) (μ : Mem) (o : Nat) (a1 : Int32) (post : Int32 → Mem → Prop) (hw : wp_X5_hasSlot μ o a1 post) : Met l yX5_hasSlot (.code yX5_hasSlot cX5_hasSlot 2 (some .boolean) :: G) rm_X5_hasSlot (Pm (Rl T B) T B μ [.ref o, .int a1]) (va_Qi (fun r9 μ9 => post r9 μ9 ∧ KM μ μ9) (Bm (Rl T B)) (Ai B)) 0 0 (Ai B) := by
  refine mx_of RX5 rfl (by decide) (Nat.le_of_ble_eq_true rfl) ?_
  intro p e s m below meth c0 X hr hk hnm M ls hl
  have hl : lv_has ls 2 [(0, .ref o), (1, .int a1)] := hl
  unfold wp_X5_hasSlot at hw
  have hKM : KM μ μ := KM.rf μ
  refine lv_iload_n X.1 X.2.1 dX5_hasSlot_0 rfl (lv_at hl 1 rfl) ?_
  refine lv_aload_n X.1 X.2.1 dX5_hasSlot_1 rfl (lv_at hl 0 rfl) ?_
  obtain ⟨hk1, hw⟩ := hw
  refine mx_geti (C := RX5) (F := TX5) (N := 5) (ci := 7) X M 1 rfl in_X5 (by decide) rfl (by decide) kw_321 dX5_hasSlot_2 hk1 ?_
  have hw3 := hw
  clear hw
  refine mx_ci M (mx_runSN (n := 2) (As := [.int a1, .int (fi μ 7 1 o)]) (rest := []) X M (c_X10_within l T B μ a1 (fi μ 7 1 o) _ hw3) kw_308 kw_309 kw_65 kw_310 (by decide +kernel) rfl rfl ⟨Nat.le_of_ble_eq_true rfl, Nat.le_of_ble_eq_true rfl⟩ rfl hl.1 (Nat.le_of_ble_eq_true rfl) dX5_hasSlot_5 ⟨by decide, by decide⟩) (fun r4 μ2 H locs ⟨hw, hKM2⟩ M => ?_)
  replace hw := hw hKM2
  have hKM2_ := hKM.tr hKM2
  have hk5 := hKM2.at hk1
  exact mx_zret X hr hk M dX5_hasSlot_8 (by decide) (by decide) hw.1 ⟨hw.2, hKM2_⟩

abbrev rm_X5_admitsCall : Room := { frames := 2, cells := 0, slots := 0, locals := 46 }
def wp_X5_admitsCall (μ : Mem) (o : Nat) (a1 : Nat) (post : Int32 → Mem → Prop) : Prop :=
  kd μ a1 = 6 ∧
  ∀ r2, r2 = fr μ 5 6 a1 →
  (r2 = none →
   post 0 μ) ∧ (∀ x3, r2 = some x3 →
   ∃ x4, fr μ 5 5 a1 = some x4 ∧
   isArr (kd μ x4) ∧
   kd μ x3 = 8 ∧
   ∃ x6, fr μ 7 3 x3 = some x6 ∧
   isArr (kd μ x6) ∧
   ((nI (al μ x4)) = ((fi μ 7 2 x3) + (nI (al μ x6))) →
    ∃ x7, fr μ 5 5 a1 = some x7 ∧
    kd μ o = 8 ∧
    wp_X5_allWithin μ x7 (fi μ 7 1 o) (fun (r11 : Int32) (μ9 : Mem) =>
    KM μ μ9 →
    (r11 = 0 →
     post 0 μ9) ∧ (¬ r11 = 0 →
     post 1 μ9))) ∧ (¬ (nI (al μ x4)) = ((fi μ 7 2 x3) + (nI (al μ x6))) →
    post 0 μ))
set_option maxRecDepth 100000 in
set_option maxHeartbeats 4000000 in
theorem c_X5_admitsCall (l : Launch) (T : Tb) (B : Nat) (μ : Mem) (o : Nat) (a1 : Nat) (post : Int32 → Mem → Prop) (hw : wp_X5_admitsCall μ o a1 post) : Met l yX5_admitsCall (.code yX5_admitsCall cX5_admitsCall 3 (some .boolean) :: G) rm_X5_admitsCall (Pm (Rl T B) T B μ [.ref o, .ref a1]) (va_Qi (fun r9 μ9 => post r9 μ9 ∧ KM μ μ9) (Bm (Rl T B)) (Ai B)) 0 0 (Ai B) := by
  refine mx_of RX5 rfl (by decide) (Nat.le_of_ble_eq_true rfl) ?_
  intro p e s m below meth c0 X hr hk hnm M ls hl
  have hl : lv_has ls 3 [(0, .ref o), (1, .ref a1)] := hl
  unfold wp_X5_admitsCall at hw
  have hKM : KM μ μ := KM.rf μ
  refine lv_aload_n X.1 X.2.1 dX5_admitsCall_0 rfl (lv_at hl 1 rfl) ?_
  obtain ⟨hk1, hw⟩ := hw
  refine mx_getr (C := RX3) (F := TX3) (N := 7) (ci := 5) X M 6 rfl in_X3 (by decide) rfl (by decide) kw_422 dX5_admitsCall_1 hk1 ?_
  obtain ⟨r2, er2⟩ : ∃ y, y = fr μ 5 6 a1 := ⟨_, rfl⟩
  replace hw := hw r2 er2
  rw [← er2]
  refine mq_astore_n (lv' := [(2, va_rf r2), (0, .ref o), (1, .ref a1)]) X.1 X.2.1 dX5_admitsCall_4 rfl hl (by decide) rfl (fun ls hl => ?_)
  refine mq_aload_n X.1 X.2.1 dX5_admitsCall_5 rfl (lv_at hl 0 rfl) ?_
  obtain ⟨hwn, hws⟩ := hw
  rcases r2 with _ | x3
  · have hw := hwn rfl
    have hl : lv_has ls 3 [(2, .null), (0, .ref o), (1, .ref a1)] := hl
    refine lv_ifnullN (tgt := 45) X.1 X.2.1 dX5_admitsCall_6 (by decide) ?_
    refine lv_iconst (v := 0) X.1 X.2.1 dX5_admitsCall_45 (by decide) ?_
    exact mx_zret X hr hk M dX5_admitsCall_46 (by decide) (by decide) (by decide) ⟨hw, hKM⟩
  · have hw := hws x3 rfl
    have hl : lv_has ls 3 [(2, .ref x3), (0, .ref o), (1, .ref a1)] := hl
    refine lv_ifnull X.1 X.2.1 dX5_admitsCall_6 ?_
    refine lv_aload_n X.1 X.2.1 dX5_admitsCall_9 rfl (lv_at hl 2 rfl) ?_
    obtain ⟨x4, ex4, hw⟩ := hw
    refine mx_getr (C := RX3) (F := TX3) (N := 7) (ci := 5) X M 5 rfl in_X3 (by decide) rfl (by decide) kw_419 dX5_admitsCall_10 hk1 ?_
    rw [ex4]
    obtain ⟨hia, hw⟩ := hw
    refine mx_len X M dX5_admitsCall_13 hia ?_
    refine lv_aload_n X.1 X.2.1 dX5_admitsCall_14 rfl (lv_at hl 0 rfl) ?_
    obtain ⟨hk5, hw⟩ := hw
    refine mx_geti (C := RX5) (F := TX5) (N := 5) (ci := 7) X M 2 rfl in_X5 (by decide) rfl (by decide) kw_324 dX5_admitsCall_15 hk5 ?_
    refine lv_aload_n X.1 X.2.1 dX5_admitsCall_18 rfl (lv_at hl 0 rfl) ?_
    obtain ⟨x6, ex6, hw⟩ := hw
    refine mx_getr (C := RX5) (F := TX5) (N := 5) (ci := 7) X M 3 rfl in_X5 (by decide) rfl (by decide) kw_327 dX5_admitsCall_19 hk5 ?_
    rw [ex6]
    obtain ⟨hia, hw⟩ := hw
    refine mx_len X M dX5_admitsCall_22 hia ?_
    refine lv_iadd X.1 X.2.1 dX5_admitsCall_23 ?_
    obtain ⟨hwf, hwt⟩ := hw
    refine lv_icmp_ne (tgt := 45) X.1 X.2.1 dX5_admitsCall_24 (by decide) (fun hq => ?_) (fun hq => ?_)
    · have hw := hwt hq
      refine lv_iconst (v := 0) X.1 X.2.1 dX5_admitsCall_45 (by decide) ?_
      exact mx_zret X hr hk M dX5_admitsCall_46 (by decide) (by decide) (by decide) ⟨hw, hKM⟩
    · have hw := hwf hq
      refine lv_aload_n X.1 X.2.1 dX5_admitsCall_27 rfl (lv_at hl 2 rfl) ?_
      obtain ⟨x7, ex7, hw⟩ := hw
      refine mx_getr (C := RX3) (F := TX3) (N := 7) (ci := 5) X M 5 rfl in_X3 (by decide) rfl (by decide) kw_419 dX5_admitsCall_28 hk1 ?_
      rw [ex7]
      refine lv_aload_n X.1 X.2.1 dX5_admitsCall_31 rfl (lv_at hl 1 rfl) ?_
      obtain ⟨hk8, hw⟩ := hw
      refine mx_geti (C := RX5) (F := TX5) (N := 5) (ci := 7) X M 1 rfl in_X5 (by decide) rfl (by decide) kw_321 dX5_admitsCall_32 hk8 ?_
      have hw10 := hw
      clear hw
      refine mx_ci M (mx_runS (n := 2) (As := [.ref x7, .int (fi μ 7 1 o)]) (rest := []) X M (c_X5_allWithin l T B μ x7 (fi μ 7 1 o) _ hw10) kw_305 kw_306 kw_78 kw_307 (by decide +kernel) rfl rfl ⟨Nat.le_of_ble_eq_true rfl, Nat.le_of_ble_eq_true rfl⟩ rfl hl.1 (Nat.le_of_ble_eq_true rfl) dX5_admitsCall_35 ⟨by decide, by decide⟩) (fun r11 μ9 H locs ⟨hw, hKM9⟩ M => ?_)
      replace hw := hw hKM9
      have hKM9_ := hKM.tr hKM9
      have hk12 := hKM9.at hk1
      have hk13 := hKM9.at hk5
      have hk14 := hKM9.at hk8
      obtain ⟨hwt, hwf⟩ := hw
      refine lv_if_eq (tgt := 45) X.1 X.2.1 dX5_admitsCall_38 (by decide) (fun hq => ?_) (fun hq => ?_)
      · have hw := hwt hq
        refine lv_iconst (v := 0) X.1 X.2.1 dX5_admitsCall_45 (by decide) ?_
        exact mx_zret X hr hk M dX5_admitsCall_46 (by decide) (by decide) (by decide) ⟨hw, hKM9_⟩
      · have hw := hwf hq
        refine lv_iconst (v := 1) X.1 X.2.1 dX5_admitsCall_41 (by decide) ?_
        refine lv_goto (tgt := 46) X.1 X.2.1 dX5_admitsCall_42 (by decide) ?_
        exact mx_zret X hr hk M dX5_admitsCall_46 (by decide) (by decide) (by decide) ⟨hw, hKM9_⟩

abbrev rm_X5_admits : Room := { frames := 3, cells := 0, slots := 0, locals := 68 }
def wp_X5_admits_93 (o : Nat) (post : Int32 → Mem → Prop) (μ : Mem) (x1 : Nat) : Prop :=
  kd μ x1 = 6 ∧
  kd μ o = 8 ∧
  wp_X5_hasSlot μ o (fi μ 5 1 x1) (fun (r11 : Int32) (μ9 : Mem) =>
  KM μ μ9 →
  (r11 = 0 →
   post 0 μ9) ∧ (¬ r11 = 0 →
   wp_X5_hasSlot μ9 o (fi μ9 5 2 x1) (fun (r17 : Int32) (μ15 : Mem) =>
   KM μ9 μ15 →
   (r17 = 0 →
    post 0 μ15) ∧ (¬ r17 = 0 →
    post 1 μ15))))
def wp_X5_admits_121 (o : Nat) (post : Int32 → Mem → Prop) (μ : Mem) (x1 : Nat) : Prop :=
  kd μ x1 = 6 ∧
  kd μ o = 8 ∧
  wp_X5_hasSlot μ o (fi μ 5 1 x1) (fun (r23 : Int32) (μ21 : Mem) =>
  KM μ μ21 →
  (r23 = 0 →
   post 0 μ21) ∧ (¬ r23 = 0 →
   wp_X10_within μ21 (fi μ21 5 2 x1) 32 (fun (r29 : Int32) (μ27 : Mem) =>
   KM μ21 μ27 →
   (r29 = 0 →
    post 0 μ27) ∧ (¬ r29 = 0 →
    ∃ x32, fr μ27 5 5 x1 = some x32 ∧
    isArr (kd μ27 x32) ∧
    (4 < (nI (al μ27 x32)) →
     post 0 μ27) ∧ (¬ 4 < (nI (al μ27 x32)) →
     ∃ x33, fr μ27 5 5 x1 = some x33 ∧
     wp_X5_allWithin μ27 x33 (fi μ27 7 1 o) (fun (r36 : Int32) (μ34 : Mem) =>
     KM μ27 μ34 →
     (r36 = 0 →
      post 0 μ34) ∧ (¬ r36 = 0 →
      post 1 μ34)))))))
def wp_X5_admits (μ : Mem) (o : Nat) (a1 : Nat) (post : Int32 → Mem → Prop) : Prop :=
  kd μ a1 = 6 ∧
  ((fi μ 5 0 a1) = 0 →
   kd μ o = 8 ∧
   wp_X5_hasSlot μ o (fi μ 5 1 a1) (fun (r4 : Int32) (μ2 : Mem) =>
   KM μ μ2 →
   narrow .boolean (.int r4) = .int r4 ∧ post r4 μ2)) ∧
  ((fi μ 5 0 a1) = 1 →
   wp_X5_admits_93 o post μ a1) ∧
  ((fi μ 5 0 a1) = 2 →
   wp_X5_admits_121 o post μ a1) ∧
  ((fi μ 5 0 a1) = 3 →
   wp_X5_admits_121 o post μ a1) ∧
  ((fi μ 5 0 a1) = 4 →
   wp_X5_admits_93 o post μ a1) ∧
  ((fi μ 5 0 a1) = 5 →
   kd μ o = 8 ∧
   wp_X5_hasSlot μ o (fi μ 5 1 a1) (fun (r41 : Int32) (μ39 : Mem) =>
   KM μ μ39 →
   (r41 = 0 →
    post 0 μ39) ∧ (¬ r41 = 0 →
    wp_X5_hasSlot μ39 o (fi μ39 5 2 a1) (fun (r47 : Int32) (μ45 : Mem) =>
    KM μ39 μ45 →
    (r47 = 0 →
     post 0 μ45) ∧ (¬ r47 = 0 →
     wp_X5_hasSlot μ45 o (fi μ45 5 3 a1) (fun (r52 : Int32) (μ50 : Mem) =>
     KM μ45 μ50 →
     (r52 = 0 →
      post 0 μ50) ∧ (¬ r52 = 0 →
      wp_X10_within μ50 (fi μ50 5 4 a1) 5 (fun (r57 : Int32) (μ55 : Mem) =>
      KM μ50 μ55 →
      (r57 = 0 →
       post 0 μ55) ∧ (¬ r57 = 0 →
       post 1 μ55))))))))) ∧
  ((fi μ 5 0 a1) = 6 →
   kd μ o = 8 ∧
   wp_X5_hasSlot μ o (fi μ 5 1 a1) (fun (r62 : Int32) (μ60 : Mem) =>
   KM μ μ60 →
   (r62 = 0 →
    post 0 μ60) ∧ (¬ r62 = 0 →
    wp_X5_hasSlot μ60 o (fi μ60 5 2 a1) (fun (r68 : Int32) (μ66 : Mem) =>
    KM μ60 μ66 →
    (r68 = 0 →
     post 0 μ66) ∧ (¬ r68 = 0 →
     wp_X10_within μ66 (fi μ66 5 3 a1) 6 (fun (r73 : Int32) (μ71 : Mem) =>
     KM μ66 μ71 →
     (r73 = 0 →
      post 0 μ71) ∧ (¬ r73 = 0 →
      post 1 μ71))))))) ∧
  ((fi μ 5 0 a1) = 7 →
   wp_X10_within μ (fi μ 5 1 a1) 2000 (fun (r78 : Int32) (μ76 : Mem) =>
   KM μ μ76 →
   narrow .boolean (.int r78) = .int r78 ∧ post r78 μ76)) ∧
  ((fi μ 5 0 a1) = 8 →
   kd μ o = 8 ∧
   wp_X5_hasSlot μ o (fi μ 5 1 a1) (fun (r82 : Int32) (μ80 : Mem) =>
   KM μ μ80 →
   (r82 = 0 →
    post 0 μ80) ∧ (¬ r82 = 0 →
    wp_X10_within μ80 (fi μ80 5 2 a1) 32 (fun (r88 : Int32) (μ86 : Mem) =>
    KM μ80 μ86 →
    (r88 = 0 →
     post 0 μ86) ∧ (¬ r88 = 0 →
     wp_X10_within μ86 (fi μ86 5 3 a1) 2000 (fun (r93 : Int32) (μ91 : Mem) =>
     KM μ86 μ91 →
     (r93 = 0 →
      post 0 μ91) ∧ (¬ r93 = 0 →
      post 1 μ91))))))) ∧
  ((fi μ 5 0 a1) = 9 →
   wp_X10_within μ (fi μ 5 1 a1) 2000 (fun (r98 : Int32) (μ96 : Mem) =>
   KM μ μ96 →
   narrow .boolean (.int r98) = .int r98 ∧ post r98 μ96)) ∧
  ((fi μ 5 0 a1) = 10 →
   kd μ o = 8 ∧
   wp_X5_admitsCall μ o a1 (fun (r102 : Int32) (μ100 : Mem) =>
   KM μ μ100 →
   narrow .boolean (.int r102) = .int r102 ∧ post r102 μ100)) ∧
  ((fi μ 5 0 a1) = 11 →
   kd μ o = 8 ∧
   wp_X5_hasSlot μ o (fi μ 5 1 a1) (fun (r108 : Int32) (μ106 : Mem) =>
   KM μ μ106 →
   narrow .boolean (.int r108) = .int r108 ∧ post r108 μ106)) ∧
  ((fi μ 5 0 a1) = 12 →
   kd μ o = 8 ∧
   wp_X5_hasSlot μ o (fi μ 5 1 a1) (fun (r114 : Int32) (μ112 : Mem) =>
   KM μ μ112 →
   narrow .boolean (.int r114) = .int r114 ∧ post r114 μ112)) ∧
  ((fi μ 5 0 a1) = 13 →
   kd μ o = 8 ∧
   wp_X5_hasSlot μ o (fi μ 5 1 a1) (fun (r120 : Int32) (μ118 : Mem) =>
   KM μ μ118 →
   narrow .boolean (.int r120) = .int r120 ∧ post r120 μ118)) ∧
  ((fi μ 5 0 a1) = 14 →
   post 1 μ) ∧
  ((fi μ 5 0 a1) = 15 →
   post 1 μ) ∧
  (¬ (fi μ 5 0 a1) = 0 → ¬ (fi μ 5 0 a1) = 1 → ¬ (fi μ 5 0 a1) = 2 → ¬ (fi μ 5 0 a1) = 3 → ¬ (fi μ 5 0 a1) = 4 → ¬ (fi μ 5 0 a1) = 5 → ¬ (fi μ 5 0 a1) = 6 → ¬ (fi μ 5 0 a1) = 7 → ¬ (fi μ 5 0 a1) = 8 → ¬ (fi μ 5 0 a1) = 9 → ¬ (fi μ 5 0 a1) = 10 → ¬ (fi μ 5 0 a1) = 11 → ¬ (fi μ 5 0 a1) = 12 → ¬ (fi μ 5 0 a1) = 13 → ¬ (fi μ 5 0 a1) = 14 → ¬ (fi μ 5 0 a1) = 15 → 
   post 0 μ)
set_option maxRecDepth 100000 in
set_option maxHeartbeats 4000000 in
theorem b_X5_admits_93 {T : Tb} {B : Nat} {p : Program} {l : Launch} {e : Env} {s : State} {m : MethodId} {args : Array Value} {below : List Frame} {meth : Method} {c0 : Code} {post : Int32 → Mem → Prop} {μ0 : Mem} {o : Nat} (X : CX T B p m c0 cX5_admits 2 s args RX5) (hr : meth.sig.returnType = (some .boolean)) (hk : meth.locks = false) : ∀ (μ : Mem) (x1 : Nat) (H : Heap) (locs : List Loc) (ls : Array Slot), KM μ0 μ → wp_X5_admits_93 o post μ x1 → MG (Rl T B) B s μ H locs → lv_has ls 2 [(0, .ref o), (1, .ref x1)] → W p l e rm_X5_admits s m args below meth c0 H locs 0 0 (MQ below (va_Qi (fun r9 μ9 => post r9 μ9 ∧ KM μ0 μ9) (Bm (Rl T B)) (Ai B)) args s 0 0 (Ai B)) (F0 m 93 ls []) := by
  intro μ x1 H locs ls hKM hw M hl
  unfold wp_X5_admits_93 at hw
  refine lv_aload_n X.1 X.2.1 dX5_admits_93 rfl (lv_at hl 0 rfl) ?_
  refine lv_aload_n X.1 X.2.1 dX5_admits_94 rfl (lv_at hl 1 rfl) ?_
  obtain ⟨hk8, hw⟩ := hw
  refine mx_geti (C := RX3) (F := TX3) (N := 7) (ci := 5) X M 1 rfl in_X3 (by decide) rfl (by decide) kw_407 dX5_admits_95 hk8 ?_
  obtain ⟨hk12, hw⟩ := hw
  have hw10 := hw
  clear hw
  refine mx_ci M (mx_runV (n := 1) (As := [.int (fi μ 5 1 x1)]) (rest := []) X M (c_X5_hasSlot l T B μ o (fi μ 5 1 x1) _ hw10) (mx_recv (C := RX5) (F := TX5) (N := 5) (ci := 7) X M rfl (by decide) hk12) kw_462 kw_464 kw_5 kw_78 kw_465 (by decide +kernel) rfl rfl ⟨Nat.le_of_ble_eq_true rfl, Nat.le_of_ble_eq_true rfl⟩ rfl hl.1 (Nat.le_of_ble_eq_true rfl) dX5_admits_98 ⟨by decide, by decide⟩) (fun r11 μ9 H locs ⟨hw, hKM9⟩ M => ?_)
  replace hw := hw hKM9
  have hKM9_ := hKM.tr hKM9
  have hk13 := hKM9.at hk8
  have hk14 := hKM9.at hk12
  obtain ⟨hwt, hwf⟩ := hw
  refine lv_if_eq (tgt := 119) X.1 X.2.1 dX5_admits_101 (by decide) (fun hq => ?_) (fun hq => ?_)
  · have hw := hwt hq
    refine lv_iconst (v := 0) X.1 X.2.1 dX5_admits_119 (by decide) ?_
    exact mx_zret X hr hk M dX5_admits_120 (by decide) (by decide) (by decide) ⟨hw, hKM9_⟩
  · have hw := hwf hq
    refine lv_aload_n X.1 X.2.1 dX5_admits_104 rfl (lv_at hl 0 rfl) ?_
    refine lv_aload_n X.1 X.2.1 dX5_admits_105 rfl (lv_at hl 1 rfl) ?_
    refine mx_geti (C := RX3) (F := TX3) (N := 7) (ci := 5) X M 2 rfl in_X3 (by decide) rfl (by decide) kw_410 dX5_admits_106 hk13 ?_
    have hw16 := hw
    clear hw
    refine mx_ci M (mx_runV (n := 1) (As := [.int (fi μ9 5 2 x1)]) (rest := []) X M (c_X5_hasSlot l T B μ9 o (fi μ9 5 2 x1) _ hw16) (mx_recv (C := RX5) (F := TX5) (N := 5) (ci := 7) X M rfl (by decide) hk14) kw_462 kw_464 kw_5 kw_78 kw_465 (by decide +kernel) rfl rfl ⟨Nat.le_of_ble_eq_true rfl, Nat.le_of_ble_eq_true rfl⟩ rfl hl.1 (Nat.le_of_ble_eq_true rfl) dX5_admits_109 ⟨by decide, by decide⟩) (fun r17 μ15 H locs ⟨hw, hKM15⟩ M => ?_)
    replace hw := hw hKM15
    have hKM15_ := hKM9_.tr hKM15
    have hk18 := hKM15.at hk13
    have hk19 := hKM15.at hk14
    obtain ⟨hwt, hwf⟩ := hw
    refine lv_if_eq (tgt := 119) X.1 X.2.1 dX5_admits_112 (by decide) (fun hq => ?_) (fun hq => ?_)
    · have hw := hwt hq
      refine lv_iconst (v := 0) X.1 X.2.1 dX5_admits_119 (by decide) ?_
      exact mx_zret X hr hk M dX5_admits_120 (by decide) (by decide) (by decide) ⟨hw, hKM15_⟩
    · have hw := hwf hq
      refine lv_iconst (v := 1) X.1 X.2.1 dX5_admits_115 (by decide) ?_
      refine lv_goto (tgt := 120) X.1 X.2.1 dX5_admits_116 (by decide) ?_
      exact mx_zret X hr hk M dX5_admits_120 (by decide) (by decide) (by decide) ⟨hw, hKM15_⟩
set_option maxRecDepth 100000 in
set_option maxHeartbeats 4000000 in
theorem b_X5_admits_121 {T : Tb} {B : Nat} {p : Program} {l : Launch} {e : Env} {s : State} {m : MethodId} {args : Array Value} {below : List Frame} {meth : Method} {c0 : Code} {post : Int32 → Mem → Prop} {μ0 : Mem} {o : Nat} (X : CX T B p m c0 cX5_admits 2 s args RX5) (hr : meth.sig.returnType = (some .boolean)) (hk : meth.locks = false) : ∀ (μ : Mem) (x1 : Nat) (H : Heap) (locs : List Loc) (ls : Array Slot), KM μ0 μ → wp_X5_admits_121 o post μ x1 → MG (Rl T B) B s μ H locs → lv_has ls 2 [(0, .ref o), (1, .ref x1)] → W p l e rm_X5_admits s m args below meth c0 H locs 0 0 (MQ below (va_Qi (fun r9 μ9 => post r9 μ9 ∧ KM μ0 μ9) (Bm (Rl T B)) (Ai B)) args s 0 0 (Ai B)) (F0 m 121 ls []) := by
  intro μ x1 H locs ls hKM hw M hl
  unfold wp_X5_admits_121 at hw
  refine lv_aload_n X.1 X.2.1 dX5_admits_121 rfl (lv_at hl 0 rfl) ?_
  refine lv_aload_n X.1 X.2.1 dX5_admits_122 rfl (lv_at hl 1 rfl) ?_
  obtain ⟨hk20, hw⟩ := hw
  refine mx_geti (C := RX3) (F := TX3) (N := 7) (ci := 5) X M 1 rfl in_X3 (by decide) rfl (by decide) kw_407 dX5_admits_123 hk20 ?_
  obtain ⟨hk24, hw⟩ := hw
  have hw22 := hw
  clear hw
  refine mx_ci M (mx_runV (n := 1) (As := [.int (fi μ 5 1 x1)]) (rest := []) X M (c_X5_hasSlot l T B μ o (fi μ 5 1 x1) _ hw22) (mx_recv (C := RX5) (F := TX5) (N := 5) (ci := 7) X M rfl (by decide) hk24) kw_462 kw_464 kw_5 kw_78 kw_465 (by decide +kernel) rfl rfl ⟨Nat.le_of_ble_eq_true rfl, Nat.le_of_ble_eq_true rfl⟩ rfl hl.1 (Nat.le_of_ble_eq_true rfl) dX5_admits_126 ⟨by decide, by decide⟩) (fun r23 μ21 H locs ⟨hw, hKM21⟩ M => ?_)
  replace hw := hw hKM21
  have hKM21_ := hKM.tr hKM21
  have hk25 := hKM21.at hk20
  have hk26 := hKM21.at hk24
  obtain ⟨hwt, hwf⟩ := hw
  refine lv_if_eq (tgt := 171) X.1 X.2.1 dX5_admits_129 (by decide) (fun hq => ?_) (fun hq => ?_)
  · have hw := hwt hq
    refine lv_iconst (v := 0) X.1 X.2.1 dX5_admits_171 (by decide) ?_
    exact mx_zret X hr hk M dX5_admits_172 (by decide) (by decide) (by decide) ⟨hw, hKM21_⟩
  · have hw := hwf hq
    refine lv_aload_n X.1 X.2.1 dX5_admits_132 rfl (lv_at hl 1 rfl) ?_
    refine mx_geti (C := RX3) (F := TX3) (N := 7) (ci := 5) X M 2 rfl in_X3 (by decide) rfl (by decide) kw_410 dX5_admits_133 hk25 ?_
    refine lv_bipush (v := 32) X.1 X.2.1 dX5_admits_136 (by decide) ?_
    have hw28 := hw
    clear hw
    refine mx_ci M (mx_runSN (n := 2) (As := [.int (fi μ21 5 2 x1), .int 32]) (rest := []) X M (c_X10_within l T B μ21 (fi μ21 5 2 x1) 32 _ hw28) kw_308 kw_309 kw_65 kw_310 (by decide +kernel) rfl rfl ⟨Nat.le_of_ble_eq_true rfl, Nat.le_of_ble_eq_true rfl⟩ rfl hl.1 (Nat.le_of_ble_eq_true rfl) dX5_admits_138 ⟨by decide, by decide⟩) (fun r29 μ27 H locs ⟨hw, hKM27⟩ M => ?_)
    replace hw := hw hKM27
    have hKM27_ := hKM21_.tr hKM27
    have hk30 := hKM27.at hk25
    have hk31 := hKM27.at hk26
    obtain ⟨hwt, hwf⟩ := hw
    refine lv_if_eq (tgt := 171) X.1 X.2.1 dX5_admits_141 (by decide) (fun hq => ?_) (fun hq => ?_)
    · have hw := hwt hq
      refine lv_iconst (v := 0) X.1 X.2.1 dX5_admits_171 (by decide) ?_
      exact mx_zret X hr hk M dX5_admits_172 (by decide) (by decide) (by decide) ⟨hw, hKM27_⟩
    · have hw := hwf hq
      refine lv_aload_n X.1 X.2.1 dX5_admits_144 rfl (lv_at hl 1 rfl) ?_
      obtain ⟨x32, ex32, hw⟩ := hw
      refine mx_getr (C := RX3) (F := TX3) (N := 7) (ci := 5) X M 5 rfl in_X3 (by decide) rfl (by decide) kw_419 dX5_admits_145 hk30 ?_
      rw [ex32]
      obtain ⟨hia, hw⟩ := hw
      refine mx_len X M dX5_admits_148 hia ?_
      refine lv_iconst (v := 4) X.1 X.2.1 dX5_admits_149 (by decide) ?_
      obtain ⟨hwt, hwf⟩ := hw
      refine lv_icmp_gt (tgt := 171) X.1 X.2.1 dX5_admits_150 (by decide) (fun hq => ?_) (fun hq => ?_)
      · have hw := hwt hq
        refine lv_iconst (v := 0) X.1 X.2.1 dX5_admits_171 (by decide) ?_
        exact mx_zret X hr hk M dX5_admits_172 (by decide) (by decide) (by decide) ⟨hw, hKM27_⟩
      · have hw := hwf hq
        refine lv_aload_n X.1 X.2.1 dX5_admits_153 rfl (lv_at hl 1 rfl) ?_
        obtain ⟨x33, ex33, hw⟩ := hw
        refine mx_getr (C := RX3) (F := TX3) (N := 7) (ci := 5) X M 5 rfl in_X3 (by decide) rfl (by decide) kw_419 dX5_admits_154 hk30 ?_
        rw [ex33]
        refine lv_aload_n X.1 X.2.1 dX5_admits_157 rfl (lv_at hl 0 rfl) ?_
        refine mx_geti (C := RX5) (F := TX5) (N := 5) (ci := 7) X M 1 rfl in_X5 (by decide) rfl (by decide) kw_321 dX5_admits_158 hk31 ?_
        have hw35 := hw
        clear hw
        refine mx_ci M (mx_runS (n := 2) (As := [.ref x33, .int (fi μ27 7 1 o)]) (rest := []) X M (c_X5_allWithin l T B μ27 x33 (fi μ27 7 1 o) _ hw35) kw_305 kw_306 kw_78 kw_307 (by decide +kernel) rfl rfl ⟨Nat.le_of_ble_eq_true rfl, Nat.le_of_ble_eq_true rfl⟩ rfl hl.1 (Nat.le_of_ble_eq_true rfl) dX5_admits_161 ⟨by decide, by decide⟩) (fun r36 μ34 H locs ⟨hw, hKM34⟩ M => ?_)
        replace hw := hw hKM34
        have hKM34_ := hKM27_.tr hKM34
        have hk37 := hKM34.at hk30
        have hk38 := hKM34.at hk31
        obtain ⟨hwt, hwf⟩ := hw
        refine lv_if_eq (tgt := 171) X.1 X.2.1 dX5_admits_164 (by decide) (fun hq => ?_) (fun hq => ?_)
        · have hw := hwt hq
          refine lv_iconst (v := 0) X.1 X.2.1 dX5_admits_171 (by decide) ?_
          exact mx_zret X hr hk M dX5_admits_172 (by decide) (by decide) (by decide) ⟨hw, hKM34_⟩
        · have hw := hwf hq
          refine lv_iconst (v := 1) X.1 X.2.1 dX5_admits_167 (by decide) ?_
          refine lv_goto (tgt := 172) X.1 X.2.1 dX5_admits_168 (by decide) ?_
          exact mx_zret X hr hk M dX5_admits_172 (by decide) (by decide) (by decide) ⟨hw, hKM34_⟩
set_option maxRecDepth 100000 in
set_option maxHeartbeats 4000000 in
theorem c_X5_admits (l : Launch) (T : Tb) (B : Nat) (μ : Mem) (o : Nat) (a1 : Nat) (post : Int32 → Mem → Prop) (hw : wp_X5_admits μ o a1 post) : Met l yX5_admits (.code yX5_admits cX5_admits 2 (some .boolean) :: G) rm_X5_admits (Pm (Rl T B) T B μ [.ref o, .ref a1]) (va_Qi (fun r9 μ9 => post r9 μ9 ∧ KM μ μ9) (Bm (Rl T B)) (Ai B)) 0 0 (Ai B) := by
  refine mx_of RX5 rfl (by decide) (Nat.le_of_ble_eq_true rfl) ?_
  intro p e s m below meth c0 X hr hk hnm M ls hl
  have hl : lv_has ls 2 [(0, .ref o), (1, .ref a1)] := hl
  unfold wp_X5_admits at hw
  have hKM : KM μ μ := KM.rf μ
  refine lv_aload_n X.1 X.2.1 dX5_admits_0 rfl (lv_at hl 1 rfl) ?_
  obtain ⟨hk1, hw⟩ := hw
  refine mx_geti (C := RX3) (F := TX3) (N := 7) (ci := 5) X M 0 rfl in_X3 (by decide) rfl (by decide) kw_404 dX5_admits_1 hk1 ?_
  obtain ⟨hw_0, hw_1, hw_2, hw_3, hw_4, hw_5, hw_6, hw_7, hw_8, hw_9, hw_10, hw_11, hw_12, hw_13, hw_14, hw_15, hw_d⟩ := hw
  by_cases q_0 : (fi μ 5 0 a1) = 0
  · have hw := hw_0 q_0
    refine lv_tableIn (off := 80) (tgt := 84) X.1 X.2.1 dX5_admits_4 (by rw [q_0]; decide) (by rw [q_0]; decide) (by rw [q_0]; rfl) (by decide) ?_
    refine lv_aload_n X.1 X.2.1 dX5_admits_84 rfl (lv_at hl 0 rfl) ?_
    refine lv_aload_n X.1 X.2.1 dX5_admits_85 rfl (lv_at hl 1 rfl) ?_
    refine mx_geti (C := RX3) (F := TX3) (N := 7) (ci := 5) X M 1 rfl in_X3 (by decide) rfl (by decide) kw_407 dX5_admits_86 hk1 ?_
    obtain ⟨hk5, hw⟩ := hw
    have hw3 := hw
    clear hw
    refine mx_ci M (mx_runV (n := 1) (As := [.int (fi μ 5 1 a1)]) (rest := []) X M (c_X5_hasSlot l T B μ o (fi μ 5 1 a1) _ hw3) (mx_recv (C := RX5) (F := TX5) (N := 5) (ci := 7) X M rfl (by decide) hk5) kw_462 kw_464 kw_5 kw_78 kw_465 (by decide +kernel) rfl rfl ⟨Nat.le_of_ble_eq_true rfl, Nat.le_of_ble_eq_true rfl⟩ rfl hl.1 (Nat.le_of_ble_eq_true rfl) dX5_admits_89 ⟨by decide, by decide⟩) (fun r4 μ2 H locs ⟨hw, hKM2⟩ M => ?_)
    replace hw := hw hKM2
    have hKM2_ := hKM.tr hKM2
    have hk6 := hKM2.at hk1
    have hk7 := hKM2.at hk5
    exact mx_zret X hr hk M dX5_admits_92 (by decide) (by decide) hw.1 ⟨hw.2, hKM2_⟩
  by_cases q_1 : (fi μ 5 0 a1) = 1
  · have hw := hw_1 q_1
    refine lv_tableIn (off := 89) (tgt := 93) X.1 X.2.1 dX5_admits_4 (by rw [q_1]; decide) (by rw [q_1]; decide) (by rw [q_1]; rfl) (by decide) ?_
    exact b_X5_admits_93 X hr hk μ a1 _ _ _ hKM hw M (lv_sub hl [0, 1] rfl)
  by_cases q_2 : (fi μ 5 0 a1) = 2
  · have hw := hw_2 q_2
    refine lv_tableIn (off := 117) (tgt := 121) X.1 X.2.1 dX5_admits_4 (by rw [q_2]; decide) (by rw [q_2]; decide) (by rw [q_2]; rfl) (by decide) ?_
    exact b_X5_admits_121 X hr hk μ a1 _ _ _ hKM hw M (lv_sub hl [0, 1] rfl)
  by_cases q_3 : (fi μ 5 0 a1) = 3
  · have hw := hw_3 q_3
    refine lv_tableIn (off := 117) (tgt := 121) X.1 X.2.1 dX5_admits_4 (by rw [q_3]; decide) (by rw [q_3]; decide) (by rw [q_3]; rfl) (by decide) ?_
    exact b_X5_admits_121 X hr hk μ a1 _ _ _ hKM hw M (lv_sub hl [0, 1] rfl)
  by_cases q_4 : (fi μ 5 0 a1) = 4
  · have hw := hw_4 q_4
    refine lv_tableIn (off := 89) (tgt := 93) X.1 X.2.1 dX5_admits_4 (by rw [q_4]; decide) (by rw [q_4]; decide) (by rw [q_4]; rfl) (by decide) ?_
    exact b_X5_admits_93 X hr hk μ a1 _ _ _ hKM hw M (lv_sub hl [0, 1] rfl)
  by_cases q_5 : (fi μ 5 0 a1) = 5
  · have hw := hw_5 q_5
    refine lv_tableIn (off := 169) (tgt := 173) X.1 X.2.1 dX5_admits_4 (by rw [q_5]; decide) (by rw [q_5]; decide) (by rw [q_5]; rfl) (by decide) ?_
    refine lv_aload_n X.1 X.2.1 dX5_admits_173 rfl (lv_at hl 0 rfl) ?_
    refine lv_aload_n X.1 X.2.1 dX5_admits_174 rfl (lv_at hl 1 rfl) ?_
    refine mx_geti (C := RX3) (F := TX3) (N := 7) (ci := 5) X M 1 rfl in_X3 (by decide) rfl (by decide) kw_407 dX5_admits_175 hk1 ?_
    obtain ⟨hk42, hw⟩ := hw
    have hw40 := hw
    clear hw
    refine mx_ci M (mx_runV (n := 1) (As := [.int (fi μ 5 1 a1)]) (rest := []) X M (c_X5_hasSlot l T B μ o (fi μ 5 1 a1) _ hw40) (mx_recv (C := RX5) (F := TX5) (N := 5) (ci := 7) X M rfl (by decide) hk42) kw_462 kw_464 kw_5 kw_78 kw_465 (by decide +kernel) rfl rfl ⟨Nat.le_of_ble_eq_true rfl, Nat.le_of_ble_eq_true rfl⟩ rfl hl.1 (Nat.le_of_ble_eq_true rfl) dX5_admits_178 ⟨by decide, by decide⟩) (fun r41 μ39 H locs ⟨hw, hKM39⟩ M => ?_)
    replace hw := hw hKM39
    have hKM39_ := hKM.tr hKM39
    have hk43 := hKM39.at hk1
    have hk44 := hKM39.at hk42
    obtain ⟨hwt, hwf⟩ := hw
    refine lv_if_eq (tgt := 221) X.1 X.2.1 dX5_admits_181 (by decide) (fun hq => ?_) (fun hq => ?_)
    · have hw := hwt hq
      refine lv_iconst (v := 0) X.1 X.2.1 dX5_admits_221 (by decide) ?_
      exact mx_zret X hr hk M dX5_admits_222 (by decide) (by decide) (by decide) ⟨hw, hKM39_⟩
    · have hw := hwf hq
      refine lv_aload_n X.1 X.2.1 dX5_admits_184 rfl (lv_at hl 0 rfl) ?_
      refine lv_aload_n X.1 X.2.1 dX5_admits_185 rfl (lv_at hl 1 rfl) ?_
      refine mx_geti (C := RX3) (F := TX3) (N := 7) (ci := 5) X M 2 rfl in_X3 (by decide) rfl (by decide) kw_410 dX5_admits_186 hk43 ?_
      have hw46 := hw
      clear hw
      refine mx_ci M (mx_runV (n := 1) (As := [.int (fi μ39 5 2 a1)]) (rest := []) X M (c_X5_hasSlot l T B μ39 o (fi μ39 5 2 a1) _ hw46) (mx_recv (C := RX5) (F := TX5) (N := 5) (ci := 7) X M rfl (by decide) hk44) kw_462 kw_464 kw_5 kw_78 kw_465 (by decide +kernel) rfl rfl ⟨Nat.le_of_ble_eq_true rfl, Nat.le_of_ble_eq_true rfl⟩ rfl hl.1 (Nat.le_of_ble_eq_true rfl) dX5_admits_189 ⟨by decide, by decide⟩) (fun r47 μ45 H locs ⟨hw, hKM45⟩ M => ?_)
      replace hw := hw hKM45
      have hKM45_ := hKM39_.tr hKM45
      have hk48 := hKM45.at hk43
      have hk49 := hKM45.at hk44
      obtain ⟨hwt, hwf⟩ := hw
      refine lv_if_eq (tgt := 221) X.1 X.2.1 dX5_admits_192 (by decide) (fun hq => ?_) (fun hq => ?_)
      · have hw := hwt hq
        refine lv_iconst (v := 0) X.1 X.2.1 dX5_admits_221 (by decide) ?_
        exact mx_zret X hr hk M dX5_admits_222 (by decide) (by decide) (by decide) ⟨hw, hKM45_⟩
      · have hw := hwf hq
        refine lv_aload_n X.1 X.2.1 dX5_admits_195 rfl (lv_at hl 0 rfl) ?_
        refine lv_aload_n X.1 X.2.1 dX5_admits_196 rfl (lv_at hl 1 rfl) ?_
        refine mx_geti (C := RX3) (F := TX3) (N := 7) (ci := 5) X M 3 rfl in_X3 (by decide) rfl (by decide) kw_413 dX5_admits_197 hk48 ?_
        have hw51 := hw
        clear hw
        refine mx_ci M (mx_runV (n := 1) (As := [.int (fi μ45 5 3 a1)]) (rest := []) X M (c_X5_hasSlot l T B μ45 o (fi μ45 5 3 a1) _ hw51) (mx_recv (C := RX5) (F := TX5) (N := 5) (ci := 7) X M rfl (by decide) hk49) kw_462 kw_464 kw_5 kw_78 kw_465 (by decide +kernel) rfl rfl ⟨Nat.le_of_ble_eq_true rfl, Nat.le_of_ble_eq_true rfl⟩ rfl hl.1 (Nat.le_of_ble_eq_true rfl) dX5_admits_200 ⟨by decide, by decide⟩) (fun r52 μ50 H locs ⟨hw, hKM50⟩ M => ?_)
        replace hw := hw hKM50
        have hKM50_ := hKM45_.tr hKM50
        have hk53 := hKM50.at hk48
        have hk54 := hKM50.at hk49
        obtain ⟨hwt, hwf⟩ := hw
        refine lv_if_eq (tgt := 221) X.1 X.2.1 dX5_admits_203 (by decide) (fun hq => ?_) (fun hq => ?_)
        · have hw := hwt hq
          refine lv_iconst (v := 0) X.1 X.2.1 dX5_admits_221 (by decide) ?_
          exact mx_zret X hr hk M dX5_admits_222 (by decide) (by decide) (by decide) ⟨hw, hKM50_⟩
        · have hw := hwf hq
          refine lv_aload_n X.1 X.2.1 dX5_admits_206 rfl (lv_at hl 1 rfl) ?_
          refine mx_geti (C := RX3) (F := TX3) (N := 7) (ci := 5) X M 4 rfl in_X3 (by decide) rfl (by decide) kw_416 dX5_admits_207 hk53 ?_
          refine lv_iconst (v := 5) X.1 X.2.1 dX5_admits_210 (by decide) ?_
          have hw56 := hw
          clear hw
          refine mx_ci M (mx_runSN (n := 2) (As := [.int (fi μ50 5 4 a1), .int 5]) (rest := []) X M (c_X10_within l T B μ50 (fi μ50 5 4 a1) 5 _ hw56) kw_308 kw_309 kw_65 kw_310 (by decide +kernel) rfl rfl ⟨Nat.le_of_ble_eq_true rfl, Nat.le_of_ble_eq_true rfl⟩ rfl hl.1 (Nat.le_of_ble_eq_true rfl) dX5_admits_211 ⟨by decide, by decide⟩) (fun r57 μ55 H locs ⟨hw, hKM55⟩ M => ?_)
          replace hw := hw hKM55
          have hKM55_ := hKM50_.tr hKM55
          have hk58 := hKM55.at hk53
          have hk59 := hKM55.at hk54
          obtain ⟨hwt, hwf⟩ := hw
          refine lv_if_eq (tgt := 221) X.1 X.2.1 dX5_admits_214 (by decide) (fun hq => ?_) (fun hq => ?_)
          · have hw := hwt hq
            refine lv_iconst (v := 0) X.1 X.2.1 dX5_admits_221 (by decide) ?_
            exact mx_zret X hr hk M dX5_admits_222 (by decide) (by decide) (by decide) ⟨hw, hKM55_⟩
          · have hw := hwf hq
            refine lv_iconst (v := 1) X.1 X.2.1 dX5_admits_217 (by decide) ?_
            refine lv_goto (tgt := 222) X.1 X.2.1 dX5_admits_218 (by decide) ?_
            exact mx_zret X hr hk M dX5_admits_222 (by decide) (by decide) (by decide) ⟨hw, hKM55_⟩
  by_cases q_6 : (fi μ 5 0 a1) = 6
  · have hw := hw_6 q_6
    refine lv_tableIn (off := 219) (tgt := 223) X.1 X.2.1 dX5_admits_4 (by rw [q_6]; decide) (by rw [q_6]; decide) (by rw [q_6]; rfl) (by decide) ?_
    refine lv_aload_n X.1 X.2.1 dX5_admits_223 rfl (lv_at hl 0 rfl) ?_
    refine lv_aload_n X.1 X.2.1 dX5_admits_224 rfl (lv_at hl 1 rfl) ?_
    refine mx_geti (C := RX3) (F := TX3) (N := 7) (ci := 5) X M 1 rfl in_X3 (by decide) rfl (by decide) kw_407 dX5_admits_225 hk1 ?_
    obtain ⟨hk63, hw⟩ := hw
    have hw61 := hw
    clear hw
    refine mx_ci M (mx_runV (n := 1) (As := [.int (fi μ 5 1 a1)]) (rest := []) X M (c_X5_hasSlot l T B μ o (fi μ 5 1 a1) _ hw61) (mx_recv (C := RX5) (F := TX5) (N := 5) (ci := 7) X M rfl (by decide) hk63) kw_462 kw_464 kw_5 kw_78 kw_465 (by decide +kernel) rfl rfl ⟨Nat.le_of_ble_eq_true rfl, Nat.le_of_ble_eq_true rfl⟩ rfl hl.1 (Nat.le_of_ble_eq_true rfl) dX5_admits_228 ⟨by decide, by decide⟩) (fun r62 μ60 H locs ⟨hw, hKM60⟩ M => ?_)
    replace hw := hw hKM60
    have hKM60_ := hKM.tr hKM60
    have hk64 := hKM60.at hk1
    have hk65 := hKM60.at hk63
    obtain ⟨hwt, hwf⟩ := hw
    refine lv_if_eq (tgt := 261) X.1 X.2.1 dX5_admits_231 (by decide) (fun hq => ?_) (fun hq => ?_)
    · have hw := hwt hq
      refine lv_iconst (v := 0) X.1 X.2.1 dX5_admits_261 (by decide) ?_
      exact mx_zret X hr hk M dX5_admits_262 (by decide) (by decide) (by decide) ⟨hw, hKM60_⟩
    · have hw := hwf hq
      refine lv_aload_n X.1 X.2.1 dX5_admits_234 rfl (lv_at hl 0 rfl) ?_
      refine lv_aload_n X.1 X.2.1 dX5_admits_235 rfl (lv_at hl 1 rfl) ?_
      refine mx_geti (C := RX3) (F := TX3) (N := 7) (ci := 5) X M 2 rfl in_X3 (by decide) rfl (by decide) kw_410 dX5_admits_236 hk64 ?_
      have hw67 := hw
      clear hw
      refine mx_ci M (mx_runV (n := 1) (As := [.int (fi μ60 5 2 a1)]) (rest := []) X M (c_X5_hasSlot l T B μ60 o (fi μ60 5 2 a1) _ hw67) (mx_recv (C := RX5) (F := TX5) (N := 5) (ci := 7) X M rfl (by decide) hk65) kw_462 kw_464 kw_5 kw_78 kw_465 (by decide +kernel) rfl rfl ⟨Nat.le_of_ble_eq_true rfl, Nat.le_of_ble_eq_true rfl⟩ rfl hl.1 (Nat.le_of_ble_eq_true rfl) dX5_admits_239 ⟨by decide, by decide⟩) (fun r68 μ66 H locs ⟨hw, hKM66⟩ M => ?_)
      replace hw := hw hKM66
      have hKM66_ := hKM60_.tr hKM66
      have hk69 := hKM66.at hk64
      have hk70 := hKM66.at hk65
      obtain ⟨hwt, hwf⟩ := hw
      refine lv_if_eq (tgt := 261) X.1 X.2.1 dX5_admits_242 (by decide) (fun hq => ?_) (fun hq => ?_)
      · have hw := hwt hq
        refine lv_iconst (v := 0) X.1 X.2.1 dX5_admits_261 (by decide) ?_
        exact mx_zret X hr hk M dX5_admits_262 (by decide) (by decide) (by decide) ⟨hw, hKM66_⟩
      · have hw := hwf hq
        refine lv_aload_n X.1 X.2.1 dX5_admits_245 rfl (lv_at hl 1 rfl) ?_
        refine mx_geti (C := RX3) (F := TX3) (N := 7) (ci := 5) X M 3 rfl in_X3 (by decide) rfl (by decide) kw_413 dX5_admits_246 hk69 ?_
        refine lv_bipush (v := 6) X.1 X.2.1 dX5_admits_249 (by decide) ?_
        have hw72 := hw
        clear hw
        refine mx_ci M (mx_runSN (n := 2) (As := [.int (fi μ66 5 3 a1), .int 6]) (rest := []) X M (c_X10_within l T B μ66 (fi μ66 5 3 a1) 6 _ hw72) kw_308 kw_309 kw_65 kw_310 (by decide +kernel) rfl rfl ⟨Nat.le_of_ble_eq_true rfl, Nat.le_of_ble_eq_true rfl⟩ rfl hl.1 (Nat.le_of_ble_eq_true rfl) dX5_admits_251 ⟨by decide, by decide⟩) (fun r73 μ71 H locs ⟨hw, hKM71⟩ M => ?_)
        replace hw := hw hKM71
        have hKM71_ := hKM66_.tr hKM71
        have hk74 := hKM71.at hk69
        have hk75 := hKM71.at hk70
        obtain ⟨hwt, hwf⟩ := hw
        refine lv_if_eq (tgt := 261) X.1 X.2.1 dX5_admits_254 (by decide) (fun hq => ?_) (fun hq => ?_)
        · have hw := hwt hq
          refine lv_iconst (v := 0) X.1 X.2.1 dX5_admits_261 (by decide) ?_
          exact mx_zret X hr hk M dX5_admits_262 (by decide) (by decide) (by decide) ⟨hw, hKM71_⟩
        · have hw := hwf hq
          refine lv_iconst (v := 1) X.1 X.2.1 dX5_admits_257 (by decide) ?_
          refine lv_goto (tgt := 262) X.1 X.2.1 dX5_admits_258 (by decide) ?_
          exact mx_zret X hr hk M dX5_admits_262 (by decide) (by decide) (by decide) ⟨hw, hKM71_⟩
  by_cases q_7 : (fi μ 5 0 a1) = 7
  · have hw := hw_7 q_7
    refine lv_tableIn (off := 259) (tgt := 263) X.1 X.2.1 dX5_admits_4 (by rw [q_7]; decide) (by rw [q_7]; decide) (by rw [q_7]; rfl) (by decide) ?_
    refine lv_aload_n X.1 X.2.1 dX5_admits_263 rfl (lv_at hl 1 rfl) ?_
    refine mx_geti (C := RX3) (F := TX3) (N := 7) (ci := 5) X M 1 rfl in_X3 (by decide) rfl (by decide) kw_407 dX5_admits_264 hk1 ?_
    refine lv_sipush (v := 2000) X.1 X.2.1 dX5_admits_267 (by decide) ?_
    have hw77 := hw
    clear hw
    refine mx_ci M (mx_runSN (n := 2) (As := [.int (fi μ 5 1 a1), .int 2000]) (rest := []) X M (c_X10_within l T B μ (fi μ 5 1 a1) 2000 _ hw77) kw_308 kw_309 kw_65 kw_310 (by decide +kernel) rfl rfl ⟨Nat.le_of_ble_eq_true rfl, Nat.le_of_ble_eq_true rfl⟩ rfl hl.1 (Nat.le_of_ble_eq_true rfl) dX5_admits_270 ⟨by decide, by decide⟩) (fun r78 μ76 H locs ⟨hw, hKM76⟩ M => ?_)
    replace hw := hw hKM76
    have hKM76_ := hKM.tr hKM76
    have hk79 := hKM76.at hk1
    exact mx_zret X hr hk M dX5_admits_273 (by decide) (by decide) hw.1 ⟨hw.2, hKM76_⟩
  by_cases q_8 : (fi μ 5 0 a1) = 8
  · have hw := hw_8 q_8
    refine lv_tableIn (off := 270) (tgt := 274) X.1 X.2.1 dX5_admits_4 (by rw [q_8]; decide) (by rw [q_8]; decide) (by rw [q_8]; rfl) (by decide) ?_
    refine lv_aload_n X.1 X.2.1 dX5_admits_274 rfl (lv_at hl 0 rfl) ?_
    refine lv_aload_n X.1 X.2.1 dX5_admits_275 rfl (lv_at hl 1 rfl) ?_
    refine mx_geti (C := RX3) (F := TX3) (N := 7) (ci := 5) X M 1 rfl in_X3 (by decide) rfl (by decide) kw_407 dX5_admits_276 hk1 ?_
    obtain ⟨hk83, hw⟩ := hw
    have hw81 := hw
    clear hw
    refine mx_ci M (mx_runV (n := 1) (As := [.int (fi μ 5 1 a1)]) (rest := []) X M (c_X5_hasSlot l T B μ o (fi μ 5 1 a1) _ hw81) (mx_recv (C := RX5) (F := TX5) (N := 5) (ci := 7) X M rfl (by decide) hk83) kw_462 kw_464 kw_5 kw_78 kw_465 (by decide +kernel) rfl rfl ⟨Nat.le_of_ble_eq_true rfl, Nat.le_of_ble_eq_true rfl⟩ rfl hl.1 (Nat.le_of_ble_eq_true rfl) dX5_admits_279 ⟨by decide, by decide⟩) (fun r82 μ80 H locs ⟨hw, hKM80⟩ M => ?_)
    replace hw := hw hKM80
    have hKM80_ := hKM.tr hKM80
    have hk84 := hKM80.at hk1
    have hk85 := hKM80.at hk83
    obtain ⟨hwt, hwf⟩ := hw
    refine lv_if_eq (tgt := 314) X.1 X.2.1 dX5_admits_282 (by decide) (fun hq => ?_) (fun hq => ?_)
    · have hw := hwt hq
      refine lv_iconst (v := 0) X.1 X.2.1 dX5_admits_314 (by decide) ?_
      exact mx_zret X hr hk M dX5_admits_315 (by decide) (by decide) (by decide) ⟨hw, hKM80_⟩
    · have hw := hwf hq
      refine lv_aload_n X.1 X.2.1 dX5_admits_285 rfl (lv_at hl 1 rfl) ?_
      refine mx_geti (C := RX3) (F := TX3) (N := 7) (ci := 5) X M 2 rfl in_X3 (by decide) rfl (by decide) kw_410 dX5_admits_286 hk84 ?_
      refine lv_bipush (v := 32) X.1 X.2.1 dX5_admits_289 (by decide) ?_
      have hw87 := hw
      clear hw
      refine mx_ci M (mx_runSN (n := 2) (As := [.int (fi μ80 5 2 a1), .int 32]) (rest := []) X M (c_X10_within l T B μ80 (fi μ80 5 2 a1) 32 _ hw87) kw_308 kw_309 kw_65 kw_310 (by decide +kernel) rfl rfl ⟨Nat.le_of_ble_eq_true rfl, Nat.le_of_ble_eq_true rfl⟩ rfl hl.1 (Nat.le_of_ble_eq_true rfl) dX5_admits_291 ⟨by decide, by decide⟩) (fun r88 μ86 H locs ⟨hw, hKM86⟩ M => ?_)
      replace hw := hw hKM86
      have hKM86_ := hKM80_.tr hKM86
      have hk89 := hKM86.at hk84
      have hk90 := hKM86.at hk85
      obtain ⟨hwt, hwf⟩ := hw
      refine lv_if_eq (tgt := 314) X.1 X.2.1 dX5_admits_294 (by decide) (fun hq => ?_) (fun hq => ?_)
      · have hw := hwt hq
        refine lv_iconst (v := 0) X.1 X.2.1 dX5_admits_314 (by decide) ?_
        exact mx_zret X hr hk M dX5_admits_315 (by decide) (by decide) (by decide) ⟨hw, hKM86_⟩
      · have hw := hwf hq
        refine lv_aload_n X.1 X.2.1 dX5_admits_297 rfl (lv_at hl 1 rfl) ?_
        refine mx_geti (C := RX3) (F := TX3) (N := 7) (ci := 5) X M 3 rfl in_X3 (by decide) rfl (by decide) kw_413 dX5_admits_298 hk89 ?_
        refine lv_sipush (v := 2000) X.1 X.2.1 dX5_admits_301 (by decide) ?_
        have hw92 := hw
        clear hw
        refine mx_ci M (mx_runSN (n := 2) (As := [.int (fi μ86 5 3 a1), .int 2000]) (rest := []) X M (c_X10_within l T B μ86 (fi μ86 5 3 a1) 2000 _ hw92) kw_308 kw_309 kw_65 kw_310 (by decide +kernel) rfl rfl ⟨Nat.le_of_ble_eq_true rfl, Nat.le_of_ble_eq_true rfl⟩ rfl hl.1 (Nat.le_of_ble_eq_true rfl) dX5_admits_304 ⟨by decide, by decide⟩) (fun r93 μ91 H locs ⟨hw, hKM91⟩ M => ?_)
        replace hw := hw hKM91
        have hKM91_ := hKM86_.tr hKM91
        have hk94 := hKM91.at hk89
        have hk95 := hKM91.at hk90
        obtain ⟨hwt, hwf⟩ := hw
        refine lv_if_eq (tgt := 314) X.1 X.2.1 dX5_admits_307 (by decide) (fun hq => ?_) (fun hq => ?_)
        · have hw := hwt hq
          refine lv_iconst (v := 0) X.1 X.2.1 dX5_admits_314 (by decide) ?_
          exact mx_zret X hr hk M dX5_admits_315 (by decide) (by decide) (by decide) ⟨hw, hKM91_⟩
        · have hw := hwf hq
          refine lv_iconst (v := 1) X.1 X.2.1 dX5_admits_310 (by decide) ?_
          refine lv_goto (tgt := 315) X.1 X.2.1 dX5_admits_311 (by decide) ?_
          exact mx_zret X hr hk M dX5_admits_315 (by decide) (by decide) (by decide) ⟨hw, hKM91_⟩
  by_cases q_9 : (fi μ 5 0 a1) = 9
  · have hw := hw_9 q_9
    refine lv_tableIn (off := 259) (tgt := 263) X.1 X.2.1 dX5_admits_4 (by rw [q_9]; decide) (by rw [q_9]; decide) (by rw [q_9]; rfl) (by decide) ?_
    refine lv_aload_n X.1 X.2.1 dX5_admits_263 rfl (lv_at hl 1 rfl) ?_
    refine mx_geti (C := RX3) (F := TX3) (N := 7) (ci := 5) X M 1 rfl in_X3 (by decide) rfl (by decide) kw_407 dX5_admits_264 hk1 ?_
    refine lv_sipush (v := 2000) X.1 X.2.1 dX5_admits_267 (by decide) ?_
    have hw97 := hw
    clear hw
    refine mx_ci M (mx_runSN (n := 2) (As := [.int (fi μ 5 1 a1), .int 2000]) (rest := []) X M (c_X10_within l T B μ (fi μ 5 1 a1) 2000 _ hw97) kw_308 kw_309 kw_65 kw_310 (by decide +kernel) rfl rfl ⟨Nat.le_of_ble_eq_true rfl, Nat.le_of_ble_eq_true rfl⟩ rfl hl.1 (Nat.le_of_ble_eq_true rfl) dX5_admits_270 ⟨by decide, by decide⟩) (fun r98 μ96 H locs ⟨hw, hKM96⟩ M => ?_)
    replace hw := hw hKM96
    have hKM96_ := hKM.tr hKM96
    have hk99 := hKM96.at hk1
    exact mx_zret X hr hk M dX5_admits_273 (by decide) (by decide) hw.1 ⟨hw.2, hKM96_⟩
  by_cases q_10 : (fi μ 5 0 a1) = 10
  · have hw := hw_10 q_10
    refine lv_tableIn (off := 312) (tgt := 316) X.1 X.2.1 dX5_admits_4 (by rw [q_10]; decide) (by rw [q_10]; decide) (by rw [q_10]; rfl) (by decide) ?_
    refine lv_aload_n X.1 X.2.1 dX5_admits_316 rfl (lv_at hl 0 rfl) ?_
    refine lv_aload_n X.1 X.2.1 dX5_admits_317 rfl (lv_at hl 1 rfl) ?_
    obtain ⟨hk103, hw⟩ := hw
    have hw101 := hw
    clear hw
    refine mx_ci M (mx_runV (n := 1) (As := [.ref a1]) (rest := []) X M (c_X5_admitsCall l T B μ o a1 _ hw101) (mx_recv (C := RX5) (F := TX5) (N := 5) (ci := 7) X M rfl (by decide) hk103) kw_466 kw_468 kw_6 kw_78 kw_469 (by decide +kernel) rfl rfl ⟨Nat.le_of_ble_eq_true rfl, Nat.le_of_ble_eq_true rfl⟩ rfl hl.1 (Nat.le_of_ble_eq_true rfl) dX5_admits_318 ⟨by decide, by decide⟩) (fun r102 μ100 H locs ⟨hw, hKM100⟩ M => ?_)
    replace hw := hw hKM100
    have hKM100_ := hKM.tr hKM100
    have hk104 := hKM100.at hk1
    have hk105 := hKM100.at hk103
    exact mx_zret X hr hk M dX5_admits_321 (by decide) (by decide) hw.1 ⟨hw.2, hKM100_⟩
  by_cases q_11 : (fi μ 5 0 a1) = 11
  · have hw := hw_11 q_11
    refine lv_tableIn (off := 80) (tgt := 84) X.1 X.2.1 dX5_admits_4 (by rw [q_11]; decide) (by rw [q_11]; decide) (by rw [q_11]; rfl) (by decide) ?_
    refine lv_aload_n X.1 X.2.1 dX5_admits_84 rfl (lv_at hl 0 rfl) ?_
    refine lv_aload_n X.1 X.2.1 dX5_admits_85 rfl (lv_at hl 1 rfl) ?_
    refine mx_geti (C := RX3) (F := TX3) (N := 7) (ci := 5) X M 1 rfl in_X3 (by decide) rfl (by decide) kw_407 dX5_admits_86 hk1 ?_
    obtain ⟨hk109, hw⟩ := hw
    have hw107 := hw
    clear hw
    refine mx_ci M (mx_runV (n := 1) (As := [.int (fi μ 5 1 a1)]) (rest := []) X M (c_X5_hasSlot l T B μ o (fi μ 5 1 a1) _ hw107) (mx_recv (C := RX5) (F := TX5) (N := 5) (ci := 7) X M rfl (by decide) hk109) kw_462 kw_464 kw_5 kw_78 kw_465 (by decide +kernel) rfl rfl ⟨Nat.le_of_ble_eq_true rfl, Nat.le_of_ble_eq_true rfl⟩ rfl hl.1 (Nat.le_of_ble_eq_true rfl) dX5_admits_89 ⟨by decide, by decide⟩) (fun r108 μ106 H locs ⟨hw, hKM106⟩ M => ?_)
    replace hw := hw hKM106
    have hKM106_ := hKM.tr hKM106
    have hk110 := hKM106.at hk1
    have hk111 := hKM106.at hk109
    exact mx_zret X hr hk M dX5_admits_92 (by decide) (by decide) hw.1 ⟨hw.2, hKM106_⟩
  by_cases q_12 : (fi μ 5 0 a1) = 12
  · have hw := hw_12 q_12
    refine lv_tableIn (off := 80) (tgt := 84) X.1 X.2.1 dX5_admits_4 (by rw [q_12]; decide) (by rw [q_12]; decide) (by rw [q_12]; rfl) (by decide) ?_
    refine lv_aload_n X.1 X.2.1 dX5_admits_84 rfl (lv_at hl 0 rfl) ?_
    refine lv_aload_n X.1 X.2.1 dX5_admits_85 rfl (lv_at hl 1 rfl) ?_
    refine mx_geti (C := RX3) (F := TX3) (N := 7) (ci := 5) X M 1 rfl in_X3 (by decide) rfl (by decide) kw_407 dX5_admits_86 hk1 ?_
    obtain ⟨hk115, hw⟩ := hw
    have hw113 := hw
    clear hw
    refine mx_ci M (mx_runV (n := 1) (As := [.int (fi μ 5 1 a1)]) (rest := []) X M (c_X5_hasSlot l T B μ o (fi μ 5 1 a1) _ hw113) (mx_recv (C := RX5) (F := TX5) (N := 5) (ci := 7) X M rfl (by decide) hk115) kw_462 kw_464 kw_5 kw_78 kw_465 (by decide +kernel) rfl rfl ⟨Nat.le_of_ble_eq_true rfl, Nat.le_of_ble_eq_true rfl⟩ rfl hl.1 (Nat.le_of_ble_eq_true rfl) dX5_admits_89 ⟨by decide, by decide⟩) (fun r114 μ112 H locs ⟨hw, hKM112⟩ M => ?_)
    replace hw := hw hKM112
    have hKM112_ := hKM.tr hKM112
    have hk116 := hKM112.at hk1
    have hk117 := hKM112.at hk115
    exact mx_zret X hr hk M dX5_admits_92 (by decide) (by decide) hw.1 ⟨hw.2, hKM112_⟩
  by_cases q_13 : (fi μ 5 0 a1) = 13
  · have hw := hw_13 q_13
    refine lv_tableIn (off := 80) (tgt := 84) X.1 X.2.1 dX5_admits_4 (by rw [q_13]; decide) (by rw [q_13]; decide) (by rw [q_13]; rfl) (by decide) ?_
    refine lv_aload_n X.1 X.2.1 dX5_admits_84 rfl (lv_at hl 0 rfl) ?_
    refine lv_aload_n X.1 X.2.1 dX5_admits_85 rfl (lv_at hl 1 rfl) ?_
    refine mx_geti (C := RX3) (F := TX3) (N := 7) (ci := 5) X M 1 rfl in_X3 (by decide) rfl (by decide) kw_407 dX5_admits_86 hk1 ?_
    obtain ⟨hk121, hw⟩ := hw
    have hw119 := hw
    clear hw
    refine mx_ci M (mx_runV (n := 1) (As := [.int (fi μ 5 1 a1)]) (rest := []) X M (c_X5_hasSlot l T B μ o (fi μ 5 1 a1) _ hw119) (mx_recv (C := RX5) (F := TX5) (N := 5) (ci := 7) X M rfl (by decide) hk121) kw_462 kw_464 kw_5 kw_78 kw_465 (by decide +kernel) rfl rfl ⟨Nat.le_of_ble_eq_true rfl, Nat.le_of_ble_eq_true rfl⟩ rfl hl.1 (Nat.le_of_ble_eq_true rfl) dX5_admits_89 ⟨by decide, by decide⟩) (fun r120 μ118 H locs ⟨hw, hKM118⟩ M => ?_)
    replace hw := hw hKM118
    have hKM118_ := hKM.tr hKM118
    have hk122 := hKM118.at hk1
    have hk123 := hKM118.at hk121
    exact mx_zret X hr hk M dX5_admits_92 (by decide) (by decide) hw.1 ⟨hw.2, hKM118_⟩
  by_cases q_14 : (fi μ 5 0 a1) = 14
  · have hw := hw_14 q_14
    refine lv_tableIn (off := 318) (tgt := 322) X.1 X.2.1 dX5_admits_4 (by rw [q_14]; decide) (by rw [q_14]; decide) (by rw [q_14]; rfl) (by decide) ?_
    refine lv_iconst (v := 1) X.1 X.2.1 dX5_admits_322 (by decide) ?_
    exact mx_zret X hr hk M dX5_admits_323 (by decide) (by decide) (by decide) ⟨hw, hKM⟩
  by_cases q_15 : (fi μ 5 0 a1) = 15
  · have hw := hw_15 q_15
    refine lv_tableIn (off := 318) (tgt := 322) X.1 X.2.1 dX5_admits_4 (by rw [q_15]; decide) (by rw [q_15]; decide) (by rw [q_15]; rfl) (by decide) ?_
    refine lv_iconst (v := 1) X.1 X.2.1 dX5_admits_322 (by decide) ?_
    exact mx_zret X hr hk M dX5_admits_323 (by decide) (by decide) (by decide) ⟨hw, hKM⟩
  have hw := hw_d q_0 q_1 q_2 q_3 q_4 q_5 q_6 q_7 q_8 q_9 q_10 q_11 q_12 q_13 q_14 q_15
  have g_0 := lv_neT q_0 (by decide : (0 : Int32).toInt = 0)
  have g_1 := lv_neT q_1 (by decide : (1 : Int32).toInt = 1)
  have g_2 := lv_neT q_2 (by decide : (2 : Int32).toInt = 2)
  have g_3 := lv_neT q_3 (by decide : (3 : Int32).toInt = 3)
  have g_4 := lv_neT q_4 (by decide : (4 : Int32).toInt = 4)
  have g_5 := lv_neT q_5 (by decide : (5 : Int32).toInt = 5)
  have g_6 := lv_neT q_6 (by decide : (6 : Int32).toInt = 6)
  have g_7 := lv_neT q_7 (by decide : (7 : Int32).toInt = 7)
  have g_8 := lv_neT q_8 (by decide : (8 : Int32).toInt = 8)
  have g_9 := lv_neT q_9 (by decide : (9 : Int32).toInt = 9)
  have g_10 := lv_neT q_10 (by decide : (10 : Int32).toInt = 10)
  have g_11 := lv_neT q_11 (by decide : (11 : Int32).toInt = 11)
  have g_12 := lv_neT q_12 (by decide : (12 : Int32).toInt = 12)
  have g_13 := lv_neT q_13 (by decide : (13 : Int32).toInt = 13)
  have g_14 := lv_neT q_14 (by decide : (14 : Int32).toInt = 14)
  have g_15 := lv_neT q_15 (by decide : (15 : Int32).toInt = 15)
  refine lv_tableOut (tgt := 324) X.1 X.2.1 dX5_admits_4 (by omega) (by decide) ?_
  refine lv_iconst (v := 0) X.1 X.2.1 dX5_admits_324 (by decide) ?_
  exact mx_zret X hr hk M dX5_admits_325 (by decide) (by decide) (by decide) ⟨hw, hKM⟩
