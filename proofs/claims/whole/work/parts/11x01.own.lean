abbrev rm_X9_cell : Room := { frames := 0, cells := 0, slots := 0, locals := 0 }
def wp_X9_cell (μ : Mem) (a1 : Int32) (a2 : Int32) (a3 : Int32) (post : Int64 → Mem → Prop) : Prop :=
  post ((((1099511627776 : Int64) ||| ((Int32.toInt64 a3) <<< (Int32.toInt64 8 &&& 63))) ||| (Int32.toInt64 (a2 <<< ((5 : Int32) &&& 31)))) ||| (Int32.toInt64 a1)) μ
set_option maxRecDepth 100000 in
set_option maxHeartbeats 4000000 in
theorem c_X9_cell (l : Launch) (T : Tb) (B : Nat) (μ : Mem) (a1 : Int32) (a2 : Int32) (a3 : Int32) (post : Int64 → Mem → Prop) (hw : wp_X9_cell μ a1 a2 a3 post) : Met l yX9_cell (.code yX9_cell cX9_cell 3 (some .long) :: G) rm_X9_cell (Pm (Rl T B) T B μ [.int a1, .int a2, .int a3]) (va_Ql (fun r9 μ9 => post r9 μ9 ∧ KM μ μ9) (Bm (Rl T B)) (Ai B)) 0 0 (Ai B) := by
  refine mx_of RX9 rfl (by decide) (Nat.le_of_ble_eq_true rfl) ?_
  intro p e s m below meth c0 X hr hk hnm M ls hl
  have hl : lv_has ls 3 [(0, .int a1), (1, .int a2), (2, .int a3)] := hl
  unfold wp_X9_cell at hw
  have hKM : KM μ μ := KM.rf μ
  refine lv_ldc2 (v := 1099511627776) X.1 X.2.1 X.2.2.2.1 (X.2.2.2.2.1 _ kw_659) dX9_cell_0 ?_
  refine lv_iload_n X.1 X.2.1 dX9_cell_3 rfl (lv_at hl 2 rfl) ?_
  refine lv_i2l X.1 X.2.1 dX9_cell_4 rfl ?_
  refine lv_bipush (v := 8) X.1 X.2.1 dX9_cell_5 (by decide) ?_
  refine lv_lshl X.1 X.2.1 dX9_cell_7 rfl ?_
  refine lv_lor X.1 X.2.1 dX9_cell_8 ?_
  refine lv_iload_n X.1 X.2.1 dX9_cell_9 rfl (lv_at hl 1 rfl) ?_
  refine lv_iconst (v := 5) X.1 X.2.1 dX9_cell_10 (by decide) ?_
  refine lv_ishl X.1 X.2.1 dX9_cell_11 ?_
  refine lv_i2l X.1 X.2.1 dX9_cell_12 rfl ?_
  refine lv_lor X.1 X.2.1 dX9_cell_13 ?_
  refine lv_iload_n X.1 X.2.1 dX9_cell_14 rfl (lv_at hl 0 rfl) ?_
  refine lv_i2l X.1 X.2.1 dX9_cell_15 rfl ?_
  refine lv_lor X.1 X.2.1 dX9_cell_16 ?_
  exact mx_lret X hr hk M dX9_cell_17 (by decide) (by decide) ⟨hw, hKM⟩

abbrev rm_X9_isCell : Room := { frames := 0, cells := 0, slots := 0, locals := 0 }
def wp_X9_isCell (μ : Mem) (a1 : Int64) (post : Int32 → Mem → Prop) : Prop :=
  ((lg_cmp a1 1099511627776) < 0 →
   post 0 μ) ∧ (¬ (lg_cmp a1 1099511627776) < 0 →
   post 1 μ)
set_option maxRecDepth 100000 in
set_option maxHeartbeats 4000000 in
theorem c_X9_isCell (l : Launch) (T : Tb) (B : Nat) (μ : Mem) (a1 : Int64) (post : Int32 → Mem → Prop) (hw : wp_X9_isCell μ a1 post) : Met l yX9_isCell (.code yX9_isCell cX9_isCell 2 (some .boolean) :: G) rm_X9_isCell (Pm (Rl T B) T B μ [.long a1]) (va_Qi (fun r9 μ9 => post r9 μ9 ∧ KM μ μ9) (Bm (Rl T B)) (Ai B)) 0 0 (Ai B) := by
  refine mx_of RX9 rfl (by decide) (Nat.le_of_ble_eq_true rfl) ?_
  intro p e s m below meth c0 X hr hk hnm M ls hl
  have hl : lv_has ls 2 [(0, .long a1)] := hl
  unfold wp_X9_isCell at hw
  have hKM : KM μ μ := KM.rf μ
  refine lv_lload_n X.1 X.2.1 dX9_isCell_0 rfl (lv_at hl 0 rfl) ?_
  refine lv_ldc2 (v := 1099511627776) X.1 X.2.1 X.2.2.2.1 (X.2.2.2.2.1 _ kw_659) dX9_isCell_1 ?_
  refine W.lcmp X.1 X.2.1 dX9_isCell_4 ?_
  obtain ⟨hwt, hwf⟩ := hw
  refine lv_if_lt (tgt := 12) X.1 X.2.1 dX9_isCell_5 (by decide) (fun hq => ?_) (fun hq => ?_)
  · have hw := hwt hq
    refine lv_iconst (v := 0) X.1 X.2.1 dX9_isCell_12 (by decide) ?_
    exact mx_zret X hr hk M dX9_isCell_13 (by decide) (by decide) (by decide) ⟨hw, hKM⟩
  · have hw := hwf hq
    refine lv_iconst (v := 1) X.1 X.2.1 dX9_isCell_8 (by decide) ?_
    refine lv_goto (tgt := 13) X.1 X.2.1 dX9_isCell_9 (by decide) ?_
    exact mx_zret X hr hk M dX9_isCell_13 (by decide) (by decide) (by decide) ⟨hw, hKM⟩

abbrev rm_X9_tag : Room := { frames := 0, cells := 0, slots := 0, locals := 0 }
def wp_X9_tag (μ : Mem) (a1 : Int64) (post : Int32 → Mem → Prop) : Prop :=
  post (Int64.toInt32 (a1 &&& 31)) μ
set_option maxRecDepth 100000 in
set_option maxHeartbeats 4000000 in
theorem c_X9_tag (l : Launch) (T : Tb) (B : Nat) (μ : Mem) (a1 : Int64) (post : Int32 → Mem → Prop) (hw : wp_X9_tag μ a1 post) : Met l yX9_tag (.code yX9_tag cX9_tag 2 (some .int) :: G) rm_X9_tag (Pm (Rl T B) T B μ [.long a1]) (va_Qi (fun r9 μ9 => post r9 μ9 ∧ KM μ μ9) (Bm (Rl T B)) (Ai B)) 0 0 (Ai B) := by
  refine mx_of RX9 rfl (by decide) (Nat.le_of_ble_eq_true rfl) ?_
  intro p e s m below meth c0 X hr hk hnm M ls hl
  have hl : lv_has ls 2 [(0, .long a1)] := hl
  unfold wp_X9_tag at hw
  have hKM : KM μ μ := KM.rf μ
  refine lv_lload_n X.1 X.2.1 dX9_tag_0 rfl (lv_at hl 0 rfl) ?_
  refine lv_ldc2 (v := 31) X.1 X.2.1 X.2.2.2.1 (X.2.2.2.2.1 _ kw_679) dX9_tag_1 ?_
  refine lv_land X.1 X.2.1 dX9_tag_4 ?_
  refine lv_l2i X.1 X.2.1 dX9_tag_5 rfl ?_
  exact mx_iret X hr hk M dX9_tag_6 (by decide) (by decide) ⟨hw, hKM⟩

abbrev rm_X9_fields : Room := { frames := 0, cells := 0, slots := 0, locals := 0 }
def wp_X9_fields (μ : Mem) (a1 : Int64) (post : Int32 → Mem → Prop) : Prop :=
  post (Int64.toInt32 ((a1 >>> (Int32.toInt64 5 &&& 63)) &&& 7)) μ
set_option maxRecDepth 100000 in
set_option maxHeartbeats 4000000 in
theorem c_X9_fields (l : Launch) (T : Tb) (B : Nat) (μ : Mem) (a1 : Int64) (post : Int32 → Mem → Prop) (hw : wp_X9_fields μ a1 post) : Met l yX9_fields (.code yX9_fields cX9_fields 2 (some .int) :: G) rm_X9_fields (Pm (Rl T B) T B μ [.long a1]) (va_Qi (fun r9 μ9 => post r9 μ9 ∧ KM μ μ9) (Bm (Rl T B)) (Ai B)) 0 0 (Ai B) := by
  refine mx_of RX9 rfl (by decide) (Nat.le_of_ble_eq_true rfl) ?_
  intro p e s m below meth c0 X hr hk hnm M ls hl
  have hl : lv_has ls 2 [(0, .long a1)] := hl
  unfold wp_X9_fields at hw
  have hKM : KM μ μ := KM.rf μ
  refine lv_lload_n X.1 X.2.1 dX9_fields_0 rfl (lv_at hl 0 rfl) ?_
  refine lv_iconst (v := 5) X.1 X.2.1 dX9_fields_1 (by decide) ?_
  refine lv_lshr X.1 X.2.1 dX9_fields_2 rfl ?_
  refine lv_ldc2 (v := 7) X.1 X.2.1 X.2.2.2.1 (X.2.2.2.2.1 _ kw_683) dX9_fields_3 ?_
  refine lv_land X.1 X.2.1 dX9_fields_6 ?_
  refine lv_l2i X.1 X.2.1 dX9_fields_7 rfl ?_
  exact mx_iret X hr hk M dX9_fields_8 (by decide) (by decide) ⟨hw, hKM⟩

abbrev rm_X9_place : Room := { frames := 0, cells := 0, slots := 0, locals := 0 }
def wp_X9_place (μ : Mem) (a1 : Int64) (post : Int32 → Mem → Prop) : Prop :=
  post (Int64.toInt32 ((a1 >>> (Int32.toInt64 8 &&& 63)) &&& 65535)) μ
set_option maxRecDepth 100000 in
set_option maxHeartbeats 4000000 in
theorem c_X9_place (l : Launch) (T : Tb) (B : Nat) (μ : Mem) (a1 : Int64) (post : Int32 → Mem → Prop) (hw : wp_X9_place μ a1 post) : Met l yX9_place (.code yX9_place cX9_place 2 (some .int) :: G) rm_X9_place (Pm (Rl T B) T B μ [.long a1]) (va_Qi (fun r9 μ9 => post r9 μ9 ∧ KM μ μ9) (Bm (Rl T B)) (Ai B)) 0 0 (Ai B) := by
  refine mx_of RX9 rfl (by decide) (Nat.le_of_ble_eq_true rfl) ?_
  intro p e s m below meth c0 X hr hk hnm M ls hl
  have hl : lv_has ls 2 [(0, .long a1)] := hl
  unfold wp_X9_place at hw
  have hKM : KM μ μ := KM.rf μ
  refine lv_lload_n X.1 X.2.1 dX9_place_0 rfl (lv_at hl 0 rfl) ?_
  refine lv_bipush (v := 8) X.1 X.2.1 dX9_place_1 (by decide) ?_
  refine lv_lshr X.1 X.2.1 dX9_place_3 rfl ?_
  refine lv_ldc2 (v := 65535) X.1 X.2.1 X.2.2.2.1 (X.2.2.2.2.1 _ kw_691) dX9_place_4 ?_
  refine lv_land X.1 X.2.1 dX9_place_7 ?_
  refine lv_l2i X.1 X.2.1 dX9_place_8 rfl ?_
  exact mx_iret X hr hk M dX9_place_9 (by decide) (by decide) ⟨hw, hKM⟩

abbrev rm_X9_hasTag : Room := { frames := 1, cells := 0, slots := 0, locals := 21 }
def wp_X9_hasTag (μ : Mem) (a1 : Int64) (a2 : Int32) (post : Int32 → Mem → Prop) : Prop :=
  wp_X9_isCell μ a1 (fun (r3 : Int32) (μ1 : Mem) =>
  KM μ μ1 →
  (r3 = 0 →
   post 0 μ1) ∧ (¬ r3 = 0 →
   wp_X9_tag μ1 a1 (fun (r6 : Int32) (μ4 : Mem) =>
   KM μ1 μ4 →
   (r6 = a2 →
    post 1 μ4) ∧ (¬ r6 = a2 →
    post 0 μ4))))
set_option maxRecDepth 100000 in
set_option maxHeartbeats 4000000 in
theorem c_X9_hasTag (l : Launch) (T : Tb) (B : Nat) (μ : Mem) (a1 : Int64) (a2 : Int32) (post : Int32 → Mem → Prop) (hw : wp_X9_hasTag μ a1 a2 post) : Met l yX9_hasTag (.code yX9_hasTag cX9_hasTag 3 (some .boolean) :: G) rm_X9_hasTag (Pm (Rl T B) T B μ [.long a1, .int a2]) (va_Qi (fun r9 μ9 => post r9 μ9 ∧ KM μ μ9) (Bm (Rl T B)) (Ai B)) 0 0 (Ai B) := by
  refine mx_of RX9 rfl (by decide) (Nat.le_of_ble_eq_true rfl) ?_
  intro p e s m below meth c0 X hr hk hnm M ls hl
  have hl : lv_has ls 3 [(0, .long a1), (2, .int a2)] := hl
  unfold wp_X9_hasTag at hw
  have hKM : KM μ μ := KM.rf μ
  refine lv_lload_n X.1 X.2.1 dX9_hasTag_0 rfl (lv_at hl 0 rfl) ?_
  have hw2 := hw
  clear hw
  refine mx_ci M (mx_runS (n := 1) (As := [.long a1]) (rest := []) X M (c_X9_isCell l T B μ a1 _ hw2) kw_673 kw_674 kw_84 kw_675 (by decide +kernel) rfl rfl ⟨Nat.le_of_ble_eq_true rfl, Nat.le_of_ble_eq_true rfl⟩ rfl hl.1 (Nat.le_of_ble_eq_true rfl) dX9_hasTag_1 ⟨by decide, by decide⟩) (fun r3 μ1 H locs ⟨hw, hKM1⟩ M => ?_)
  replace hw := hw hKM1
  have hKM1_ := hKM.tr hKM1
  obtain ⟨hwt, hwf⟩ := hw
  refine lv_if_eq (tgt := 19) X.1 X.2.1 dX9_hasTag_4 (by decide) (fun hq => ?_) (fun hq => ?_)
  · have hw := hwt hq
    refine lv_iconst (v := 0) X.1 X.2.1 dX9_hasTag_19 (by decide) ?_
    exact mx_zret X hr hk M dX9_hasTag_20 (by decide) (by decide) (by decide) ⟨hw, hKM1_⟩
  · have hw := hwf hq
    refine lv_lload_n X.1 X.2.1 dX9_hasTag_7 rfl (lv_at hl 0 rfl) ?_
    have hw5 := hw
    clear hw
    refine mx_ci M (mx_runS (n := 1) (As := [.long a1]) (rest := []) X M (c_X9_tag l T B μ1 a1 _ hw5) kw_676 kw_677 kw_84 kw_678 (by decide +kernel) rfl rfl ⟨Nat.le_of_ble_eq_true rfl, Nat.le_of_ble_eq_true rfl⟩ rfl hl.1 (Nat.le_of_ble_eq_true rfl) dX9_hasTag_8 ⟨by decide, by decide⟩) (fun r6 μ4 H locs ⟨hw, hKM4⟩ M => ?_)
    replace hw := hw hKM4
    have hKM4_ := hKM1_.tr hKM4
    refine lv_iload_n X.1 X.2.1 dX9_hasTag_11 rfl (lv_at hl 1 rfl) ?_
    obtain ⟨hwf, hwt⟩ := hw
    refine lv_icmp_ne (tgt := 19) X.1 X.2.1 dX9_hasTag_12 (by decide) (fun hq => ?_) (fun hq => ?_)
    · have hw := hwt hq
      refine lv_iconst (v := 0) X.1 X.2.1 dX9_hasTag_19 (by decide) ?_
      exact mx_zret X hr hk M dX9_hasTag_20 (by decide) (by decide) (by decide) ⟨hw, hKM4_⟩
    · have hw := hwf hq
      refine lv_iconst (v := 1) X.1 X.2.1 dX9_hasTag_15 (by decide) ?_
      refine lv_goto (tgt := 20) X.1 X.2.1 dX9_hasTag_16 (by decide) ?_
      exact mx_zret X hr hk M dX9_hasTag_20 (by decide) (by decide) (by decide) ⟨hw, hKM4_⟩

abbrev rm_X9_differ : Room := { frames := 1, cells := 0, slots := 0, locals := 21 }
def wp_X9_differ (μ : Mem) (a1 : Int64) (a2 : Int64) (post : Int32 → Mem → Prop) : Prop :=
  wp_X9_isCell μ a1 (fun (r3 : Int32) (μ1 : Mem) =>
  KM μ μ1 →
  (r3 = 0 →
   ((lg_cmp a1 a2) = 0 →
    post 0 μ1) ∧ (¬ (lg_cmp a1 a2) = 0 →
    post 1 μ1)) ∧ (¬ r3 = 0 →
   wp_X9_isCell μ1 a2 (fun (r6 : Int32) (μ4 : Mem) =>
   KM μ1 μ4 →
   (r6 = 0 →
    ((lg_cmp a1 a2) = 0 →
     post 0 μ4) ∧ (¬ (lg_cmp a1 a2) = 0 →
     post 1 μ4)) ∧ (¬ r6 = 0 →
    ((lg_cmp (a1 &&& 255) (a2 &&& 255)) = 0 →
     post 0 μ4) ∧ (¬ (lg_cmp (a1 &&& 255) (a2 &&& 255)) = 0 →
     post 1 μ4)))))
set_option maxRecDepth 100000 in
set_option maxHeartbeats 4000000 in
theorem c_X9_differ (l : Launch) (T : Tb) (B : Nat) (μ : Mem) (a1 : Int64) (a2 : Int64) (post : Int32 → Mem → Prop) (hw : wp_X9_differ μ a1 a2 post) : Met l yX9_differ (.code yX9_differ cX9_differ 4 (some .boolean) :: G) rm_X9_differ (Pm (Rl T B) T B μ [.long a1, .long a2]) (va_Qi (fun r9 μ9 => post r9 μ9 ∧ KM μ μ9) (Bm (Rl T B)) (Ai B)) 0 0 (Ai B) := by
  refine mx_of RX9 rfl (by decide) (Nat.le_of_ble_eq_true rfl) ?_
  intro p e s m below meth c0 X hr hk hnm M ls hl
  have hl : lv_has ls 4 [(0, .long a1), (2, .long a2)] := hl
  unfold wp_X9_differ at hw
  have hKM : KM μ μ := KM.rf μ
  refine lv_lload_n X.1 X.2.1 dX9_differ_0 rfl (lv_at hl 0 rfl) ?_
  have hw2 := hw
  clear hw
  refine mx_ci M (mx_runS (n := 1) (As := [.long a1]) (rest := []) X M (c_X9_isCell l T B μ a1 _ hw2) kw_673 kw_674 kw_84 kw_675 (by decide +kernel) rfl rfl ⟨Nat.le_of_ble_eq_true rfl, Nat.le_of_ble_eq_true rfl⟩ rfl hl.1 (Nat.le_of_ble_eq_true rfl) dX9_differ_1 ⟨by decide, by decide⟩) (fun r3 μ1 H locs ⟨hw, hKM1⟩ M => ?_)
  replace hw := hw hKM1
  have hKM1_ := hKM.tr hKM1
  obtain ⟨hwt, hwf⟩ := hw
  refine lv_if_eq (tgt := 34) X.1 X.2.1 dX9_differ_4 (by decide) (fun hq => ?_) (fun hq => ?_)
  · have hw := hwt hq
    refine lv_lload_n X.1 X.2.1 dX9_differ_34 rfl (lv_at hl 0 rfl) ?_
    refine lv_lload_n X.1 X.2.1 dX9_differ_35 rfl (lv_at hl 1 rfl) ?_
    refine W.lcmp X.1 X.2.1 dX9_differ_36 ?_
    obtain ⟨hwt, hwf⟩ := hw
    refine lv_if_eq (tgt := 44) X.1 X.2.1 dX9_differ_37 (by decide) (fun hq => ?_) (fun hq => ?_)
    · have hw := hwt hq
      refine lv_iconst (v := 0) X.1 X.2.1 dX9_differ_44 (by decide) ?_
      exact mx_zret X hr hk M dX9_differ_45 (by decide) (by decide) (by decide) ⟨hw, hKM1_⟩
    · have hw := hwf hq
      refine lv_iconst (v := 1) X.1 X.2.1 dX9_differ_40 (by decide) ?_
      refine lv_goto (tgt := 45) X.1 X.2.1 dX9_differ_41 (by decide) ?_
      exact mx_zret X hr hk M dX9_differ_45 (by decide) (by decide) (by decide) ⟨hw, hKM1_⟩
  · have hw := hwf hq
    refine lv_lload_n X.1 X.2.1 dX9_differ_7 rfl (lv_at hl 1 rfl) ?_
    have hw5 := hw
    clear hw
    refine mx_ci M (mx_runS (n := 1) (As := [.long a2]) (rest := []) X M (c_X9_isCell l T B μ1 a2 _ hw5) kw_673 kw_674 kw_84 kw_675 (by decide +kernel) rfl rfl ⟨Nat.le_of_ble_eq_true rfl, Nat.le_of_ble_eq_true rfl⟩ rfl hl.1 (Nat.le_of_ble_eq_true rfl) dX9_differ_8 ⟨by decide, by decide⟩) (fun r6 μ4 H locs ⟨hw, hKM4⟩ M => ?_)
    replace hw := hw hKM4
    have hKM4_ := hKM1_.tr hKM4
    obtain ⟨hwt, hwf⟩ := hw
    refine lv_if_eq (tgt := 34) X.1 X.2.1 dX9_differ_11 (by decide) (fun hq => ?_) (fun hq => ?_)
    · have hw := hwt hq
      refine lv_lload_n X.1 X.2.1 dX9_differ_34 rfl (lv_at hl 0 rfl) ?_
      refine lv_lload_n X.1 X.2.1 dX9_differ_35 rfl (lv_at hl 1 rfl) ?_
      refine W.lcmp X.1 X.2.1 dX9_differ_36 ?_
      obtain ⟨hwt, hwf⟩ := hw
      refine lv_if_eq (tgt := 44) X.1 X.2.1 dX9_differ_37 (by decide) (fun hq => ?_) (fun hq => ?_)
      · have hw := hwt hq
        refine lv_iconst (v := 0) X.1 X.2.1 dX9_differ_44 (by decide) ?_
        exact mx_zret X hr hk M dX9_differ_45 (by decide) (by decide) (by decide) ⟨hw, hKM4_⟩
      · have hw := hwf hq
        refine lv_iconst (v := 1) X.1 X.2.1 dX9_differ_40 (by decide) ?_
        refine lv_goto (tgt := 45) X.1 X.2.1 dX9_differ_41 (by decide) ?_
        exact mx_zret X hr hk M dX9_differ_45 (by decide) (by decide) (by decide) ⟨hw, hKM4_⟩
    · have hw := hwf hq
      refine lv_lload_n X.1 X.2.1 dX9_differ_14 rfl (lv_at hl 0 rfl) ?_
      refine lv_ldc2 (v := 255) X.1 X.2.1 X.2.2.2.1 (X.2.2.2.2.1 _ kw_701) dX9_differ_15 ?_
      refine lv_land X.1 X.2.1 dX9_differ_18 ?_
      refine lv_lload_n X.1 X.2.1 dX9_differ_19 rfl (lv_at hl 1 rfl) ?_
      refine lv_ldc2 (v := 255) X.1 X.2.1 X.2.2.2.1 (X.2.2.2.2.1 _ kw_701) dX9_differ_20 ?_
      refine lv_land X.1 X.2.1 dX9_differ_23 ?_
      refine W.lcmp X.1 X.2.1 dX9_differ_24 ?_
      obtain ⟨hwt, hwf⟩ := hw
      refine lv_if_eq (tgt := 32) X.1 X.2.1 dX9_differ_25 (by decide) (fun hq => ?_) (fun hq => ?_)
      · have hw := hwt hq
        refine lv_iconst (v := 0) X.1 X.2.1 dX9_differ_32 (by decide) ?_
        exact mx_zret X hr hk M dX9_differ_33 (by decide) (by decide) (by decide) ⟨hw, hKM4_⟩
      · have hw := hwf hq
        refine lv_iconst (v := 1) X.1 X.2.1 dX9_differ_28 (by decide) ?_
        refine lv_goto (tgt := 33) X.1 X.2.1 dX9_differ_29 (by decide) ?_
        exact mx_zret X hr hk M dX9_differ_33 (by decide) (by decide) (by decide) ⟨hw, hKM4_⟩

abbrev rm_X9_shown : Room := { frames := 1, cells := 0, slots := 0, locals := 21 }
def wp_X9_shown (μ : Mem) (a1 : Int64) (post : Int64 → Mem → Prop) : Prop :=
  wp_X9_isCell μ a1 (fun (r3 : Int32) (μ1 : Mem) =>
  KM μ μ1 →
  (r3 = 0 →
   post a1 μ1) ∧ (¬ r3 = 0 →
   wp_X9_tag μ1 a1 (fun (r6 : Int32) (μ4 : Mem) =>
   KM μ1 μ4 →
   post ((1099511627776 : Int64) + (Int32.toInt64 r6)) μ4)))
set_option maxRecDepth 100000 in
set_option maxHeartbeats 4000000 in
theorem c_X9_shown (l : Launch) (T : Tb) (B : Nat) (μ : Mem) (a1 : Int64) (post : Int64 → Mem → Prop) (hw : wp_X9_shown μ a1 post) : Met l yX9_shown (.code yX9_shown cX9_shown 2 (some .long) :: G) rm_X9_shown (Pm (Rl T B) T B μ [.long a1]) (va_Ql (fun r9 μ9 => post r9 μ9 ∧ KM μ μ9) (Bm (Rl T B)) (Ai B)) 0 0 (Ai B) := by
  refine mx_of RX9 rfl (by decide) (Nat.le_of_ble_eq_true rfl) ?_
  intro p e s m below meth c0 X hr hk hnm M ls hl
  have hl : lv_has ls 2 [(0, .long a1)] := hl
  unfold wp_X9_shown at hw
  have hKM : KM μ μ := KM.rf μ
  refine lv_lload_n X.1 X.2.1 dX9_shown_0 rfl (lv_at hl 0 rfl) ?_
  have hw2 := hw
  clear hw
  refine mx_ci M (mx_runS (n := 1) (As := [.long a1]) (rest := []) X M (c_X9_isCell l T B μ a1 _ hw2) kw_673 kw_674 kw_84 kw_675 (by decide +kernel) rfl rfl ⟨Nat.le_of_ble_eq_true rfl, Nat.le_of_ble_eq_true rfl⟩ rfl hl.1 (Nat.le_of_ble_eq_true rfl) dX9_shown_1 ⟨by decide, by decide⟩) (fun r3 μ1 H locs ⟨hw, hKM1⟩ M => ?_)
  replace hw := hw hKM1
  have hKM1_ := hKM.tr hKM1
  obtain ⟨hwt, hwf⟩ := hw
  refine lv_if_eq (tgt := 19) X.1 X.2.1 dX9_shown_4 (by decide) (fun hq => ?_) (fun hq => ?_)
  · have hw := hwt hq
    refine lv_lload_n X.1 X.2.1 dX9_shown_19 rfl (lv_at hl 0 rfl) ?_
    exact mx_lret X hr hk M dX9_shown_20 (by decide) (by decide) ⟨hw, hKM1_⟩
  · have hw := hwf hq
    refine lv_ldc2 (v := 1099511627776) X.1 X.2.1 X.2.2.2.1 (X.2.2.2.2.1 _ kw_659) dX9_shown_7 ?_
    refine lv_lload_n X.1 X.2.1 dX9_shown_10 rfl (lv_at hl 0 rfl) ?_
    have hw5 := hw
    clear hw
    refine mx_ci M (mx_runS (n := 1) (As := [.long a1]) (rest := [.long 1099511627776]) X M (c_X9_tag l T B μ1 a1 _ hw5) kw_676 kw_677 kw_84 kw_678 (by decide +kernel) rfl rfl ⟨Nat.le_of_ble_eq_true rfl, Nat.le_of_ble_eq_true rfl⟩ rfl hl.1 (Nat.le_of_ble_eq_true rfl) dX9_shown_11 ⟨by decide, by decide⟩) (fun r6 μ4 H locs ⟨hw, hKM4⟩ M => ?_)
    replace hw := hw hKM4
    have hKM4_ := hKM1_.tr hKM4
    refine lv_i2l X.1 X.2.1 dX9_shown_14 rfl ?_
    refine lv_ladd X.1 X.2.1 dX9_shown_15 ?_
    refine lv_goto (tgt := 20) X.1 X.2.1 dX9_shown_16 (by decide) ?_
    exact mx_lret X hr hk M dX9_shown_20 (by decide) (by decide) ⟨hw, hKM4_⟩

abbrev rm_X1_init : Room := { frames := 1, cells := 0, slots := 0, locals := 20 }
def wp_X1_init (μ : Mem) (o : Nat) (a1 : Int32) (a2 : Nat) (post : Mem → Prop) : Prop :=
  kd μ o = 4 ∧
  ∀ μ2 : Mem, μ2 = sfi μ 3 0 o a1 →
  ∀ μ5 : Mem, μ5 = sfr μ2 3 1 o (some a2) →
  post μ5
set_option maxRecDepth 100000 in
set_option maxHeartbeats 4000000 in
theorem c_X1_init (l : Launch) (T : Tb) (B : Nat) (μ : Mem) (o : Nat) (a1 : Int32) (a2 : Nat) (post : Mem → Prop) (hw : wp_X1_init μ o a1 a2 post) : Met l yX1_init (.code yX1_init cX1_init 3 none :: G) rm_X1_init (Pm (Rl T B) T B μ [.ref o, .int a1, .ref a2]) (va_Qv (fun μ9 => post μ9 ∧ KM μ μ9) (Bm (Rl T B)) (Ai B)) 0 0 (Ai B) := by
  refine mx_of RX1 rfl (by decide) (Nat.le_of_ble_eq_true rfl) ?_
  intro p e s m below meth c0 X hr hk hnm M ls hl
  have hl : lv_has ls 3 [(0, .ref o), (1, .int a1), (2, .ref a2)] := hl
  unfold wp_X1_init at hw
  have hKM : KM μ μ := KM.rf μ
  refine lv_aload_n X.1 X.2.1 dX1_init_0 rfl (lv_at hl 0 rfl) ?_
  refine my_obj X kw_517 kw_96 kw_97 hl.1 (Nat.le_of_ble_eq_true rfl) (Nat.le_of_ble_eq_true rfl) (Nat.le_of_ble_eq_true rfl) dX1_init_1 ?_
  refine lv_aload_n X.1 X.2.1 dX1_init_4 rfl (lv_at hl 0 rfl) ?_
  refine lv_iload_n X.1 X.2.1 dX1_init_5 rfl (lv_at hl 1 rfl) ?_
  obtain ⟨hk1, hw⟩ := hw
  refine my_puti (C := RX1) (F := TX1) (N := 7) (ci := 3) X M 0 rfl in_X1 tyX1 tyX1_ok nmX1 (by decide) rfl (by decide) kw_518 (Or.inr ⟨hnm, rfl⟩) dX1_init_6 hk1 rfl rfl (fun μ2 H locs eμ2 M => ?_)
  replace hw := hw μ2 eμ2
  have hKM3 : KM μ μ2 := by rw [eμ2]; exact hKM
  have hk4 : kd μ2 o = 4 := by rw [eμ2]; exact hk1
  refine lv_aload_n X.1 X.2.1 dX1_init_9 rfl (lv_at hl 0 rfl) ?_
  refine lv_aload_n X.1 X.2.1 dX1_init_10 rfl (lv_at hl 2 rfl) ?_
  refine my_putr (C := RX1) (F := TX1) (N := 7) (ci := 3) X M 1 rfl in_X1 tyX1 tyX1_ok nmX1 (by decide) rfl (by decide) kw_520 (Or.inl rfl) dX1_init_11 hk4 (some a2) (mq_no _ _) (mq_fo _ _) (fun μ5 H locs eμ5 M => ?_)
  replace hw := hw μ5 eμ5
  have hKM6 : KM μ μ5 := by rw [eμ5]; exact hKM3
  have hk7 : kd μ5 o = 4 := by rw [eμ5]; exact hk4
  exact mx_vret X hr hk M dX1_init_14 (by decide) (by decide) ⟨hw, hKM6⟩

abbrev rm_X3_init : Room := { frames := 1, cells := 0, slots := 0, locals := 20 }
def wp_X3_init (μ : Mem) (o : Nat) (a1 : Int32) (a2 : Int32) (a3 : Int32) (a4 : Int32) (a5 : Int32) (a6 : Nat) (post : Mem → Prop) : Prop :=
  kd μ o = 6 ∧
  ∀ μ2 : Mem, μ2 = sfi μ 5 0 o a1 →
  ∀ μ5 : Mem, μ5 = sfi μ2 5 1 o a2 →
  ∀ μ8 : Mem, μ8 = sfi μ5 5 2 o a3 →
  ∀ μ11 : Mem, μ11 = sfi μ8 5 3 o a4 →
  ∀ μ14 : Mem, μ14 = sfi μ11 5 4 o a5 →
  ∀ μ17 : Mem, μ17 = sfr μ14 5 5 o (some a6) →
  post μ17
set_option maxRecDepth 100000 in
set_option maxHeartbeats 4000000 in
theorem c_X3_init (l : Launch) (T : Tb) (B : Nat) (μ : Mem) (o : Nat) (a1 : Int32) (a2 : Int32) (a3 : Int32) (a4 : Int32) (a5 : Int32) (a6 : Nat) (post : Mem → Prop) (hw : wp_X3_init μ o a1 a2 a3 a4 a5 a6 post) : Met l yX3_init (.code yX3_init cX3_init 7 none :: G) rm_X3_init (Pm (Rl T B) T B μ [.ref o, .int a1, .int a2, .int a3, .int a4, .int a5, .ref a6]) (va_Qv (fun μ9 => post μ9 ∧ KM μ μ9) (Bm (Rl T B)) (Ai B)) 0 0 (Ai B) := by
  refine mx_of RX3 rfl (by decide) (Nat.le_of_ble_eq_true rfl) ?_
  intro p e s m below meth c0 X hr hk hnm M ls hl
  have hl : lv_has ls 7 [(0, .ref o), (1, .int a1), (2, .int a2), (3, .int a3), (4, .int a4), (5, .int a5), (6, .ref a6)] := hl
  unfold wp_X3_init at hw
  have hKM : KM μ μ := KM.rf μ
  refine lv_aload_n X.1 X.2.1 dX3_init_0 rfl (lv_at hl 0 rfl) ?_
  refine my_obj X kw_402 kw_96 kw_97 hl.1 (Nat.le_of_ble_eq_true rfl) (Nat.le_of_ble_eq_true rfl) (Nat.le_of_ble_eq_true rfl) dX3_init_1 ?_
  refine lv_aload_n X.1 X.2.1 dX3_init_4 rfl (lv_at hl 0 rfl) ?_
  refine lv_iload_n X.1 X.2.1 dX3_init_5 rfl (lv_at hl 1 rfl) ?_
  obtain ⟨hk1, hw⟩ := hw
  refine my_puti (C := RX3) (F := TX3) (N := 7) (ci := 5) X M 0 rfl in_X3 tyX3 tyX3_ok nmX3 (by decide) rfl (by decide) kw_403 (Or.inr ⟨hnm, rfl⟩) dX3_init_6 hk1 rfl rfl (fun μ2 H locs eμ2 M => ?_)
  replace hw := hw μ2 eμ2
  have hKM3 : KM μ μ2 := by rw [eμ2]; exact hKM
  have hk4 : kd μ2 o = 6 := by rw [eμ2]; exact hk1
  refine lv_aload_n X.1 X.2.1 dX3_init_9 rfl (lv_at hl 0 rfl) ?_
  refine lv_iload_n X.1 X.2.1 dX3_init_10 rfl (lv_at hl 2 rfl) ?_
  refine my_puti (C := RX3) (F := TX3) (N := 7) (ci := 5) X M 1 rfl in_X3 tyX3 tyX3_ok nmX3 (by decide) rfl (by decide) kw_406 (Or.inr ⟨hnm, rfl⟩) dX3_init_11 hk4 rfl rfl (fun μ5 H locs eμ5 M => ?_)
  replace hw := hw μ5 eμ5
  have hKM6 : KM μ μ5 := by rw [eμ5]; exact hKM3
  have hk7 : kd μ5 o = 6 := by rw [eμ5]; exact hk4
  refine lv_aload_n X.1 X.2.1 dX3_init_14 rfl (lv_at hl 0 rfl) ?_
  refine lv_iload_n X.1 X.2.1 dX3_init_15 rfl (lv_at hl 3 rfl) ?_
  refine my_puti (C := RX3) (F := TX3) (N := 7) (ci := 5) X M 2 rfl in_X3 tyX3 tyX3_ok nmX3 (by decide) rfl (by decide) kw_409 (Or.inr ⟨hnm, rfl⟩) dX3_init_16 hk7 rfl rfl (fun μ8 H locs eμ8 M => ?_)
  replace hw := hw μ8 eμ8
  have hKM9 : KM μ μ8 := by rw [eμ8]; exact hKM6
  have hk10 : kd μ8 o = 6 := by rw [eμ8]; exact hk7
  refine lv_aload_n X.1 X.2.1 dX3_init_19 rfl (lv_at hl 0 rfl) ?_
  refine lv_iload X.1 X.2.1 dX3_init_20 (lv_at hl 4 rfl) ?_
  refine my_puti (C := RX3) (F := TX3) (N := 7) (ci := 5) X M 3 rfl in_X3 tyX3 tyX3_ok nmX3 (by decide) rfl (by decide) kw_412 (Or.inr ⟨hnm, rfl⟩) dX3_init_22 hk10 rfl rfl (fun μ11 H locs eμ11 M => ?_)
  replace hw := hw μ11 eμ11
  have hKM12 : KM μ μ11 := by rw [eμ11]; exact hKM9
  have hk13 : kd μ11 o = 6 := by rw [eμ11]; exact hk10
  refine lv_aload_n X.1 X.2.1 dX3_init_25 rfl (lv_at hl 0 rfl) ?_
  refine lv_iload X.1 X.2.1 dX3_init_26 (lv_at hl 5 rfl) ?_
  refine my_puti (C := RX3) (F := TX3) (N := 7) (ci := 5) X M 4 rfl in_X3 tyX3 tyX3_ok nmX3 (by decide) rfl (by decide) kw_415 (Or.inr ⟨hnm, rfl⟩) dX3_init_28 hk13 rfl rfl (fun μ14 H locs eμ14 M => ?_)
  replace hw := hw μ14 eμ14
  have hKM15 : KM μ μ14 := by rw [eμ14]; exact hKM12
  have hk16 : kd μ14 o = 6 := by rw [eμ14]; exact hk13
  refine lv_aload_n X.1 X.2.1 dX3_init_31 rfl (lv_at hl 0 rfl) ?_
  refine lv_aload X.1 X.2.1 dX3_init_32 (lv_at hl 6 rfl) ?_
  refine my_putr (C := RX3) (F := TX3) (N := 7) (ci := 5) X M 5 rfl in_X3 tyX3 tyX3_ok nmX3 (by decide) rfl (by decide) kw_418 (Or.inr ⟨hnm, rfl⟩) dX3_init_34 hk16 (some a6) (mq_na _ _) (mq_fa _ _) (fun μ17 H locs eμ17 M => ?_)
  replace hw := hw μ17 eμ17
  have hKM18 : KM μ μ17 := by rw [eμ17]; exact hKM15
  have hk19 : kd μ17 o = 6 := by rw [eμ17]; exact hk16
  exact mx_vret X hr hk M dX3_init_37 (by decide) (by decide) ⟨hw, hKM18⟩

abbrev rm_X6_init : Room := { frames := 1, cells := 0, slots := 0, locals := 20 }
def wp_X6_init (μ : Mem) (o : Nat) (a1 : Nat) (post : Mem → Prop) : Prop :=
  kd μ o = 9 ∧
  ∀ μ2 : Mem, μ2 = sfr μ 8 0 o (some a1) →
  post μ2
set_option maxRecDepth 100000 in
set_option maxHeartbeats 4000000 in
theorem c_X6_init (l : Launch) (T : Tb) (B : Nat) (μ : Mem) (o : Nat) (a1 : Nat) (post : Mem → Prop) (hw : wp_X6_init μ o a1 post) : Met l yX6_init (.code yX6_init cX6_init 2 none :: G) rm_X6_init (Pm (Rl T B) T B μ [.ref o, .ref a1]) (va_Qv (fun μ9 => post μ9 ∧ KM μ μ9) (Bm (Rl T B)) (Ai B)) 0 0 (Ai B) := by
  refine mx_of RX6 rfl (by decide) (Nat.le_of_ble_eq_true rfl) ?_
  intro p e s m below meth c0 X hr hk hnm M ls hl
  have hl : lv_has ls 2 [(0, .ref o), (1, .ref a1)] := hl
  unfold wp_X6_init at hw
  have hKM : KM μ μ := KM.rf μ
  refine lv_aload_n X.1 X.2.1 dX6_init_0 rfl (lv_at hl 0 rfl) ?_
  refine my_obj X kw_748 kw_96 kw_97 hl.1 (Nat.le_of_ble_eq_true rfl) (Nat.le_of_ble_eq_true rfl) (Nat.le_of_ble_eq_true rfl) dX6_init_1 ?_
  refine lv_aload_n X.1 X.2.1 dX6_init_4 rfl (lv_at hl 0 rfl) ?_
  refine lv_aload_n X.1 X.2.1 dX6_init_5 rfl (lv_at hl 1 rfl) ?_
  obtain ⟨hk1, hw⟩ := hw
  refine my_putr (C := RX6) (F := TX6) (N := 7) (ci := 8) X M 0 rfl in_X6 tyX6 tyX6_ok nmX6 (by decide) rfl (by decide) kw_749 (Or.inl rfl) dX6_init_6 hk1 (some a1) (mq_no _ _) (mq_fo _ _) (fun μ2 H locs eμ2 M => ?_)
  replace hw := hw μ2 eμ2
  have hKM3 : KM μ μ2 := by rw [eμ2]; exact hKM
  have hk4 : kd μ2 o = 9 := by rw [eμ2]; exact hk1
  exact mx_vret X hr hk M dX6_init_9 (by decide) (by decide) ⟨hw, hKM3⟩

abbrev rm_X4_init (c z : Nat) : Room := { frames := 1, cells := c, slots := z, locals := 20 }
def wp_X4_init (c z : Nat) (μ : Mem) (o : Nat) (post : Mem → Prop) : Prop :=
  ¬ (32 : Int32) < 0 ∧ (Int32.toNatClampNeg 32) ≤ 1048576 ∧ 1 ≤ c ∧ (Int32.toNatClampNeg 32) ≤ z ∧ ∀ (q1 : Nat) (μ2 : Mem), kd μ q1 = 0 → μ2 = nar μ 103 q1 (Int32.toNatClampNeg 32) →
  kd μ2 o = 7 ∧
  ∀ μ6 : Mem, μ6 = sfr μ2 6 0 o (some q1) →
  post μ6
set_option maxRecDepth 100000 in
set_option maxHeartbeats 4000000 in
theorem c_X4_init (l : Launch) (T : Tb) (B : Nat) (c z : Nat) (μ : Mem) (o : Nat) (post : Mem → Prop) (hw : wp_X4_init c z μ o post) : Met l yX4_init (.code yX4_init cX4_init 1 none :: G) (rm_X4_init c z) (Pm (Rl T B) T B μ [.ref o]) (va_Qv (fun μ9 => post μ9 ∧ KM μ μ9) (Bm (Rl T B)) (Ai B)) c z (Ai B) := by
  refine mx_of RX4 rfl (by decide) (Nat.le_of_ble_eq_true rfl) ?_
  intro p e s m below meth c0 X hr hk hnm M ls hl
  have hl : lv_has ls 1 [(0, .ref o)] := hl
  unfold wp_X4_init at hw
  have hKM : KM μ μ := KM.rf μ
  have hc : 0 + c ≤ c := by omega
  have hz : 0 + z ≤ z := by omega
  refine lv_aload_n X.1 X.2.1 dX4_init_0 rfl (lv_at hl 0 rfl) ?_
  refine my_obj X kw_144 kw_96 kw_97 hl.1 (Nat.le_of_ble_eq_true rfl) (Nat.le_of_ble_eq_true rfl) (Nat.le_of_ble_eq_true rfl) dX4_init_1 ?_
  refine lv_aload_n X.1 X.2.1 dX4_init_4 rfl (lv_at hl 0 rfl) ?_
  refine lv_bipush (v := 32) X.1 X.2.1 dX4_init_5 (by decide) ?_
  obtain ⟨hb0, hb3, hb1, hb2, hw⟩ := hw
  refine my_newJ X M kw_152 dX4_init_7 hb0 hb3 (show 0 + 1 ≤ c by omega) (show 0 + (Int32.toNatClampNeg 32) ≤ z by omega) (fun q1 μ2 H hq1 eμ2 M => ?_)
  replace hw := hw q1 μ2 hq1 eμ2
  have hKM3 : KM μ μ2 := by rw [eμ2]; exact hKM.tr (KM_nar hq1)
  have hk4 : kd μ2 q1 = 103 := by rw [eμ2]; exact kd_nar
  have hc : (0 + 1) + (c - 1) ≤ c := by omega
  have hz : (0 + (Int32.toNatClampNeg 32)) + (z - (Int32.toNatClampNeg 32)) ≤ z := by omega
  obtain ⟨hk5, hw⟩ := hw
  refine my_putr (C := RX4) (F := TX4) (N := 2) (ci := 6) X M 0 rfl in_X4 tyX4 tyX4_ok nmX4 (by decide) rfl (by decide) kw_145 (Or.inl rfl) dX4_init_9 hk5 (some q1) (mq_na _ _) (mq_fa _ _) (fun μ6 H locs eμ6 M => ?_)
  replace hw := hw μ6 eμ6
  have hKM7 : KM μ μ6 := by rw [eμ6]; exact hKM3
  have hk8 : kd μ6 q1 = 103 := by rw [eμ6]; exact hk4
  have hk9 : kd μ6 o = 7 := by rw [eμ6]; exact hk5
  exact mx_vret X hr hk M dX4_init_12 (by omega) (by omega) ⟨hw, hKM7⟩

abbrev rm_X4_size : Room := { frames := 0, cells := 0, slots := 0, locals := 0 }
def wp_X4_size (μ : Mem) (o : Nat) (post : Int32 → Mem → Prop) : Prop :=
  kd μ o = 7 ∧
  post (fi μ 6 1 o) μ
set_option maxRecDepth 100000 in
set_option maxHeartbeats 4000000 in
theorem c_X4_size (l : Launch) (T : Tb) (B : Nat) (μ : Mem) (o : Nat) (post : Int32 → Mem → Prop) (hw : wp_X4_size μ o post) : Met l yX4_size (.code yX4_size cX4_size 1 (some .int) :: G) rm_X4_size (Pm (Rl T B) T B μ [.ref o]) (va_Qi (fun r9 μ9 => post r9 μ9 ∧ KM μ μ9) (Bm (Rl T B)) (Ai B)) 0 0 (Ai B) := by
  refine mx_of RX4 rfl (by decide) (Nat.le_of_ble_eq_true rfl) ?_
  intro p e s m below meth c0 X hr hk hnm M ls hl
  have hl : lv_has ls 1 [(0, .ref o)] := hl
  unfold wp_X4_size at hw
  have hKM : KM μ μ := KM.rf μ
  refine lv_aload_n X.1 X.2.1 dX4_size_0 rfl (lv_at hl 0 rfl) ?_
  obtain ⟨hk1, hw⟩ := hw
  refine mx_geti (C := RX4) (F := TX4) (N := 2) (ci := 6) X M 1 rfl in_X4 (by decide) rfl (by decide) kw_146 dX4_size_1 hk1 ?_
  exact mx_iret X hr hk M dX4_size_4 (by decide) (by decide) ⟨hw, hKM⟩

abbrev rm_X4_at : Room := { frames := 1, cells := 0, slots := 0, locals := 21 }
def wp_X4_at (μ : Mem) (o : Nat) (a1 : Int32) (post : Int64 → Mem → Prop) : Prop :=
  kd μ o = 7 ∧
  wp_X10_within μ a1 (fi μ 6 1 o) (fun (r4 : Int32) (μ2 : Mem) =>
  KM μ μ2 →
  (r4 = 0 →
   post 0 μ2) ∧ (¬ r4 = 0 →
   ∃ x6, fr μ2 6 0 o = some x6 ∧
   isArr (kd μ2 x6) ∧
   ((nI (al μ2 x6)) ≤ a1 →
    post 0 μ2) ∧ (¬ (nI (al μ2 x6)) ≤ a1 →
    ∃ x7, fr μ2 6 0 o = some x7 ∧
    kd μ2 x7 = 103 ∧
    vp_in a1 (al μ2 x7) ∧
    post (aj μ2 x7 (Int32.toNatClampNeg a1)) μ2)))
set_option maxRecDepth 100000 in
set_option maxHeartbeats 4000000 in
theorem c_X4_at (l : Launch) (T : Tb) (B : Nat) (μ : Mem) (o : Nat) (a1 : Int32) (post : Int64 → Mem → Prop) (hw : wp_X4_at μ o a1 post) : Met l yX4_at (.code yX4_at cX4_at 2 (some .long) :: G) rm_X4_at (Pm (Rl T B) T B μ [.ref o, .int a1]) (va_Ql (fun r9 μ9 => post r9 μ9 ∧ KM μ μ9) (Bm (Rl T B)) (Ai B)) 0 0 (Ai B) := by
  refine mx_of RX4 rfl (by decide) (Nat.le_of_ble_eq_true rfl) ?_
  intro p e s m below meth c0 X hr hk hnm M ls hl
  have hl : lv_has ls 2 [(0, .ref o), (1, .int a1)] := hl
  unfold wp_X4_at at hw
  have hKM : KM μ μ := KM.rf μ
  refine lv_iload_n X.1 X.2.1 dX4_at_0 rfl (lv_at hl 1 rfl) ?_
  refine lv_aload_n X.1 X.2.1 dX4_at_1 rfl (lv_at hl 0 rfl) ?_
  obtain ⟨hk1, hw⟩ := hw
  refine mx_geti (C := RX4) (F := TX4) (N := 2) (ci := 6) X M 1 rfl in_X4 (by decide) rfl (by decide) kw_146 dX4_at_2 hk1 ?_
  have hw3 := hw
  clear hw
  refine mx_ci M (mx_runSN (n := 2) (As := [.int a1, .int (fi μ 6 1 o)]) (rest := []) X M (c_X10_within l T B μ a1 (fi μ 6 1 o) _ hw3) kw_499 kw_309 kw_65 kw_310 (by decide +kernel) rfl rfl ⟨Nat.le_of_ble_eq_true rfl, Nat.le_of_ble_eq_true rfl⟩ rfl hl.1 (Nat.le_of_ble_eq_true rfl) dX4_at_5 ⟨by decide, by decide⟩) (fun r4 μ2 H locs ⟨hw, hKM2⟩ M => ?_)
  replace hw := hw hKM2
  have hKM2_ := hKM.tr hKM2
  have hk5 := hKM2.at hk1
  obtain ⟨hwt, hwf⟩ := hw
  refine lv_if_eq (tgt := 29) X.1 X.2.1 dX4_at_8 (by decide) (fun hq => ?_) (fun hq => ?_)
  · have hw := hwt hq
    refine lv_lconst (v := 0) X.1 X.2.1 dX4_at_29 (by decide) ?_
    exact mx_lret X hr hk M dX4_at_30 (by decide) (by decide) ⟨hw, hKM2_⟩
  · have hw := hwf hq
    refine lv_iload_n X.1 X.2.1 dX4_at_11 rfl (lv_at hl 1 rfl) ?_
    refine lv_aload_n X.1 X.2.1 dX4_at_12 rfl (lv_at hl 0 rfl) ?_
    obtain ⟨x6, ex6, hw⟩ := hw
    refine mx_getr (C := RX4) (F := TX4) (N := 2) (ci := 6) X M 0 rfl in_X4 (by decide) rfl (by decide) kw_145 dX4_at_13 hk5 ?_
    rw [ex6]
    obtain ⟨hia, hw⟩ := hw
    refine mx_len X M dX4_at_16 hia ?_
    obtain ⟨hwt, hwf⟩ := hw
    refine lv_icmp_ge (tgt := 29) X.1 X.2.1 dX4_at_17 (by decide) (fun hq => ?_) (fun hq => ?_)
    · have hw := hwt hq
      refine lv_lconst (v := 0) X.1 X.2.1 dX4_at_29 (by decide) ?_
      exact mx_lret X hr hk M dX4_at_30 (by decide) (by decide) ⟨hw, hKM2_⟩
    · have hw := hwf hq
      refine lv_aload_n X.1 X.2.1 dX4_at_20 rfl (lv_at hl 0 rfl) ?_
      obtain ⟨x7, ex7, hw⟩ := hw
      refine mx_getr (C := RX4) (F := TX4) (N := 2) (ci := 6) X M 0 rfl in_X4 (by decide) rfl (by decide) kw_145 dX4_at_21 hk5 ?_
      rw [ex7]
      refine lv_iload_n X.1 X.2.1 dX4_at_24 rfl (lv_at hl 1 rfl) ?_
      obtain ⟨hk8, hw⟩ := hw
      obtain ⟨hi, hw⟩ := hw
      refine mx_jld X M dX4_at_25 hk8 hi ?_
      refine lv_goto (tgt := 30) X.1 X.2.1 dX4_at_26 (by decide) ?_
      exact mx_lret X hr hk M dX4_at_30 (by decide) (by decide) ⟨hw, hKM2_⟩

abbrev rm_X4_set : Room := { frames := 1, cells := 0, slots := 0, locals := 21 }
def wp_X4_set (μ : Mem) (o : Nat) (a1 : Int32) (a2 : Int64) (post : Mem → Prop) : Prop :=
  kd μ o = 7 ∧
  wp_X10_within μ a1 (fi μ 6 1 o) (fun (r4 : Int32) (μ2 : Mem) =>
  KM μ μ2 →
  (r4 = 0 →
   post μ2) ∧ (¬ r4 = 0 →
   ∃ x6, fr μ2 6 0 o = some x6 ∧
   isArr (kd μ2 x6) ∧
   ((nI (al μ2 x6)) ≤ a1 →
    post μ2) ∧ (¬ (nI (al μ2 x6)) ≤ a1 →
    ∃ x7, fr μ2 6 0 o = some x7 ∧
    kd μ2 x7 = 103 ∧
    vp_in a1 (al μ2 x7) ∧
    ∀ μ9 : Mem, μ9 = saj μ2 x7 (Int32.toNatClampNeg a1) a2 →
    post μ9)))
set_option maxRecDepth 100000 in
set_option maxHeartbeats 4000000 in
theorem c_X4_set (l : Launch) (T : Tb) (B : Nat) (μ : Mem) (o : Nat) (a1 : Int32) (a2 : Int64) (post : Mem → Prop) (hw : wp_X4_set μ o a1 a2 post) : Met l yX4_set (.code yX4_set cX4_set 4 none :: G) rm_X4_set (Pm (Rl T B) T B μ [.ref o, .int a1, .long a2]) (va_Qv (fun μ9 => post μ9 ∧ KM μ μ9) (Bm (Rl T B)) (Ai B)) 0 0 (Ai B) := by
  refine mx_of RX4 rfl (by decide) (Nat.le_of_ble_eq_true rfl) ?_
  intro p e s m below meth c0 X hr hk hnm M ls hl
  have hl : lv_has ls 4 [(0, .ref o), (1, .int a1), (2, .long a2)] := hl
  unfold wp_X4_set at hw
  have hKM : KM μ μ := KM.rf μ
  refine lv_iload_n X.1 X.2.1 dX4_set_0 rfl (lv_at hl 1 rfl) ?_
  refine lv_aload_n X.1 X.2.1 dX4_set_1 rfl (lv_at hl 0 rfl) ?_
  obtain ⟨hk1, hw⟩ := hw
  refine mx_geti (C := RX4) (F := TX4) (N := 2) (ci := 6) X M 1 rfl in_X4 (by decide) rfl (by decide) kw_146 dX4_set_2 hk1 ?_
  have hw3 := hw
  clear hw
  refine mx_ci M (mx_runSN (n := 2) (As := [.int a1, .int (fi μ 6 1 o)]) (rest := []) X M (c_X10_within l T B μ a1 (fi μ 6 1 o) _ hw3) kw_499 kw_309 kw_65 kw_310 (by decide +kernel) rfl rfl ⟨Nat.le_of_ble_eq_true rfl, Nat.le_of_ble_eq_true rfl⟩ rfl hl.1 (Nat.le_of_ble_eq_true rfl) dX4_set_5 ⟨by decide, by decide⟩) (fun r4 μ2 H locs ⟨hw, hKM2⟩ M => ?_)
  replace hw := hw hKM2
  have hKM2_ := hKM.tr hKM2
  have hk5 := hKM2.at hk1
  obtain ⟨hwt, hwf⟩ := hw
  refine lv_if_eq (tgt := 27) X.1 X.2.1 dX4_set_8 (by decide) (fun hq => ?_) (fun hq => ?_)
  · have hw := hwt hq
    exact mx_vret X hr hk M dX4_set_27 (by decide) (by decide) ⟨hw, hKM2_⟩
  · have hw := hwf hq
    refine lv_iload_n X.1 X.2.1 dX4_set_11 rfl (lv_at hl 1 rfl) ?_
    refine lv_aload_n X.1 X.2.1 dX4_set_12 rfl (lv_at hl 0 rfl) ?_
    obtain ⟨x6, ex6, hw⟩ := hw
    refine mx_getr (C := RX4) (F := TX4) (N := 2) (ci := 6) X M 0 rfl in_X4 (by decide) rfl (by decide) kw_145 dX4_set_13 hk5 ?_
    rw [ex6]
    obtain ⟨hia, hw⟩ := hw
    refine mx_len X M dX4_set_16 hia ?_
    obtain ⟨hwt, hwf⟩ := hw
    refine lv_icmp_ge (tgt := 27) X.1 X.2.1 dX4_set_17 (by decide) (fun hq => ?_) (fun hq => ?_)
    · have hw := hwt hq
      exact mx_vret X hr hk M dX4_set_27 (by decide) (by decide) ⟨hw, hKM2_⟩
    · have hw := hwf hq
      refine lv_aload_n X.1 X.2.1 dX4_set_20 rfl (lv_at hl 0 rfl) ?_
      obtain ⟨x7, ex7, hw⟩ := hw
      refine mx_getr (C := RX4) (F := TX4) (N := 2) (ci := 6) X M 0 rfl in_X4 (by decide) rfl (by decide) kw_145 dX4_set_21 hk5 ?_
      rw [ex7]
      refine lv_iload_n X.1 X.2.1 dX4_set_24 rfl (lv_at hl 1 rfl) ?_
      refine lv_lload_n X.1 X.2.1 dX4_set_25 rfl (lv_at hl 2 rfl) ?_
      obtain ⟨hk8, hw⟩ := hw
      obtain ⟨hi, hw⟩ := hw
      refine my_jst X M dX4_set_26 hk8 hi (fun μ9 H locs eμ9 M => ?_)
      replace hw := hw μ9 eμ9
      have hKM10 : KM μ μ9 := by rw [eμ9]; exact hKM2_
      have hk11 : kd μ9 o = 7 := by rw [eμ9]; exact hk5
      have hk12 : kd μ9 x7 = 103 := by rw [eμ9]; exact hk8
      exact mx_vret X hr hk M dX4_set_27 (by decide) (by decide) ⟨hw, hKM10⟩

abbrev rm_X4_shrink : Room := { frames := 1, cells := 0, slots := 0, locals := 21 }
def wp_X4_shrink (μ : Mem) (o : Nat) (a1 : Int32) (post : Mem → Prop) : Prop :=
  kd μ o = 7 ∧
  wp_X10_within μ a1 (fi μ 6 1 o) (fun (r4 : Int32) (μ2 : Mem) =>
  KM μ μ2 →
  (r4 = 0 →
   post μ2) ∧ (¬ r4 = 0 →
   ∀ μ6 : Mem, μ6 = sfi μ2 6 1 o a1 →
   post μ6))
set_option maxRecDepth 100000 in
set_option maxHeartbeats 4000000 in
theorem c_X4_shrink (l : Launch) (T : Tb) (B : Nat) (μ : Mem) (o : Nat) (a1 : Int32) (post : Mem → Prop) (hw : wp_X4_shrink μ o a1 post) : Met l yX4_shrink (.code yX4_shrink cX4_shrink 2 none :: G) rm_X4_shrink (Pm (Rl T B) T B μ [.ref o, .int a1]) (va_Qv (fun μ9 => post μ9 ∧ KM μ μ9) (Bm (Rl T B)) (Ai B)) 0 0 (Ai B) := by
  refine mx_of RX4 rfl (by decide) (Nat.le_of_ble_eq_true rfl) ?_
  intro p e s m below meth c0 X hr hk hnm M ls hl
  have hl : lv_has ls 2 [(0, .ref o), (1, .int a1)] := hl
  unfold wp_X4_shrink at hw
  have hKM : KM μ μ := KM.rf μ
  refine lv_iload_n X.1 X.2.1 dX4_shrink_0 rfl (lv_at hl 1 rfl) ?_
  refine lv_aload_n X.1 X.2.1 dX4_shrink_1 rfl (lv_at hl 0 rfl) ?_
  obtain ⟨hk1, hw⟩ := hw
  refine mx_geti (C := RX4) (F := TX4) (N := 2) (ci := 6) X M 1 rfl in_X4 (by decide) rfl (by decide) kw_146 dX4_shrink_2 hk1 ?_
  have hw3 := hw
  clear hw
  refine mx_ci M (mx_runSN (n := 2) (As := [.int a1, .int (fi μ 6 1 o)]) (rest := []) X M (c_X10_within l T B μ a1 (fi μ 6 1 o) _ hw3) kw_499 kw_309 kw_65 kw_310 (by decide +kernel) rfl rfl ⟨Nat.le_of_ble_eq_true rfl, Nat.le_of_ble_eq_true rfl⟩ rfl hl.1 (Nat.le_of_ble_eq_true rfl) dX4_shrink_5 ⟨by decide, by decide⟩) (fun r4 μ2 H locs ⟨hw, hKM2⟩ M => ?_)
  replace hw := hw hKM2
  have hKM2_ := hKM.tr hKM2
  have hk5 := hKM2.at hk1
  obtain ⟨hwt, hwf⟩ := hw
  refine lv_if_eq (tgt := 16) X.1 X.2.1 dX4_shrink_8 (by decide) (fun hq => ?_) (fun hq => ?_)
  · have hw := hwt hq
    exact mx_vret X hr hk M dX4_shrink_16 (by decide) (by decide) ⟨hw, hKM2_⟩
  · have hw := hwf hq
    refine lv_aload_n X.1 X.2.1 dX4_shrink_11 rfl (lv_at hl 0 rfl) ?_
    refine lv_iload_n X.1 X.2.1 dX4_shrink_12 rfl (lv_at hl 1 rfl) ?_
    refine my_puti (C := RX4) (F := TX4) (N := 2) (ci := 6) X M 1 rfl in_X4 tyX4 tyX4_ok nmX4 (by decide) rfl (by decide) kw_146 (Or.inl rfl) dX4_shrink_13 hk5 rfl rfl (fun μ6 H locs eμ6 M => ?_)
    replace hw := hw μ6 eμ6
    have hKM7 : KM μ μ6 := by rw [eμ6]; exact hKM2_
    have hk8 : kd μ6 o = 7 := by rw [eμ6]; exact hk5
    exact mx_vret X hr hk M dX4_shrink_16 (by decide) (by decide) ⟨hw, hKM7⟩

abbrev rm_X4_pop : Room := { frames := 2, cells := 0, slots := 0, locals := 42 }
def wp_X4_pop (μ : Mem) (o : Nat) (post : Int64 → Mem → Prop) : Prop :=
  kd μ o = 7 ∧
  wp_X4_at μ o ((fi μ 6 1 o) - 1) (fun (r4 : Int64) (μ2 : Mem) =>
  KM μ μ2 →
  wp_X4_shrink μ2 o ((fi μ2 6 1 o) - 1) (fun (μ6 : Mem) =>
  KM μ2 μ6 →
  post r4 μ6))
set_option maxRecDepth 100000 in
set_option maxHeartbeats 4000000 in
theorem c_X4_pop (l : Launch) (T : Tb) (B : Nat) (μ : Mem) (o : Nat) (post : Int64 → Mem → Prop) (hw : wp_X4_pop μ o post) : Met l yX4_pop (.code yX4_pop cX4_pop 3 (some .long) :: G) rm_X4_pop (Pm (Rl T B) T B μ [.ref o]) (va_Ql (fun r9 μ9 => post r9 μ9 ∧ KM μ μ9) (Bm (Rl T B)) (Ai B)) 0 0 (Ai B) := by
  refine mx_of RX4 rfl (by decide) (Nat.le_of_ble_eq_true rfl) ?_
  intro p e s m below meth c0 X hr hk hnm M ls hl
  have hl : lv_has ls 3 [(0, .ref o)] := hl
  unfold wp_X4_pop at hw
  have hKM : KM μ μ := KM.rf μ
  refine lv_aload_n X.1 X.2.1 dX4_pop_0 rfl (lv_at hl 0 rfl) ?_
  refine lv_aload_n X.1 X.2.1 dX4_pop_1 rfl (lv_at hl 0 rfl) ?_
  obtain ⟨hk1, hw⟩ := hw
  refine mx_geti (C := RX4) (F := TX4) (N := 2) (ci := 6) X M 1 rfl in_X4 (by decide) rfl (by decide) kw_146 dX4_pop_2 hk1 ?_
  refine lv_iconst (v := 1) X.1 X.2.1 dX4_pop_5 (by decide) ?_
  refine lv_isub X.1 X.2.1 dX4_pop_6 ?_
  have hw3 := hw
  clear hw
  refine mx_cl M (mx_runV (n := 1) (As := [.int ((fi μ 6 1 o) - 1)]) (rest := []) X M (c_X4_at l T B μ o ((fi μ 6 1 o) - 1) _ hw3) (mx_recv (C := RX4) (F := TX4) (N := 2) (ci := 6) X M rfl (by decide) hk1) kw_618 kw_583 kw_584 kw_71 kw_585 (by decide +kernel) rfl rfl ⟨Nat.le_of_ble_eq_true rfl, Nat.le_of_ble_eq_true rfl⟩ rfl hl.1 (Nat.le_of_ble_eq_true rfl) dX4_pop_7 ⟨by decide, by decide⟩) (fun r4 μ2 H locs ⟨hw, hKM2⟩ M => ?_)
  replace hw := hw hKM2
  have hKM2_ := hKM.tr hKM2
  have hk5 := hKM2.at hk1
  refine lv_lstore_n (lv' := [(1, .long r4), (0, .ref o)]) X.1 X.2.1 dX4_pop_10 rfl hl (by decide) rfl (fun ls hl => ?_)
  refine lv_aload_n X.1 X.2.1 dX4_pop_11 rfl (lv_at hl 1 rfl) ?_
  refine lv_aload_n X.1 X.2.1 dX4_pop_12 rfl (lv_at hl 1 rfl) ?_
  refine mx_geti (C := RX4) (F := TX4) (N := 2) (ci := 6) X M 1 rfl in_X4 (by decide) rfl (by decide) kw_146 dX4_pop_13 hk5 ?_
  refine lv_iconst (v := 1) X.1 X.2.1 dX4_pop_16 (by decide) ?_
  refine lv_isub X.1 X.2.1 dX4_pop_17 ?_
  have hw7 := hw
  clear hw
  refine mx_cv M (mx_runV (n := 1) (As := [.int ((fi μ2 6 1 o) - 1)]) (rest := []) X M (c_X4_shrink l T B μ2 o ((fi μ2 6 1 o) - 1) _ hw7) (mx_recv (C := RX4) (F := TX4) (N := 2) (ci := 6) X M rfl (by decide) hk5) kw_619 kw_496 kw_497 kw_71 kw_498 (by decide +kernel) rfl rfl ⟨Nat.le_of_ble_eq_true rfl, Nat.le_of_ble_eq_true rfl⟩ rfl hl.1 (Nat.le_of_ble_eq_true rfl) dX4_pop_18 ⟨by decide, by decide⟩) (fun μ6 H locs ⟨hw, hKM6⟩ M => ?_)
  replace hw := hw hKM6
  have hKM6_ := hKM2_.tr hKM6
  have hk8 := hKM6.at hk5
  refine lv_lload_n X.1 X.2.1 dX4_pop_21 rfl (lv_at hl 0 rfl) ?_
  exact mx_lret X hr hk M dX4_pop_22 (by decide) (by decide) ⟨hw, hKM6_⟩

abbrev rm_X4_push (c z : Nat) : Room := { frames := 2, cells := c, slots := z, locals := 62 }
def wp_X4_push_40 (o : Nat) (post : Mem → Prop) (c z : Nat) (μ : Mem) (x1 : Int64) : Prop :=
  kd μ o = 7 ∧
  ∃ x4, fr μ 6 0 o = some x4 ∧
  isArr (kd μ x4) ∧
  wp_X10_within μ (fi μ 6 1 o) (nI (al μ x4)) (fun (r7 : Int32) (μ5 : Mem) =>
  KM μ μ5 →
  (r7 = 0 →
   post μ5) ∧ (¬ r7 = 0 →
   ∃ x9, fr μ5 6 0 o = some x9 ∧
   kd μ5 x9 = 103 ∧
   vp_in (fi μ5 6 1 o) (al μ5 x9) ∧
   ∀ μ11 : Mem, μ11 = saj μ5 x9 (Int32.toNatClampNeg (fi μ5 6 1 o)) x1 →
   ∀ μ15 : Mem, μ15 = sfi μ11 6 1 o ((fi μ11 6 1 o) + 1) →
   post μ15))
def wp_X4_push (c z : Nat) (μ : Mem) (o : Nat) (a1 : Int64) (post : Mem → Prop) : Prop :=
  kd μ o = 7 ∧
  ∃ x2, fr μ 6 0 o = some x2 ∧
  isArr (kd μ x2) ∧
  ((fi μ 6 1 o) < (nI (al μ x2)) →
   wp_X4_push_40 o post c z μ a1) ∧ (¬ (fi μ 6 1 o) < (nI (al μ x2)) →
   ∃ x18, fr μ 6 0 o = some x18 ∧
   isArr (kd μ x18) ∧
   (1048576 ≤ (nI (al μ x18)) →
    wp_X4_push_40 o post c z μ a1) ∧ (¬ 1048576 ≤ (nI (al μ x18)) →
    ∃ x19, fr μ 6 0 o = some x19 ∧
    ∃ x20, fr μ 6 0 o = some x20 ∧
    isArr (kd μ x20) ∧
    ∃ c22 z23, c22 ≤ c ∧ z23 ≤ z ∧
    wp_J7_copyOf_c38d5 c22 z23 μ x19 ((nI (al μ x20)) * 2) (fun (r25 : Option Nat) (μ21 : Mem) =>
    KM μ μ21 →
    ∀ μ27 : Mem, μ27 = sfr μ21 6 0 o r25 →
    wp_X4_push_40 o post (c - c22) (z - z23) μ27 a1)))
set_option maxRecDepth 100000 in
set_option maxHeartbeats 4000000 in
theorem b_X4_push_40 {T : Tb} {B : Nat} {p : Program} {l : Launch} {e : Env} {s : State} {m : MethodId} {args : Array Value} {below : List Frame} {meth : Method} {c0 : Code} {post : Mem → Prop} {μ0 : Mem} {o : Nat} {cT zT : Nat} (X : CX T B p m c0 cX4_push 3 s args RX4) (hr : meth.sig.returnType = none) (hk : meth.locks = false) : ∀ (c z cells slots : Nat) (μ : Mem) (x1 : Int64) (H : Heap) (locs : List Loc) (ls : Array Slot), cells + c ≤ cT → slots + z ≤ zT → KM μ0 μ → wp_X4_push_40 o post c z μ x1 → MG (Rl T B) B s μ H locs → lv_has ls 3 [(0, .ref o), (1, .long x1)] → W p l e (rm_X4_push cT zT) s m args below meth c0 H locs cells slots (MQ below (va_Qv (fun μ9 => post μ9 ∧ KM μ0 μ9) (Bm (Rl T B)) (Ai B)) args s cT zT (Ai B)) (F0 m 40 ls []) := by
  intro c z cells slots μ x1 H locs ls hc hz hKM hw M hl
  unfold wp_X4_push_40 at hw
  refine lv_aload_n X.1 X.2.1 dX4_push_40 rfl (lv_at hl 0 rfl) ?_
  obtain ⟨hk3, hw⟩ := hw
  refine mx_geti (C := RX4) (F := TX4) (N := 2) (ci := 6) X M 1 rfl in_X4 (by decide) rfl (by decide) kw_146 dX4_push_41 hk3 ?_
  refine lv_aload_n X.1 X.2.1 dX4_push_44 rfl (lv_at hl 0 rfl) ?_
  obtain ⟨x4, ex4, hw⟩ := hw
  refine mx_getr (C := RX4) (F := TX4) (N := 2) (ci := 6) X M 0 rfl in_X4 (by decide) rfl (by decide) kw_145 dX4_push_45 hk3 ?_
  rw [ex4]
  obtain ⟨hia, hw⟩ := hw
  refine mx_len X M dX4_push_48 hia ?_
  have hw6 := hw
  clear hw
  refine mx_ci M (mx_runSN (n := 2) (As := [.int (fi μ 6 1 o), .int (nI (al μ x4))]) (rest := []) X M (c_X10_within l T B μ (fi μ 6 1 o) (nI (al μ x4)) _ hw6) kw_499 kw_309 kw_65 kw_310 (by decide +kernel) rfl rfl ⟨Nat.le_of_ble_eq_true rfl, Nat.le_of_ble_eq_true rfl⟩ rfl hl.1 (Nat.le_of_ble_eq_true rfl) dX4_push_49 ⟨(show cells + 0 ≤ cT by omega), (show slots + 0 ≤ zT by omega)⟩) (fun r7 μ5 H locs ⟨hw, hKM5⟩ M => ?_)
  replace hw := hw hKM5
  have hKM5_ := hKM.tr hKM5
  have hk8 := hKM5.at hk3
  have hc : (cells + 0) + (c) ≤ cT := by omega
  have hz : (slots + 0) + (z) ≤ zT := by omega
  obtain ⟨hwt, hwf⟩ := hw
  refine lv_if_eq (tgt := 75) X.1 X.2.1 dX4_push_52 (by decide) (fun hq => ?_) (fun hq => ?_)
  · have hw := hwt hq
    exact mx_vret X hr hk M dX4_push_75 (by omega) (by omega) ⟨hw, hKM5_⟩
  · have hw := hwf hq
    refine lv_aload_n X.1 X.2.1 dX4_push_55 rfl (lv_at hl 0 rfl) ?_
    obtain ⟨x9, ex9, hw⟩ := hw
    refine mx_getr (C := RX4) (F := TX4) (N := 2) (ci := 6) X M 0 rfl in_X4 (by decide) rfl (by decide) kw_145 dX4_push_56 hk8 ?_
    rw [ex9]
    refine lv_aload_n X.1 X.2.1 dX4_push_59 rfl (lv_at hl 0 rfl) ?_
    refine mx_geti (C := RX4) (F := TX4) (N := 2) (ci := 6) X M 1 rfl in_X4 (by decide) rfl (by decide) kw_146 dX4_push_60 hk8 ?_
    refine lv_lload_n X.1 X.2.1 dX4_push_63 rfl (lv_at hl 1 rfl) ?_
    obtain ⟨hk10, hw⟩ := hw
    obtain ⟨hi, hw⟩ := hw
    refine my_jst X M dX4_push_64 hk10 hi (fun μ11 H locs eμ11 M => ?_)
    replace hw := hw μ11 eμ11
    have hKM12 : KM μ0 μ11 := by rw [eμ11]; exact hKM5_
    have hk13 : kd μ11 o = 7 := by rw [eμ11]; exact hk8
    have hk14 : kd μ11 x9 = 103 := by rw [eμ11]; exact hk10
    refine lv_aload_n X.1 X.2.1 dX4_push_65 rfl (lv_at hl 0 rfl) ?_
    refine lv_dup X.1 X.2.1 dX4_push_66 rfl ?_
    refine mx_geti (C := RX4) (F := TX4) (N := 2) (ci := 6) X M 1 rfl in_X4 (by decide) rfl (by decide) kw_146 dX4_push_67 hk13 ?_
    refine lv_iconst (v := 1) X.1 X.2.1 dX4_push_70 (by decide) ?_
    refine lv_iadd X.1 X.2.1 dX4_push_71 ?_
    refine my_puti (C := RX4) (F := TX4) (N := 2) (ci := 6) X M 1 rfl in_X4 tyX4 tyX4_ok nmX4 (by decide) rfl (by decide) kw_146 (Or.inl rfl) dX4_push_72 hk13 rfl rfl (fun μ15 H locs eμ15 M => ?_)
    replace hw := hw μ15 eμ15
    have hKM16 : KM μ0 μ15 := by rw [eμ15]; exact hKM12
    have hk17 : kd μ15 o = 7 := by rw [eμ15]; exact hk13
    exact mx_vret X hr hk M dX4_push_75 (by omega) (by omega) ⟨hw, hKM16⟩
set_option maxRecDepth 100000 in
set_option maxHeartbeats 4000000 in
theorem c_X4_push (l : Launch) (T : Tb) (B : Nat) (c z : Nat) (μ : Mem) (o : Nat) (a1 : Int64) (post : Mem → Prop) (hw : wp_X4_push c z μ o a1 post) : Met l yX4_push (.code yX4_push cX4_push 3 none :: G) (rm_X4_push c z) (Pm (Rl T B) T B μ [.ref o, .long a1]) (va_Qv (fun μ9 => post μ9 ∧ KM μ μ9) (Bm (Rl T B)) (Ai B)) c z (Ai B) := by
  refine mx_of RX4 rfl (by decide) (Nat.le_of_ble_eq_true rfl) ?_
  intro p e s m below meth c0 X hr hk hnm M ls hl
  have hl : lv_has ls 3 [(0, .ref o), (1, .long a1)] := hl
  unfold wp_X4_push at hw
  have hKM : KM μ μ := KM.rf μ
  have hc : 0 + c ≤ c := by omega
  have hz : 0 + z ≤ z := by omega
  refine lv_aload_n X.1 X.2.1 dX4_push_0 rfl (lv_at hl 0 rfl) ?_
  obtain ⟨hk1, hw⟩ := hw
  refine mx_geti (C := RX4) (F := TX4) (N := 2) (ci := 6) X M 1 rfl in_X4 (by decide) rfl (by decide) kw_146 dX4_push_1 hk1 ?_
  refine lv_aload_n X.1 X.2.1 dX4_push_4 rfl (lv_at hl 0 rfl) ?_
  obtain ⟨x2, ex2, hw⟩ := hw
  refine mx_getr (C := RX4) (F := TX4) (N := 2) (ci := 6) X M 0 rfl in_X4 (by decide) rfl (by decide) kw_145 dX4_push_5 hk1 ?_
  rw [ex2]
  obtain ⟨hia, hw⟩ := hw
  refine mx_len X M dX4_push_8 hia ?_
  obtain ⟨hwt, hwf⟩ := hw
  refine lv_icmp_lt (tgt := 40) X.1 X.2.1 dX4_push_9 (by decide) (fun hq => ?_) (fun hq => ?_)
  · have hw := hwt hq
    exact b_X4_push_40 X hr hk _ _ _ _ μ a1 _ _ _ (by omega) (by omega) hKM hw M (lv_sub hl [0, 1] rfl)
  · have hw := hwf hq
    refine lv_aload_n X.1 X.2.1 dX4_push_12 rfl (lv_at hl 0 rfl) ?_
    obtain ⟨x18, ex18, hw⟩ := hw
    refine mx_getr (C := RX4) (F := TX4) (N := 2) (ci := 6) X M 0 rfl in_X4 (by decide) rfl (by decide) kw_145 dX4_push_13 hk1 ?_
    rw [ex18]
    obtain ⟨hia, hw⟩ := hw
    refine mx_len X M dX4_push_16 hia ?_
    refine lv_ldc (v := 1048576) X.1 X.2.1 X.2.2.2.1 (X.2.2.2.2.1 _ kw_555) dX4_push_17 ?_
    obtain ⟨hwt, hwf⟩ := hw
    refine lv_icmp_ge (tgt := 40) X.1 X.2.1 dX4_push_19 (by decide) (fun hq => ?_) (fun hq => ?_)
    · have hw := hwt hq
      exact b_X4_push_40 X hr hk _ _ _ _ μ a1 _ _ _ (by omega) (by omega) hKM hw M (lv_sub hl [0, 1] rfl)
    · have hw := hwf hq
      refine lv_aload_n X.1 X.2.1 dX4_push_22 rfl (lv_at hl 0 rfl) ?_
      refine lv_aload_n X.1 X.2.1 dX4_push_23 rfl (lv_at hl 0 rfl) ?_
      obtain ⟨x19, ex19, hw⟩ := hw
      refine mx_getr (C := RX4) (F := TX4) (N := 2) (ci := 6) X M 0 rfl in_X4 (by decide) rfl (by decide) kw_145 dX4_push_24 hk1 ?_
      rw [ex19]
      refine lv_aload_n X.1 X.2.1 dX4_push_27 rfl (lv_at hl 0 rfl) ?_
      obtain ⟨x20, ex20, hw⟩ := hw
      refine mx_getr (C := RX4) (F := TX4) (N := 2) (ci := 6) X M 0 rfl in_X4 (by decide) rfl (by decide) kw_145 dX4_push_28 hk1 ?_
      rw [ex20]
      obtain ⟨hia, hw⟩ := hw
      refine mx_len X M dX4_push_31 hia ?_
      refine lv_iconst (v := 2) X.1 X.2.1 dX4_push_32 (by decide) ?_
      refine lv_imul X.1 X.2.1 dX4_push_33 ?_
      obtain ⟨c22, z23, hc22, hz23, hw⟩ := hw
      have hw24 := hw
      clear hw
      refine mx_cq M (mx_runS (n := 2) (As := [.ref x19, .int ((nI (al μ x20)) * 2)]) (rest := [.ref o]) X M (c_J7_copyOf_c38d5 l T B c22 z23 μ x19 ((nI (al μ x20)) * 2) _ hw24) kw_556 kw_557 kw_76 kw_558 (by decide +kernel) rfl rfl ⟨Nat.le_of_ble_eq_true rfl, Nat.le_of_ble_eq_true rfl⟩ rfl hl.1 (Nat.le_of_ble_eq_true rfl) dX4_push_34 ⟨(show 0 + c22 ≤ c by omega), (show 0 + z23 ≤ z by omega)⟩) (fun r25 μ21 H locs ⟨hw, hKM21⟩ M => ?_)
      replace hw := hw hKM21
      have hKM21_ := hKM.tr hKM21
      have hk26 := hKM21.at hk1
      have hc : (0 + c22) + (c - c22) ≤ c := by omega
      have hz : (0 + z23) + (z - z23) ≤ z := by omega
      refine my_putr (C := RX4) (F := TX4) (N := 2) (ci := 6) X M 0 rfl in_X4 tyX4 tyX4_ok nmX4 (by decide) rfl (by decide) kw_145 (Or.inl rfl) dX4_push_37 hk26 r25 (mq_na _ _) (mq_fa _ _) (fun μ27 H locs eμ27 M => ?_)
      replace hw := hw μ27 eμ27
      have hKM28 : KM μ μ27 := by rw [eμ27]; exact hKM21_
      have hk29 : kd μ27 o = 7 := by rw [eμ27]; exact hk26
      exact b_X4_push_40 X hr hk _ _ _ _ μ27 a1 _ _ _ (by omega) (by omega) hKM28 hw M (lv_sub hl [0, 1] rfl)

abbrev rm_X5_init (c z : Nat) : Room := { frames := 4, cells := c, slots := z, locals := 80 }
def wp_X5_init (c z : Nat) (μ : Mem) (o : Nat) (a1 : Int32) (a2 : Int32) (a3 : Int32) (a4 : Nat) (post : Mem → Prop) : Prop :=
  1 ≤ c ∧ 3 ≤ z ∧ ∀ (q1 : Nat) (μ2 : Mem), kd μ q1 = 0 → μ2 = nob μ 1 q1 →
  wp_Jx4a65c_init_da8c8 μ2 q1 (fun (μ5 : Mem) =>
  KM μ2 μ5 →
  kd μ5 o = 8 ∧
  ∀ μ9 : Mem, μ9 = sfr μ5 7 4 o (some q1) →
  (narrow .boolean (.int a1) = .int a1 ∧ fits .boolean (.int a1) = true) ∧
  ∀ μ13 : Mem, μ13 = sfi μ9 7 0 o a1 →
  ∀ μ16 : Mem, μ16 = sfi μ13 7 1 o a2 →
  ∀ μ19 : Mem, μ19 = sfi μ16 7 2 o a3 →
  ∀ μ22 : Mem, μ22 = sfr μ19 7 3 o (some a4) →
  post μ22)
set_option maxRecDepth 100000 in
set_option maxHeartbeats 4000000 in
theorem c_X5_init (l : Launch) (T : Tb) (B : Nat) (c z : Nat) (μ : Mem) (o : Nat) (a1 : Int32) (a2 : Int32) (a3 : Int32) (a4 : Nat) (post : Mem → Prop) (hw : wp_X5_init c z μ o a1 a2 a3 a4 post) : Met l yX5_init (.code yX5_init cX5_init 5 none :: G) (rm_X5_init c z) (Pm (Rl T B) T B μ [.ref o, .int a1, .int a2, .int a3, .ref a4]) (va_Qv (fun μ9 => post μ9 ∧ KM μ μ9) (Bm (Rl T B)) (Ai B)) c z (Ai B) := by
  refine mx_of RX5 rfl (by decide) (Nat.le_of_ble_eq_true rfl) ?_
  intro p e s m below meth c0 X hr hk hnm M ls hl
  have hl : lv_has ls 5 [(0, .ref o), (1, .int a1), (2, .int a2), (3, .int a3), (4, .ref a4)] := hl
  unfold wp_X5_init at hw
  have hKM : KM μ μ := KM.rf μ
  have hc : 0 + c ≤ c := by omega
  have hz : 0 + z ≤ z := by omega
  refine lv_aload_n X.1 X.2.1 dX5_init_0 rfl (lv_at hl 0 rfl) ?_
  refine my_obj X kw_316 kw_96 kw_97 hl.1 (Nat.le_of_ble_eq_true rfl) (Nat.le_of_ble_eq_true rfl) (Nat.le_of_ble_eq_true rfl) dX5_init_1 ?_
  refine lv_aload_n X.1 X.2.1 dX5_init_4 rfl (lv_at hl 0 rfl) ?_
  obtain ⟨hb1, hb2, hw⟩ := hw
  refine my_new (C := RJx4a65c) (F := TJx4a65c) (N := 3) (ci := 1) X M rfl in_Jx4a65c tyJx4a65c tyJx4a65c_ok df_Jx4a65c (by decide) kw_317 kw_99 kw_68 dX5_init_5 (show 0 + 1 ≤ c by omega) (show 0 + 3 ≤ z by omega) (fun q1 μ2 H hq1 eμ2 M => ?_)
  replace hw := hw q1 μ2 hq1 eμ2
  have hKM3 : KM μ μ2 := by rw [eμ2]; exact hKM.tr (KM_nob hq1)
  have hk4 : kd μ2 q1 = 2 := by rw [eμ2]; exact kd_nob
  have hc : (0 + 1) + (c - 1) ≤ c := by omega
  have hz : (0 + 3) + (z - 3) ≤ z := by omega
  refine lv_dup X.1 X.2.1 dX5_init_8 rfl ?_
  have hw6 := hw
  clear hw
  refine mx_cv M (mx_runI (n := 0) (As := []) (rest := [.ref q1, .ref o]) X M (c_Jx4a65c_init_da8c8 l T B μ2 q1 _ hw6) kw_318 kw_101 rfl kw_68 kw_102 (by decide +kernel) rfl rfl ⟨Nat.le_of_ble_eq_true rfl, Nat.le_of_ble_eq_true rfl⟩ rfl hl.1 (Nat.le_of_ble_eq_true rfl) dX5_init_9 ⟨(show (0 + 1) + 0 ≤ c by omega), (show (0 + 3) + 0 ≤ z by omega)⟩) (fun μ5 H locs ⟨hw, hKM5⟩ M => ?_)
  replace hw := hw hKM5
  have hKM5_ := hKM3.tr hKM5
  have hk7 := hKM5.at hk4
  have hc : ((0 + 1) + 0) + (c - 1) ≤ c := by omega
  have hz : ((0 + 3) + 0) + (z - 3) ≤ z := by omega
  obtain ⟨hk8, hw⟩ := hw
  refine my_putr (C := RX5) (F := TX5) (N := 5) (ci := 7) X M 4 rfl in_X5 tyX5 tyX5_ok nmX5 (by decide) rfl (by decide) kw_329 (Or.inr ⟨hnm, rfl⟩) dX5_init_12 hk8 (some q1) (mq_no _ _) (mq_fo _ _) (fun μ9 H locs eμ9 M => ?_)
  replace hw := hw μ9 eμ9
  have hKM10 : KM μ μ9 := by rw [eμ9]; exact hKM5_
  have hk11 : kd μ9 q1 = 2 := by rw [eμ9]; exact hk7
  have hk12 : kd μ9 o = 8 := by rw [eμ9]; exact hk8
  refine lv_aload_n X.1 X.2.1 dX5_init_15 rfl (lv_at hl 0 rfl) ?_
  refine lv_iload_n X.1 X.2.1 dX5_init_16 rfl (lv_at hl 1 rfl) ?_
  obtain ⟨hnw, hw⟩ := hw
  refine my_puti (C := RX5) (F := TX5) (N := 5) (ci := 7) X M 0 rfl in_X5 tyX5 tyX5_ok nmX5 (by decide) rfl (by decide) kw_319 (Or.inr ⟨hnm, rfl⟩) dX5_init_17 hk12 hnw.1 hnw.2 (fun μ13 H locs eμ13 M => ?_)
  replace hw := hw μ13 eμ13
  have hKM14 : KM μ μ13 := by rw [eμ13]; exact hKM10
  have hk15 : kd μ13 o = 8 := by rw [eμ13]; exact hk12
  refine lv_aload_n X.1 X.2.1 dX5_init_20 rfl (lv_at hl 0 rfl) ?_
  refine lv_iload_n X.1 X.2.1 dX5_init_21 rfl (lv_at hl 2 rfl) ?_
  refine my_puti (C := RX5) (F := TX5) (N := 5) (ci := 7) X M 1 rfl in_X5 tyX5 tyX5_ok nmX5 (by decide) rfl (by decide) kw_321 (Or.inr ⟨hnm, rfl⟩) dX5_init_22 hk15 rfl rfl (fun μ16 H locs eμ16 M => ?_)
  replace hw := hw μ16 eμ16
  have hKM17 : KM μ μ16 := by rw [eμ16]; exact hKM14
  have hk18 : kd μ16 o = 8 := by rw [eμ16]; exact hk15
  refine lv_aload_n X.1 X.2.1 dX5_init_25 rfl (lv_at hl 0 rfl) ?_
  refine lv_iload_n X.1 X.2.1 dX5_init_26 rfl (lv_at hl 3 rfl) ?_
  refine my_puti (C := RX5) (F := TX5) (N := 5) (ci := 7) X M 2 rfl in_X5 tyX5 tyX5_ok nmX5 (by decide) rfl (by decide) kw_324 (Or.inr ⟨hnm, rfl⟩) dX5_init_27 hk18 rfl rfl (fun μ19 H locs eμ19 M => ?_)
  replace hw := hw μ19 eμ19
  have hKM20 : KM μ μ19 := by rw [eμ19]; exact hKM17
  have hk21 : kd μ19 o = 8 := by rw [eμ19]; exact hk18
  refine lv_aload_n X.1 X.2.1 dX5_init_30 rfl (lv_at hl 0 rfl) ?_
  refine lv_aload X.1 X.2.1 dX5_init_31 (lv_at hl 4 rfl) ?_
  refine my_putr (C := RX5) (F := TX5) (N := 5) (ci := 7) X M 3 rfl in_X5 tyX5 tyX5_ok nmX5 (by decide) rfl (by decide) kw_327 (Or.inr ⟨hnm, rfl⟩) dX5_init_33 hk21 (some a4) (mq_na _ _) (mq_fa _ _) (fun μ22 H locs eμ22 M => ?_)
  replace hw := hw μ22 eμ22
  have hKM23 : KM μ μ22 := by rw [eμ22]; exact hKM20
  have hk24 : kd μ22 o = 8 := by rw [eμ22]; exact hk21
  exact mx_vret X hr hk M dX5_init_36 (by omega) (by omega) ⟨hw, hKM23⟩

abbrev rm_X5_allWithin : Room := { frames := 1, cells := 0, slots := 0, locals := 21 }
def wp_X5_allWithin_8 (post : Int32 → Mem → Prop) : Nat → Mem → Int32 → Nat → Int32 → Int32 → Prop
  | 0, _, _, _, _, _ => False
  | n + 1, μ, x1, x2, x3, x4 =>
    (x3 ≤ x4 →
     post 1 μ) ∧ (¬ x3 ≤ x4 →
     kd μ x2 = 102 ∧
     vp_in x4 (al μ x2) ∧
     ∀ v3 : Int32, v3 = (ai μ x2 (Int32.toNatClampNeg x4)) →
     wp_X10_within μ v3 x1 (fun (r6 : Int32) (μ4 : Mem) =>
     KM μ μ4 →
     (r6 = 0 →
      post 0 μ4) ∧ (¬ r6 = 0 →
      ∀ v8 : Int32, v8 = x4 + 1 →
      wp_X5_allWithin_8 post n μ4 x1 x2 x3 v8)))
def wp_X5_allWithin (μ : Mem) (a1 : Nat) (a2 : Int32) (post : Int32 → Mem → Prop) : Prop :=
  isArr (kd μ a1) ∧
  ∀ v1 : Int32, v1 = (nI (al μ a1)) →
  ∃ n9, wp_X5_allWithin_8 post n9 μ a2 a1 v1 0
set_option maxRecDepth 100000 in
set_option maxHeartbeats 4000000 in
theorem b_X5_allWithin_8 {T : Tb} {B : Nat} {p : Program} {l : Launch} {e : Env} {s : State} {m : MethodId} {args : Array Value} {below : List Frame} {meth : Method} {c0 : Code} {post : Int32 → Mem → Prop} {μ0 : Mem} (X : CX T B p m c0 cX5_allWithin 6 s args RX5) (hr : meth.sig.returnType = (some .boolean)) (hk : meth.locks = false) : ∀ (n : Nat) (μ : Mem) (x1 : Int32) (x2 : Nat) (x3 : Int32) (x4 : Int32) (H : Heap) (locs : List Loc) (ls : Array Slot), KM μ0 μ → wp_X5_allWithin_8 post n μ x1 x2 x3 x4 → MG (Rl T B) B s μ H locs → lv_has ls 6 [(1, .int x1), (2, .ref x2), (3, .int x3), (4, .int x4)] → W p l e rm_X5_allWithin s m args below meth c0 H locs 0 0 (MQ below (va_Qi (fun r9 μ9 => post r9 μ9 ∧ KM μ0 μ9) (Bm (Rl T B)) (Ai B)) args s 0 0 (Ai B)) (F0 m 8 ls []) := by
  intro n
  induction n with
  | zero =>
    intro μ x1 x2 x3 x4 H locs ls hKM hw
    exact hw.elim
  | succ n ih =>
    intro μ x1 x2 x3 x4 H locs ls hKM hw M hl
    rw [wp_X5_allWithin_8] at hw
    refine lv_iload X.1 X.2.1 dX5_allWithin_8 (lv_at hl 3 rfl) ?_
    refine lv_iload_n X.1 X.2.1 dX5_allWithin_10 rfl (lv_at hl 2 rfl) ?_
    obtain ⟨hwt, hwf⟩ := hw
    refine lv_icmp_ge (tgt := 37) X.1 X.2.1 dX5_allWithin_11 (by decide) (fun hq => ?_) (fun hq => ?_)
    · have hw := hwt hq
      refine lv_iconst (v := 1) X.1 X.2.1 dX5_allWithin_37 (by decide) ?_
      exact mx_zret X hr hk M dX5_allWithin_38 (by decide) (by decide) (by decide) ⟨hw, hKM⟩
    · have hw := hwf hq
      refine lv_aload_n X.1 X.2.1 dX5_allWithin_14 rfl (lv_at hl 1 rfl) ?_
      refine lv_iload X.1 X.2.1 dX5_allWithin_15 (lv_at hl 3 rfl) ?_
      obtain ⟨hk2, hw⟩ := hw
      obtain ⟨hi, hw⟩ := hw
      refine mx_ald X M dX5_allWithin_17 hk2 hi ?_
      refine lv_topi (fun v3 ev3 => ?_)
      replace hw := hw v3 ev3
      refine lv_istore (lv' := [(5, .int v3), (1, .int x1), (2, .ref x2), (3, .int x3), (4, .int x4)]) X.1 X.2.1 dX5_allWithin_18 hl (by decide) rfl (fun ls hl => ?_)
      refine lv_iload X.1 X.2.1 dX5_allWithin_20 (lv_at hl 0 rfl) ?_
      refine lv_iload_n X.1 X.2.1 dX5_allWithin_22 rfl (lv_at hl 1 rfl) ?_
      have hw5 := hw
      clear hw
      refine mx_ci M (mx_runSN (n := 2) (As := [.int v3, .int x1]) (rest := []) X M (c_X10_within l T B μ v3 x1 _ hw5) kw_308 kw_309 kw_65 kw_310 (by decide +kernel) rfl rfl ⟨Nat.le_of_ble_eq_true rfl, Nat.le_of_ble_eq_true rfl⟩ rfl hl.1 (Nat.le_of_ble_eq_true rfl) dX5_allWithin_23 ⟨by decide, by decide⟩) (fun r6 μ4 H locs ⟨hw, hKM4⟩ M => ?_)
      replace hw := hw hKM4
      have hKM4_ := hKM.tr hKM4
      have hk7 := hKM4.at hk2
      obtain ⟨hwf, hwt⟩ := hw
      refine lv_if_ne (tgt := 31) X.1 X.2.1 dX5_allWithin_26 (by decide) (fun hq => ?_) (fun hq => ?_)
      · have hw := hwt hq
        obtain ⟨v8, ev8⟩ : ∃ y : Int32, y = x4 + 1 := ⟨_, rfl⟩
        replace hw := hw v8 ev8
        refine lv_iinc (v := v8) (lv' := [(4, .int v8), (5, .int v3), (1, .int x1), (2, .ref x2), (3, .int x3)]) X.1 X.2.1 dX5_allWithin_31 hl (k := 4) rfl (by rw [ev8]; rfl) (by decide) rfl (fun ls hl => ?_)
        refine lv_goto (tgt := 8) X.1 X.2.1 dX5_allWithin_34 (by decide) ?_
        exact ih μ4 x1 x2 x3 v8 _ _ _ hKM4_ hw M (lv_sub hl [2, 3, 4, 0] rfl)
      · have hw := hwf hq
        refine lv_iconst (v := 0) X.1 X.2.1 dX5_allWithin_29 (by decide) ?_
        exact mx_zret X hr hk M dX5_allWithin_30 (by decide) (by decide) (by decide) ⟨hw, hKM4_⟩
set_option maxRecDepth 100000 in
set_option maxHeartbeats 4000000 in
theorem c_X5_allWithin (l : Launch) (T : Tb) (B : Nat) (μ : Mem) (a1 : Nat) (a2 : Int32) (post : Int32 → Mem → Prop) (hw : wp_X5_allWithin μ a1 a2 post) : Met l yX5_allWithin (.code yX5_allWithin cX5_allWithin 6 (some .boolean) :: G) rm_X5_allWithin (Pm (Rl T B) T B μ [.ref a1, .int a2]) (va_Qi (fun r9 μ9 => post r9 μ9 ∧ KM μ μ9) (Bm (Rl T B)) (Ai B)) 0 0 (Ai B) := by
  refine mx_of RX5 rfl (by decide) (Nat.le_of_ble_eq_true rfl) ?_
  intro p e s m below meth c0 X hr hk hnm M ls hl
  have hl : lv_has ls 6 [(0, .ref a1), (1, .int a2)] := hl
  unfold wp_X5_allWithin at hw
  have hKM : KM μ μ := KM.rf μ
  refine lv_aload_n X.1 X.2.1 dX5_allWithin_0 rfl (lv_at hl 0 rfl) ?_
  refine lv_astore_n (lv' := [(2, .ref a1), (0, .ref a1), (1, .int a2)]) X.1 X.2.1 dX5_allWithin_1 rfl hl (by decide) rfl (fun ls hl => ?_)
  refine lv_aload_n X.1 X.2.1 dX5_allWithin_2 rfl (lv_at hl 0 rfl) ?_
  obtain ⟨hia, hw⟩ := hw
  refine mx_len X M dX5_allWithin_3 hia ?_
  refine lv_topi (fun v1 ev1 => ?_)
  replace hw := hw v1 ev1
  refine lv_istore_n (lv' := [(3, .int v1), (2, .ref a1), (0, .ref a1), (1, .int a2)]) X.1 X.2.1 dX5_allWithin_4 rfl hl (by decide) rfl (fun ls hl => ?_)
  refine lv_iconst (v := 0) X.1 X.2.1 dX5_allWithin_5 (by decide) ?_
  refine lv_istore (lv' := [(4, .int 0), (3, .int v1), (2, .ref a1), (0, .ref a1), (1, .int a2)]) X.1 X.2.1 dX5_allWithin_6 hl (by decide) rfl (fun ls hl => ?_)
  obtain ⟨n9, hw⟩ := hw
  exact b_X5_allWithin_8 X hr hk n9 μ a2 a1 v1 0 _ _ _ hKM hw M (lv_sub hl [4, 2, 1, 0] rfl)
