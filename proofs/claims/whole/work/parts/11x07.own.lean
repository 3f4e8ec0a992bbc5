abbrev rm_X0_holds : Room := { frames := 0, cells := 0, slots := 0, locals := 0 }
def wp_X0_holds (μ : Mem) (a1 : Int32) (a2 : Int64) (a3 : Int64) (post : Int32 → Mem → Prop) : Prop :=
  (a1 = 0 →
   (0 ≤ (lg_cmp a2 a3) →
    post 0 μ) ∧ (¬ 0 ≤ (lg_cmp a2 a3) →
    post 1 μ)) ∧
  (a1 = 1 →
   (0 < (lg_cmp a2 a3) →
    post 0 μ) ∧ (¬ 0 < (lg_cmp a2 a3) →
    post 1 μ)) ∧
  (a1 = 2 →
   ((lg_cmp a2 a3) ≤ 0 →
    post 0 μ) ∧ (¬ (lg_cmp a2 a3) ≤ 0 →
    post 1 μ)) ∧
  (a1 = 3 →
   ((lg_cmp a2 a3) < 0 →
    post 0 μ) ∧ (¬ (lg_cmp a2 a3) < 0 →
    post 1 μ)) ∧
  (a1 = 4 →
   ((lg_cmp a2 a3) = 0 →
    post 1 μ) ∧ (¬ (lg_cmp a2 a3) = 0 →
    post 0 μ)) ∧
  (¬ a1 = 0 → ¬ a1 = 1 → ¬ a1 = 2 → ¬ a1 = 3 → ¬ a1 = 4 → 
   ((lg_cmp a2 a3) = 0 →
    post 0 μ) ∧ (¬ (lg_cmp a2 a3) = 0 →
    post 1 μ))
set_option maxRecDepth 100000 in
set_option maxHeartbeats 4000000 in
theorem c_X0_holds (l : Launch) (T : Tb) (B : Nat) (μ : Mem) (a1 : Int32) (a2 : Int64) (a3 : Int64) (post : Int32 → Mem → Prop) (hw : wp_X0_holds μ a1 a2 a3 post) : Met l yX0_holds (.code yX0_holds cX0_holds 5 (some .boolean) :: G) rm_X0_holds (Pm (Rl T B) T B μ [.int a1, .long a2, .long a3]) (va_Qi (fun r9 μ9 => post r9 μ9 ∧ KM μ μ9) (Bm (Rl T B)) (Ai B)) 0 0 (Ai B) := by
  refine mx_of RX0 rfl (by decide) (Nat.le_of_ble_eq_true rfl) ?_
  intro p e s m below meth c0 X hr hk hnm M ls hl
  have hl : lv_has ls 5 [(0, .int a1), (1, .long a2), (3, .long a3)] := hl
  unfold wp_X0_holds at hw
  have hKM : KM μ μ := KM.rf μ
  refine lv_iload_n X.1 X.2.1 dX0_holds_0 rfl (lv_at hl 0 rfl) ?_
  obtain ⟨hw_0, hw_1, hw_2, hw_3, hw_4, hw_d⟩ := hw
  by_cases q_0 : a1 = 0
  · have hw := hw_0 q_0
    refine lv_tableIn (off := 35) (tgt := 36) X.1 X.2.1 dX0_holds_1 (by rw [q_0]; decide) (by rw [q_0]; decide) (by rw [q_0]; rfl) (by decide) ?_
    refine lv_lload_n X.1 X.2.1 dX0_holds_36 rfl (lv_at hl 1 rfl) ?_
    refine lv_lload_n X.1 X.2.1 dX0_holds_37 rfl (lv_at hl 2 rfl) ?_
    refine W.lcmp X.1 X.2.1 dX0_holds_38 ?_
    obtain ⟨hwt, hwf⟩ := hw
    refine lv_if_ge (tgt := 46) X.1 X.2.1 dX0_holds_39 (by decide) (fun hq => ?_) (fun hq => ?_)
    · have hw := hwt hq
      refine lv_iconst (v := 0) X.1 X.2.1 dX0_holds_46 (by decide) ?_
      exact mx_zret X hr hk M dX0_holds_47 (by decide) (by decide) (by decide) ⟨hw, hKM⟩
    · have hw := hwf hq
      refine lv_iconst (v := 1) X.1 X.2.1 dX0_holds_42 (by decide) ?_
      refine lv_goto (tgt := 47) X.1 X.2.1 dX0_holds_43 (by decide) ?_
      exact mx_zret X hr hk M dX0_holds_47 (by decide) (by decide) (by decide) ⟨hw, hKM⟩
  by_cases q_1 : a1 = 1
  · have hw := hw_1 q_1
    refine lv_tableIn (off := 47) (tgt := 48) X.1 X.2.1 dX0_holds_1 (by rw [q_1]; decide) (by rw [q_1]; decide) (by rw [q_1]; rfl) (by decide) ?_
    refine lv_lload_n X.1 X.2.1 dX0_holds_48 rfl (lv_at hl 1 rfl) ?_
    refine lv_lload_n X.1 X.2.1 dX0_holds_49 rfl (lv_at hl 2 rfl) ?_
    refine W.lcmp X.1 X.2.1 dX0_holds_50 ?_
    obtain ⟨hwt, hwf⟩ := hw
    refine lv_if_gt (tgt := 58) X.1 X.2.1 dX0_holds_51 (by decide) (fun hq => ?_) (fun hq => ?_)
    · have hw := hwt hq
      refine lv_iconst (v := 0) X.1 X.2.1 dX0_holds_58 (by decide) ?_
      exact mx_zret X hr hk M dX0_holds_59 (by decide) (by decide) (by decide) ⟨hw, hKM⟩
    · have hw := hwf hq
      refine lv_iconst (v := 1) X.1 X.2.1 dX0_holds_54 (by decide) ?_
      refine lv_goto (tgt := 59) X.1 X.2.1 dX0_holds_55 (by decide) ?_
      exact mx_zret X hr hk M dX0_holds_59 (by decide) (by decide) (by decide) ⟨hw, hKM⟩
  by_cases q_2 : a1 = 2
  · have hw := hw_2 q_2
    refine lv_tableIn (off := 59) (tgt := 60) X.1 X.2.1 dX0_holds_1 (by rw [q_2]; decide) (by rw [q_2]; decide) (by rw [q_2]; rfl) (by decide) ?_
    refine lv_lload_n X.1 X.2.1 dX0_holds_60 rfl (lv_at hl 1 rfl) ?_
    refine lv_lload_n X.1 X.2.1 dX0_holds_61 rfl (lv_at hl 2 rfl) ?_
    refine W.lcmp X.1 X.2.1 dX0_holds_62 ?_
    obtain ⟨hwt, hwf⟩ := hw
    refine lv_if_le (tgt := 70) X.1 X.2.1 dX0_holds_63 (by decide) (fun hq => ?_) (fun hq => ?_)
    · have hw := hwt hq
      refine lv_iconst (v := 0) X.1 X.2.1 dX0_holds_70 (by decide) ?_
      exact mx_zret X hr hk M dX0_holds_71 (by decide) (by decide) (by decide) ⟨hw, hKM⟩
    · have hw := hwf hq
      refine lv_iconst (v := 1) X.1 X.2.1 dX0_holds_66 (by decide) ?_
      refine lv_goto (tgt := 71) X.1 X.2.1 dX0_holds_67 (by decide) ?_
      exact mx_zret X hr hk M dX0_holds_71 (by decide) (by decide) (by decide) ⟨hw, hKM⟩
  by_cases q_3 : a1 = 3
  · have hw := hw_3 q_3
    refine lv_tableIn (off := 71) (tgt := 72) X.1 X.2.1 dX0_holds_1 (by rw [q_3]; decide) (by rw [q_3]; decide) (by rw [q_3]; rfl) (by decide) ?_
    refine lv_lload_n X.1 X.2.1 dX0_holds_72 rfl (lv_at hl 1 rfl) ?_
    refine lv_lload_n X.1 X.2.1 dX0_holds_73 rfl (lv_at hl 2 rfl) ?_
    refine W.lcmp X.1 X.2.1 dX0_holds_74 ?_
    obtain ⟨hwt, hwf⟩ := hw
    refine lv_if_lt (tgt := 82) X.1 X.2.1 dX0_holds_75 (by decide) (fun hq => ?_) (fun hq => ?_)
    · have hw := hwt hq
      refine lv_iconst (v := 0) X.1 X.2.1 dX0_holds_82 (by decide) ?_
      exact mx_zret X hr hk M dX0_holds_83 (by decide) (by decide) (by decide) ⟨hw, hKM⟩
    · have hw := hwf hq
      refine lv_iconst (v := 1) X.1 X.2.1 dX0_holds_78 (by decide) ?_
      refine lv_goto (tgt := 83) X.1 X.2.1 dX0_holds_79 (by decide) ?_
      exact mx_zret X hr hk M dX0_holds_83 (by decide) (by decide) (by decide) ⟨hw, hKM⟩
  by_cases q_4 : a1 = 4
  · have hw := hw_4 q_4
    refine lv_tableIn (off := 83) (tgt := 84) X.1 X.2.1 dX0_holds_1 (by rw [q_4]; decide) (by rw [q_4]; decide) (by rw [q_4]; rfl) (by decide) ?_
    refine lv_lload_n X.1 X.2.1 dX0_holds_84 rfl (lv_at hl 1 rfl) ?_
    refine lv_lload_n X.1 X.2.1 dX0_holds_85 rfl (lv_at hl 2 rfl) ?_
    refine W.lcmp X.1 X.2.1 dX0_holds_86 ?_
    obtain ⟨hwf, hwt⟩ := hw
    refine lv_if_ne (tgt := 94) X.1 X.2.1 dX0_holds_87 (by decide) (fun hq => ?_) (fun hq => ?_)
    · have hw := hwt hq
      refine lv_iconst (v := 0) X.1 X.2.1 dX0_holds_94 (by decide) ?_
      exact mx_zret X hr hk M dX0_holds_95 (by decide) (by decide) (by decide) ⟨hw, hKM⟩
    · have hw := hwf hq
      refine lv_iconst (v := 1) X.1 X.2.1 dX0_holds_90 (by decide) ?_
      refine lv_goto (tgt := 95) X.1 X.2.1 dX0_holds_91 (by decide) ?_
      exact mx_zret X hr hk M dX0_holds_95 (by decide) (by decide) (by decide) ⟨hw, hKM⟩
  have hw := hw_d q_0 q_1 q_2 q_3 q_4
  have g_0 := lv_neT q_0 (by decide : (0 : Int32).toInt = 0)
  have g_1 := lv_neT q_1 (by decide : (1 : Int32).toInt = 1)
  have g_2 := lv_neT q_2 (by decide : (2 : Int32).toInt = 2)
  have g_3 := lv_neT q_3 (by decide : (3 : Int32).toInt = 3)
  have g_4 := lv_neT q_4 (by decide : (4 : Int32).toInt = 4)
  refine lv_tableOut (tgt := 96) X.1 X.2.1 dX0_holds_1 (by omega) (by decide) ?_
  refine lv_lload_n X.1 X.2.1 dX0_holds_96 rfl (lv_at hl 1 rfl) ?_
  refine lv_lload_n X.1 X.2.1 dX0_holds_97 rfl (lv_at hl 2 rfl) ?_
  refine W.lcmp X.1 X.2.1 dX0_holds_98 ?_
  obtain ⟨hwt, hwf⟩ := hw
  refine lv_if_eq (tgt := 106) X.1 X.2.1 dX0_holds_99 (by decide) (fun hq => ?_) (fun hq => ?_)
  · have hw := hwt hq
    refine lv_iconst (v := 0) X.1 X.2.1 dX0_holds_106 (by decide) ?_
    exact mx_zret X hr hk M dX0_holds_107 (by decide) (by decide) (by decide) ⟨hw, hKM⟩
  · have hw := hwf hq
    refine lv_iconst (v := 1) X.1 X.2.1 dX0_holds_102 (by decide) ?_
    refine lv_goto (tgt := 107) X.1 X.2.1 dX0_holds_103 (by decide) ?_
    exact mx_zret X hr hk M dX0_holds_107 (by decide) (by decide) (by decide) ⟨hw, hKM⟩

abbrev rm_X0_compare : Room := { frames := 3, cells := 0, slots := 0, locals := 64 }
def wp_X0_compare (μ : Mem) (o : Nat) (a1 : Nat) (a2 : Nat) (post : Int32 → Mem → Prop) : Prop :=
  kd μ o = 3 ∧
  ∃ x2, fr μ 2 0 o = some x2 ∧
  kd μ a2 = 6 ∧
  kd μ x2 = 10 ∧
  wp_X7_read μ x2 a1 (fi μ 5 1 a2) (fun (r6 : Int64) (μ4 : Mem) =>
  KM μ μ4 →
  ∃ x11, fr μ4 2 0 o = some x11 ∧
  kd μ4 x11 = 10 ∧
  wp_X7_read μ4 x11 a1 (fi μ4 5 2 a2) (fun (r14 : Int64) (μ12 : Mem) =>
  KM μ4 μ12 →
  wp_X9_isCell μ12 r6 (fun (r21 : Int32) (μ19 : Mem) =>
  KM μ12 μ19 →
  (r21 = 0 →
   wp_X9_isCell μ19 r14 (fun (r26 : Int32) (μ24 : Mem) =>
   KM μ19 μ24 →
   (r26 = 0 →
    wp_X0_holds μ24 (fi μ24 5 3 a2) r6 r14 (fun (r31 : Int32) (μ29 : Mem) =>
    KM μ24 μ29 →
    (r31 = 0 →
     post 7 μ29) ∧ (¬ r31 = 0 →
     post 0 μ29))) ∧ (¬ r26 = 0 →
    post 6 μ24))) ∧ (¬ r21 = 0 →
   post 6 μ19))))
set_option maxRecDepth 100000 in
set_option maxHeartbeats 4000000 in
theorem c_X0_compare (l : Launch) (T : Tb) (B : Nat) (μ : Mem) (o : Nat) (a1 : Nat) (a2 : Nat) (post : Int32 → Mem → Prop) (hw : wp_X0_compare μ o a1 a2 post) : Met l yX0_compare (.code yX0_compare cX0_compare 7 (some .int) :: G) rm_X0_compare (Pm (Rl T B) T B μ [.ref o, .ref a1, .ref a2]) (va_Qi (fun r9 μ9 => post r9 μ9 ∧ KM μ μ9) (Bm (Rl T B)) (Ai B)) 0 0 (Ai B) := by
  refine mx_of RX0 rfl (by decide) (Nat.le_of_ble_eq_true rfl) ?_
  intro p e s m below meth c0 X hr hk hnm M ls hl
  have hl : lv_has ls 7 [(0, .ref o), (1, .ref a1), (2, .ref a2)] := hl
  unfold wp_X0_compare at hw
  have hKM : KM μ μ := KM.rf μ
  refine lv_aload_n X.1 X.2.1 dX0_compare_0 rfl (lv_at hl 0 rfl) ?_
  obtain ⟨hk1, hw⟩ := hw
  obtain ⟨x2, ex2, hw⟩ := hw
  refine mx_getr (C := RX0) (F := TX0) (N := 7) (ci := 2) X M 0 rfl in_X0 (by decide) rfl (by decide) kw_203 dX0_compare_1 hk1 ?_
  rw [ex2]
  refine lv_aload_n X.1 X.2.1 dX0_compare_4 rfl (lv_at hl 1 rfl) ?_
  refine lv_aload_n X.1 X.2.1 dX0_compare_5 rfl (lv_at hl 2 rfl) ?_
  obtain ⟨hk3, hw⟩ := hw
  refine mx_geti (C := RX3) (F := TX3) (N := 7) (ci := 5) X M 1 rfl in_X3 (by decide) rfl (by decide) kw_408 dX0_compare_6 hk3 ?_
  obtain ⟨hk7, hw⟩ := hw
  have hw5 := hw
  clear hw
  refine mx_cl M (mx_runV (n := 2) (As := [.ref a1, .int (fi μ 5 1 a2)]) (rest := []) X M (c_X7_read l T B μ x2 a1 (fi μ 5 1 a2) _ hw5) (mx_recv (C := RX7) (F := TX7) (N := 8) (ci := 9) X M rfl (by decide) hk7) kw_639 kw_640 kw_641 kw_70 kw_642 (by decide +kernel) rfl rfl ⟨Nat.le_of_ble_eq_true rfl, Nat.le_of_ble_eq_true rfl⟩ rfl hl.1 (Nat.le_of_ble_eq_true rfl) dX0_compare_9 ⟨by decide, by decide⟩) (fun r6 μ4 H locs ⟨hw, hKM4⟩ M => ?_)
  replace hw := hw hKM4
  have hKM4_ := hKM.tr hKM4
  have hk8 := hKM4.at hk1
  have hk9 := hKM4.at hk3
  have hk10 := hKM4.at hk7
  refine lv_lstore_n (lv' := [(3, .long r6), (0, .ref o), (1, .ref a1), (2, .ref a2)]) X.1 X.2.1 dX0_compare_12 rfl hl (by decide) rfl (fun ls hl => ?_)
  refine lv_aload_n X.1 X.2.1 dX0_compare_13 rfl (lv_at hl 1 rfl) ?_
  obtain ⟨x11, ex11, hw⟩ := hw
  refine mx_getr (C := RX0) (F := TX0) (N := 7) (ci := 2) X M 0 rfl in_X0 (by decide) rfl (by decide) kw_203 dX0_compare_14 hk8 ?_
  rw [ex11]
  refine lv_aload_n X.1 X.2.1 dX0_compare_17 rfl (lv_at hl 2 rfl) ?_
  refine lv_aload_n X.1 X.2.1 dX0_compare_18 rfl (lv_at hl 3 rfl) ?_
  refine mx_geti (C := RX3) (F := TX3) (N := 7) (ci := 5) X M 2 rfl in_X3 (by decide) rfl (by decide) kw_411 dX0_compare_19 hk9 ?_
  obtain ⟨hk15, hw⟩ := hw
  have hw13 := hw
  clear hw
  refine mx_cl M (mx_runV (n := 2) (As := [.ref a1, .int (fi μ4 5 2 a2)]) (rest := []) X M (c_X7_read l T B μ4 x11 a1 (fi μ4 5 2 a2) _ hw13) (mx_recv (C := RX7) (F := TX7) (N := 8) (ci := 9) X M rfl (by decide) hk15) kw_639 kw_640 kw_641 kw_70 kw_642 (by decide +kernel) rfl rfl ⟨Nat.le_of_ble_eq_true rfl, Nat.le_of_ble_eq_true rfl⟩ rfl hl.1 (Nat.le_of_ble_eq_true rfl) dX0_compare_22 ⟨by decide, by decide⟩) (fun r14 μ12 H locs ⟨hw, hKM12⟩ M => ?_)
  replace hw := hw hKM12
  have hKM12_ := hKM4_.tr hKM12
  have hk16 := hKM12.at hk8
  have hk17 := hKM12.at hk9
  have hk18 := hKM12.at hk15
  refine lv_lstore (lv' := [(5, .long r14), (3, .long r6), (0, .ref o), (1, .ref a1), (2, .ref a2)]) X.1 X.2.1 dX0_compare_25 hl (by decide) rfl (fun ls hl => ?_)
  refine lv_lload_n X.1 X.2.1 dX0_compare_27 rfl (lv_at hl 1 rfl) ?_
  have hw20 := hw
  clear hw
  refine mx_ci M (mx_runS (n := 1) (As := [.long r6]) (rest := []) X M (c_X9_isCell l T B μ12 r6 _ hw20) kw_713 kw_674 kw_84 kw_675 (by decide +kernel) rfl rfl ⟨Nat.le_of_ble_eq_true rfl, Nat.le_of_ble_eq_true rfl⟩ rfl hl.1 (Nat.le_of_ble_eq_true rfl) dX0_compare_28 ⟨by decide, by decide⟩) (fun r21 μ19 H locs ⟨hw, hKM19⟩ M => ?_)
  replace hw := hw hKM19
  have hKM19_ := hKM12_.tr hKM19
  have hk22 := hKM19.at hk16
  have hk23 := hKM19.at hk17
  obtain ⟨hwf, hwt⟩ := hw
  refine lv_if_ne (tgt := 42) X.1 X.2.1 dX0_compare_31 (by decide) (fun hq => ?_) (fun hq => ?_)
  · have hw := hwt hq
    refine lv_bipush (v := 6) X.1 X.2.1 dX0_compare_42 (by decide) ?_
    exact mx_iret X hr hk M dX0_compare_44 (by decide) (by decide) ⟨hw, hKM19_⟩
  · have hw := hwf hq
    refine lv_lload X.1 X.2.1 dX0_compare_34 (lv_at hl 0 rfl) ?_
    have hw25 := hw
    clear hw
    refine mx_ci M (mx_runS (n := 1) (As := [.long r14]) (rest := []) X M (c_X9_isCell l T B μ19 r14 _ hw25) kw_713 kw_674 kw_84 kw_675 (by decide +kernel) rfl rfl ⟨Nat.le_of_ble_eq_true rfl, Nat.le_of_ble_eq_true rfl⟩ rfl hl.1 (Nat.le_of_ble_eq_true rfl) dX0_compare_36 ⟨by decide, by decide⟩) (fun r26 μ24 H locs ⟨hw, hKM24⟩ M => ?_)
    replace hw := hw hKM24
    have hKM24_ := hKM19_.tr hKM24
    have hk27 := hKM24.at hk22
    have hk28 := hKM24.at hk23
    obtain ⟨hwt, hwf⟩ := hw
    refine lv_if_eq (tgt := 45) X.1 X.2.1 dX0_compare_39 (by decide) (fun hq => ?_) (fun hq => ?_)
    · have hw := hwt hq
      refine lv_aload_n X.1 X.2.1 dX0_compare_45 rfl (lv_at hl 4 rfl) ?_
      refine mx_geti (C := RX3) (F := TX3) (N := 7) (ci := 5) X M 3 rfl in_X3 (by decide) rfl (by decide) kw_414 dX0_compare_46 hk28 ?_
      refine lv_lload_n X.1 X.2.1 dX0_compare_49 rfl (lv_at hl 1 rfl) ?_
      refine lv_lload X.1 X.2.1 dX0_compare_50 (lv_at hl 0 rfl) ?_
      have hw30 := hw
      clear hw
      refine mx_ci M (mx_runS (n := 3) (As := [.int (fi μ24 5 3 a2), .long r6, .long r14]) (rest := []) X M (c_X0_holds l T B μ24 (fi μ24 5 3 a2) r6 r14 _ hw30) kw_721 kw_722 kw_69 kw_723 (by decide +kernel) rfl rfl ⟨Nat.le_of_ble_eq_true rfl, Nat.le_of_ble_eq_true rfl⟩ rfl hl.1 (Nat.le_of_ble_eq_true rfl) dX0_compare_52 ⟨by decide, by decide⟩) (fun r31 μ29 H locs ⟨hw, hKM29⟩ M => ?_)
      replace hw := hw hKM29
      have hKM29_ := hKM24_.tr hKM29
      have hk32 := hKM29.at hk27
      have hk33 := hKM29.at hk28
      obtain ⟨hwt, hwf⟩ := hw
      refine lv_if_eq (tgt := 62) X.1 X.2.1 dX0_compare_55 (by decide) (fun hq => ?_) (fun hq => ?_)
      · have hw := hwt hq
        refine lv_bipush (v := 7) X.1 X.2.1 dX0_compare_62 (by decide) ?_
        exact mx_iret X hr hk M dX0_compare_64 (by decide) (by decide) ⟨hw, hKM29_⟩
      · have hw := hwf hq
        refine lv_iconst (v := 0) X.1 X.2.1 dX0_compare_58 (by decide) ?_
        refine lv_goto (tgt := 64) X.1 X.2.1 dX0_compare_59 (by decide) ?_
        exact mx_iret X hr hk M dX0_compare_64 (by decide) (by decide) ⟨hw, hKM29_⟩
    · have hw := hwf hq
      refine lv_bipush (v := 6) X.1 X.2.1 dX0_compare_42 (by decide) ?_
      exact mx_iret X hr hk M dX0_compare_44 (by decide) (by decide) ⟨hw, hKM24_⟩

abbrev rm_X0_leaveRedo (c z : Nat) : Room := { frames := 8, cells := c, slots := z, locals := 195 }
def wp_X0_leaveRedo (c z : Nat) (μ : Mem) (o : Nat) (a1 : Nat) (a2 : Int32) (post : Int32 → Mem → Prop) : Prop :=
  kd μ o = 3 ∧
  ∃ x2, fr μ 2 0 o = some x2 ∧
  kd μ x2 = 10 ∧
  wp_X7_hasRoom μ x2 3 (fun (r5 : Int32) (μ3 : Mem) =>
  KM μ μ3 →
  (r5 = 0 →
   post 4 μ3) ∧ (¬ r5 = 0 →
   ∃ x9, fr μ3 2 0 o = some x9 ∧
   ∃ x10, fr μ3 2 1 o = some x10 ∧
   kd μ3 x10 = 5 ∧
   wp_X2_used μ3 x10 (fun (r13 : Int32) (μ11 : Mem) =>
   KM μ3 μ11 →
   kd μ11 x9 = 10 ∧
   ∃ c18 z19, c18 ≤ c ∧ z19 ≤ z ∧
   wp_X7_pushRedo c18 z19 μ11 x9 a1 a2 r13 (fun (μ17 : Mem) =>
   KM μ11 μ17 →
   post 0 μ17))))
set_option maxRecDepth 100000 in
set_option maxHeartbeats 4000000 in
theorem c_X0_leaveRedo (l : Launch) (T : Tb) (B : Nat) (c z : Nat) (μ : Mem) (o : Nat) (a1 : Nat) (a2 : Int32) (post : Int32 → Mem → Prop) (hw : wp_X0_leaveRedo c z μ o a1 a2 post) : Met l yX0_leaveRedo (.code yX0_leaveRedo cX0_leaveRedo 3 (some .int) :: G) (rm_X0_leaveRedo c z) (Pm (Rl T B) T B μ [.ref o, .ref a1, .int a2]) (va_Qi (fun r9 μ9 => post r9 μ9 ∧ KM μ μ9) (Bm (Rl T B)) (Ai B)) c z (Ai B) := by
  refine mx_of RX0 rfl (by decide) (Nat.le_of_ble_eq_true rfl) ?_
  intro p e s m below meth c0 X hr hk hnm M ls hl
  have hl : lv_has ls 3 [(0, .ref o), (1, .ref a1), (2, .int a2)] := hl
  unfold wp_X0_leaveRedo at hw
  have hKM : KM μ μ := KM.rf μ
  have hc : 0 + c ≤ c := by omega
  have hz : 0 + z ≤ z := by omega
  refine lv_aload_n X.1 X.2.1 dX0_leaveRedo_0 rfl (lv_at hl 0 rfl) ?_
  obtain ⟨hk1, hw⟩ := hw
  obtain ⟨x2, ex2, hw⟩ := hw
  refine mx_getr (C := RX0) (F := TX0) (N := 7) (ci := 2) X M 0 rfl in_X0 (by decide) rfl (by decide) kw_203 dX0_leaveRedo_1 hk1 ?_
  rw [ex2]
  refine lv_iconst (v := 3) X.1 X.2.1 dX0_leaveRedo_4 (by decide) ?_
  obtain ⟨hk6, hw⟩ := hw
  have hw4 := hw
  clear hw
  refine mx_ci M (mx_runV (n := 1) (As := [.int 3]) (rest := []) X M (c_X7_hasRoom l T B μ x2 3 _ hw4) (mx_recv (C := RX7) (F := TX7) (N := 8) (ci := 9) X M rfl (by decide) hk6) kw_732 kw_733 kw_734 kw_70 kw_735 (by decide +kernel) rfl rfl ⟨Nat.le_of_ble_eq_true rfl, Nat.le_of_ble_eq_true rfl⟩ rfl hl.1 (Nat.le_of_ble_eq_true rfl) dX0_leaveRedo_5 ⟨(show 0 + 0 ≤ c by omega), (show 0 + 0 ≤ z by omega)⟩) (fun r5 μ3 H locs ⟨hw, hKM3⟩ M => ?_)
  replace hw := hw hKM3
  have hKM3_ := hKM.tr hKM3
  have hk7 := hKM3.at hk1
  have hk8 := hKM3.at hk6
  have hc : (0 + 0) + (c) ≤ c := by omega
  have hz : (0 + 0) + (z) ≤ z := by omega
  obtain ⟨hwf, hwt⟩ := hw
  refine lv_if_ne (tgt := 13) X.1 X.2.1 dX0_leaveRedo_8 (by decide) (fun hq => ?_) (fun hq => ?_)
  · have hw := hwt hq
    refine lv_aload_n X.1 X.2.1 dX0_leaveRedo_13 rfl (lv_at hl 0 rfl) ?_
    obtain ⟨x9, ex9, hw⟩ := hw
    refine mx_getr (C := RX0) (F := TX0) (N := 7) (ci := 2) X M 0 rfl in_X0 (by decide) rfl (by decide) kw_203 dX0_leaveRedo_14 hk7 ?_
    rw [ex9]
    refine lv_aload_n X.1 X.2.1 dX0_leaveRedo_17 rfl (lv_at hl 1 rfl) ?_
    refine lv_iload_n X.1 X.2.1 dX0_leaveRedo_18 rfl (lv_at hl 2 rfl) ?_
    refine lv_aload_n X.1 X.2.1 dX0_leaveRedo_19 rfl (lv_at hl 0 rfl) ?_
    obtain ⟨x10, ex10, hw⟩ := hw
    refine mx_getr (C := RX0) (F := TX0) (N := 7) (ci := 2) X M 1 rfl in_X0 (by decide) rfl (by decide) kw_204 dX0_leaveRedo_20 hk7 ?_
    rw [ex10]
    obtain ⟨hk14, hw⟩ := hw
    have hw12 := hw
    clear hw
    refine mx_ci M (mx_runV (n := 0) (As := []) (rest := [.int a2, .ref a1, .ref x9]) X M (c_X2_used l T B μ3 x10 _ hw12) (mx_recv (C := RX2) (F := TX2) (N := 4) (ci := 4) X M rfl (by decide) hk14) kw_736 kw_737 kw_738 kw_72 kw_739 (by decide +kernel) rfl rfl ⟨Nat.le_of_ble_eq_true rfl, Nat.le_of_ble_eq_true rfl⟩ rfl hl.1 (Nat.le_of_ble_eq_true rfl) dX0_leaveRedo_23 ⟨(show (0 + 0) + 0 ≤ c by omega), (show (0 + 0) + 0 ≤ z by omega)⟩) (fun r13 μ11 H locs ⟨hw, hKM11⟩ M => ?_)
    replace hw := hw hKM11
    have hKM11_ := hKM3_.tr hKM11
    have hk15 := hKM11.at hk7
    have hk16 := hKM11.at hk14
    have hc : ((0 + 0) + 0) + (c) ≤ c := by omega
    have hz : ((0 + 0) + 0) + (z) ≤ z := by omega
    obtain ⟨hk21, hw⟩ := hw
    obtain ⟨c18, z19, hc18, hz19, hw⟩ := hw
    have hw20 := hw
    clear hw
    refine mx_cv M (mx_runV (n := 3) (As := [.ref a1, .int a2, .int r13]) (rest := []) X M (c_X7_pushRedo l T B c18 z19 μ11 x9 a1 a2 r13 _ hw20) (mx_recv (C := RX7) (F := TX7) (N := 8) (ci := 9) X M rfl (by decide) hk21) kw_740 kw_741 kw_742 kw_70 kw_743 (by decide +kernel) rfl rfl ⟨Nat.le_of_ble_eq_true rfl, Nat.le_of_ble_eq_true rfl⟩ rfl hl.1 (Nat.le_of_ble_eq_true rfl) dX0_leaveRedo_26 ⟨(show ((0 + 0) + 0) + c18 ≤ c by omega), (show ((0 + 0) + 0) + z19 ≤ z by omega)⟩) (fun μ17 H locs ⟨hw, hKM17⟩ M => ?_)
    replace hw := hw hKM17
    have hKM17_ := hKM11_.tr hKM17
    have hk22 := hKM17.at hk15
    have hk23 := hKM17.at hk21
    have hc : (((0 + 0) + 0) + c18) + (c - c18) ≤ c := by omega
    have hz : (((0 + 0) + 0) + z19) + (z - z19) ≤ z := by omega
    refine lv_iconst (v := 0) X.1 X.2.1 dX0_leaveRedo_29 (by decide) ?_
    exact mx_iret X hr hk M dX0_leaveRedo_30 (by omega) (by omega) ⟨hw, hKM17_⟩
  · have hw := hwf hq
    refine lv_iconst (v := 4) X.1 X.2.1 dX0_leaveRedo_11 (by decide) ?_
    exact mx_iret X hr hk M dX0_leaveRedo_12 (by omega) (by omega) ⟨hw, hKM3_⟩

abbrev rm_X0_call (c z : Nat) : Room := { frames := 8, cells := c, slots := z, locals := 194 }
def wp_X0_call_59 (o : Nat) (post : Int32 → Mem → Prop) : Nat → Nat → Nat → Mem → Nat → Nat → Nat → Nat → Int32 → Prop
  | 0, _, _, _, _, _, _, _, _ => False
  | n + 1, c, z, μ, x1, x2, x3, x4, x5 =>
    kd μ x3 = 8 ∧
    ((fi μ 7 2 x3) ≤ x5 →
     kd μ o = 3 ∧
     ∀ μ54 : Mem, μ54 = sfr μ 2 5 o (some x4) →
     wp_X0_go μ54 o 0 (fun (r60 : Int32) (μ58 : Mem) =>
     KM μ54 μ58 →
     post r60 μ58)) ∧ (¬ (fi μ 7 2 x3) ≤ x5 →
     kd μ x2 = 6 ∧
     ∃ x64, fr μ 5 5 x2 = some x64 ∧
     isArr (kd μ x64) ∧
     ((nI (al μ x64)) ≤ x5 →
      kd μ o = 3 ∧
      ∀ μ66 : Mem, μ66 = sfr μ 2 5 o (some x4) →
      wp_X0_go μ66 o 0 (fun (r73 : Int32) (μ71 : Mem) =>
      KM μ66 μ71 →
      post r73 μ71)) ∧ (¬ (nI (al μ x64)) ≤ x5 →
      kd μ o = 3 ∧
      ∃ x78, fr μ 2 0 o = some x78 ∧
      ∃ x79, fr μ 2 0 o = some x79 ∧
      ∃ x80, fr μ 5 5 x2 = some x80 ∧
      kd μ x80 = 102 ∧
      vp_in x5 (al μ x80) ∧
      kd μ x79 = 10 ∧
      wp_X7_read μ x79 x1 (ai μ x80 (Int32.toNatClampNeg x5)) (fun (r84 : Int64) (μ82 : Mem) =>
      KM μ μ82 →
      kd μ82 x78 = 10 ∧
      ∃ c91 z92, c91 ≤ c ∧ z92 ≤ z ∧
      wp_X7_write c91 z92 μ82 x78 x4 x5 r84 (fun (μ90 : Mem) =>
      KM μ82 μ90 →
      ∀ v99 : Int32, v99 = x5 + 1 →
      wp_X0_call_59 o post n (c - c91) (z - z92) μ90 x1 x2 x3 x4 v99))))
def wp_X0_call (c z : Nat) (μ : Mem) (o : Nat) (a1 : Nat) (a2 : Nat) (post : Int32 → Mem → Prop) : Prop :=
  kd μ a2 = 6 ∧
  ∀ r2, r2 = fr μ 5 6 a2 →
  (r2 = none →
   post 4 μ) ∧ (∀ x3, r2 = some x3 →
   kd μ o = 3 ∧
   ∃ x5, fr μ 2 0 o = some x5 ∧
   kd μ x3 = 8 ∧
   wp_X5_frameSize μ x3 (fun (r8 : Int32) (μ6 : Mem) =>
   KM μ μ6 →
   kd μ6 x5 = 10 ∧
   wp_X7_hasRoom μ6 x5 r8 (fun (r15 : Int32) (μ13 : Mem) =>
   KM μ6 μ13 →
   (r15 = 0 →
    post 4 μ13) ∧ (¬ r15 = 0 →
    ∃ x21, fr μ13 2 0 o = some x21 ∧
    kd μ13 x21 = 10 ∧
    ∃ c23 z24, c23 ≤ c ∧ z24 ≤ z ∧
    wp_X7_pushFrame c23 z24 μ13 x21 x3 (fun (r26 : Option Nat) (μ22 : Mem) =>
    KM μ13 μ22 →
    ∃ x32, r26 = some x32 ∧
    kd μ22 x32 = 4 ∧
    ∀ μ34 : Mem, μ34 = sfr μ22 3 3 x32 (some a1) →
    ∀ μ40 : Mem, μ40 = sfr μ34 3 4 x32 (some a2) →
    ∀ μ46 : Mem, μ46 = sfi μ40 3 5 x32 (fi μ40 2 6 o) →
    ∃ n100, wp_X0_call_59 o post n100 (c - c23) (z - z24) μ46 a1 a2 x3 x32 0)))))
set_option maxRecDepth 100000 in
set_option maxHeartbeats 4000000 in
theorem b_X0_call_59 {T : Tb} {B : Nat} {p : Program} {l : Launch} {e : Env} {s : State} {m : MethodId} {args : Array Value} {below : List Frame} {meth : Method} {c0 : Code} {post : Int32 → Mem → Prop} {μ0 : Mem} {o : Nat} {cT zT : Nat} (X : CX T B p m c0 cX0_call 6 s args RX0) (hr : meth.sig.returnType = (some .int)) (hk : meth.locks = false) : ∀ (n : Nat) (c z cells slots : Nat) (μ : Mem) (x1 : Nat) (x2 : Nat) (x3 : Nat) (x4 : Nat) (x5 : Int32) (H : Heap) (locs : List Loc) (ls : Array Slot), cells + c ≤ cT → slots + z ≤ zT → KM μ0 μ → wp_X0_call_59 o post n c z μ x1 x2 x3 x4 x5 → MG (Rl T B) B s μ H locs → lv_has ls 6 [(0, .ref o), (1, .ref x1), (2, .ref x2), (3, .ref x3), (4, .ref x4), (5, .int x5)] → W p l e (rm_X0_call cT zT) s m args below meth c0 H locs cells slots (MQ below (va_Qi (fun r9 μ9 => post r9 μ9 ∧ KM μ0 μ9) (Bm (Rl T B)) (Ai B)) args s cT zT (Ai B)) (F0 m 59 ls []) := by
  intro n
  induction n with
  | zero =>
    intro c z cells slots μ x1 x2 x3 x4 x5 H locs ls hc hz hKM hw
    exact hw.elim
  | succ n ih =>
    intro c z cells slots μ x1 x2 x3 x4 x5 H locs ls hc hz hKM hw M hl
    rw [wp_X0_call_59] at hw
    refine lv_iload X.1 X.2.1 dX0_call_59 (lv_at hl 5 rfl) ?_
    refine lv_aload_n X.1 X.2.1 dX0_call_61 rfl (lv_at hl 3 rfl) ?_
    obtain ⟨hk52, hw⟩ := hw
    refine mx_geti (C := RX5) (F := TX5) (N := 5) (ci := 7) X M 2 rfl in_X5 (by decide) rfl (by decide) kw_326 dX0_call_62 hk52 ?_
    obtain ⟨hwt, hwf⟩ := hw
    refine lv_icmp_ge (tgt := 110) X.1 X.2.1 dX0_call_65 (by decide) (fun hq => ?_) (fun hq => ?_)
    · have hw := hwt hq
      refine lv_aload_n X.1 X.2.1 dX0_call_110 rfl (lv_at hl 0 rfl) ?_
      refine lv_aload X.1 X.2.1 dX0_call_111 (lv_at hl 4 rfl) ?_
      obtain ⟨hk53, hw⟩ := hw
      refine my_putr (C := RX0) (F := TX0) (N := 7) (ci := 2) X M 5 rfl in_X0 tyX0 tyX0_ok nmX0 (by decide) rfl (by decide) kw_209 (Or.inl rfl) dX0_call_113 hk53 (some x4) (mq_no _ _) (mq_fo _ _) (fun μ54 H locs eμ54 M => ?_)
      replace hw := hw μ54 eμ54
      have hKM55 : KM μ0 μ54 := by rw [eμ54]; exact hKM
      have hk56 : kd μ54 x3 = 8 := by rw [eμ54]; exact hk52
      have hk57 : kd μ54 o = 3 := by rw [eμ54]; exact hk53
      refine lv_aload_n X.1 X.2.1 dX0_call_116 rfl (lv_at hl 0 rfl) ?_
      refine lv_iconst (v := 0) X.1 X.2.1 dX0_call_117 (by decide) ?_
      have hw59 := hw
      clear hw
      refine mx_ci M (mx_runV (n := 1) (As := [.int 0]) (rest := []) X M (c_X0_go l T B μ54 o 0 _ hw59) (mx_recv (C := RX0) (F := TX0) (N := 7) (ci := 2) X M rfl (by decide) hk57) kw_724 kw_726 kw_18 kw_69 kw_727 (by decide +kernel) rfl rfl ⟨Nat.le_of_ble_eq_true rfl, Nat.le_of_ble_eq_true rfl⟩ rfl hl.1 (Nat.le_of_ble_eq_true rfl) dX0_call_118 ⟨(show cells + 0 ≤ cT by omega), (show slots + 0 ≤ zT by omega)⟩) (fun r60 μ58 H locs ⟨hw, hKM58⟩ M => ?_)
      replace hw := hw hKM58
      have hKM58_ := hKM55.tr hKM58
      have hk61 := hKM58.at hk56
      have hk62 := hKM58.at hk57
      have hc : (cells + 0) + (c) ≤ cT := by omega
      have hz : (slots + 0) + (z) ≤ zT := by omega
      exact mx_iret X hr hk M dX0_call_121 (by omega) (by omega) ⟨hw, hKM58_⟩
    · have hw := hwf hq
      refine lv_iload X.1 X.2.1 dX0_call_68 (lv_at hl 5 rfl) ?_
      refine lv_aload_n X.1 X.2.1 dX0_call_70 rfl (lv_at hl 2 rfl) ?_
      obtain ⟨hk63, hw⟩ := hw
      obtain ⟨x64, ex64, hw⟩ := hw
      refine mx_getr (C := RX3) (F := TX3) (N := 7) (ci := 5) X M 5 rfl in_X3 (by decide) rfl (by decide) kw_420 dX0_call_71 hk63 ?_
      rw [ex64]
      obtain ⟨hia, hw⟩ := hw
      refine mx_len X M dX0_call_74 hia ?_
      obtain ⟨hwt, hwf⟩ := hw
      refine lv_icmp_ge (tgt := 110) X.1 X.2.1 dX0_call_75 (by decide) (fun hq => ?_) (fun hq => ?_)
      · have hw := hwt hq
        refine lv_aload_n X.1 X.2.1 dX0_call_110 rfl (lv_at hl 0 rfl) ?_
        refine lv_aload X.1 X.2.1 dX0_call_111 (lv_at hl 4 rfl) ?_
        obtain ⟨hk65, hw⟩ := hw
        refine my_putr (C := RX0) (F := TX0) (N := 7) (ci := 2) X M 5 rfl in_X0 tyX0 tyX0_ok nmX0 (by decide) rfl (by decide) kw_209 (Or.inl rfl) dX0_call_113 hk65 (some x4) (mq_no _ _) (mq_fo _ _) (fun μ66 H locs eμ66 M => ?_)
        replace hw := hw μ66 eμ66
        have hKM67 : KM μ0 μ66 := by rw [eμ66]; exact hKM
        have hk68 : kd μ66 x3 = 8 := by rw [eμ66]; exact hk52
        have hk69 : kd μ66 x2 = 6 := by rw [eμ66]; exact hk63
        have hk70 : kd μ66 o = 3 := by rw [eμ66]; exact hk65
        refine lv_aload_n X.1 X.2.1 dX0_call_116 rfl (lv_at hl 0 rfl) ?_
        refine lv_iconst (v := 0) X.1 X.2.1 dX0_call_117 (by decide) ?_
        have hw72 := hw
        clear hw
        refine mx_ci M (mx_runV (n := 1) (As := [.int 0]) (rest := []) X M (c_X0_go l T B μ66 o 0 _ hw72) (mx_recv (C := RX0) (F := TX0) (N := 7) (ci := 2) X M rfl (by decide) hk70) kw_724 kw_726 kw_18 kw_69 kw_727 (by decide +kernel) rfl rfl ⟨Nat.le_of_ble_eq_true rfl, Nat.le_of_ble_eq_true rfl⟩ rfl hl.1 (Nat.le_of_ble_eq_true rfl) dX0_call_118 ⟨(show cells + 0 ≤ cT by omega), (show slots + 0 ≤ zT by omega)⟩) (fun r73 μ71 H locs ⟨hw, hKM71⟩ M => ?_)
        replace hw := hw hKM71
        have hKM71_ := hKM67.tr hKM71
        have hk74 := hKM71.at hk68
        have hk75 := hKM71.at hk69
        have hk76 := hKM71.at hk70
        have hc : (cells + 0) + (c) ≤ cT := by omega
        have hz : (slots + 0) + (z) ≤ zT := by omega
        exact mx_iret X hr hk M dX0_call_121 (by omega) (by omega) ⟨hw, hKM71_⟩
      · have hw := hwf hq
        refine lv_aload_n X.1 X.2.1 dX0_call_78 rfl (lv_at hl 0 rfl) ?_
        obtain ⟨hk77, hw⟩ := hw
        obtain ⟨x78, ex78, hw⟩ := hw
        refine mx_getr (C := RX0) (F := TX0) (N := 7) (ci := 2) X M 0 rfl in_X0 (by decide) rfl (by decide) kw_203 dX0_call_79 hk77 ?_
        rw [ex78]
        refine lv_aload X.1 X.2.1 dX0_call_82 (lv_at hl 4 rfl) ?_
        refine lv_iload X.1 X.2.1 dX0_call_84 (lv_at hl 5 rfl) ?_
        refine lv_aload_n X.1 X.2.1 dX0_call_86 rfl (lv_at hl 0 rfl) ?_
        obtain ⟨x79, ex79, hw⟩ := hw
        refine mx_getr (C := RX0) (F := TX0) (N := 7) (ci := 2) X M 0 rfl in_X0 (by decide) rfl (by decide) kw_203 dX0_call_87 hk77 ?_
        rw [ex79]
        refine lv_aload_n X.1 X.2.1 dX0_call_90 rfl (lv_at hl 1 rfl) ?_
        refine lv_aload_n X.1 X.2.1 dX0_call_91 rfl (lv_at hl 2 rfl) ?_
        obtain ⟨x80, ex80, hw⟩ := hw
        refine mx_getr (C := RX3) (F := TX3) (N := 7) (ci := 5) X M 5 rfl in_X3 (by decide) rfl (by decide) kw_420 dX0_call_92 hk63 ?_
        rw [ex80]
        refine lv_iload X.1 X.2.1 dX0_call_95 (lv_at hl 5 rfl) ?_
        obtain ⟨hk81, hw⟩ := hw
        obtain ⟨hi, hw⟩ := hw
        refine mx_ald X M dX0_call_97 hk81 hi ?_
        obtain ⟨hk85, hw⟩ := hw
        have hw83 := hw
        clear hw
        refine mx_cl M (mx_runV (n := 2) (As := [.ref x1, .int (ai μ x80 (Int32.toNatClampNeg x5))]) (rest := [.int x5, .ref x4, .ref x78]) X M (c_X7_read l T B μ x79 x1 (ai μ x80 (Int32.toNatClampNeg x5)) _ hw83) (mx_recv (C := RX7) (F := TX7) (N := 8) (ci := 9) X M rfl (by decide) hk85) kw_639 kw_640 kw_641 kw_70 kw_642 (by decide +kernel) rfl rfl ⟨Nat.le_of_ble_eq_true rfl, Nat.le_of_ble_eq_true rfl⟩ rfl hl.1 (Nat.le_of_ble_eq_true rfl) dX0_call_98 ⟨(show cells + 0 ≤ cT by omega), (show slots + 0 ≤ zT by omega)⟩) (fun r84 μ82 H locs ⟨hw, hKM82⟩ M => ?_)
        replace hw := hw hKM82
        have hKM82_ := hKM.tr hKM82
        have hk86 := hKM82.at hk52
        have hk87 := hKM82.at hk63
        have hk88 := hKM82.at hk77
        have hk89 := hKM82.at hk85
        have hc : (cells + 0) + (c) ≤ cT := by omega
        have hz : (slots + 0) + (z) ≤ zT := by omega
        obtain ⟨hk94, hw⟩ := hw
        obtain ⟨c91, z92, hc91, hz92, hw⟩ := hw
        have hw93 := hw
        clear hw
        refine mx_cv M (mx_runV (n := 3) (As := [.ref x4, .int x5, .long r84]) (rest := []) X M (c_X7_write l T B c91 z92 μ82 x78 x4 x5 r84 _ hw93) (mx_recv (C := RX7) (F := TX7) (N := 8) (ci := 9) X M rfl (by decide) hk94) kw_573 kw_574 kw_575 kw_70 kw_576 (by decide +kernel) rfl rfl ⟨Nat.le_of_ble_eq_true rfl, Nat.le_of_ble_eq_true rfl⟩ rfl hl.1 (Nat.le_of_ble_eq_true rfl) dX0_call_101 ⟨(show (cells + 0) + c91 ≤ cT by omega), (show (slots + 0) + z92 ≤ zT by omega)⟩) (fun μ90 H locs ⟨hw, hKM90⟩ M => ?_)
        replace hw := hw hKM90
        have hKM90_ := hKM82_.tr hKM90
        have hk95 := hKM90.at hk86
        have hk96 := hKM90.at hk87
        have hk97 := hKM90.at hk88
        have hk98 := hKM90.at hk94
        have hc : ((cells + 0) + c91) + (c - c91) ≤ cT := by omega
        have hz : ((slots + 0) + z92) + (z - z92) ≤ zT := by omega
        obtain ⟨v99, ev99⟩ : ∃ y : Int32, y = x5 + 1 := ⟨_, rfl⟩
        replace hw := hw v99 ev99
        refine lv_iinc (v := v99) (lv' := [(5, .int v99), (0, .ref o), (1, .ref x1), (2, .ref x2), (3, .ref x3), (4, .ref x4)]) X.1 X.2.1 dX0_call_104 hl (k := 5) rfl (by rw [ev99]; rfl) (by decide) rfl (fun ls hl => ?_)
        refine lv_goto (tgt := 59) X.1 X.2.1 dX0_call_107 (by decide) ?_
        exact ih _ _ _ _ μ90 x1 x2 x3 x4 v99 _ _ _ (by omega) (by omega) hKM90_ hw M (lv_sub hl [1, 2, 3, 4, 5, 0] rfl)
set_option maxRecDepth 100000 in
set_option maxHeartbeats 4000000 in
theorem c_X0_call (l : Launch) (T : Tb) (B : Nat) (c z : Nat) (μ : Mem) (o : Nat) (a1 : Nat) (a2 : Nat) (post : Int32 → Mem → Prop) (hw : wp_X0_call c z μ o a1 a2 post) : Met l yX0_call (.code yX0_call cX0_call 6 (some .int) :: G) (rm_X0_call c z) (Pm (Rl T B) T B μ [.ref o, .ref a1, .ref a2]) (va_Qi (fun r9 μ9 => post r9 μ9 ∧ KM μ μ9) (Bm (Rl T B)) (Ai B)) c z (Ai B) := by
  refine mx_of RX0 rfl (by decide) (Nat.le_of_ble_eq_true rfl) ?_
  intro p e s m below meth c0 X hr hk hnm M ls hl
  have hl : lv_has ls 6 [(0, .ref o), (1, .ref a1), (2, .ref a2)] := hl
  unfold wp_X0_call at hw
  have hKM : KM μ μ := KM.rf μ
  have hc : 0 + c ≤ c := by omega
  have hz : 0 + z ≤ z := by omega
  refine lv_aload_n X.1 X.2.1 dX0_call_0 rfl (lv_at hl 2 rfl) ?_
  obtain ⟨hk1, hw⟩ := hw
  refine mx_getr (C := RX3) (F := TX3) (N := 7) (ci := 5) X M 6 rfl in_X3 (by decide) rfl (by decide) kw_423 dX0_call_1 hk1 ?_
  obtain ⟨r2, er2⟩ : ∃ y, y = fr μ 5 6 a2 := ⟨_, rfl⟩
  replace hw := hw r2 er2
  rw [← er2]
  refine mq_astore_n (lv' := [(3, va_rf r2), (0, .ref o), (1, .ref a1), (2, .ref a2)]) X.1 X.2.1 dX0_call_4 rfl hl (by decide) rfl (fun ls hl => ?_)
  refine mq_aload_n X.1 X.2.1 dX0_call_5 rfl (lv_at hl 0 rfl) ?_
  obtain ⟨hwn, hws⟩ := hw
  rcases r2 with _ | x3
  · have hw := hwn rfl
    have hl : lv_has ls 6 [(3, .null), (0, .ref o), (1, .ref a1), (2, .ref a2)] := hl
    refine lv_ifnullN (tgt := 23) X.1 X.2.1 dX0_call_6 (by decide) ?_
    refine lv_iconst (v := 4) X.1 X.2.1 dX0_call_23 (by decide) ?_
    exact mx_iret X hr hk M dX0_call_24 (by omega) (by omega) ⟨hw, hKM⟩
  · have hw := hws x3 rfl
    have hl : lv_has ls 6 [(3, .ref x3), (0, .ref o), (1, .ref a1), (2, .ref a2)] := hl
    refine lv_ifnull X.1 X.2.1 dX0_call_6 ?_
    refine lv_aload_n X.1 X.2.1 dX0_call_9 rfl (lv_at hl 1 rfl) ?_
    obtain ⟨hk4, hw⟩ := hw
    obtain ⟨x5, ex5, hw⟩ := hw
    refine mx_getr (C := RX0) (F := TX0) (N := 7) (ci := 2) X M 0 rfl in_X0 (by decide) rfl (by decide) kw_203 dX0_call_10 hk4 ?_
    rw [ex5]
    refine lv_aload_n X.1 X.2.1 dX0_call_13 rfl (lv_at hl 0 rfl) ?_
    obtain ⟨hk9, hw⟩ := hw
    have hw7 := hw
    clear hw
    refine mx_ci M (mx_runV (n := 0) (As := []) (rest := [.ref x5]) X M (c_X5_frameSize l T B μ x3 _ hw7) (mx_recv (C := RX5) (F := TX5) (N := 5) (ci := 7) X M rfl (by decide) hk9) kw_780 kw_484 kw_485 kw_78 kw_486 (by decide +kernel) rfl rfl ⟨Nat.le_of_ble_eq_true rfl, Nat.le_of_ble_eq_true rfl⟩ rfl hl.1 (Nat.le_of_ble_eq_true rfl) dX0_call_14 ⟨(show 0 + 0 ≤ c by omega), (show 0 + 0 ≤ z by omega)⟩) (fun r8 μ6 H locs ⟨hw, hKM6⟩ M => ?_)
    replace hw := hw hKM6
    have hKM6_ := hKM.tr hKM6
    have hk10 := hKM6.at hk1
    have hk11 := hKM6.at hk4
    have hk12 := hKM6.at hk9
    have hc : (0 + 0) + (c) ≤ c := by omega
    have hz : (0 + 0) + (z) ≤ z := by omega
    obtain ⟨hk16, hw⟩ := hw
    have hw14 := hw
    clear hw
    refine mx_ci M (mx_runV (n := 1) (As := [.int r8]) (rest := []) X M (c_X7_hasRoom l T B μ6 x5 r8 _ hw14) (mx_recv (C := RX7) (F := TX7) (N := 8) (ci := 9) X M rfl (by decide) hk16) kw_732 kw_733 kw_734 kw_70 kw_735 (by decide +kernel) rfl rfl ⟨Nat.le_of_ble_eq_true rfl, Nat.le_of_ble_eq_true rfl⟩ rfl hl.1 (Nat.le_of_ble_eq_true rfl) dX0_call_17 ⟨(show (0 + 0) + 0 ≤ c by omega), (show (0 + 0) + 0 ≤ z by omega)⟩) (fun r15 μ13 H locs ⟨hw, hKM13⟩ M => ?_)
    replace hw := hw hKM13
    have hKM13_ := hKM6_.tr hKM13
    have hk17 := hKM13.at hk10
    have hk18 := hKM13.at hk11
    have hk19 := hKM13.at hk12
    have hk20 := hKM13.at hk16
    have hc : ((0 + 0) + 0) + (c) ≤ c := by omega
    have hz : ((0 + 0) + 0) + (z) ≤ z := by omega
    obtain ⟨hwf, hwt⟩ := hw
    refine lv_if_ne (tgt := 25) X.1 X.2.1 dX0_call_20 (by decide) (fun hq => ?_) (fun hq => ?_)
    · have hw := hwt hq
      refine lv_aload_n X.1 X.2.1 dX0_call_25 rfl (lv_at hl 1 rfl) ?_
      obtain ⟨x21, ex21, hw⟩ := hw
      refine mx_getr (C := RX0) (F := TX0) (N := 7) (ci := 2) X M 0 rfl in_X0 (by decide) rfl (by decide) kw_203 dX0_call_26 hk18 ?_
      rw [ex21]
      refine lv_aload_n X.1 X.2.1 dX0_call_29 rfl (lv_at hl 0 rfl) ?_
      obtain ⟨hk27, hw⟩ := hw
      obtain ⟨c23, z24, hc23, hz24, hw⟩ := hw
      have hw25 := hw
      clear hw
      refine mx_cq M (mx_runV (n := 1) (As := [.ref x3]) (rest := []) X M (c_X7_pushFrame l T B c23 z24 μ13 x21 x3 _ hw25) (mx_recv (C := RX7) (F := TX7) (N := 8) (ci := 9) X M rfl (by decide) hk27) kw_505 kw_506 kw_507 kw_70 kw_508 (by decide +kernel) rfl rfl ⟨Nat.le_of_ble_eq_true rfl, Nat.le_of_ble_eq_true rfl⟩ rfl hl.1 (Nat.le_of_ble_eq_true rfl) dX0_call_30 ⟨(show ((0 + 0) + 0) + c23 ≤ c by omega), (show ((0 + 0) + 0) + z24 ≤ z by omega)⟩) (fun r26 μ22 H locs ⟨hw, hKM22⟩ M => ?_)
      replace hw := hw hKM22
      have hKM22_ := hKM13_.tr hKM22
      have hk28 := hKM22.at hk17
      have hk29 := hKM22.at hk18
      have hk30 := hKM22.at hk19
      have hk31 := hKM22.at hk27
      have hc : (((0 + 0) + 0) + c23) + (c - c23) ≤ c := by omega
      have hz : (((0 + 0) + 0) + z24) + (z - z24) ≤ z := by omega
      refine mq_astore (lv' := [(4, va_rf r26), (3, .ref x3), (0, .ref o), (1, .ref a1), (2, .ref a2)]) X.1 X.2.1 dX0_call_33 hl (by decide) rfl (fun ls hl => ?_)
      refine mq_aload X.1 X.2.1 dX0_call_35 (lv_at hl 0 rfl) ?_
      refine lv_aload_n X.1 X.2.1 dX0_call_37 rfl (lv_at hl 3 rfl) ?_
      obtain ⟨x32, ex32, hw⟩ := hw
      subst ex32
      have hl : lv_has ls 6 [(4, .ref x32), (3, .ref x3), (0, .ref o), (1, .ref a1), (2, .ref a2)] := hl
      obtain ⟨hk33, hw⟩ := hw
      refine my_putr (C := RX1) (F := TX1) (N := 7) (ci := 3) X M 3 rfl in_X1 tyX1 tyX1_ok nmX1 (by decide) rfl (by decide) kw_525 (Or.inl rfl) dX0_call_38 hk33 (some a1) (mq_no _ _) (mq_fo _ _) (fun μ34 H locs eμ34 M => ?_)
      replace hw := hw μ34 eμ34
      have hKM35 : KM μ μ34 := by rw [eμ34]; exact hKM22_
      have hk36 : kd μ34 a2 = 6 := by rw [eμ34]; exact hk28
      have hk37 : kd μ34 o = 3 := by rw [eμ34]; exact hk29
      have hk38 : kd μ34 x3 = 8 := by rw [eμ34]; exact hk30
      have hk39 : kd μ34 x32 = 4 := by rw [eμ34]; exact hk33
      refine lv_aload X.1 X.2.1 dX0_call_41 (lv_at hl 0 rfl) ?_
      refine lv_aload_n X.1 X.2.1 dX0_call_43 rfl (lv_at hl 4 rfl) ?_
      refine my_putr (C := RX1) (F := TX1) (N := 7) (ci := 3) X M 4 rfl in_X1 tyX1 tyX1_ok nmX1 (by decide) rfl (by decide) kw_527 (Or.inl rfl) dX0_call_44 hk39 (some a2) (mq_no _ _) (mq_fo _ _) (fun μ40 H locs eμ40 M => ?_)
      replace hw := hw μ40 eμ40
      have hKM41 : KM μ μ40 := by rw [eμ40]; exact hKM35
      have hk42 : kd μ40 a2 = 6 := by rw [eμ40]; exact hk36
      have hk43 : kd μ40 o = 3 := by rw [eμ40]; exact hk37
      have hk44 : kd μ40 x3 = 8 := by rw [eμ40]; exact hk38
      have hk45 : kd μ40 x32 = 4 := by rw [eμ40]; exact hk39
      refine lv_aload X.1 X.2.1 dX0_call_47 (lv_at hl 0 rfl) ?_
      refine lv_aload_n X.1 X.2.1 dX0_call_49 rfl (lv_at hl 2 rfl) ?_
      refine mx_geti (C := RX0) (F := TX0) (N := 7) (ci := 2) X M 6 rfl in_X0 (by decide) rfl (by decide) kw_210 dX0_call_50 hk43 ?_
      refine my_puti (C := RX1) (F := TX1) (N := 7) (ci := 3) X M 5 rfl in_X1 tyX1 tyX1_ok nmX1 (by decide) rfl (by decide) kw_528 (Or.inl rfl) dX0_call_53 hk45 rfl rfl (fun μ46 H locs eμ46 M => ?_)
      replace hw := hw μ46 eμ46
      have hKM47 : KM μ μ46 := by rw [eμ46]; exact hKM41
      have hk48 : kd μ46 a2 = 6 := by rw [eμ46]; exact hk42
      have hk49 : kd μ46 o = 3 := by rw [eμ46]; exact hk43
      have hk50 : kd μ46 x3 = 8 := by rw [eμ46]; exact hk44
      have hk51 : kd μ46 x32 = 4 := by rw [eμ46]; exact hk45
      refine lv_iconst (v := 0) X.1 X.2.1 dX0_call_56 (by decide) ?_
      refine lv_istore (lv' := [(5, .int 0), (4, .ref x32), (3, .ref x3), (0, .ref o), (1, .ref a1), (2, .ref a2)]) X.1 X.2.1 dX0_call_57 hl (by decide) rfl (fun ls hl => ?_)
      obtain ⟨n100, hw⟩ := hw
      exact b_X0_call_59 X hr hk n100 _ _ _ _ μ46 a1 a2 x3 x32 0 _ _ _ (by omega) (by omega) hKM47 hw M (lv_sub hl [3, 4, 5, 2, 1, 0] rfl)
    · have hw := hwf hq
      refine lv_iconst (v := 4) X.1 X.2.1 dX0_call_23 (by decide) ?_
      exact mx_iret X hr hk M dX0_call_24 (by omega) (by omega) ⟨hw, hKM13_⟩

abbrev rm_X0_cut : Room := { frames := 5, cells := 0, slots := 0, locals := 108 }
def wp_X0_cut (μ : Mem) (o : Nat) (a1 : Nat) (a2 : Int64) (post : Int32 → Mem → Prop) : Prop :=
  wp_X9_isCell μ a2 (fun (r3 : Int32) (μ1 : Mem) =>
  KM μ μ1 →
  (r3 = 0 →
   kd μ1 o = 3 ∧
   ∃ x5, fr μ1 2 0 o = some x5 ∧
   kd μ1 x5 = 10 ∧
   wp_X7_cutTo μ1 x5 (Int64.toInt32 a2) a1 (fun (μ6 : Mem) =>
   KM μ1 μ6 →
   post 0 μ6)) ∧ (¬ r3 = 0 →
   post 6 μ1))
set_option maxRecDepth 100000 in
set_option maxHeartbeats 4000000 in
theorem c_X0_cut (l : Launch) (T : Tb) (B : Nat) (μ : Mem) (o : Nat) (a1 : Nat) (a2 : Int64) (post : Int32 → Mem → Prop) (hw : wp_X0_cut μ o a1 a2 post) : Met l yX0_cut (.code yX0_cut cX0_cut 4 (some .int) :: G) rm_X0_cut (Pm (Rl T B) T B μ [.ref o, .ref a1, .long a2]) (va_Qi (fun r9 μ9 => post r9 μ9 ∧ KM μ μ9) (Bm (Rl T B)) (Ai B)) 0 0 (Ai B) := by
  refine mx_of RX0 rfl (by decide) (Nat.le_of_ble_eq_true rfl) ?_
  intro p e s m below meth c0 X hr hk hnm M ls hl
  have hl : lv_has ls 4 [(0, .ref o), (1, .ref a1), (2, .long a2)] := hl
  unfold wp_X0_cut at hw
  have hKM : KM μ μ := KM.rf μ
  refine lv_lload_n X.1 X.2.1 dX0_cut_0 rfl (lv_at hl 2 rfl) ?_
  have hw2 := hw
  clear hw
  refine mx_ci M (mx_runS (n := 1) (As := [.long a2]) (rest := []) X M (c_X9_isCell l T B μ a2 _ hw2) kw_713 kw_674 kw_84 kw_675 (by decide +kernel) rfl rfl ⟨Nat.le_of_ble_eq_true rfl, Nat.le_of_ble_eq_true rfl⟩ rfl hl.1 (Nat.le_of_ble_eq_true rfl) dX0_cut_1 ⟨by decide, by decide⟩) (fun r3 μ1 H locs ⟨hw, hKM1⟩ M => ?_)
  replace hw := hw hKM1
  have hKM1_ := hKM.tr hKM1
  obtain ⟨hwt, hwf⟩ := hw
  refine lv_if_eq (tgt := 10) X.1 X.2.1 dX0_cut_4 (by decide) (fun hq => ?_) (fun hq => ?_)
  · have hw := hwt hq
    refine lv_aload_n X.1 X.2.1 dX0_cut_10 rfl (lv_at hl 0 rfl) ?_
    obtain ⟨hk4, hw⟩ := hw
    obtain ⟨x5, ex5, hw⟩ := hw
    refine mx_getr (C := RX0) (F := TX0) (N := 7) (ci := 2) X M 0 rfl in_X0 (by decide) rfl (by decide) kw_203 dX0_cut_11 hk4 ?_
    rw [ex5]
    refine lv_lload_n X.1 X.2.1 dX0_cut_14 rfl (lv_at hl 2 rfl) ?_
    refine lv_l2i X.1 X.2.1 dX0_cut_15 rfl ?_
    refine lv_aload_n X.1 X.2.1 dX0_cut_16 rfl (lv_at hl 1 rfl) ?_
    obtain ⟨hk8, hw⟩ := hw
    have hw7 := hw
    clear hw
    refine mx_cv M (mx_runV (n := 2) (As := [.int (Int64.toInt32 a2), .ref a1]) (rest := []) X M (c_X7_cutTo l T B μ1 x5 (Int64.toInt32 a2) a1 _ hw7) (mx_recv (C := RX7) (F := TX7) (N := 8) (ci := 9) X M rfl (by decide) hk8) kw_785 kw_786 kw_787 kw_70 kw_788 (by decide +kernel) rfl rfl ⟨Nat.le_of_ble_eq_true rfl, Nat.le_of_ble_eq_true rfl⟩ rfl hl.1 (Nat.le_of_ble_eq_true rfl) dX0_cut_17 ⟨by decide, by decide⟩) (fun μ6 H locs ⟨hw, hKM6⟩ M => ?_)
    replace hw := hw hKM6
    have hKM6_ := hKM1_.tr hKM6
    have hk9 := hKM6.at hk4
    have hk10 := hKM6.at hk8
    refine lv_iconst (v := 0) X.1 X.2.1 dX0_cut_20 (by decide) ?_
    exact mx_iret X hr hk M dX0_cut_21 (by decide) (by decide) ⟨hw, hKM6_⟩
  · have hw := hwf hq
    refine lv_bipush (v := 6) X.1 X.2.1 dX0_cut_7 (by decide) ?_
    exact mx_iret X hr hk M dX0_cut_9 (by decide) (by decide) ⟨hw, hKM1_⟩

abbrev rm_X0_drop : Room := { frames := 5, cells := 0, slots := 0, locals := 107 }
def wp_X0_drop (μ : Mem) (o : Nat) (a1 : Int64) (post : Int32 → Mem → Prop) : Prop :=
  wp_X9_isCell μ a1 (fun (r3 : Int32) (μ1 : Mem) =>
  KM μ μ1 →
  (r3 = 0 →
   kd μ1 o = 3 ∧
   ∃ x5, fr μ1 2 0 o = some x5 ∧
   kd μ1 x5 = 10 ∧
   wp_X7_dropRedo μ1 x5 (Int64.toInt32 a1) (fun (μ6 : Mem) =>
   KM μ1 μ6 →
   post 0 μ6)) ∧ (¬ r3 = 0 →
   post 6 μ1))
set_option maxRecDepth 100000 in
set_option maxHeartbeats 4000000 in
theorem c_X0_drop (l : Launch) (T : Tb) (B : Nat) (μ : Mem) (o : Nat) (a1 : Int64) (post : Int32 → Mem → Prop) (hw : wp_X0_drop μ o a1 post) : Met l yX0_drop (.code yX0_drop cX0_drop 3 (some .int) :: G) rm_X0_drop (Pm (Rl T B) T B μ [.ref o, .long a1]) (va_Qi (fun r9 μ9 => post r9 μ9 ∧ KM μ μ9) (Bm (Rl T B)) (Ai B)) 0 0 (Ai B) := by
  refine mx_of RX0 rfl (by decide) (Nat.le_of_ble_eq_true rfl) ?_
  intro p e s m below meth c0 X hr hk hnm M ls hl
  have hl : lv_has ls 3 [(0, .ref o), (1, .long a1)] := hl
  unfold wp_X0_drop at hw
  have hKM : KM μ μ := KM.rf μ
  refine lv_lload_n X.1 X.2.1 dX0_drop_0 rfl (lv_at hl 1 rfl) ?_
  have hw2 := hw
  clear hw
  refine mx_ci M (mx_runS (n := 1) (As := [.long a1]) (rest := []) X M (c_X9_isCell l T B μ a1 _ hw2) kw_713 kw_674 kw_84 kw_675 (by decide +kernel) rfl rfl ⟨Nat.le_of_ble_eq_true rfl, Nat.le_of_ble_eq_true rfl⟩ rfl hl.1 (Nat.le_of_ble_eq_true rfl) dX0_drop_1 ⟨by decide, by decide⟩) (fun r3 μ1 H locs ⟨hw, hKM1⟩ M => ?_)
  replace hw := hw hKM1
  have hKM1_ := hKM.tr hKM1
  obtain ⟨hwt, hwf⟩ := hw
  refine lv_if_eq (tgt := 10) X.1 X.2.1 dX0_drop_4 (by decide) (fun hq => ?_) (fun hq => ?_)
  · have hw := hwt hq
    refine lv_aload_n X.1 X.2.1 dX0_drop_10 rfl (lv_at hl 0 rfl) ?_
    obtain ⟨hk4, hw⟩ := hw
    obtain ⟨x5, ex5, hw⟩ := hw
    refine mx_getr (C := RX0) (F := TX0) (N := 7) (ci := 2) X M 0 rfl in_X0 (by decide) rfl (by decide) kw_203 dX0_drop_11 hk4 ?_
    rw [ex5]
    refine lv_lload_n X.1 X.2.1 dX0_drop_14 rfl (lv_at hl 1 rfl) ?_
    refine lv_l2i X.1 X.2.1 dX0_drop_15 rfl ?_
    obtain ⟨hk8, hw⟩ := hw
    have hw7 := hw
    clear hw
    refine mx_cv M (mx_runV (n := 1) (As := [.int (Int64.toInt32 a1)]) (rest := []) X M (c_X7_dropRedo l T B μ1 x5 (Int64.toInt32 a1) _ hw7) (mx_recv (C := RX7) (F := TX7) (N := 8) (ci := 9) X M rfl (by decide) hk8) kw_794 kw_795 kw_796 kw_70 kw_797 (by decide +kernel) rfl rfl ⟨Nat.le_of_ble_eq_true rfl, Nat.le_of_ble_eq_true rfl⟩ rfl hl.1 (Nat.le_of_ble_eq_true rfl) dX0_drop_16 ⟨by decide, by decide⟩) (fun μ6 H locs ⟨hw, hKM6⟩ M => ?_)
    replace hw := hw hKM6
    have hKM6_ := hKM1_.tr hKM6
    have hk9 := hKM6.at hk4
    have hk10 := hKM6.at hk8
    refine lv_iconst (v := 0) X.1 X.2.1 dX0_drop_19 (by decide) ?_
    exact mx_iret X hr hk M dX0_drop_20 (by decide) (by decide) ⟨hw, hKM6_⟩
  · have hw := hwf hq
    refine lv_bipush (v := 6) X.1 X.2.1 dX0_drop_7 (by decide) ?_
    exact mx_iret X hr hk M dX0_drop_9 (by decide) (by decide) ⟨hw, hKM1_⟩

abbrev rm_X0_exit (c z : Nat) : Room := { frames := 5, cells := c, slots := z, locals := 111 }
def wp_X0_exit_59 (o : Nat) (post : Int32 → Mem → Prop) : Nat → Nat → Nat → Mem → Nat → Nat → Nat → Nat → Int32 → Prop
  | 0, _, _, _, _, _, _, _, _ => False
  | n + 1, c, z, μ, x1, x2, x3, x4, x5 =>
    kd μ x2 = 8 ∧
    ∃ x20, fr μ 7 3 x2 = some x20 ∧
    isArr (kd μ x20) ∧
    ((nI (al μ x20)) ≤ x5 →
     kd μ o = 3 ∧
     ∃ x22, fr μ 2 0 o = some x22 ∧
     kd μ x22 = 10 ∧
     wp_X7_leave μ x22 x1 (fun (μ23 : Mem) =>
     KM μ μ23 →
     ∀ μ29 : Mem, μ29 = sfr μ23 2 5 o (some x3) →
     kd μ29 x1 = 4 ∧
     wp_X0_go μ29 o (fi μ29 3 5 x1) (fun (r36 : Int32) (μ34 : Mem) =>
     KM μ29 μ34 →
     post r36 μ34))) ∧ (¬ (nI (al μ x20)) ≤ x5 →
     kd μ x4 = 6 ∧
     ∃ x41, fr μ 5 5 x4 = some x41 ∧
     isArr (kd μ x41) ∧
     ((nI (al μ x41)) ≤ ((fi μ 7 2 x2) + x5) →
      kd μ o = 3 ∧
      ∃ x43, fr μ 2 0 o = some x43 ∧
      kd μ x43 = 10 ∧
      wp_X7_leave μ x43 x1 (fun (μ44 : Mem) =>
      KM μ μ44 →
      ∀ μ51 : Mem, μ51 = sfr μ44 2 5 o (some x3) →
      kd μ51 x1 = 4 ∧
      wp_X0_go μ51 o (fi μ51 3 5 x1) (fun (r59 : Int32) (μ57 : Mem) =>
      KM μ51 μ57 →
      post r59 μ57))) ∧ (¬ (nI (al μ x41)) ≤ ((fi μ 7 2 x2) + x5) →
      kd μ o = 3 ∧
      ∃ x65, fr μ 2 0 o = some x65 ∧
      ∃ x66, fr μ 5 5 x4 = some x66 ∧
      kd μ x66 = 102 ∧
      vp_in ((fi μ 7 2 x2) + x5) (al μ x66) ∧
      ∃ x68, fr μ 2 0 o = some x68 ∧
      ∃ x69, fr μ 7 3 x2 = some x69 ∧
      kd μ x69 = 102 ∧
      vp_in x5 (al μ x69) ∧
      kd μ x68 = 10 ∧
      wp_X7_read μ x68 x1 (ai μ x69 (Int32.toNatClampNeg x5)) (fun (r73 : Int64) (μ71 : Mem) =>
      KM μ μ71 →
      kd μ71 x65 = 10 ∧
      ∃ c80 z81, c80 ≤ c ∧ z81 ≤ z ∧
      wp_X7_write c80 z81 μ71 x65 x3 (ai μ x66 (Int32.toNatClampNeg ((fi μ 7 2 x2) + x5))) r73 (fun (μ79 : Mem) =>
      KM μ71 μ79 →
      ∀ v88 : Int32, v88 = x5 + 1 →
      wp_X0_exit_59 o post n (c - c80) (z - z81) μ79 x1 x2 x3 x4 v88))))
def wp_X0_exit_24 (o : Nat) (post : Int32 → Mem → Prop) (c z : Nat) (μ : Mem) (x1 : Nat) (x2 : Nat) : Prop :=
  kd μ x1 = 4 ∧
  ∀ r5, r5 = fr μ 3 3 x1 →
  ∀ r6, r6 = fr μ 3 4 x1 →
  (r5 = none →
   kd μ o = 3 ∧
   ∀ μ9 : Mem, μ9 = sfi μ 2 4 o ((fi μ 2 4 o) + 1) →
   post 1 μ9) ∧ (∀ x7, r5 = some x7 →
   (r6 = none →
    kd μ o = 3 ∧
    ∀ μ15 : Mem, μ15 = sfi μ 2 4 o ((fi μ 2 4 o) + 1) →
    post 1 μ15) ∧ (∀ x13, r6 = some x13 →
    ∃ n89, wp_X0_exit_59 o post n89 c z μ x1 x2 x7 x13 0))
def wp_X0_exit (c z : Nat) (μ : Mem) (o : Nat) (a1 : Nat) (post : Int32 → Mem → Prop) : Prop :=
  kd μ a1 = 4 ∧
  ∃ x2, fr μ 3 1 a1 = some x2 ∧
  kd μ x2 = 8 ∧
  ((fi μ 7 0 x2) = 0 →
   kd μ o = 3 ∧
   ∃ x91, fr μ 2 0 o = some x91 ∧
   kd μ x91 = 10 ∧
   wp_X7_cutTo μ x91 (fi μ 3 6 a1) a1 (fun (μ92 : Mem) =>
   KM μ μ92 →
   wp_X0_exit_24 o post c z μ92 a1 x2)) ∧ (¬ (fi μ 7 0 x2) = 0 →
   wp_X0_exit_24 o post c z μ a1 x2)
set_option maxRecDepth 100000 in
set_option maxHeartbeats 4000000 in
theorem b_X0_exit_59 {T : Tb} {B : Nat} {p : Program} {l : Launch} {e : Env} {s : State} {m : MethodId} {args : Array Value} {below : List Frame} {meth : Method} {c0 : Code} {post : Int32 → Mem → Prop} {μ0 : Mem} {o : Nat} {cT zT : Nat} (X : CX T B p m c0 cX0_exit 6 s args RX0) (hr : meth.sig.returnType = (some .int)) (hk : meth.locks = false) : ∀ (n : Nat) (c z cells slots : Nat) (μ : Mem) (x1 : Nat) (x2 : Nat) (x3 : Nat) (x4 : Nat) (x5 : Int32) (H : Heap) (locs : List Loc) (ls : Array Slot), cells + c ≤ cT → slots + z ≤ zT → KM μ0 μ → wp_X0_exit_59 o post n c z μ x1 x2 x3 x4 x5 → MG (Rl T B) B s μ H locs → lv_has ls 6 [(0, .ref o), (1, .ref x1), (2, .ref x2), (3, .ref x3), (4, .ref x4), (5, .int x5)] → W p l e (rm_X0_exit cT zT) s m args below meth c0 H locs cells slots (MQ below (va_Qi (fun r9 μ9 => post r9 μ9 ∧ KM μ0 μ9) (Bm (Rl T B)) (Ai B)) args s cT zT (Ai B)) (F0 m 59 ls []) := by
  intro n
  induction n with
  | zero =>
    intro c z cells slots μ x1 x2 x3 x4 x5 H locs ls hc hz hKM hw
    exact hw.elim
  | succ n ih =>
    intro c z cells slots μ x1 x2 x3 x4 x5 H locs ls hc hz hKM hw M hl
    rw [wp_X0_exit_59] at hw
    refine lv_iload X.1 X.2.1 dX0_exit_59 (lv_at hl 5 rfl) ?_
    refine lv_aload_n X.1 X.2.1 dX0_exit_61 rfl (lv_at hl 2 rfl) ?_
    obtain ⟨hk19, hw⟩ := hw
    obtain ⟨x20, ex20, hw⟩ := hw
    refine mx_getr (C := RX5) (F := TX5) (N := 5) (ci := 7) X M 3 rfl in_X5 (by decide) rfl (by decide) kw_328 dX0_exit_62 hk19 ?_
    rw [ex20]
    obtain ⟨hia, hw⟩ := hw
    refine mx_len X M dX0_exit_65 hia ?_
    obtain ⟨hwt, hwf⟩ := hw
    refine lv_icmp_ge (tgt := 127) X.1 X.2.1 dX0_exit_66 (by decide) (fun hq => ?_) (fun hq => ?_)
    · have hw := hwt hq
      refine lv_aload_n X.1 X.2.1 dX0_exit_127 rfl (lv_at hl 0 rfl) ?_
      obtain ⟨hk21, hw⟩ := hw
      obtain ⟨x22, ex22, hw⟩ := hw
      refine mx_getr (C := RX0) (F := TX0) (N := 7) (ci := 2) X M 0 rfl in_X0 (by decide) rfl (by decide) kw_203 dX0_exit_128 hk21 ?_
      rw [ex22]
      refine lv_aload_n X.1 X.2.1 dX0_exit_131 rfl (lv_at hl 1 rfl) ?_
      obtain ⟨hk25, hw⟩ := hw
      have hw24 := hw
      clear hw
      refine mx_cv M (mx_runV (n := 1) (As := [.ref x1]) (rest := []) X M (c_X7_leave l T B μ x22 x1 _ hw24) (mx_recv (C := RX7) (F := TX7) (N := 8) (ci := 9) X M rfl (by decide) hk25) kw_802 kw_803 kw_804 kw_70 kw_805 (by decide +kernel) rfl rfl ⟨Nat.le_of_ble_eq_true rfl, Nat.le_of_ble_eq_true rfl⟩ rfl hl.1 (Nat.le_of_ble_eq_true rfl) dX0_exit_132 ⟨(show cells + 0 ≤ cT by omega), (show slots + 0 ≤ zT by omega)⟩) (fun μ23 H locs ⟨hw, hKM23⟩ M => ?_)
      replace hw := hw hKM23
      have hKM23_ := hKM.tr hKM23
      have hk26 := hKM23.at hk19
      have hk27 := hKM23.at hk21
      have hk28 := hKM23.at hk25
      have hc : (cells + 0) + (c) ≤ cT := by omega
      have hz : (slots + 0) + (z) ≤ zT := by omega
      refine lv_aload_n X.1 X.2.1 dX0_exit_135 rfl (lv_at hl 0 rfl) ?_
      refine lv_aload_n X.1 X.2.1 dX0_exit_136 rfl (lv_at hl 3 rfl) ?_
      refine my_putr (C := RX0) (F := TX0) (N := 7) (ci := 2) X M 5 rfl in_X0 tyX0 tyX0_ok nmX0 (by decide) rfl (by decide) kw_209 (Or.inl rfl) dX0_exit_137 hk27 (some x3) (mq_no _ _) (mq_fo _ _) (fun μ29 H locs eμ29 M => ?_)
      replace hw := hw μ29 eμ29
      have hKM30 : KM μ0 μ29 := by rw [eμ29]; exact hKM23_
      have hk31 : kd μ29 x2 = 8 := by rw [eμ29]; exact hk26
      have hk32 : kd μ29 o = 3 := by rw [eμ29]; exact hk27
      refine lv_aload_n X.1 X.2.1 dX0_exit_140 rfl (lv_at hl 0 rfl) ?_
      refine lv_aload_n X.1 X.2.1 dX0_exit_141 rfl (lv_at hl 1 rfl) ?_
      obtain ⟨hk33, hw⟩ := hw
      refine mx_geti (C := RX1) (F := TX1) (N := 7) (ci := 3) X M 5 rfl in_X1 (by decide) rfl (by decide) kw_528 dX0_exit_142 hk33 ?_
      have hw35 := hw
      clear hw
      refine mx_ci M (mx_runV (n := 1) (As := [.int (fi μ29 3 5 x1)]) (rest := []) X M (c_X0_go l T B μ29 o (fi μ29 3 5 x1) _ hw35) (mx_recv (C := RX0) (F := TX0) (N := 7) (ci := 2) X M rfl (by decide) hk32) kw_724 kw_726 kw_18 kw_69 kw_727 (by decide +kernel) rfl rfl ⟨Nat.le_of_ble_eq_true rfl, Nat.le_of_ble_eq_true rfl⟩ rfl hl.1 (Nat.le_of_ble_eq_true rfl) dX0_exit_145 ⟨(show (cells + 0) + 0 ≤ cT by omega), (show (slots + 0) + 0 ≤ zT by omega)⟩) (fun r36 μ34 H locs ⟨hw, hKM34⟩ M => ?_)
      replace hw := hw hKM34
      have hKM34_ := hKM30.tr hKM34
      have hk37 := hKM34.at hk31
      have hk38 := hKM34.at hk32
      have hk39 := hKM34.at hk33
      have hc : ((cells + 0) + 0) + (c) ≤ cT := by omega
      have hz : ((slots + 0) + 0) + (z) ≤ zT := by omega
      exact mx_iret X hr hk M dX0_exit_148 (by omega) (by omega) ⟨hw, hKM34_⟩
    · have hw := hwf hq
      refine lv_aload_n X.1 X.2.1 dX0_exit_69 rfl (lv_at hl 2 rfl) ?_
      refine mx_geti (C := RX5) (F := TX5) (N := 5) (ci := 7) X M 2 rfl in_X5 (by decide) rfl (by decide) kw_326 dX0_exit_70 hk19 ?_
      refine lv_iload X.1 X.2.1 dX0_exit_73 (lv_at hl 5 rfl) ?_
      refine lv_iadd X.1 X.2.1 dX0_exit_75 ?_
      refine lv_aload X.1 X.2.1 dX0_exit_76 (lv_at hl 4 rfl) ?_
      obtain ⟨hk40, hw⟩ := hw
      obtain ⟨x41, ex41, hw⟩ := hw
      refine mx_getr (C := RX3) (F := TX3) (N := 7) (ci := 5) X M 5 rfl in_X3 (by decide) rfl (by decide) kw_420 dX0_exit_78 hk40 ?_
      rw [ex41]
      obtain ⟨hia, hw⟩ := hw
      refine mx_len X M dX0_exit_81 hia ?_
      obtain ⟨hwt, hwf⟩ := hw
      refine lv_icmp_ge (tgt := 127) X.1 X.2.1 dX0_exit_82 (by decide) (fun hq => ?_) (fun hq => ?_)
      · have hw := hwt hq
        refine lv_aload_n X.1 X.2.1 dX0_exit_127 rfl (lv_at hl 0 rfl) ?_
        obtain ⟨hk42, hw⟩ := hw
        obtain ⟨x43, ex43, hw⟩ := hw
        refine mx_getr (C := RX0) (F := TX0) (N := 7) (ci := 2) X M 0 rfl in_X0 (by decide) rfl (by decide) kw_203 dX0_exit_128 hk42 ?_
        rw [ex43]
        refine lv_aload_n X.1 X.2.1 dX0_exit_131 rfl (lv_at hl 1 rfl) ?_
        obtain ⟨hk46, hw⟩ := hw
        have hw45 := hw
        clear hw
        refine mx_cv M (mx_runV (n := 1) (As := [.ref x1]) (rest := []) X M (c_X7_leave l T B μ x43 x1 _ hw45) (mx_recv (C := RX7) (F := TX7) (N := 8) (ci := 9) X M rfl (by decide) hk46) kw_802 kw_803 kw_804 kw_70 kw_805 (by decide +kernel) rfl rfl ⟨Nat.le_of_ble_eq_true rfl, Nat.le_of_ble_eq_true rfl⟩ rfl hl.1 (Nat.le_of_ble_eq_true rfl) dX0_exit_132 ⟨(show cells + 0 ≤ cT by omega), (show slots + 0 ≤ zT by omega)⟩) (fun μ44 H locs ⟨hw, hKM44⟩ M => ?_)
        replace hw := hw hKM44
        have hKM44_ := hKM.tr hKM44
        have hk47 := hKM44.at hk19
        have hk48 := hKM44.at hk40
        have hk49 := hKM44.at hk42
        have hk50 := hKM44.at hk46
        have hc : (cells + 0) + (c) ≤ cT := by omega
        have hz : (slots + 0) + (z) ≤ zT := by omega
        refine lv_aload_n X.1 X.2.1 dX0_exit_135 rfl (lv_at hl 0 rfl) ?_
        refine lv_aload_n X.1 X.2.1 dX0_exit_136 rfl (lv_at hl 3 rfl) ?_
        refine my_putr (C := RX0) (F := TX0) (N := 7) (ci := 2) X M 5 rfl in_X0 tyX0 tyX0_ok nmX0 (by decide) rfl (by decide) kw_209 (Or.inl rfl) dX0_exit_137 hk49 (some x3) (mq_no _ _) (mq_fo _ _) (fun μ51 H locs eμ51 M => ?_)
        replace hw := hw μ51 eμ51
        have hKM52 : KM μ0 μ51 := by rw [eμ51]; exact hKM44_
        have hk53 : kd μ51 x2 = 8 := by rw [eμ51]; exact hk47
        have hk54 : kd μ51 x4 = 6 := by rw [eμ51]; exact hk48
        have hk55 : kd μ51 o = 3 := by rw [eμ51]; exact hk49
        refine lv_aload_n X.1 X.2.1 dX0_exit_140 rfl (lv_at hl 0 rfl) ?_
        refine lv_aload_n X.1 X.2.1 dX0_exit_141 rfl (lv_at hl 1 rfl) ?_
        obtain ⟨hk56, hw⟩ := hw
        refine mx_geti (C := RX1) (F := TX1) (N := 7) (ci := 3) X M 5 rfl in_X1 (by decide) rfl (by decide) kw_528 dX0_exit_142 hk56 ?_
        have hw58 := hw
        clear hw
        refine mx_ci M (mx_runV (n := 1) (As := [.int (fi μ51 3 5 x1)]) (rest := []) X M (c_X0_go l T B μ51 o (fi μ51 3 5 x1) _ hw58) (mx_recv (C := RX0) (F := TX0) (N := 7) (ci := 2) X M rfl (by decide) hk55) kw_724 kw_726 kw_18 kw_69 kw_727 (by decide +kernel) rfl rfl ⟨Nat.le_of_ble_eq_true rfl, Nat.le_of_ble_eq_true rfl⟩ rfl hl.1 (Nat.le_of_ble_eq_true rfl) dX0_exit_145 ⟨(show (cells + 0) + 0 ≤ cT by omega), (show (slots + 0) + 0 ≤ zT by omega)⟩) (fun r59 μ57 H locs ⟨hw, hKM57⟩ M => ?_)
        replace hw := hw hKM57
        have hKM57_ := hKM52.tr hKM57
        have hk60 := hKM57.at hk53
        have hk61 := hKM57.at hk54
        have hk62 := hKM57.at hk55
        have hk63 := hKM57.at hk56
        have hc : ((cells + 0) + 0) + (c) ≤ cT := by omega
        have hz : ((slots + 0) + 0) + (z) ≤ zT := by omega
        exact mx_iret X hr hk M dX0_exit_148 (by omega) (by omega) ⟨hw, hKM57_⟩
      · have hw := hwf hq
        refine lv_aload_n X.1 X.2.1 dX0_exit_85 rfl (lv_at hl 0 rfl) ?_
        obtain ⟨hk64, hw⟩ := hw
        obtain ⟨x65, ex65, hw⟩ := hw
        refine mx_getr (C := RX0) (F := TX0) (N := 7) (ci := 2) X M 0 rfl in_X0 (by decide) rfl (by decide) kw_203 dX0_exit_86 hk64 ?_
        rw [ex65]
        refine lv_aload_n X.1 X.2.1 dX0_exit_89 rfl (lv_at hl 3 rfl) ?_
        refine lv_aload X.1 X.2.1 dX0_exit_90 (lv_at hl 4 rfl) ?_
        obtain ⟨x66, ex66, hw⟩ := hw
        refine mx_getr (C := RX3) (F := TX3) (N := 7) (ci := 5) X M 5 rfl in_X3 (by decide) rfl (by decide) kw_420 dX0_exit_92 hk40 ?_
        rw [ex66]
        refine lv_aload_n X.1 X.2.1 dX0_exit_95 rfl (lv_at hl 2 rfl) ?_
        refine mx_geti (C := RX5) (F := TX5) (N := 5) (ci := 7) X M 2 rfl in_X5 (by decide) rfl (by decide) kw_326 dX0_exit_96 hk19 ?_
        refine lv_iload X.1 X.2.1 dX0_exit_99 (lv_at hl 5 rfl) ?_
        refine lv_iadd X.1 X.2.1 dX0_exit_101 ?_
        obtain ⟨hk67, hw⟩ := hw
        obtain ⟨hi, hw⟩ := hw
        refine mx_ald X M dX0_exit_102 hk67 hi ?_
        refine lv_aload_n X.1 X.2.1 dX0_exit_103 rfl (lv_at hl 0 rfl) ?_
        obtain ⟨x68, ex68, hw⟩ := hw
        refine mx_getr (C := RX0) (F := TX0) (N := 7) (ci := 2) X M 0 rfl in_X0 (by decide) rfl (by decide) kw_203 dX0_exit_104 hk64 ?_
        rw [ex68]
        refine lv_aload_n X.1 X.2.1 dX0_exit_107 rfl (lv_at hl 1 rfl) ?_
        refine lv_aload_n X.1 X.2.1 dX0_exit_108 rfl (lv_at hl 2 rfl) ?_
        obtain ⟨x69, ex69, hw⟩ := hw
        refine mx_getr (C := RX5) (F := TX5) (N := 5) (ci := 7) X M 3 rfl in_X5 (by decide) rfl (by decide) kw_328 dX0_exit_109 hk19 ?_
        rw [ex69]
        refine lv_iload X.1 X.2.1 dX0_exit_112 (lv_at hl 5 rfl) ?_
        obtain ⟨hk70, hw⟩ := hw
        obtain ⟨hi, hw⟩ := hw
        refine mx_ald X M dX0_exit_114 hk70 hi ?_
        obtain ⟨hk74, hw⟩ := hw
        have hw72 := hw
        clear hw
        refine mx_cl M (mx_runV (n := 2) (As := [.ref x1, .int (ai μ x69 (Int32.toNatClampNeg x5))]) (rest := [.int (ai μ x66 (Int32.toNatClampNeg ((fi μ 7 2 x2) + x5))), .ref x3, .ref x65]) X M (c_X7_read l T B μ x68 x1 (ai μ x69 (Int32.toNatClampNeg x5)) _ hw72) (mx_recv (C := RX7) (F := TX7) (N := 8) (ci := 9) X M rfl (by decide) hk74) kw_639 kw_640 kw_641 kw_70 kw_642 (by decide +kernel) rfl rfl ⟨Nat.le_of_ble_eq_true rfl, Nat.le_of_ble_eq_true rfl⟩ rfl hl.1 (Nat.le_of_ble_eq_true rfl) dX0_exit_115 ⟨(show cells + 0 ≤ cT by omega), (show slots + 0 ≤ zT by omega)⟩) (fun r73 μ71 H locs ⟨hw, hKM71⟩ M => ?_)
        replace hw := hw hKM71
        have hKM71_ := hKM.tr hKM71
        have hk75 := hKM71.at hk19
        have hk76 := hKM71.at hk40
        have hk77 := hKM71.at hk64
        have hk78 := hKM71.at hk74
        have hc : (cells + 0) + (c) ≤ cT := by omega
        have hz : (slots + 0) + (z) ≤ zT := by omega
        obtain ⟨hk83, hw⟩ := hw
        obtain ⟨c80, z81, hc80, hz81, hw⟩ := hw
        have hw82 := hw
        clear hw
        refine mx_cv M (mx_runV (n := 3) (As := [.ref x3, .int (ai μ x66 (Int32.toNatClampNeg ((fi μ 7 2 x2) + x5))), .long r73]) (rest := []) X M (c_X7_write l T B c80 z81 μ71 x65 x3 (ai μ x66 (Int32.toNatClampNeg ((fi μ 7 2 x2) + x5))) r73 _ hw82) (mx_recv (C := RX7) (F := TX7) (N := 8) (ci := 9) X M rfl (by decide) hk83) kw_573 kw_574 kw_575 kw_70 kw_576 (by decide +kernel) rfl rfl ⟨Nat.le_of_ble_eq_true rfl, Nat.le_of_ble_eq_true rfl⟩ rfl hl.1 (Nat.le_of_ble_eq_true rfl) dX0_exit_118 ⟨(show (cells + 0) + c80 ≤ cT by omega), (show (slots + 0) + z81 ≤ zT by omega)⟩) (fun μ79 H locs ⟨hw, hKM79⟩ M => ?_)
        replace hw := hw hKM79
        have hKM79_ := hKM71_.tr hKM79
        have hk84 := hKM79.at hk75
        have hk85 := hKM79.at hk76
        have hk86 := hKM79.at hk77
        have hk87 := hKM79.at hk83
        have hc : ((cells + 0) + c80) + (c - c80) ≤ cT := by omega
        have hz : ((slots + 0) + z81) + (z - z81) ≤ zT := by omega
        obtain ⟨v88, ev88⟩ : ∃ y : Int32, y = x5 + 1 := ⟨_, rfl⟩
        replace hw := hw v88 ev88
        refine lv_iinc (v := v88) (lv' := [(5, .int v88), (0, .ref o), (1, .ref x1), (2, .ref x2), (3, .ref x3), (4, .ref x4)]) X.1 X.2.1 dX0_exit_121 hl (k := 5) rfl (by rw [ev88]; rfl) (by decide) rfl (fun ls hl => ?_)
        refine lv_goto (tgt := 59) X.1 X.2.1 dX0_exit_124 (by decide) ?_
        exact ih _ _ _ _ μ79 x1 x2 x3 x4 v88 _ _ _ (by omega) (by omega) hKM79_ hw M (lv_sub hl [1, 2, 3, 4, 5, 0] rfl)
set_option maxRecDepth 100000 in
set_option maxHeartbeats 4000000 in
theorem b_X0_exit_24 {T : Tb} {B : Nat} {p : Program} {l : Launch} {e : Env} {s : State} {m : MethodId} {args : Array Value} {below : List Frame} {meth : Method} {c0 : Code} {post : Int32 → Mem → Prop} {μ0 : Mem} {o : Nat} {cT zT : Nat} (X : CX T B p m c0 cX0_exit 6 s args RX0) (hr : meth.sig.returnType = (some .int)) (hk : meth.locks = false) : ∀ (c z cells slots : Nat) (μ : Mem) (x1 : Nat) (x2 : Nat) (H : Heap) (locs : List Loc) (ls : Array Slot), cells + c ≤ cT → slots + z ≤ zT → KM μ0 μ → wp_X0_exit_24 o post c z μ x1 x2 → MG (Rl T B) B s μ H locs → lv_has ls 6 [(0, .ref o), (1, .ref x1), (2, .ref x2)] → W p l e (rm_X0_exit cT zT) s m args below meth c0 H locs cells slots (MQ below (va_Qi (fun r9 μ9 => post r9 μ9 ∧ KM μ0 μ9) (Bm (Rl T B)) (Ai B)) args s cT zT (Ai B)) (F0 m 24 ls []) := by
  intro c z cells slots μ x1 x2 H locs ls hc hz hKM hw M hl
  unfold wp_X0_exit_24 at hw
  refine lv_aload_n X.1 X.2.1 dX0_exit_24 rfl (lv_at hl 1 rfl) ?_
  obtain ⟨hk4, hw⟩ := hw
  refine mx_getr (C := RX1) (F := TX1) (N := 7) (ci := 3) X M 3 rfl in_X1 (by decide) rfl (by decide) kw_525 dX0_exit_25 hk4 ?_
  obtain ⟨r5, er5⟩ : ∃ y, y = fr μ 3 3 x1 := ⟨_, rfl⟩
  replace hw := hw r5 er5
  rw [← er5]
  refine mq_astore_n (lv' := [(3, va_rf r5), (0, .ref o), (1, .ref x1), (2, .ref x2)]) X.1 X.2.1 dX0_exit_28 rfl hl (by decide) rfl (fun ls hl => ?_)
  refine lv_aload_n X.1 X.2.1 dX0_exit_29 rfl (lv_at hl 2 rfl) ?_
  refine mx_getr (C := RX1) (F := TX1) (N := 7) (ci := 3) X M 4 rfl in_X1 (by decide) rfl (by decide) kw_527 dX0_exit_30 hk4 ?_
  obtain ⟨r6, er6⟩ : ∃ y, y = fr μ 3 4 x1 := ⟨_, rfl⟩
  replace hw := hw r6 er6
  rw [← er6]
  refine mq_astore (lv' := [(4, va_rf r6), (3, va_rf r5), (0, .ref o), (1, .ref x1), (2, .ref x2)]) X.1 X.2.1 dX0_exit_33 hl (by decide) (by simp [mq_cat]) (fun ls hl => ?_)
  refine mq_aload_n X.1 X.2.1 dX0_exit_35 rfl (lv_at hl 1 rfl) ?_
  obtain ⟨hwn, hws⟩ := hw
  rcases r5 with _ | x7
  · have hw := hwn rfl
    have hl : lv_has ls 6 [(4, va_rf r6), (3, .null), (0, .ref o), (1, .ref x1), (2, .ref x2)] := hl
    refine lv_ifnullN (tgt := 44) X.1 X.2.1 dX0_exit_36 (by decide) ?_
    refine lv_aload_n X.1 X.2.1 dX0_exit_44 rfl (lv_at hl 2 rfl) ?_
    refine lv_dup X.1 X.2.1 dX0_exit_45 rfl ?_
    obtain ⟨hk8, hw⟩ := hw
    refine mx_geti (C := RX0) (F := TX0) (N := 7) (ci := 2) X M 4 rfl in_X0 (by decide) rfl (by decide) kw_208 dX0_exit_46 hk8 ?_
    refine lv_iconst (v := 1) X.1 X.2.1 dX0_exit_49 (by decide) ?_
    refine lv_iadd X.1 X.2.1 dX0_exit_50 ?_
    refine my_puti (C := RX0) (F := TX0) (N := 7) (ci := 2) X M 4 rfl in_X0 tyX0 tyX0_ok nmX0 (by decide) rfl (by decide) kw_208 (Or.inl rfl) dX0_exit_51 hk8 rfl rfl (fun μ9 H locs eμ9 M => ?_)
    replace hw := hw μ9 eμ9
    have hKM10 : KM μ0 μ9 := by rw [eμ9]; exact hKM
    have hk11 : kd μ9 x1 = 4 := by rw [eμ9]; exact hk4
    have hk12 : kd μ9 o = 3 := by rw [eμ9]; exact hk8
    refine lv_iconst (v := 1) X.1 X.2.1 dX0_exit_54 (by decide) ?_
    exact mx_iret X hr hk M dX0_exit_55 (by omega) (by omega) ⟨hw, hKM10⟩
  · have hw := hws x7 rfl
    have hl : lv_has ls 6 [(4, va_rf r6), (3, .ref x7), (0, .ref o), (1, .ref x1), (2, .ref x2)] := hl
    refine lv_ifnull X.1 X.2.1 dX0_exit_36 ?_
    refine mq_aload X.1 X.2.1 dX0_exit_39 (lv_at hl 0 rfl) ?_
    obtain ⟨hwn, hws⟩ := hw
    rcases r6 with _ | x13
    · have hw := hwn rfl
      have hl : lv_has ls 6 [(4, .null), (3, .ref x7), (0, .ref o), (1, .ref x1), (2, .ref x2)] := hl
      refine lv_ifnonnullN X.1 X.2.1 dX0_exit_41 ?_
      refine lv_aload_n X.1 X.2.1 dX0_exit_44 rfl (lv_at hl 2 rfl) ?_
      refine lv_dup X.1 X.2.1 dX0_exit_45 rfl ?_
      obtain ⟨hk14, hw⟩ := hw
      refine mx_geti (C := RX0) (F := TX0) (N := 7) (ci := 2) X M 4 rfl in_X0 (by decide) rfl (by decide) kw_208 dX0_exit_46 hk14 ?_
      refine lv_iconst (v := 1) X.1 X.2.1 dX0_exit_49 (by decide) ?_
      refine lv_iadd X.1 X.2.1 dX0_exit_50 ?_
      refine my_puti (C := RX0) (F := TX0) (N := 7) (ci := 2) X M 4 rfl in_X0 tyX0 tyX0_ok nmX0 (by decide) rfl (by decide) kw_208 (Or.inl rfl) dX0_exit_51 hk14 rfl rfl (fun μ15 H locs eμ15 M => ?_)
      replace hw := hw μ15 eμ15
      have hKM16 : KM μ0 μ15 := by rw [eμ15]; exact hKM
      have hk17 : kd μ15 x1 = 4 := by rw [eμ15]; exact hk4
      have hk18 : kd μ15 o = 3 := by rw [eμ15]; exact hk14
      refine lv_iconst (v := 1) X.1 X.2.1 dX0_exit_54 (by decide) ?_
      exact mx_iret X hr hk M dX0_exit_55 (by omega) (by omega) ⟨hw, hKM16⟩
    · have hw := hws x13 rfl
      have hl : lv_has ls 6 [(4, .ref x13), (3, .ref x7), (0, .ref o), (1, .ref x1), (2, .ref x2)] := hl
      refine lv_ifnonnull (tgt := 56) X.1 X.2.1 dX0_exit_41 (by decide) ?_
      refine lv_iconst (v := 0) X.1 X.2.1 dX0_exit_56 (by decide) ?_
      refine lv_istore (lv' := [(5, .int 0), (4, .ref x13), (3, .ref x7), (0, .ref o), (1, .ref x1), (2, .ref x2)]) X.1 X.2.1 dX0_exit_57 hl (by decide) rfl (fun ls hl => ?_)
      obtain ⟨n89, hw⟩ := hw
      exact b_X0_exit_59 X hr hk n89 _ _ _ _ μ x1 x2 x7 x13 0 _ _ _ (by omega) (by omega) hKM hw M (lv_sub hl [3, 4, 5, 2, 1, 0] rfl)
set_option maxRecDepth 100000 in
set_option maxHeartbeats 4000000 in
theorem c_X0_exit (l : Launch) (T : Tb) (B : Nat) (c z : Nat) (μ : Mem) (o : Nat) (a1 : Nat) (post : Int32 → Mem → Prop) (hw : wp_X0_exit c z μ o a1 post) : Met l yX0_exit (.code yX0_exit cX0_exit 6 (some .int) :: G) (rm_X0_exit c z) (Pm (Rl T B) T B μ [.ref o, .ref a1]) (va_Qi (fun r9 μ9 => post r9 μ9 ∧ KM μ μ9) (Bm (Rl T B)) (Ai B)) c z (Ai B) := by
  refine mx_of RX0 rfl (by decide) (Nat.le_of_ble_eq_true rfl) ?_
  intro p e s m below meth c0 X hr hk hnm M ls hl
  have hl : lv_has ls 6 [(0, .ref o), (1, .ref a1)] := hl
  unfold wp_X0_exit at hw
  have hKM : KM μ μ := KM.rf μ
  have hc : 0 + c ≤ c := by omega
  have hz : 0 + z ≤ z := by omega
  refine lv_aload_n X.1 X.2.1 dX0_exit_0 rfl (lv_at hl 1 rfl) ?_
  obtain ⟨hk1, hw⟩ := hw
  obtain ⟨x2, ex2, hw⟩ := hw
  refine mx_getr (C := RX1) (F := TX1) (N := 7) (ci := 3) X M 1 rfl in_X1 (by decide) rfl (by decide) kw_521 dX0_exit_1 hk1 ?_
  rw [ex2]
  refine lv_astore_n (lv' := [(2, .ref x2), (0, .ref o), (1, .ref a1)]) X.1 X.2.1 dX0_exit_4 rfl hl (by decide) rfl (fun ls hl => ?_)
  refine lv_aload_n X.1 X.2.1 dX0_exit_5 rfl (lv_at hl 0 rfl) ?_
  obtain ⟨hk3, hw⟩ := hw
  refine mx_geti (C := RX5) (F := TX5) (N := 5) (ci := 7) X M 0 rfl in_X5 (by decide) rfl (by decide) kw_320 dX0_exit_6 hk3 ?_
  obtain ⟨hwf, hwt⟩ := hw
  refine lv_if_ne (tgt := 24) X.1 X.2.1 dX0_exit_9 (by decide) (fun hq => ?_) (fun hq => ?_)
  · have hw := hwt hq
    exact b_X0_exit_24 X hr hk _ _ _ _ μ a1 x2 _ _ _ (by omega) (by omega) hKM hw M (lv_sub hl [1, 2, 0] rfl)
  · have hw := hwf hq
    refine lv_aload_n X.1 X.2.1 dX0_exit_12 rfl (lv_at hl 1 rfl) ?_
    obtain ⟨hk90, hw⟩ := hw
    obtain ⟨x91, ex91, hw⟩ := hw
    refine mx_getr (C := RX0) (F := TX0) (N := 7) (ci := 2) X M 0 rfl in_X0 (by decide) rfl (by decide) kw_203 dX0_exit_13 hk90 ?_
    rw [ex91]
    refine lv_aload_n X.1 X.2.1 dX0_exit_16 rfl (lv_at hl 2 rfl) ?_
    refine mx_geti (C := RX1) (F := TX1) (N := 7) (ci := 3) X M 6 rfl in_X1 (by decide) rfl (by decide) kw_530 dX0_exit_17 hk1 ?_
    refine lv_aload_n X.1 X.2.1 dX0_exit_20 rfl (lv_at hl 2 rfl) ?_
    obtain ⟨hk94, hw⟩ := hw
    have hw93 := hw
    clear hw
    refine mx_cv M (mx_runV (n := 2) (As := [.int (fi μ 3 6 a1), .ref a1]) (rest := []) X M (c_X7_cutTo l T B μ x91 (fi μ 3 6 a1) a1 _ hw93) (mx_recv (C := RX7) (F := TX7) (N := 8) (ci := 9) X M rfl (by decide) hk94) kw_785 kw_786 kw_787 kw_70 kw_788 (by decide +kernel) rfl rfl ⟨Nat.le_of_ble_eq_true rfl, Nat.le_of_ble_eq_true rfl⟩ rfl hl.1 (Nat.le_of_ble_eq_true rfl) dX0_exit_21 ⟨(show 0 + 0 ≤ c by omega), (show 0 + 0 ≤ z by omega)⟩) (fun μ92 H locs ⟨hw, hKM92⟩ M => ?_)
    replace hw := hw hKM92
    have hKM92_ := hKM.tr hKM92
    have hk95 := hKM92.at hk1
    have hk96 := hKM92.at hk3
    have hk97 := hKM92.at hk90
    have hk98 := hKM92.at hk94
    have hc : (0 + 0) + (c) ≤ c := by omega
    have hz : (0 + 0) + (z) ≤ z := by omega
    exact b_X0_exit_24 X hr hk _ _ _ _ μ92 a1 x2 _ _ _ (by omega) (by omega) hKM92_ hw M (lv_sub hl [1, 2, 0] rfl)
