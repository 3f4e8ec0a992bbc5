abbrev rm_X0_sum (c z : Nat) : Room := { frames := 6, cells := c, slots := z, locals := 135 }
def wp_X0_sum (c z : Nat) (μ : Mem) (o : Nat) (a1 : Nat) (a2 : Nat) (post : Int32 → Mem → Prop) : Prop :=
  kd μ o = 3 ∧
  ∃ x2, fr μ 2 0 o = some x2 ∧
  kd μ a2 = 6 ∧
  kd μ x2 = 10 ∧
  wp_X7_read μ x2 a1 (fi μ 5 2 a2) (fun (r6 : Int64) (μ4 : Mem) =>
  KM μ μ4 →
  ∃ x11, fr μ4 2 0 o = some x11 ∧
  kd μ4 x11 = 10 ∧
  wp_X7_read μ4 x11 a1 (fi μ4 5 3 a2) (fun (r14 : Int64) (μ12 : Mem) =>
  KM μ4 μ12 →
  wp_X9_isCell μ12 r6 (fun (r22 : Int32) (μ20 : Mem) =>
  KM μ12 μ20 →
  (r22 = 0 →
   wp_X9_isCell μ20 r14 (fun (r29 : Int32) (μ27 : Mem) =>
   KM μ20 μ27 →
   (r29 = 0 →
    ((lg_cmp r14 0) = 0 →
     ((fi μ27 5 4 a2) = 3 →
      post 7 μ27) ∧ (¬ (fi μ27 5 4 a2) = 3 →
      ((fi μ27 5 4 a2) = 4 →
       post 7 μ27) ∧ (¬ (fi μ27 5 4 a2) = 4 →
       wp_X0_result μ27 (fi μ27 5 4 a2) (Int64.toInt32 r6) (Int64.toInt32 r14) (fun (r52 : Int32) (μ50 : Mem) =>
       KM μ27 μ50 →
       ∃ c58 z59, c58 ≤ c ∧ z59 ≤ z ∧
       wp_X0_become c58 z59 μ50 o a1 (fi μ27 5 1 a2) (Int32.toInt64 r52) (fun (r61 : Int32) (μ57 : Mem) =>
       KM μ50 μ57 →
       post r61 μ57))))) ∧ (¬ (lg_cmp r14 0) = 0 →
     wp_X0_result μ27 (fi μ27 5 4 a2) (Int64.toInt32 r6) (Int64.toInt32 r14) (fun (r36 : Int32) (μ34 : Mem) =>
     KM μ27 μ34 →
     ∃ c42 z43, c42 ≤ c ∧ z43 ≤ z ∧
     wp_X0_become c42 z43 μ34 o a1 (fi μ27 5 1 a2) (Int32.toInt64 r36) (fun (r45 : Int32) (μ41 : Mem) =>
     KM μ34 μ41 →
     post r45 μ41)))) ∧ (¬ r29 = 0 →
    post 6 μ27))) ∧ (¬ r22 = 0 →
   post 6 μ20))))
set_option maxRecDepth 100000 in
set_option maxHeartbeats 4000000 in
theorem c_X0_sum (l : Launch) (T : Tb) (B : Nat) (c z : Nat) (μ : Mem) (o : Nat) (a1 : Nat) (a2 : Nat) (post : Int32 → Mem → Prop) (hw : wp_X0_sum c z μ o a1 a2 post) : Met l yX0_sum (.code yX0_sum cX0_sum 7 (some .int) :: G) (rm_X0_sum c z) (Pm (Rl T B) T B μ [.ref o, .ref a1, .ref a2]) (va_Qi (fun r9 μ9 => post r9 μ9 ∧ KM μ μ9) (Bm (Rl T B)) (Ai B)) c z (Ai B) := by
  refine mx_of RX0 rfl (by decide) (Nat.le_of_ble_eq_true rfl) ?_
  intro p e s m below meth c0 X hr hk hnm M ls hl
  have hl : lv_has ls 7 [(0, .ref o), (1, .ref a1), (2, .ref a2)] := hl
  unfold wp_X0_sum at hw
  have hKM : KM μ μ := KM.rf μ
  have hc : 0 + c ≤ c := by omega
  have hz : 0 + z ≤ z := by omega
  refine lv_aload_n X.1 X.2.1 dX0_sum_0 rfl (lv_at hl 0 rfl) ?_
  obtain ⟨hk1, hw⟩ := hw
  obtain ⟨x2, ex2, hw⟩ := hw
  refine mx_getr (C := RX0) (F := TX0) (N := 7) (ci := 2) X M 0 rfl in_X0 (by decide) rfl (by decide) kw_207 dX0_sum_1 hk1 ?_
  rw [ex2]
  refine lv_aload_n X.1 X.2.1 dX0_sum_4 rfl (lv_at hl 1 rfl) ?_
  refine lv_aload_n X.1 X.2.1 dX0_sum_5 rfl (lv_at hl 2 rfl) ?_
  obtain ⟨hk3, hw⟩ := hw
  refine mx_geti (C := RX3) (F := TX3) (N := 7) (ci := 5) X M 2 rfl in_X3 (by decide) rfl (by decide) kw_441 dX0_sum_6 hk3 ?_
  obtain ⟨hk7, hw⟩ := hw
  have hw5 := hw
  clear hw
  refine mx_cl M (mx_runV (n := 2) (As := [.ref a1, .int (fi μ 5 2 a2)]) (rest := []) X M (c_X7_read l T B μ x2 a1 (fi μ 5 2 a2) _ hw5) (mx_recv (C := RX7) (F := TX7) (N := 8) (ci := 9) X M rfl (by decide) hk7) kw_669 kw_670 kw_671 kw_68 kw_672 (by decide +kernel) rfl rfl ⟨Nat.le_of_ble_eq_true rfl, Nat.le_of_ble_eq_true rfl⟩ rfl hl.1 (Nat.le_of_ble_eq_true rfl) dX0_sum_9 ⟨(show 0 + 0 ≤ c by omega), (show 0 + 0 ≤ z by omega)⟩) (fun r6 μ4 H locs ⟨hw, hKM4⟩ M => ?_)
  replace hw := hw hKM4
  have hKM4_ := hKM.tr hKM4
  have hk8 := hKM4.at hk1
  have hk9 := hKM4.at hk3
  have hk10 := hKM4.at hk7
  have hc : (0 + 0) + (c) ≤ c := by omega
  have hz : (0 + 0) + (z) ≤ z := by omega
  refine lv_lstore_n (lv' := [(3, .long r6), (0, .ref o), (1, .ref a1), (2, .ref a2)]) X.1 X.2.1 dX0_sum_12 rfl hl (by decide) rfl (fun ls hl => ?_)
  refine lv_aload_n X.1 X.2.1 dX0_sum_13 rfl (lv_at hl 1 rfl) ?_
  obtain ⟨x11, ex11, hw⟩ := hw
  refine mx_getr (C := RX0) (F := TX0) (N := 7) (ci := 2) X M 0 rfl in_X0 (by decide) rfl (by decide) kw_207 dX0_sum_14 hk8 ?_
  rw [ex11]
  refine lv_aload_n X.1 X.2.1 dX0_sum_17 rfl (lv_at hl 2 rfl) ?_
  refine lv_aload_n X.1 X.2.1 dX0_sum_18 rfl (lv_at hl 3 rfl) ?_
  refine mx_geti (C := RX3) (F := TX3) (N := 7) (ci := 5) X M 3 rfl in_X3 (by decide) rfl (by decide) kw_444 dX0_sum_19 hk9 ?_
  obtain ⟨hk15, hw⟩ := hw
  have hw13 := hw
  clear hw
  refine mx_cl M (mx_runV (n := 2) (As := [.ref a1, .int (fi μ4 5 3 a2)]) (rest := []) X M (c_X7_read l T B μ4 x11 a1 (fi μ4 5 3 a2) _ hw13) (mx_recv (C := RX7) (F := TX7) (N := 8) (ci := 9) X M rfl (by decide) hk15) kw_669 kw_670 kw_671 kw_68 kw_672 (by decide +kernel) rfl rfl ⟨Nat.le_of_ble_eq_true rfl, Nat.le_of_ble_eq_true rfl⟩ rfl hl.1 (Nat.le_of_ble_eq_true rfl) dX0_sum_22 ⟨(show (0 + 0) + 0 ≤ c by omega), (show (0 + 0) + 0 ≤ z by omega)⟩) (fun r14 μ12 H locs ⟨hw, hKM12⟩ M => ?_)
  replace hw := hw hKM12
  have hKM12_ := hKM4_.tr hKM12
  have hk16 := hKM12.at hk8
  have hk17 := hKM12.at hk9
  have hk18 := hKM12.at hk10
  have hk19 := hKM12.at hk15
  have hc : ((0 + 0) + 0) + (c) ≤ c := by omega
  have hz : ((0 + 0) + 0) + (z) ≤ z := by omega
  refine lv_lstore (lv' := [(5, .long r14), (3, .long r6), (0, .ref o), (1, .ref a1), (2, .ref a2)]) X.1 X.2.1 dX0_sum_25 hl (by decide) rfl (fun ls hl => ?_)
  refine lv_lload_n X.1 X.2.1 dX0_sum_27 rfl (lv_at hl 1 rfl) ?_
  have hw21 := hw
  clear hw
  refine mx_ci M (mx_runS (n := 1) (As := [.long r6]) (rest := []) X M (c_X9_isCell l T B μ12 r6 _ hw21) kw_743 kw_704 kw_86 kw_705 (by decide +kernel) rfl rfl ⟨Nat.le_of_ble_eq_true rfl, Nat.le_of_ble_eq_true rfl⟩ rfl hl.1 (Nat.le_of_ble_eq_true rfl) dX0_sum_28 ⟨(show ((0 + 0) + 0) + 0 ≤ c by omega), (show ((0 + 0) + 0) + 0 ≤ z by omega)⟩) (fun r22 μ20 H locs ⟨hw, hKM20⟩ M => ?_)
  replace hw := hw hKM20
  have hKM20_ := hKM12_.tr hKM20
  have hk23 := hKM20.at hk16
  have hk24 := hKM20.at hk17
  have hk25 := hKM20.at hk18
  have hk26 := hKM20.at hk19
  have hc : (((0 + 0) + 0) + 0) + (c) ≤ c := by omega
  have hz : (((0 + 0) + 0) + 0) + (z) ≤ z := by omega
  obtain ⟨hwf, hwt⟩ := hw
  refine lv_if_ne (tgt := 42) X.1 X.2.1 dX0_sum_31 (by decide) (fun hq => ?_) (fun hq => ?_)
  · have hw := hwt hq
    refine lv_bipush (v := 6) X.1 X.2.1 dX0_sum_42 (by decide) ?_
    exact mx_iret X hr hk M dX0_sum_44 (by omega) (by omega) ⟨hw, hKM20_⟩
  · have hw := hwf hq
    refine lv_lload X.1 X.2.1 dX0_sum_34 (lv_at hl 0 rfl) ?_
    have hw28 := hw
    clear hw
    refine mx_ci M (mx_runS (n := 1) (As := [.long r14]) (rest := []) X M (c_X9_isCell l T B μ20 r14 _ hw28) kw_743 kw_704 kw_86 kw_705 (by decide +kernel) rfl rfl ⟨Nat.le_of_ble_eq_true rfl, Nat.le_of_ble_eq_true rfl⟩ rfl hl.1 (Nat.le_of_ble_eq_true rfl) dX0_sum_36 ⟨(show (((0 + 0) + 0) + 0) + 0 ≤ c by omega), (show (((0 + 0) + 0) + 0) + 0 ≤ z by omega)⟩) (fun r29 μ27 H locs ⟨hw, hKM27⟩ M => ?_)
    replace hw := hw hKM27
    have hKM27_ := hKM20_.tr hKM27
    have hk30 := hKM27.at hk23
    have hk31 := hKM27.at hk24
    have hk32 := hKM27.at hk25
    have hk33 := hKM27.at hk26
    have hc : ((((0 + 0) + 0) + 0) + 0) + (c) ≤ c := by omega
    have hz : ((((0 + 0) + 0) + 0) + 0) + (z) ≤ z := by omega
    obtain ⟨hwt, hwf⟩ := hw
    refine lv_if_eq (tgt := 45) X.1 X.2.1 dX0_sum_39 (by decide) (fun hq => ?_) (fun hq => ?_)
    · have hw := hwt hq
      refine lv_lload X.1 X.2.1 dX0_sum_45 (lv_at hl 0 rfl) ?_
      refine lv_lconst (v := 0) X.1 X.2.1 dX0_sum_47 (by decide) ?_
      refine W.lcmp X.1 X.2.1 dX0_sum_48 ?_
      obtain ⟨hwf, hwt⟩ := hw
      refine lv_if_ne (tgt := 71) X.1 X.2.1 dX0_sum_49 (by decide) (fun hq => ?_) (fun hq => ?_)
      · have hw := hwt hq
        refine lv_aload_n X.1 X.2.1 dX0_sum_71 rfl (lv_at hl 2 rfl) ?_
        refine lv_aload_n X.1 X.2.1 dX0_sum_72 rfl (lv_at hl 3 rfl) ?_
        refine lv_aload_n X.1 X.2.1 dX0_sum_73 rfl (lv_at hl 4 rfl) ?_
        refine mx_geti (C := RX3) (F := TX3) (N := 7) (ci := 5) X M 1 rfl in_X3 (by decide) rfl (by decide) kw_438 dX0_sum_74 hk31 ?_
        refine lv_aload_n X.1 X.2.1 dX0_sum_77 rfl (lv_at hl 4 rfl) ?_
        refine mx_geti (C := RX3) (F := TX3) (N := 7) (ci := 5) X M 4 rfl in_X3 (by decide) rfl (by decide) kw_447 dX0_sum_78 hk31 ?_
        refine lv_lload_n X.1 X.2.1 dX0_sum_81 rfl (lv_at hl 1 rfl) ?_
        refine lv_l2i X.1 X.2.1 dX0_sum_82 rfl ?_
        refine lv_lload X.1 X.2.1 dX0_sum_83 (lv_at hl 0 rfl) ?_
        refine lv_l2i X.1 X.2.1 dX0_sum_85 rfl ?_
        have hw35 := hw
        clear hw
        refine mx_ci M (mx_runS (n := 3) (As := [.int (fi μ27 5 4 a2), .int (Int64.toInt32 r6), .int (Int64.toInt32 r14)]) (rest := [.int (fi μ27 5 1 a2), .ref a1, .ref o]) X M (c_X0_result l T B μ27 (fi μ27 5 4 a2) (Int64.toInt32 r6) (Int64.toInt32 r14) _ hw35) kw_744 kw_745 kw_67 kw_746 (by decide +kernel) rfl rfl ⟨Nat.le_of_ble_eq_true rfl, Nat.le_of_ble_eq_true rfl⟩ rfl hl.1 (Nat.le_of_ble_eq_true rfl) dX0_sum_86 ⟨(show ((((0 + 0) + 0) + 0) + 0) + 0 ≤ c by omega), (show ((((0 + 0) + 0) + 0) + 0) + 0 ≤ z by omega)⟩) (fun r36 μ34 H locs ⟨hw, hKM34⟩ M => ?_)
        replace hw := hw hKM34
        have hKM34_ := hKM27_.tr hKM34
        have hk37 := hKM34.at hk30
        have hk38 := hKM34.at hk31
        have hk39 := hKM34.at hk32
        have hk40 := hKM34.at hk33
        have hc : (((((0 + 0) + 0) + 0) + 0) + 0) + (c) ≤ c := by omega
        have hz : (((((0 + 0) + 0) + 0) + 0) + 0) + (z) ≤ z := by omega
        refine lv_i2l X.1 X.2.1 dX0_sum_89 rfl ?_
        obtain ⟨c42, z43, hc42, hz43, hw⟩ := hw
        have hw44 := hw
        clear hw
        refine mx_ci M (mx_runV (n := 3) (As := [.ref a1, .int (fi μ27 5 1 a2), .long (Int32.toInt64 r36)]) (rest := []) X M (c_X0_become l T B c42 z43 μ34 o a1 (fi μ27 5 1 a2) (Int32.toInt64 r36) _ hw44) (mx_recv (C := RX0) (F := TX0) (N := 7) (ci := 2) X M rfl (by decide) hk37) kw_665 kw_667 kw_12 kw_67 kw_668 (by decide +kernel) rfl rfl ⟨Nat.le_of_ble_eq_true rfl, Nat.le_of_ble_eq_true rfl⟩ rfl hl.1 (Nat.le_of_ble_eq_true rfl) dX0_sum_90 ⟨(show (((((0 + 0) + 0) + 0) + 0) + 0) + c42 ≤ c by omega), (show (((((0 + 0) + 0) + 0) + 0) + 0) + z43 ≤ z by omega)⟩) (fun r45 μ41 H locs ⟨hw, hKM41⟩ M => ?_)
        replace hw := hw hKM41
        have hKM41_ := hKM34_.tr hKM41
        have hk46 := hKM41.at hk37
        have hk47 := hKM41.at hk38
        have hk48 := hKM41.at hk39
        have hk49 := hKM41.at hk40
        have hc : ((((((0 + 0) + 0) + 0) + 0) + 0) + c42) + (c - c42) ≤ c := by omega
        have hz : ((((((0 + 0) + 0) + 0) + 0) + 0) + z43) + (z - z43) ≤ z := by omega
        exact mx_iret X hr hk M dX0_sum_93 (by omega) (by omega) ⟨hw, hKM41_⟩
      · have hw := hwf hq
        refine lv_aload_n X.1 X.2.1 dX0_sum_52 rfl (lv_at hl 4 rfl) ?_
        refine mx_geti (C := RX3) (F := TX3) (N := 7) (ci := 5) X M 4 rfl in_X3 (by decide) rfl (by decide) kw_447 dX0_sum_53 hk31 ?_
        refine lv_iconst (v := 3) X.1 X.2.1 dX0_sum_56 (by decide) ?_
        obtain ⟨hwt, hwf⟩ := hw
        refine lv_icmp_eq (tgt := 68) X.1 X.2.1 dX0_sum_57 (by decide) (fun hq => ?_) (fun hq => ?_)
        · have hw := hwt hq
          refine lv_bipush (v := 7) X.1 X.2.1 dX0_sum_68 (by decide) ?_
          exact mx_iret X hr hk M dX0_sum_70 (by omega) (by omega) ⟨hw, hKM27_⟩
        · have hw := hwf hq
          refine lv_aload_n X.1 X.2.1 dX0_sum_60 rfl (lv_at hl 4 rfl) ?_
          refine mx_geti (C := RX3) (F := TX3) (N := 7) (ci := 5) X M 4 rfl in_X3 (by decide) rfl (by decide) kw_447 dX0_sum_61 hk31 ?_
          refine lv_iconst (v := 4) X.1 X.2.1 dX0_sum_64 (by decide) ?_
          obtain ⟨hwf, hwt⟩ := hw
          refine lv_icmp_ne (tgt := 71) X.1 X.2.1 dX0_sum_65 (by decide) (fun hq => ?_) (fun hq => ?_)
          · have hw := hwt hq
            refine lv_aload_n X.1 X.2.1 dX0_sum_71 rfl (lv_at hl 2 rfl) ?_
            refine lv_aload_n X.1 X.2.1 dX0_sum_72 rfl (lv_at hl 3 rfl) ?_
            refine lv_aload_n X.1 X.2.1 dX0_sum_73 rfl (lv_at hl 4 rfl) ?_
            refine mx_geti (C := RX3) (F := TX3) (N := 7) (ci := 5) X M 1 rfl in_X3 (by decide) rfl (by decide) kw_438 dX0_sum_74 hk31 ?_
            refine lv_aload_n X.1 X.2.1 dX0_sum_77 rfl (lv_at hl 4 rfl) ?_
            refine mx_geti (C := RX3) (F := TX3) (N := 7) (ci := 5) X M 4 rfl in_X3 (by decide) rfl (by decide) kw_447 dX0_sum_78 hk31 ?_
            refine lv_lload_n X.1 X.2.1 dX0_sum_81 rfl (lv_at hl 1 rfl) ?_
            refine lv_l2i X.1 X.2.1 dX0_sum_82 rfl ?_
            refine lv_lload X.1 X.2.1 dX0_sum_83 (lv_at hl 0 rfl) ?_
            refine lv_l2i X.1 X.2.1 dX0_sum_85 rfl ?_
            have hw51 := hw
            clear hw
            refine mx_ci M (mx_runS (n := 3) (As := [.int (fi μ27 5 4 a2), .int (Int64.toInt32 r6), .int (Int64.toInt32 r14)]) (rest := [.int (fi μ27 5 1 a2), .ref a1, .ref o]) X M (c_X0_result l T B μ27 (fi μ27 5 4 a2) (Int64.toInt32 r6) (Int64.toInt32 r14) _ hw51) kw_744 kw_745 kw_67 kw_746 (by decide +kernel) rfl rfl ⟨Nat.le_of_ble_eq_true rfl, Nat.le_of_ble_eq_true rfl⟩ rfl hl.1 (Nat.le_of_ble_eq_true rfl) dX0_sum_86 ⟨(show ((((0 + 0) + 0) + 0) + 0) + 0 ≤ c by omega), (show ((((0 + 0) + 0) + 0) + 0) + 0 ≤ z by omega)⟩) (fun r52 μ50 H locs ⟨hw, hKM50⟩ M => ?_)
            replace hw := hw hKM50
            have hKM50_ := hKM27_.tr hKM50
            have hk53 := hKM50.at hk30
            have hk54 := hKM50.at hk31
            have hk55 := hKM50.at hk32
            have hk56 := hKM50.at hk33
            have hc : (((((0 + 0) + 0) + 0) + 0) + 0) + (c) ≤ c := by omega
            have hz : (((((0 + 0) + 0) + 0) + 0) + 0) + (z) ≤ z := by omega
            refine lv_i2l X.1 X.2.1 dX0_sum_89 rfl ?_
            obtain ⟨c58, z59, hc58, hz59, hw⟩ := hw
            have hw60 := hw
            clear hw
            refine mx_ci M (mx_runV (n := 3) (As := [.ref a1, .int (fi μ27 5 1 a2), .long (Int32.toInt64 r52)]) (rest := []) X M (c_X0_become l T B c58 z59 μ50 o a1 (fi μ27 5 1 a2) (Int32.toInt64 r52) _ hw60) (mx_recv (C := RX0) (F := TX0) (N := 7) (ci := 2) X M rfl (by decide) hk53) kw_665 kw_667 kw_12 kw_67 kw_668 (by decide +kernel) rfl rfl ⟨Nat.le_of_ble_eq_true rfl, Nat.le_of_ble_eq_true rfl⟩ rfl hl.1 (Nat.le_of_ble_eq_true rfl) dX0_sum_90 ⟨(show (((((0 + 0) + 0) + 0) + 0) + 0) + c58 ≤ c by omega), (show (((((0 + 0) + 0) + 0) + 0) + 0) + z59 ≤ z by omega)⟩) (fun r61 μ57 H locs ⟨hw, hKM57⟩ M => ?_)
            replace hw := hw hKM57
            have hKM57_ := hKM50_.tr hKM57
            have hk62 := hKM57.at hk53
            have hk63 := hKM57.at hk54
            have hk64 := hKM57.at hk55
            have hk65 := hKM57.at hk56
            have hc : ((((((0 + 0) + 0) + 0) + 0) + 0) + c58) + (c - c58) ≤ c := by omega
            have hz : ((((((0 + 0) + 0) + 0) + 0) + 0) + z59) + (z - z59) ≤ z := by omega
            exact mx_iret X hr hk M dX0_sum_93 (by omega) (by omega) ⟨hw, hKM57_⟩
          · have hw := hwf hq
            refine lv_bipush (v := 7) X.1 X.2.1 dX0_sum_68 (by decide) ?_
            exact mx_iret X hr hk M dX0_sum_70 (by omega) (by omega) ⟨hw, hKM27_⟩
    · have hw := hwf hq
      refine lv_bipush (v := 6) X.1 X.2.1 dX0_sum_42 (by decide) ?_
      exact mx_iret X hr hk M dX0_sum_44 (by omega) (by omega) ⟨hw, hKM27_⟩

abbrev rm_X0_holds : Room := { frames := 0, cells := 0, slots := 0, locals := 0 }
def wp_X0_holds (μ : Mem) (a1 : Int32) (a2 : Int64) (a3 : Int64) (post : Int32 → Mem → Prop) : Prop :=
  (a1 = 0 →
   (0 ≤ (lg_cmp a2 a3) →
    post 0 μ) ∧ (¬ 0 ≤ (lg_cmp a2 a3) →
    post 1 μ)) ∧
  (a1 = 1 →
   (0 < (lg_cmp a2 a3) →
    post 0 μ) ∧ (¬ 0 < (lg_cmp a2 a3) →
    post 1 μ)) ∧
  (a1 = 2 →
   ((lg_cmp a2 a3) ≤ 0 →
    post 0 μ) ∧ (¬ (lg_cmp a2 a3) ≤ 0 →
    post 1 μ)) ∧
  (a1 = 3 →
   ((lg_cmp a2 a3) < 0 →
    post 0 μ) ∧ (¬ (lg_cmp a2 a3) < 0 →
    post 1 μ)) ∧
  (a1 = 4 →
   ((lg_cmp a2 a3) = 0 →
    post 1 μ) ∧ (¬ (lg_cmp a2 a3) = 0 →
    post 0 μ)) ∧
  (¬ a1 = 0 → ¬ a1 = 1 → ¬ a1 = 2 → ¬ a1 = 3 → ¬ a1 = 4 → 
   ((lg_cmp a2 a3) = 0 →
    post 0 μ) ∧ (¬ (lg_cmp a2 a3) = 0 →
    post 1 μ))
set_option maxRecDepth 100000 in
set_option maxHeartbeats 4000000 in
theorem c_X0_holds (l : Launch) (T : Tb) (B : Nat) (μ : Mem) (a1 : Int32) (a2 : Int64) (a3 : Int64) (post : Int32 → Mem → Prop) (hw : wp_X0_holds μ a1 a2 a3 post) : Met l yX0_holds (.code yX0_holds cX0_holds 5 (some .boolean) :: G) rm_X0_holds (Pm (Rl T B) T B μ [.int a1, .long a2, .long a3]) (va_Qi (fun r9 μ9 => post r9 μ9 ∧ KM μ μ9) (Bm (Rl T B)) (Ai B)) 0 0 (Ai B) := by
  refine mx_of RX0 rfl (by decide) (Nat.le_of_ble_eq_true rfl) ?_
  intro p e s m below meth c0 X hr hk hnm M ls hl
  have hl : lv_has ls 5 [(0, .int a1), (1, .long a2), (3, .long a3)] := hl
  unfold wp_X0_holds at hw
  have hKM : KM μ μ := KM.rf μ
  refine lv_iload_n X.1 X.2.1 dX0_holds_0 rfl (lv_at hl 0 rfl) ?_
  obtain ⟨hw_0, hw_1, hw_2, hw_3, hw_4, hw_d⟩ := hw
  by_cases q_0 : a1 = 0
  · have hw := hw_0 q_0
    refine lv_tableIn (off := 35) (tgt := 36) X.1 X.2.1 dX0_holds_1 (by rw [q_0]; decide) (by rw [q_0]; decide) (by rw [q_0]; rfl) (by decide) ?_
    refine lv_lload_n X.1 X.2.1 dX0_holds_36 rfl (lv_at hl 1 rfl) ?_
    refine lv_lload_n X.1 X.2.1 dX0_holds_37 rfl (lv_at hl 2 rfl) ?_
    refine W.lcmp X.1 X.2.1 dX0_holds_38 ?_
    obtain ⟨hwt, hwf⟩ := hw
    refine lv_if_ge (tgt := 46) X.1 X.2.1 dX0_holds_39 (by decide) (fun hq => ?_) (fun hq => ?_)
    · have hw := hwt hq
      refine lv_iconst (v := 0) X.1 X.2.1 dX0_holds_46 (by decide) ?_
      exact mx_zret X hr hk M dX0_holds_47 (by decide) (by decide) (by decide) ⟨hw, hKM⟩
    · have hw := hwf hq
      refine lv_iconst (v := 1) X.1 X.2.1 dX0_holds_42 (by decide) ?_
      refine lv_goto (tgt := 47) X.1 X.2.1 dX0_holds_43 (by decide) ?_
      exact mx_zret X hr hk M dX0_holds_47 (by decide) (by decide) (by decide) ⟨hw, hKM⟩
  by_cases q_1 : a1 = 1
  · have hw := hw_1 q_1
    refine lv_tableIn (off := 47) (tgt := 48) X.1 X.2.1 dX0_holds_1 (by rw [q_1]; decide) (by rw [q_1]; decide) (by rw [q_1]; rfl) (by decide) ?_
    refine lv_lload_n X.1 X.2.1 dX0_holds_48 rfl (lv_at hl 1 rfl) ?_
    refine lv_lload_n X.1 X.2.1 dX0_holds_49 rfl (lv_at hl 2 rfl) ?_
    refine W.lcmp X.1 X.2.1 dX0_holds_50 ?_
    obtain ⟨hwt, hwf⟩ := hw
    refine lv_if_gt (tgt := 58) X.1 X.2.1 dX0_holds_51 (by decide) (fun hq => ?_) (fun hq => ?_)
    · have hw := hwt hq
      refine lv_iconst (v := 0) X.1 X.2.1 dX0_holds_58 (by decide) ?_
      exact mx_zret X hr hk M dX0_holds_59 (by decide) (by decide) (by decide) ⟨hw, hKM⟩
    · have hw := hwf hq
      refine lv_iconst (v := 1) X.1 X.2.1 dX0_holds_54 (by decide) ?_
      refine lv_goto (tgt := 59) X.1 X.2.1 dX0_holds_55 (by decide) ?_
      exact mx_zret X hr hk M dX0_holds_59 (by decide) (by decide) (by decide) ⟨hw, hKM⟩
  by_cases q_2 : a1 = 2
  · have hw := hw_2 q_2
    refine lv_tableIn (off := 59) (tgt := 60) X.1 X.2.1 dX0_holds_1 (by rw [q_2]; decide) (by rw [q_2]; decide) (by rw [q_2]; rfl) (by decide) ?_
    refine lv_lload_n X.1 X.2.1 dX0_holds_60 rfl (lv_at hl 1 rfl) ?_
    refine lv_lload_n X.1 X.2.1 dX0_holds_61 rfl (lv_at hl 2 rfl) ?_
    refine W.lcmp X.1 X.2.1 dX0_holds_62 ?_
    obtain ⟨hwt, hwf⟩ := hw
    refine lv_if_le (tgt := 70) X.1 X.2.1 dX0_holds_63 (by decide) (fun hq => ?_) (fun hq => ?_)
    · have hw := hwt hq
      refine lv_iconst (v := 0) X.1 X.2.1 dX0_holds_70 (by decide) ?_
      exact mx_zret X hr hk M dX0_holds_71 (by decide) (by decide) (by decide) ⟨hw, hKM⟩
    · have hw := hwf hq
      refine lv_iconst (v := 1) X.1 X.2.1 dX0_holds_66 (by decide) ?_
      refine lv_goto (tgt := 71) X.1 X.2.1 dX0_holds_67 (by decide) ?_
      exact mx_zret X hr hk M dX0_holds_71 (by decide) (by decide) (by decide) ⟨hw, hKM⟩
  by_cases q_3 : a1 = 3
  · have hw := hw_3 q_3
    refine lv_tableIn (off := 71) (tgt := 72) X.1 X.2.1 dX0_holds_1 (by rw [q_3]; decide) (by rw [q_3]; decide) (by rw [q_3]; rfl) (by decide) ?_
    refine lv_lload_n X.1 X.2.1 dX0_holds_72 rfl (lv_at hl 1 rfl) ?_
    refine lv_lload_n X.1 X.2.1 dX0_holds_73 rfl (lv_at hl 2 rfl) ?_
    refine W.lcmp X.1 X.2.1 dX0_holds_74 ?_
    obtain ⟨hwt, hwf⟩ := hw
    refine lv_if_lt (tgt := 82) X.1 X.2.1 dX0_holds_75 (by decide) (fun hq => ?_) (fun hq => ?_)
    · have hw := hwt hq
      refine lv_iconst (v := 0) X.1 X.2.1 dX0_holds_82 (by decide) ?_
      exact mx_zret X hr hk M dX0_holds_83 (by decide) (by decide) (by decide) ⟨hw, hKM⟩
    · have hw := hwf hq
      refine lv_iconst (v := 1) X.1 X.2.1 dX0_holds_78 (by decide) ?_
      refine lv_goto (tgt := 83) X.1 X.2.1 dX0_holds_79 (by decide) ?_
      exact mx_zret X hr hk M dX0_holds_83 (by decide) (by decide) (by decide) ⟨hw, hKM⟩
  by_cases q_4 : a1 = 4
  · have hw := hw_4 q_4
    refine lv_tableIn (off := 83) (tgt := 84) X.1 X.2.1 dX0_holds_1 (by rw [q_4]; decide) (by rw [q_4]; decide) (by rw [q_4]; rfl) (by decide) ?_
    refine lv_lload_n X.1 X.2.1 dX0_holds_84 rfl (lv_at hl 1 rfl) ?_
    refine lv_lload_n X.1 X.2.1 dX0_holds_85 rfl (lv_at hl 2 rfl) ?_
    refine W.lcmp X.1 X.2.1 dX0_holds_86 ?_
    obtain ⟨hwf, hwt⟩ := hw
    refine lv_if_ne (tgt := 94) X.1 X.2.1 dX0_holds_87 (by decide) (fun hq => ?_) (fun hq => ?_)
    · have hw := hwt hq
      refine lv_iconst (v := 0) X.1 X.2.1 dX0_holds_94 (by decide) ?_
      exact mx_zret X hr hk M dX0_holds_95 (by decide) (by decide) (by decide) ⟨hw, hKM⟩
    · have hw := hwf hq
      refine lv_iconst (v := 1) X.1 X.2.1 dX0_holds_90 (by decide) ?_
      refine lv_goto (tgt := 95) X.1 X.2.1 dX0_holds_91 (by decide) ?_
      exact mx_zret X hr hk M dX0_holds_95 (by decide) (by decide) (by decide) ⟨hw, hKM⟩
  have hw := hw_d q_0 q_1 q_2 q_3 q_4
  have g_0 := lv_neT q_0 (by decide : (0 : Int32).toInt = 0)
  have g_1 := lv_neT q_1 (by decide : (1 : Int32).toInt = 1)
  have g_2 := lv_neT q_2 (by decide : (2 : Int32).toInt = 2)
  have g_3 := lv_neT q_3 (by decide : (3 : Int32).toInt = 3)
  have g_4 := lv_neT q_4 (by decide : (4 : Int32).toInt = 4)
  refine lv_tableOut (tgt := 96) X.1 X.2.1 dX0_holds_1 (by omega) (by decide) ?_
  refine lv_lload_n X.1 X.2.1 dX0_holds_96 rfl (lv_at hl 1 rfl) ?_
  refine lv_lload_n X.1 X.2.1 dX0_holds_97 rfl (lv_at hl 2 rfl) ?_
  refine W.lcmp X.1 X.2.1 dX0_holds_98 ?_
  obtain ⟨hwt, hwf⟩ := hw
  refine lv_if_eq (tgt := 106) X.1 X.2.1 dX0_holds_99 (by decide) (fun hq => ?_) (fun hq => ?_)
  · have hw := hwt hq
    refine lv_iconst (v := 0) X.1 X.2.1 dX0_holds_106 (by decide) ?_
    exact mx_zret X hr hk M dX0_holds_107 (by decide) (by decide) (by decide) ⟨hw, hKM⟩
  · have hw := hwf hq
    refine lv_iconst (v := 1) X.1 X.2.1 dX0_holds_102 (by decide) ?_
    refine lv_goto (tgt := 107) X.1 X.2.1 dX0_holds_103 (by decide) ?_
    exact mx_zret X hr hk M dX0_holds_107 (by decide) (by decide) (by decide) ⟨hw, hKM⟩

abbrev rm_X0_compare : Room := { frames := 3, cells := 0, slots := 0, locals := 64 }
def wp_X0_compare (μ : Mem) (o : Nat) (a1 : Nat) (a2 : Nat) (post : Int32 → Mem → Prop) : Prop :=
  kd μ o = 3 ∧
  ∃ x2, fr μ 2 0 o = some x2 ∧
  kd μ a2 = 6 ∧
  kd μ x2 = 10 ∧
  wp_X7_read μ x2 a1 (fi μ 5 1 a2) (fun (r6 : Int64) (μ4 : Mem) =>
  KM μ μ4 →
  ∃ x11, fr μ4 2 0 o = some x11 ∧
  kd μ4 x11 = 10 ∧
  wp_X7_read μ4 x11 a1 (fi μ4 5 2 a2) (fun (r14 : Int64) (μ12 : Mem) =>
  KM μ4 μ12 →
  wp_X9_isCell μ12 r6 (fun (r22 : Int32) (μ20 : Mem) =>
  KM μ12 μ20 →
  (r22 = 0 →
   wp_X9_isCell μ20 r14 (fun (r29 : Int32) (μ27 : Mem) =>
   KM μ20 μ27 →
   (r29 = 0 →
    wp_X0_holds μ27 (fi μ27 5 3 a2) r6 r14 (fun (r36 : Int32) (μ34 : Mem) =>
    KM μ27 μ34 →
    (r36 = 0 →
     post 7 μ34) ∧ (¬ r36 = 0 →
     post 0 μ34))) ∧ (¬ r29 = 0 →
    post 6 μ27))) ∧ (¬ r22 = 0 →
   post 6 μ20))))
set_option maxRecDepth 100000 in
set_option maxHeartbeats 4000000 in
theorem c_X0_compare (l : Launch) (T : Tb) (B : Nat) (μ : Mem) (o : Nat) (a1 : Nat) (a2 : Nat) (post : Int32 → Mem → Prop) (hw : wp_X0_compare μ o a1 a2 post) : Met l yX0_compare (.code yX0_compare cX0_compare 7 (some .int) :: G) rm_X0_compare (Pm (Rl T B) T B μ [.ref o, .ref a1, .ref a2]) (va_Qi (fun r9 μ9 => post r9 μ9 ∧ KM μ μ9) (Bm (Rl T B)) (Ai B)) 0 0 (Ai B) := by
  refine mx_of RX0 rfl (by decide) (Nat.le_of_ble_eq_true rfl) ?_
  intro p e s m below meth c0 X hr hk hnm M ls hl
  have hl : lv_has ls 7 [(0, .ref o), (1, .ref a1), (2, .ref a2)] := hl
  unfold wp_X0_compare at hw
  have hKM : KM μ μ := KM.rf μ
  refine lv_aload_n X.1 X.2.1 dX0_compare_0 rfl (lv_at hl 0 rfl) ?_
  obtain ⟨hk1, hw⟩ := hw
  obtain ⟨x2, ex2, hw⟩ := hw
  refine mx_getr (C := RX0) (F := TX0) (N := 7) (ci := 2) X M 0 rfl in_X0 (by decide) rfl (by decide) kw_207 dX0_compare_1 hk1 ?_
  rw [ex2]
  refine lv_aload_n X.1 X.2.1 dX0_compare_4 rfl (lv_at hl 1 rfl) ?_
  refine lv_aload_n X.1 X.2.1 dX0_compare_5 rfl (lv_at hl 2 rfl) ?_
  obtain ⟨hk3, hw⟩ := hw
  refine mx_geti (C := RX3) (F := TX3) (N := 7) (ci := 5) X M 1 rfl in_X3 (by decide) rfl (by decide) kw_438 dX0_compare_6 hk3 ?_
  obtain ⟨hk7, hw⟩ := hw
  have hw5 := hw
  clear hw
  refine mx_cl M (mx_runV (n := 2) (As := [.ref a1, .int (fi μ 5 1 a2)]) (rest := []) X M (c_X7_read l T B μ x2 a1 (fi μ 5 1 a2) _ hw5) (mx_recv (C := RX7) (F := TX7) (N := 8) (ci := 9) X M rfl (by decide) hk7) kw_669 kw_670 kw_671 kw_68 kw_672 (by decide +kernel) rfl rfl ⟨Nat.le_of_ble_eq_true rfl, Nat.le_of_ble_eq_true rfl⟩ rfl hl.1 (Nat.le_of_ble_eq_true rfl) dX0_compare_9 ⟨by decide, by decide⟩) (fun r6 μ4 H locs ⟨hw, hKM4⟩ M => ?_)
  replace hw := hw hKM4
  have hKM4_ := hKM.tr hKM4
  have hk8 := hKM4.at hk1
  have hk9 := hKM4.at hk3
  have hk10 := hKM4.at hk7
  refine lv_lstore_n (lv' := [(3, .long r6), (0, .ref o), (1, .ref a1), (2, .ref a2)]) X.1 X.2.1 dX0_compare_12 rfl hl (by decide) rfl (fun ls hl => ?_)
  refine lv_aload_n X.1 X.2.1 dX0_compare_13 rfl (lv_at hl 1 rfl) ?_
  obtain ⟨x11, ex11, hw⟩ := hw
  refine mx_getr (C := RX0) (F := TX0) (N := 7) (ci := 2) X M 0 rfl in_X0 (by decide) rfl (by decide) kw_207 dX0_compare_14 hk8 ?_
  rw [ex11]
  refine lv_aload_n X.1 X.2.1 dX0_compare_17 rfl (lv_at hl 2 rfl) ?_
  refine lv_aload_n X.1 X.2.1 dX0_compare_18 rfl (lv_at hl 3 rfl) ?_
  refine mx_geti (C := RX3) (F := TX3) (N := 7) (ci := 5) X M 2 rfl in_X3 (by decide) rfl (by decide) kw_441 dX0_compare_19 hk9 ?_
  obtain ⟨hk15, hw⟩ := hw
  have hw13 := hw
  clear hw
  refine mx_cl M (mx_runV (n := 2) (As := [.ref a1, .int (fi μ4 5 2 a2)]) (rest := []) X M (c_X7_read l T B μ4 x11 a1 (fi μ4 5 2 a2) _ hw13) (mx_recv (C := RX7) (F := TX7) (N := 8) (ci := 9) X M rfl (by decide) hk15) kw_669 kw_670 kw_671 kw_68 kw_672 (by decide +kernel) rfl rfl ⟨Nat.le_of_ble_eq_true rfl, Nat.le_of_ble_eq_true rfl⟩ rfl hl.1 (Nat.le_of_ble_eq_true rfl) dX0_compare_22 ⟨by decide, by decide⟩) (fun r14 μ12 H locs ⟨hw, hKM12⟩ M => ?_)
  replace hw := hw hKM12
  have hKM12_ := hKM4_.tr hKM12
  have hk16 := hKM12.at hk8
  have hk17 := hKM12.at hk9
  have hk18 := hKM12.at hk10
  have hk19 := hKM12.at hk15
  refine lv_lstore (lv' := [(5, .long r14), (3, .long r6), (0, .ref o), (1, .ref a1), (2, .ref a2)]) X.1 X.2.1 dX0_compare_25 hl (by decide) rfl (fun ls hl => ?_)
  refine lv_lload_n X.1 X.2.1 dX0_compare_27 rfl (lv_at hl 1 rfl) ?_
  have hw21 := hw
  clear hw
  refine mx_ci M (mx_runS (n := 1) (As := [.long r6]) (rest := []) X M (c_X9_isCell l T B μ12 r6 _ hw21) kw_743 kw_704 kw_86 kw_705 (by decide +kernel) rfl rfl ⟨Nat.le_of_ble_eq_true rfl, Nat.le_of_ble_eq_true rfl⟩ rfl hl.1 (Nat.le_of_ble_eq_true rfl) dX0_compare_28 ⟨by decide, by decide⟩) (fun r22 μ20 H locs ⟨hw, hKM20⟩ M => ?_)
  replace hw := hw hKM20
  have hKM20_ := hKM12_.tr hKM20
  have hk23 := hKM20.at hk16
  have hk24 := hKM20.at hk17
  have hk25 := hKM20.at hk18
  have hk26 := hKM20.at hk19
  obtain ⟨hwf, hwt⟩ := hw
  refine lv_if_ne (tgt := 42) X.1 X.2.1 dX0_compare_31 (by decide) (fun hq => ?_) (fun hq => ?_)
  · have hw := hwt hq
    refine lv_bipush (v := 6) X.1 X.2.1 dX0_compare_42 (by decide) ?_
    exact mx_iret X hr hk M dX0_compare_44 (by decide) (by decide) ⟨hw, hKM20_⟩
  · have hw := hwf hq
    refine lv_lload X.1 X.2.1 dX0_compare_34 (lv_at hl 0 rfl) ?_
    have hw28 := hw
    clear hw
    refine mx_ci M (mx_runS (n := 1) (As := [.long r14]) (rest := []) X M (c_X9_isCell l T B μ20 r14 _ hw28) kw_743 kw_704 kw_86 kw_705 (by decide +kernel) rfl rfl ⟨Nat.le_of_ble_eq_true rfl, Nat.le_of_ble_eq_true rfl⟩ rfl hl.1 (Nat.le_of_ble_eq_true rfl) dX0_compare_36 ⟨by decide, by decide⟩) (fun r29 μ27 H locs ⟨hw, hKM27⟩ M => ?_)
    replace hw := hw hKM27
    have hKM27_ := hKM20_.tr hKM27
    have hk30 := hKM27.at hk23
    have hk31 := hKM27.at hk24
    have hk32 := hKM27.at hk25
    have hk33 := hKM27.at hk26
    obtain ⟨hwt, hwf⟩ := hw
    refine lv_if_eq (tgt := 45) X.1 X.2.1 dX0_compare_39 (by decide) (fun hq => ?_) (fun hq => ?_)
    · have hw := hwt hq
      refine lv_aload_n X.1 X.2.1 dX0_compare_45 rfl (lv_at hl 4 rfl) ?_
      refine mx_geti (C := RX3) (F := TX3) (N := 7) (ci := 5) X M 3 rfl in_X3 (by decide) rfl (by decide) kw_444 dX0_compare_46 hk31 ?_
      refine lv_lload_n X.1 X.2.1 dX0_compare_49 rfl (lv_at hl 1 rfl) ?_
      refine lv_lload X.1 X.2.1 dX0_compare_50 (lv_at hl 0 rfl) ?_
      have hw35 := hw
      clear hw
      refine mx_ci M (mx_runS (n := 3) (As := [.int (fi μ27 5 3 a2), .long r6, .long r14]) (rest := []) X M (c_X0_holds l T B μ27 (fi μ27 5 3 a2) r6 r14 _ hw35) kw_751 kw_752 kw_67 kw_753 (by decide +kernel) rfl rfl ⟨Nat.le_of_ble_eq_true rfl, Nat.le_of_ble_eq_true rfl⟩ rfl hl.1 (Nat.le_of_ble_eq_true rfl) dX0_compare_52 ⟨by decide, by decide⟩) (fun r36 μ34 H locs ⟨hw, hKM34⟩ M => ?_)
      replace hw := hw hKM34
      have hKM34_ := hKM27_.tr hKM34
      have hk37 := hKM34.at hk30
      have hk38 := hKM34.at hk31
      have hk39 := hKM34.at hk32
      have hk40 := hKM34.at hk33
      obtain ⟨hwt, hwf⟩ := hw
      refine lv_if_eq (tgt := 62) X.1 X.2.1 dX0_compare_55 (by decide) (fun hq => ?_) (fun hq => ?_)
      · have hw := hwt hq
        refine lv_bipush (v := 7) X.1 X.2.1 dX0_compare_62 (by decide) ?_
        exact mx_iret X hr hk M dX0_compare_64 (by decide) (by decide) ⟨hw, hKM34_⟩
      · have hw := hwf hq
        refine lv_iconst (v := 0) X.1 X.2.1 dX0_compare_58 (by decide) ?_
        refine lv_goto (tgt := 64) X.1 X.2.1 dX0_compare_59 (by decide) ?_
        exact mx_iret X hr hk M dX0_compare_64 (by decide) (by decide) ⟨hw, hKM34_⟩
    · have hw := hwf hq
      refine lv_bipush (v := 6) X.1 X.2.1 dX0_compare_42 (by decide) ?_
      exact mx_iret X hr hk M dX0_compare_44 (by decide) (by decide) ⟨hw, hKM27_⟩

abbrev rm_X0_leaveRedo (c z : Nat) : Room := { frames := 8, cells := c, slots := z, locals := 195 }
def wp_X0_leaveRedo (c z : Nat) (μ : Mem) (o : Nat) (a1 : Nat) (a2 : Int32) (post : Int32 → Mem → Prop) : Prop :=
  kd μ o = 3 ∧
  ∃ x2, fr μ 2 0 o = some x2 ∧
  kd μ x2 = 10 ∧
  wp_X7_hasRoom μ x2 3 (fun (r5 : Int32) (μ3 : Mem) =>
  KM μ μ3 →
  (r5 = 0 →
   post 4 μ3) ∧ (¬ r5 = 0 →
   ∃ x9, fr μ3 2 0 o = some x9 ∧
   ∃ x10, fr μ3 2 1 o = some x10 ∧
   kd μ3 x10 = 5 ∧
   wp_X2_used μ3 x10 (fun (r13 : Int32) (μ11 : Mem) =>
   KM μ3 μ11 →
   kd μ11 x9 = 10 ∧
   ∃ c19 z20, c19 ≤ c ∧ z20 ≤ z ∧
   wp_X7_pushRedo c19 z20 μ11 x9 a1 a2 r13 (fun (μ18 : Mem) =>
   KM μ11 μ18 →
   post 0 μ18))))
set_option maxRecDepth 100000 in
set_option maxHeartbeats 4000000 in
theorem c_X0_leaveRedo (l : Launch) (T : Tb) (B : Nat) (c z : Nat) (μ : Mem) (o : Nat) (a1 : Nat) (a2 : Int32) (post : Int32 → Mem → Prop) (hw : wp_X0_leaveRedo c z μ o a1 a2 post) : Met l yX0_leaveRedo (.code yX0_leaveRedo cX0_leaveRedo 3 (some .int) :: G) (rm_X0_leaveRedo c z) (Pm (Rl T B) T B μ [.ref o, .ref a1, .int a2]) (va_Qi (fun r9 μ9 => post r9 μ9 ∧ KM μ μ9) (Bm (Rl T B)) (Ai B)) c z (Ai B) := by
  refine mx_of RX0 rfl (by decide) (Nat.le_of_ble_eq_true rfl) ?_
  intro p e s m below meth c0 X hr hk hnm M ls hl
  have hl : lv_has ls 3 [(0, .ref o), (1, .ref a1), (2, .int a2)] := hl
  unfold wp_X0_leaveRedo at hw
  have hKM : KM μ μ := KM.rf μ
  have hc : 0 + c ≤ c := by omega
  have hz : 0 + z ≤ z := by omega
  refine lv_aload_n X.1 X.2.1 dX0_leaveRedo_0 rfl (lv_at hl 0 rfl) ?_
  obtain ⟨hk1, hw⟩ := hw
  obtain ⟨x2, ex2, hw⟩ := hw
  refine mx_getr (C := RX0) (F := TX0) (N := 7) (ci := 2) X M 0 rfl in_X0 (by decide) rfl (by decide) kw_207 dX0_leaveRedo_1 hk1 ?_
  rw [ex2]
  refine lv_iconst (v := 3) X.1 X.2.1 dX0_leaveRedo_4 (by decide) ?_
  obtain ⟨hk6, hw⟩ := hw
  have hw4 := hw
  clear hw
  refine mx_ci M (mx_runV (n := 1) (As := [.int 3]) (rest := []) X M (c_X7_hasRoom l T B μ x2 3 _ hw4) (mx_recv (C := RX7) (F := TX7) (N := 8) (ci := 9) X M rfl (by decide) hk6) kw_762 kw_763 kw_764 kw_68 kw_765 (by decide +kernel) rfl rfl ⟨Nat.le_of_ble_eq_true rfl, Nat.le_of_ble_eq_true rfl⟩ rfl hl.1 (Nat.le_of_ble_eq_true rfl) dX0_leaveRedo_5 ⟨(show 0 + 0 ≤ c by omega), (show 0 + 0 ≤ z by omega)⟩) (fun r5 μ3 H locs ⟨hw, hKM3⟩ M => ?_)
  replace hw := hw hKM3
  have hKM3_ := hKM.tr hKM3
  have hk7 := hKM3.at hk1
  have hk8 := hKM3.at hk6
  have hc : (0 + 0) + (c) ≤ c := by omega
  have hz : (0 + 0) + (z) ≤ z := by omega
  obtain ⟨hwf, hwt⟩ := hw
  refine lv_if_ne (tgt := 13) X.1 X.2.1 dX0_leaveRedo_8 (by decide) (fun hq => ?_) (fun hq => ?_)
  · have hw := hwt hq
    refine lv_aload_n X.1 X.2.1 dX0_leaveRedo_13 rfl (lv_at hl 0 rfl) ?_
    obtain ⟨x9, ex9, hw⟩ := hw
    refine mx_getr (C := RX0) (F := TX0) (N := 7) (ci := 2) X M 0 rfl in_X0 (by decide) rfl (by decide) kw_207 dX0_leaveRedo_14 hk7 ?_
    rw [ex9]
    refine lv_aload_n X.1 X.2.1 dX0_leaveRedo_17 rfl (lv_at hl 1 rfl) ?_
    refine lv_iload_n X.1 X.2.1 dX0_leaveRedo_18 rfl (lv_at hl 2 rfl) ?_
    refine lv_aload_n X.1 X.2.1 dX0_leaveRedo_19 rfl (lv_at hl 0 rfl) ?_
    obtain ⟨x10, ex10, hw⟩ := hw
    refine mx_getr (C := RX0) (F := TX0) (N := 7) (ci := 2) X M 1 rfl in_X0 (by decide) rfl (by decide) kw_208 dX0_leaveRedo_20 hk7 ?_
    rw [ex10]
    obtain ⟨hk14, hw⟩ := hw
    have hw12 := hw
    clear hw
    refine mx_ci M (mx_runV (n := 0) (As := []) (rest := [.int a2, .ref a1, .ref x9]) X M (c_X2_used l T B μ3 x10 _ hw12) (mx_recv (C := RX2) (F := TX2) (N := 4) (ci := 4) X M rfl (by decide) hk14) kw_766 kw_767 kw_768 kw_70 kw_769 (by decide +kernel) rfl rfl ⟨Nat.le_of_ble_eq_true rfl, Nat.le_of_ble_eq_true rfl⟩ rfl hl.1 (Nat.le_of_ble_eq_true rfl) dX0_leaveRedo_23 ⟨(show (0 + 0) + 0 ≤ c by omega), (show (0 + 0) + 0 ≤ z by omega)⟩) (fun r13 μ11 H locs ⟨hw, hKM11⟩ M => ?_)
    replace hw := hw hKM11
    have hKM11_ := hKM3_.tr hKM11
    have hk15 := hKM11.at hk7
    have hk16 := hKM11.at hk8
    have hk17 := hKM11.at hk14
    have hc : ((0 + 0) + 0) + (c) ≤ c := by omega
    have hz : ((0 + 0) + 0) + (z) ≤ z := by omega
    obtain ⟨hk22, hw⟩ := hw
    obtain ⟨c19, z20, hc19, hz20, hw⟩ := hw
    have hw21 := hw
    clear hw
    refine mx_cv M (mx_runV (n := 3) (As := [.ref a1, .int a2, .int r13]) (rest := []) X M (c_X7_pushRedo l T B c19 z20 μ11 x9 a1 a2 r13 _ hw21) (mx_recv (C := RX7) (F := TX7) (N := 8) (ci := 9) X M rfl (by decide) hk22) kw_770 kw_771 kw_772 kw_68 kw_773 (by decide +kernel) rfl rfl ⟨Nat.le_of_ble_eq_true rfl, Nat.le_of_ble_eq_true rfl⟩ rfl hl.1 (Nat.le_of_ble_eq_true rfl) dX0_leaveRedo_26 ⟨(show ((0 + 0) + 0) + c19 ≤ c by omega), (show ((0 + 0) + 0) + z20 ≤ z by omega)⟩) (fun μ18 H locs ⟨hw, hKM18⟩ M => ?_)
    replace hw := hw hKM18
    have hKM18_ := hKM11_.tr hKM18
    have hk23 := hKM18.at hk15
    have hk24 := hKM18.at hk16
    have hk25 := hKM18.at hk17
    have hk26 := hKM18.at hk22
    have hc : (((0 + 0) + 0) + c19) + (c - c19) ≤ c := by omega
    have hz : (((0 + 0) + 0) + z20) + (z - z20) ≤ z := by omega
    refine lv_iconst (v := 0) X.1 X.2.1 dX0_leaveRedo_29 (by decide) ?_
    exact mx_iret X hr hk M dX0_leaveRedo_30 (by omega) (by omega) ⟨hw, hKM18_⟩
  · have hw := hwf hq
    refine lv_iconst (v := 4) X.1 X.2.1 dX0_leaveRedo_11 (by decide) ?_
    exact mx_iret X hr hk M dX0_leaveRedo_12 (by omega) (by omega) ⟨hw, hKM3_⟩

abbrev rm_X0_call (c z : Nat) : Room := { frames := 8, cells := c, slots := z, locals := 194 }
def wp_X0_call_59 (o : Nat) (post : Int32 → Mem → Prop) : Nat → Nat → Nat → Mem → Nat → Nat → Nat → Nat → Int32 → Prop
  | 0, _, _, _, _, _, _, _, _ => False
  | n + 1, c, z, μ, x1, x2, x3, x4, x5 =>
    kd μ x3 = 8 ∧
    ((fi μ 7 2 x3) ≤ x5 →
     kd μ o = 3 ∧
     ∀ μ61 : Mem, μ61 = sfr μ 2 5 o (some x4) →
     wp_X0_go μ61 o 0 (fun (r67 : Int32) (μ65 : Mem) =>
     KM μ61 μ65 →
     post r67 μ65)) ∧ (¬ (fi μ 7 2 x3) ≤ x5 →
     kd μ x2 = 6 ∧
     ∃ x71, fr μ 5 5 x2 = some x71 ∧
     isArr (kd μ x71) ∧
     ((nI (al μ x71)) ≤ x5 →
      kd μ o = 3 ∧
      ∀ μ73 : Mem, μ73 = sfr μ 2 5 o (some x4) →
      wp_X0_go μ73 o 0 (fun (r80 : Int32) (μ78 : Mem) =>
      KM μ73 μ78 →
      post r80 μ78)) ∧ (¬ (nI (al μ x71)) ≤ x5 →
      kd μ o = 3 ∧
      ∃ x85, fr μ 2 0 o = some x85 ∧
      ∃ x86, fr μ 2 0 o = some x86 ∧
      ∃ x87, fr μ 5 5 x2 = some x87 ∧
      kd μ x87 = 102 ∧
      vp_in x5 (al μ x87) ∧
      kd μ x86 = 10 ∧
      wp_X7_read μ x86 x1 (ai μ x87 (Int32.toNatClampNeg x5)) (fun (r91 : Int64) (μ89 : Mem) =>
      KM μ μ89 →
      kd μ89 x85 = 10 ∧
      ∃ c99 z100, c99 ≤ c ∧ z100 ≤ z ∧
      wp_X7_write c99 z100 μ89 x85 x4 x5 r91 (fun (μ98 : Mem) =>
      KM μ89 μ98 →
      ∀ v109 : Int32, v109 = x5 + 1 →
      wp_X0_call_59 o post n (c - c99) (z - z100) μ98 x1 x2 x3 x4 v109))))
def wp_X0_call (c z : Nat) (μ : Mem) (o : Nat) (a1 : Nat) (a2 : Nat) (post : Int32 → Mem → Prop) : Prop :=
  kd μ a2 = 6 ∧
  ∀ r2, r2 = fr μ 5 6 a2 →
  (r2 = none →
   post 4 μ) ∧ (∀ x3, r2 = some x3 →
   kd μ o = 3 ∧
   ∃ x5, fr μ 2 0 o = some x5 ∧
   kd μ x3 = 8 ∧
   wp_X5_frameSize μ x3 (fun (r8 : Int32) (μ6 : Mem) =>
   KM μ μ6 →
   kd μ6 x5 = 10 ∧
   wp_X7_hasRoom μ6 x5 r8 (fun (r15 : Int32) (μ13 : Mem) =>
   KM μ6 μ13 →
   (r15 = 0 →
    post 4 μ13) ∧ (¬ r15 = 0 →
    ∃ x21, fr μ13 2 0 o = some x21 ∧
    kd μ13 x21 = 10 ∧
    ∃ c23 z24, c23 ≤ c ∧ z24 ≤ z ∧
    wp_X7_pushFrame c23 z24 μ13 x21 x3 (fun (r26 : Option Nat) (μ22 : Mem) =>
    KM μ13 μ22 →
    ∃ x33, r26 = some x33 ∧
    kd μ22 x33 = 4 ∧
    ∀ μ35 : Mem, μ35 = sfr μ22 3 3 x33 (some a1) →
    ∀ μ43 : Mem, μ43 = sfr μ35 3 4 x33 (some a2) →
    ∀ μ51 : Mem, μ51 = sfi μ43 3 5 x33 (fi μ43 2 6 o) →
    ∃ n110, wp_X0_call_59 o post n110 (c - c23) (z - z24) μ51 a1 a2 x3 x33 0)))))
set_option maxRecDepth 100000 in
set_option maxHeartbeats 4000000 in
theorem b_X0_call_59 {T : Tb} {B : Nat} {p : Program} {l : Launch} {e : Env} {s : State} {m : MethodId} {args : Array Value} {below : List Frame} {meth : Method} {c0 : Code} {post : Int32 → Mem → Prop} {μ0 : Mem} {o : Nat} {cT zT : Nat} (X : CX T B p m c0 cX0_call 6 s args RX0) (hr : meth.sig.returnType = (some .int)) (hk : meth.locks = false) : ∀ (n : Nat) (c z cells slots : Nat) (μ : Mem) (x1 : Nat) (x2 : Nat) (x3 : Nat) (x4 : Nat) (x5 : Int32) (H : Heap) (locs : List Loc) (ls : Array Slot), cells + c ≤ cT → slots + z ≤ zT → KM μ0 μ → wp_X0_call_59 o post n c z μ x1 x2 x3 x4 x5 → MG (Rl T B) B s μ H locs → lv_has ls 6 [(0, .ref o), (1, .ref x1), (2, .ref x2), (3, .ref x3), (4, .ref x4), (5, .int x5)] → W p l e (rm_X0_call cT zT) s m args below meth c0 H locs cells slots (MQ below (va_Qi (fun r9 μ9 => post r9 μ9 ∧ KM μ0 μ9) (Bm (Rl T B)) (Ai B)) args s cT zT (Ai B)) (F0 m 59 ls []) := by
  intro n
  induction n with
  | zero =>
    intro c z cells slots μ x1 x2 x3 x4 x5 H locs ls hc hz hKM hw
    exact hw.elim
  | succ n ih =>
    intro c z cells slots μ x1 x2 x3 x4 x5 H locs ls hc hz hKM hw M hl
    rw [wp_X0_call_59] at hw
    refine lv_iload X.1 X.2.1 dX0_call_59 (lv_at hl 5 rfl) ?_
    refine lv_aload_n X.1 X.2.1 dX0_call_61 rfl (lv_at hl 3 rfl) ?_
    obtain ⟨hk59, hw⟩ := hw
    refine mx_geti (C := RX5) (F := TX5) (N := 5) (ci := 7) X M 2 rfl in_X5 (by decide) rfl (by decide) kw_355 dX0_call_62 hk59 ?_
    obtain ⟨hwt, hwf⟩ := hw
    refine lv_icmp_ge (tgt := 110) X.1 X.2.1 dX0_call_65 (by decide) (fun hq => ?_) (fun hq => ?_)
    · have hw := hwt hq
      refine lv_aload_n X.1 X.2.1 dX0_call_110 rfl (lv_at hl 0 rfl) ?_
      refine lv_aload X.1 X.2.1 dX0_call_111 (lv_at hl 4 rfl) ?_
      obtain ⟨hk60, hw⟩ := hw
      refine my_putr (C := RX0) (F := TX0) (N := 7) (ci := 2) X M 5 rfl in_X0 tyX0 tyX0_ok nmX0 (by decide) rfl (by decide) kw_213 (Or.inl rfl) dX0_call_113 hk60 (some x4) (mq_no _ _) (mq_fo _ _) (fun μ61 H locs eμ61 M => ?_)
      replace hw := hw μ61 eμ61
      have hKM62 : KM μ0 μ61 := by rw [eμ61]; exact hKM
      have hk63 : kd μ61 x3 = 8 := by rw [eμ61]; exact hk59
      have hk64 : kd μ61 o = 3 := by rw [eμ61]; exact hk60
      refine lv_aload_n X.1 X.2.1 dX0_call_116 rfl (lv_at hl 0 rfl) ?_
      refine lv_iconst (v := 0) X.1 X.2.1 dX0_call_117 (by decide) ?_
      have hw66 := hw
      clear hw
      refine mx_ci M (mx_runV (n := 1) (As := [.int 0]) (rest := []) X M (c_X0_go l T B μ61 o 0 _ hw66) (mx_recv (C := RX0) (F := TX0) (N := 7) (ci := 2) X M rfl (by decide) hk64) kw_754 kw_756 kw_18 kw_67 kw_757 (by decide +kernel) rfl rfl ⟨Nat.le_of_ble_eq_true rfl, Nat.le_of_ble_eq_true rfl⟩ rfl hl.1 (Nat.le_of_ble_eq_true rfl) dX0_call_118 ⟨(show cells + 0 ≤ cT by omega), (show slots + 0 ≤ zT by omega)⟩) (fun r67 μ65 H locs ⟨hw, hKM65⟩ M => ?_)
      replace hw := hw hKM65
      have hKM65_ := hKM62.tr hKM65
      have hk68 := hKM65.at hk63
      have hk69 := hKM65.at hk64
      have hc : (cells + 0) + (c) ≤ cT := by omega
      have hz : (slots + 0) + (z) ≤ zT := by omega
      exact mx_iret X hr hk M dX0_call_121 (by omega) (by omega) ⟨hw, hKM65_⟩
    · have hw := hwf hq
      refine lv_iload X.1 X.2.1 dX0_call_68 (lv_at hl 5 rfl) ?_
      refine lv_aload_n X.1 X.2.1 dX0_call_70 rfl (lv_at hl 2 rfl) ?_
      obtain ⟨hk70, hw⟩ := hw
      obtain ⟨x71, ex71, hw⟩ := hw
      refine mx_getr (C := RX3) (F := TX3) (N := 7) (ci := 5) X M 5 rfl in_X3 (by decide) rfl (by decide) kw_450 dX0_call_71 hk70 ?_
      rw [ex71]
      obtain ⟨hia, hw⟩ := hw
      refine mx_len X M dX0_call_74 hia ?_
      obtain ⟨hwt, hwf⟩ := hw
      refine lv_icmp_ge (tgt := 110) X.1 X.2.1 dX0_call_75 (by decide) (fun hq => ?_) (fun hq => ?_)
      · have hw := hwt hq
        refine lv_aload_n X.1 X.2.1 dX0_call_110 rfl (lv_at hl 0 rfl) ?_
        refine lv_aload X.1 X.2.1 dX0_call_111 (lv_at hl 4 rfl) ?_
        obtain ⟨hk72, hw⟩ := hw
        refine my_putr (C := RX0) (F := TX0) (N := 7) (ci := 2) X M 5 rfl in_X0 tyX0 tyX0_ok nmX0 (by decide) rfl (by decide) kw_213 (Or.inl rfl) dX0_call_113 hk72 (some x4) (mq_no _ _) (mq_fo _ _) (fun μ73 H locs eμ73 M => ?_)
        replace hw := hw μ73 eμ73
        have hKM74 : KM μ0 μ73 := by rw [eμ73]; exact hKM
        have hk75 : kd μ73 x3 = 8 := by rw [eμ73]; exact hk59
        have hk76 : kd μ73 x2 = 6 := by rw [eμ73]; exact hk70
        have hk77 : kd μ73 o = 3 := by rw [eμ73]; exact hk72
        refine lv_aload_n X.1 X.2.1 dX0_call_116 rfl (lv_at hl 0 rfl) ?_
        refine lv_iconst (v := 0) X.1 X.2.1 dX0_call_117 (by decide) ?_
        have hw79 := hw
        clear hw
        refine mx_ci M (mx_runV (n := 1) (As := [.int 0]) (rest := []) X M (c_X0_go l T B μ73 o 0 _ hw79) (mx_recv (C := RX0) (F := TX0) (N := 7) (ci := 2) X M rfl (by decide) hk77) kw_754 kw_756 kw_18 kw_67 kw_757 (by decide +kernel) rfl rfl ⟨Nat.le_of_ble_eq_true rfl, Nat.le_of_ble_eq_true rfl⟩ rfl hl.1 (Nat.le_of_ble_eq_true rfl) dX0_call_118 ⟨(show cells + 0 ≤ cT by omega), (show slots + 0 ≤ zT by omega)⟩) (fun r80 μ78 H locs ⟨hw, hKM78⟩ M => ?_)
        replace hw := hw hKM78
        have hKM78_ := hKM74.tr hKM78
        have hk81 := hKM78.at hk75
        have hk82 := hKM78.at hk76
        have hk83 := hKM78.at hk77
        have hc : (cells + 0) + (c) ≤ cT := by omega
        have hz : (slots + 0) + (z) ≤ zT := by omega
        exact mx_iret X hr hk M dX0_call_121 (by omega) (by omega) ⟨hw, hKM78_⟩
      · have hw := hwf hq
        refine lv_aload_n X.1 X.2.1 dX0_call_78 rfl (lv_at hl 0 rfl) ?_
        obtain ⟨hk84, hw⟩ := hw
        obtain ⟨x85, ex85, hw⟩ := hw
        refine mx_getr (C := RX0) (F := TX0) (N := 7) (ci := 2) X M 0 rfl in_X0 (by decide) rfl (by decide) kw_207 dX0_call_79 hk84 ?_
        rw [ex85]
        refine lv_aload X.1 X.2.1 dX0_call_82 (lv_at hl 4 rfl) ?_
        refine lv_iload X.1 X.2.1 dX0_call_84 (lv_at hl 5 rfl) ?_
        refine lv_aload_n X.1 X.2.1 dX0_call_86 rfl (lv_at hl 0 rfl) ?_
        obtain ⟨x86, ex86, hw⟩ := hw
        refine mx_getr (C := RX0) (F := TX0) (N := 7) (ci := 2) X M 0 rfl in_X0 (by decide) rfl (by decide) kw_207 dX0_call_87 hk84 ?_
        rw [ex86]
        refine lv_aload_n X.1 X.2.1 dX0_call_90 rfl (lv_at hl 1 rfl) ?_
        refine lv_aload_n X.1 X.2.1 dX0_call_91 rfl (lv_at hl 2 rfl) ?_
        obtain ⟨x87, ex87, hw⟩ := hw
        refine mx_getr (C := RX3) (F := TX3) (N := 7) (ci := 5) X M 5 rfl in_X3 (by decide) rfl (by decide) kw_450 dX0_call_92 hk70 ?_
        rw [ex87]
        refine lv_iload X.1 X.2.1 dX0_call_95 (lv_at hl 5 rfl) ?_
        obtain ⟨hk88, hw⟩ := hw
        obtain ⟨hi, hw⟩ := hw
        refine mx_ald X M dX0_call_97 hk88 hi ?_
        obtain ⟨hk92, hw⟩ := hw
        have hw90 := hw
        clear hw
        refine mx_cl M (mx_runV (n := 2) (As := [.ref x1, .int (ai μ x87 (Int32.toNatClampNeg x5))]) (rest := [.int x5, .ref x4, .ref x85]) X M (c_X7_read l T B μ x86 x1 (ai μ x87 (Int32.toNatClampNeg x5)) _ hw90) (mx_recv (C := RX7) (F := TX7) (N := 8) (ci := 9) X M rfl (by decide) hk92) kw_669 kw_670 kw_671 kw_68 kw_672 (by decide +kernel) rfl rfl ⟨Nat.le_of_ble_eq_true rfl, Nat.le_of_ble_eq_true rfl⟩ rfl hl.1 (Nat.le_of_ble_eq_true rfl) dX0_call_98 ⟨(show cells + 0 ≤ cT by omega), (show slots + 0 ≤ zT by omega)⟩) (fun r91 μ89 H locs ⟨hw, hKM89⟩ M => ?_)
        replace hw := hw hKM89
        have hKM89_ := hKM.tr hKM89
        have hk93 := hKM89.at hk59
        have hk94 := hKM89.at hk70
        have hk95 := hKM89.at hk84
        have hk96 := hKM89.at hk88
        have hk97 := hKM89.at hk92
        have hc : (cells + 0) + (c) ≤ cT := by omega
        have hz : (slots + 0) + (z) ≤ zT := by omega
        obtain ⟨hk102, hw⟩ := hw
        obtain ⟨c99, z100, hc99, hz100, hw⟩ := hw
        have hw101 := hw
        clear hw
        refine mx_cv M (mx_runV (n := 3) (As := [.ref x4, .int x5, .long r91]) (rest := []) X M (c_X7_write l T B c99 z100 μ89 x85 x4 x5 r91 _ hw101) (mx_recv (C := RX7) (F := TX7) (N := 8) (ci := 9) X M rfl (by decide) hk102) kw_603 kw_604 kw_605 kw_68 kw_606 (by decide +kernel) rfl rfl ⟨Nat.le_of_ble_eq_true rfl, Nat.le_of_ble_eq_true rfl⟩ rfl hl.1 (Nat.le_of_ble_eq_true rfl) dX0_call_101 ⟨(show (cells + 0) + c99 ≤ cT by omega), (show (slots + 0) + z100 ≤ zT by omega)⟩) (fun μ98 H locs ⟨hw, hKM98⟩ M => ?_)
        replace hw := hw hKM98
        have hKM98_ := hKM89_.tr hKM98
        have hk103 := hKM98.at hk93
        have hk104 := hKM98.at hk94
        have hk105 := hKM98.at hk95
        have hk106 := hKM98.at hk96
        have hk107 := hKM98.at hk97
        have hk108 := hKM98.at hk102
        have hc : ((cells + 0) + c99) + (c - c99) ≤ cT := by omega
        have hz : ((slots + 0) + z100) + (z - z100) ≤ zT := by omega
        obtain ⟨v109, ev109⟩ : ∃ y : Int32, y = x5 + 1 := ⟨_, rfl⟩
        replace hw := hw v109 ev109
        refine lv_iinc (v := v109) (lv' := [(5, .int v109), (0, .ref o), (1, .ref x1), (2, .ref x2), (3, .ref x3), (4, .ref x4)]) X.1 X.2.1 dX0_call_104 hl (k := 5) rfl (by rw [ev109]; rfl) (by decide) rfl (fun ls hl => ?_)
        refine lv_goto (tgt := 59) X.1 X.2.1 dX0_call_107 (by decide) ?_
        exact ih _ _ _ _ μ98 x1 x2 x3 x4 v109 _ _ _ (by omega) (by omega) hKM98_ hw M (lv_sub hl [1, 2, 3, 4, 5, 0] rfl)
set_option maxRecDepth 100000 in
set_option maxHeartbeats 4000000 in
theorem c_X0_call (l : Launch) (T : Tb) (B : Nat) (c z : Nat) (μ : Mem) (o : Nat) (a1 : Nat) (a2 : Nat) (post : Int32 → Mem → Prop) (hw : wp_X0_call c z μ o a1 a2 post) : Met l yX0_call (.code yX0_call cX0_call 6 (some .int) :: G) (rm_X0_call c z) (Pm (Rl T B) T B μ [.ref o, .ref a1, .ref a2]) (va_Qi (fun r9 μ9 => post r9 μ9 ∧ KM μ μ9) (Bm (Rl T B)) (Ai B)) c z (Ai B) := by
  refine mx_of RX0 rfl (by decide) (Nat.le_of_ble_eq_true rfl) ?_
  intro p e s m below meth c0 X hr hk hnm M ls hl
  have hl : lv_has ls 6 [(0, .ref o), (1, .ref a1), (2, .ref a2)] := hl
  unfold wp_X0_call at hw
  have hKM : KM μ μ := KM.rf μ
  have hc : 0 + c ≤ c := by omega
  have hz : 0 + z ≤ z := by omega
  refine lv_aload_n X.1 X.2.1 dX0_call_0 rfl (lv_at hl 2 rfl) ?_
  obtain ⟨hk1, hw⟩ := hw
  refine mx_getr (C := RX3) (F := TX3) (N := 7) (ci := 5) X M 6 rfl in_X3 (by decide) rfl (by decide) kw_453 dX0_call_1 hk1 ?_
  obtain ⟨r2, er2⟩ : ∃ y, y = fr μ 5 6 a2 := ⟨_, rfl⟩
  replace hw := hw r2 er2
  rw [← er2]
  refine mq_astore_n (lv' := [(3, va_rf r2), (0, .ref o), (1, .ref a1), (2, .ref a2)]) X.1 X.2.1 dX0_call_4 rfl hl (by decide) rfl (fun ls hl => ?_)
  refine mq_aload_n X.1 X.2.1 dX0_call_5 rfl (lv_at hl 0 rfl) ?_
  obtain ⟨hwn, hws⟩ := hw
  rcases r2 with _ | x3
  · have hw := hwn rfl
    have hl : lv_has ls 6 [(3, .null), (0, .ref o), (1, .ref a1), (2, .ref a2)] := hl
    refine lv_ifnullN (tgt := 23) X.1 X.2.1 dX0_call_6 (by decide) ?_
    refine lv_iconst (v := 4) X.1 X.2.1 dX0_call_23 (by decide) ?_
    exact mx_iret X hr hk M dX0_call_24 (by omega) (by omega) ⟨hw, hKM⟩
  · have hw := hws x3 rfl
    have hl : lv_has ls 6 [(3, .ref x3), (0, .ref o), (1, .ref a1), (2, .ref a2)] := hl
    refine lv_ifnull X.1 X.2.1 dX0_call_6 ?_
    refine lv_aload_n X.1 X.2.1 dX0_call_9 rfl (lv_at hl 1 rfl) ?_
    obtain ⟨hk4, hw⟩ := hw
    obtain ⟨x5, ex5, hw⟩ := hw
    refine mx_getr (C := RX0) (F := TX0) (N := 7) (ci := 2) X M 0 rfl in_X0 (by decide) rfl (by decide) kw_207 dX0_call_10 hk4 ?_
    rw [ex5]
    refine lv_aload_n X.1 X.2.1 dX0_call_13 rfl (lv_at hl 0 rfl) ?_
    obtain ⟨hk9, hw⟩ := hw
    have hw7 := hw
    clear hw
    refine mx_ci M (mx_runV (n := 0) (As := []) (rest := [.ref x5]) X M (c_X5_frameSize l T B μ x3 _ hw7) (mx_recv (C := RX5) (F := TX5) (N := 5) (ci := 7) X M rfl (by decide) hk9) kw_810 kw_514 kw_515 kw_80 kw_516 (by decide +kernel) rfl rfl ⟨Nat.le_of_ble_eq_true rfl, Nat.le_of_ble_eq_true rfl⟩ rfl hl.1 (Nat.le_of_ble_eq_true rfl) dX0_call_14 ⟨(show 0 + 0 ≤ c by omega), (show 0 + 0 ≤ z by omega)⟩) (fun r8 μ6 H locs ⟨hw, hKM6⟩ M => ?_)
    replace hw := hw hKM6
    have hKM6_ := hKM.tr hKM6
    have hk10 := hKM6.at hk1
    have hk11 := hKM6.at hk4
    have hk12 := hKM6.at hk9
    have hc : (0 + 0) + (c) ≤ c := by omega
    have hz : (0 + 0) + (z) ≤ z := by omega
    obtain ⟨hk16, hw⟩ := hw
    have hw14 := hw
    clear hw
    refine mx_ci M (mx_runV (n := 1) (As := [.int r8]) (rest := []) X M (c_X7_hasRoom l T B μ6 x5 r8 _ hw14) (mx_recv (C := RX7) (F := TX7) (N := 8) (ci := 9) X M rfl (by decide) hk16) kw_762 kw_763 kw_764 kw_68 kw_765 (by decide +kernel) rfl rfl ⟨Nat.le_of_ble_eq_true rfl, Nat.le_of_ble_eq_true rfl⟩ rfl hl.1 (Nat.le_of_ble_eq_true rfl) dX0_call_17 ⟨(show (0 + 0) + 0 ≤ c by omega), (show (0 + 0) + 0 ≤ z by omega)⟩) (fun r15 μ13 H locs ⟨hw, hKM13⟩ M => ?_)
    replace hw := hw hKM13
    have hKM13_ := hKM6_.tr hKM13
    have hk17 := hKM13.at hk10
    have hk18 := hKM13.at hk11
    have hk19 := hKM13.at hk12
    have hk20 := hKM13.at hk16
    have hc : ((0 + 0) + 0) + (c) ≤ c := by omega
    have hz : ((0 + 0) + 0) + (z) ≤ z := by omega
    obtain ⟨hwf, hwt⟩ := hw
    refine lv_if_ne (tgt := 25) X.1 X.2.1 dX0_call_20 (by decide) (fun hq => ?_) (fun hq => ?_)
    · have hw := hwt hq
      refine lv_aload_n X.1 X.2.1 dX0_call_25 rfl (lv_at hl 1 rfl) ?_
      obtain ⟨x21, ex21, hw⟩ := hw
      refine mx_getr (C := RX0) (F := TX0) (N := 7) (ci := 2) X M 0 rfl in_X0 (by decide) rfl (by decide) kw_207 dX0_call_26 hk18 ?_
      rw [ex21]
      refine lv_aload_n X.1 X.2.1 dX0_call_29 rfl (lv_at hl 0 rfl) ?_
      obtain ⟨hk27, hw⟩ := hw
      obtain ⟨c23, z24, hc23, hz24, hw⟩ := hw
      have hw25 := hw
      clear hw
      refine mx_cq M (mx_runV (n := 1) (As := [.ref x3]) (rest := []) X M (c_X7_pushFrame l T B c23 z24 μ13 x21 x3 _ hw25) (mx_recv (C := RX7) (F := TX7) (N := 8) (ci := 9) X M rfl (by decide) hk27) kw_535 kw_536 kw_537 kw_68 kw_538 (by decide +kernel) rfl rfl ⟨Nat.le_of_ble_eq_true rfl, Nat.le_of_ble_eq_true rfl⟩ rfl hl.1 (Nat.le_of_ble_eq_true rfl) dX0_call_30 ⟨(show ((0 + 0) + 0) + c23 ≤ c by omega), (show ((0 + 0) + 0) + z24 ≤ z by omega)⟩) (fun r26 μ22 H locs ⟨hw, hKM22⟩ M => ?_)
      replace hw := hw hKM22
      have hKM22_ := hKM13_.tr hKM22
      have hk28 := hKM22.at hk17
      have hk29 := hKM22.at hk18
      have hk30 := hKM22.at hk19
      have hk31 := hKM22.at hk20
      have hk32 := hKM22.at hk27
      have hc : (((0 + 0) + 0) + c23) + (c - c23) ≤ c := by omega
      have hz : (((0 + 0) + 0) + z24) + (z - z24) ≤ z := by omega
      refine mq_astore (lv' := [(4, va_rf r26), (3, .ref x3), (0, .ref o), (1, .ref a1), (2, .ref a2)]) X.1 X.2.1 dX0_call_33 hl (by decide) rfl (fun ls hl => ?_)
      refine mq_aload X.1 X.2.1 dX0_call_35 (lv_at hl 0 rfl) ?_
      refine lv_aload_n X.1 X.2.1 dX0_call_37 rfl (lv_at hl 3 rfl) ?_
      obtain ⟨x33, ex33, hw⟩ := hw
      subst ex33
      have hl : lv_has ls 6 [(4, .ref x33), (3, .ref x3), (0, .ref o), (1, .ref a1), (2, .ref a2)] := hl
      obtain ⟨hk34, hw⟩ := hw
      refine my_putr (C := RX1) (F := TX1) (N := 7) (ci := 3) X M 3 rfl in_X1 tyX1 tyX1_ok nmX1 (by decide) rfl (by decide) kw_555 (Or.inl rfl) dX0_call_38 hk34 (some a1) (mq_no _ _) (mq_fo _ _) (fun μ35 H locs eμ35 M => ?_)
      replace hw := hw μ35 eμ35
      have hKM36 : KM μ μ35 := by rw [eμ35]; exact hKM22_
      have hk37 : kd μ35 a2 = 6 := by rw [eμ35]; exact hk28
      have hk38 : kd μ35 o = 3 := by rw [eμ35]; exact hk29
      have hk39 : kd μ35 x3 = 8 := by rw [eμ35]; exact hk30
      have hk40 : kd μ35 x5 = 10 := by rw [eμ35]; exact hk31
      have hk41 : kd μ35 x21 = 10 := by rw [eμ35]; exact hk32
      have hk42 : kd μ35 x33 = 4 := by rw [eμ35]; exact hk34
      refine lv_aload X.1 X.2.1 dX0_call_41 (lv_at hl 0 rfl) ?_
      refine lv_aload_n X.1 X.2.1 dX0_call_43 rfl (lv_at hl 4 rfl) ?_
      refine my_putr (C := RX1) (F := TX1) (N := 7) (ci := 3) X M 4 rfl in_X1 tyX1 tyX1_ok nmX1 (by decide) rfl (by decide) kw_557 (Or.inl rfl) dX0_call_44 hk42 (some a2) (mq_no _ _) (mq_fo _ _) (fun μ43 H locs eμ43 M => ?_)
      replace hw := hw μ43 eμ43
      have hKM44 : KM μ μ43 := by rw [eμ43]; exact hKM36
      have hk45 : kd μ43 a2 = 6 := by rw [eμ43]; exact hk37
      have hk46 : kd μ43 o = 3 := by rw [eμ43]; exact hk38
      have hk47 : kd μ43 x3 = 8 := by rw [eμ43]; exact hk39
      have hk48 : kd μ43 x5 = 10 := by rw [eμ43]; exact hk40
      have hk49 : kd μ43 x21 = 10 := by rw [eμ43]; exact hk41
      have hk50 : kd μ43 x33 = 4 := by rw [eμ43]; exact hk42
      refine lv_aload X.1 X.2.1 dX0_call_47 (lv_at hl 0 rfl) ?_
      refine lv_aload_n X.1 X.2.1 dX0_call_49 rfl (lv_at hl 2 rfl) ?_
      refine mx_geti (C := RX0) (F := TX0) (N := 7) (ci := 2) X M 6 rfl in_X0 (by decide) rfl (by decide) kw_214 dX0_call_50 hk46 ?_
      refine my_puti (C := RX1) (F := TX1) (N := 7) (ci := 3) X M 5 rfl in_X1 tyX1 tyX1_ok nmX1 (by decide) rfl (by decide) kw_558 (Or.inl rfl) dX0_call_53 hk50 rfl rfl (fun μ51 H locs eμ51 M => ?_)
      replace hw := hw μ51 eμ51
      have hKM52 : KM μ μ51 := by rw [eμ51]; exact hKM44
      have hk53 : kd μ51 a2 = 6 := by rw [eμ51]; exact hk45
      have hk54 : kd μ51 o = 3 := by rw [eμ51]; exact hk46
      have hk55 : kd μ51 x3 = 8 := by rw [eμ51]; exact hk47
      have hk56 : kd μ51 x5 = 10 := by rw [eμ51]; exact hk48
      have hk57 : kd μ51 x21 = 10 := by rw [eμ51]; exact hk49
      have hk58 : kd μ51 x33 = 4 := by rw [eμ51]; exact hk50
      refine lv_iconst (v := 0) X.1 X.2.1 dX0_call_56 (by decide) ?_
      refine lv_istore (lv' := [(5, .int 0), (4, .ref x33), (3, .ref x3), (0, .ref o), (1, .ref a1), (2, .ref a2)]) X.1 X.2.1 dX0_call_57 hl (by decide) rfl (fun ls hl => ?_)
      obtain ⟨n110, hw⟩ := hw
      exact b_X0_call_59 X hr hk n110 _ _ _ _ μ51 a1 a2 x3 x33 0 _ _ _ (by omega) (by omega) hKM52 hw M (lv_sub hl [3, 4, 5, 2, 1, 0] rfl)
    · have hw := hwf hq
      refine lv_iconst (v := 4) X.1 X.2.1 dX0_call_23 (by decide) ?_
      exact mx_iret X hr hk M dX0_call_24 (by omega) (by omega) ⟨hw, hKM13_⟩

abbrev rm_X0_cut : Room := { frames := 5, cells := 0, slots := 0, locals := 108 }
def wp_X0_cut (μ : Mem) (o : Nat) (a1 : Nat) (a2 : Int64) (post : Int32 → Mem → Prop) : Prop :=
  wp_X9_isCell μ a2 (fun (r3 : Int32) (μ1 : Mem) =>
  KM μ μ1 →
  (r3 = 0 →
   kd μ1 o = 3 ∧
   ∃ x5, fr μ1 2 0 o = some x5 ∧
   kd μ1 x5 = 10 ∧
   wp_X7_cutTo μ1 x5 (Int64.toInt32 a2) a1 (fun (μ6 : Mem) =>
   KM μ1 μ6 →
   post 0 μ6)) ∧ (¬ r3 = 0 →
   post 6 μ1))
set_option maxRecDepth 100000 in
set_option maxHeartbeats 4000000 in
theorem c_X0_cut (l : Launch) (T : Tb) (B : Nat) (μ : Mem) (o : Nat) (a1 : Nat) (a2 : Int64) (post : Int32 → Mem → Prop) (hw : wp_X0_cut μ o a1 a2 post) : Met l yX0_cut (.code yX0_cut cX0_cut 4 (some .int) :: G) rm_X0_cut (Pm (Rl T B) T B μ [.ref o, .ref a1, .long a2]) (va_Qi (fun r9 μ9 => post r9 μ9 ∧ KM μ μ9) (Bm (Rl T B)) (Ai B)) 0 0 (Ai B) := by
  refine mx_of RX0 rfl (by decide) (Nat.le_of_ble_eq_true rfl) ?_
  intro p e s m below meth c0 X hr hk hnm M ls hl
  have hl : lv_has ls 4 [(0, .ref o), (1, .ref a1), (2, .long a2)] := hl
  unfold wp_X0_cut at hw
  have hKM : KM μ μ := KM.rf μ
  refine lv_lload_n X.1 X.2.1 dX0_cut_0 rfl (lv_at hl 2 rfl) ?_
  have hw2 := hw
  clear hw
  refine mx_ci M (mx_runS (n := 1) (As := [.long a2]) (rest := []) X M (c_X9_isCell l T B μ a2 _ hw2) kw_743 kw_704 kw_86 kw_705 (by decide +kernel) rfl rfl ⟨Nat.le_of_ble_eq_true rfl, Nat.le_of_ble_eq_true rfl⟩ rfl hl.1 (Nat.le_of_ble_eq_true rfl) dX0_cut_1 ⟨by decide, by decide⟩) (fun r3 μ1 H locs ⟨hw, hKM1⟩ M => ?_)
  replace hw := hw hKM1
  have hKM1_ := hKM.tr hKM1
  obtain ⟨hwt, hwf⟩ := hw
  refine lv_if_eq (tgt := 10) X.1 X.2.1 dX0_cut_4 (by decide) (fun hq => ?_) (fun hq => ?_)
  · have hw := hwt hq
    refine lv_aload_n X.1 X.2.1 dX0_cut_10 rfl (lv_at hl 0 rfl) ?_
    obtain ⟨hk4, hw⟩ := hw
    obtain ⟨x5, ex5, hw⟩ := hw
    refine mx_getr (C := RX0) (F := TX0) (N := 7) (ci := 2) X M 0 rfl in_X0 (by decide) rfl (by decide) kw_207 dX0_cut_11 hk4 ?_
    rw [ex5]
    refine lv_lload_n X.1 X.2.1 dX0_cut_14 rfl (lv_at hl 2 rfl) ?_
    refine lv_l2i X.1 X.2.1 dX0_cut_15 rfl ?_
    refine lv_aload_n X.1 X.2.1 dX0_cut_16 rfl (lv_at hl 1 rfl) ?_
    obtain ⟨hk8, hw⟩ := hw
    have hw7 := hw
    clear hw
    refine mx_cv M (mx_runV (n := 2) (As := [.int (Int64.toInt32 a2), .ref a1]) (rest := []) X M (c_X7_cutTo l T B μ1 x5 (Int64.toInt32 a2) a1 _ hw7) (mx_recv (C := RX7) (F := TX7) (N := 8) (ci := 9) X M rfl (by decide) hk8) kw_815 kw_816 kw_817 kw_68 kw_818 (by decide +kernel) rfl rfl ⟨Nat.le_of_ble_eq_true rfl, Nat.le_of_ble_eq_true rfl⟩ rfl hl.1 (Nat.le_of_ble_eq_true rfl) dX0_cut_17 ⟨by decide, by decide⟩) (fun μ6 H locs ⟨hw, hKM6⟩ M => ?_)
    replace hw := hw hKM6
    have hKM6_ := hKM1_.tr hKM6
    have hk9 := hKM6.at hk4
    have hk10 := hKM6.at hk8
    refine lv_iconst (v := 0) X.1 X.2.1 dX0_cut_20 (by decide) ?_
    exact mx_iret X hr hk M dX0_cut_21 (by decide) (by decide) ⟨hw, hKM6_⟩
  · have hw := hwf hq
    refine lv_bipush (v := 6) X.1 X.2.1 dX0_cut_7 (by decide) ?_
    exact mx_iret X hr hk M dX0_cut_9 (by decide) (by decide) ⟨hw, hKM1_⟩

abbrev rm_X0_drop : Room := { frames := 5, cells := 0, slots := 0, locals := 107 }
def wp_X0_drop (μ : Mem) (o : Nat) (a1 : Int64) (post : Int32 → Mem → Prop) : Prop :=
  wp_X9_isCell μ a1 (fun (r3 : Int32) (μ1 : Mem) =>
  KM μ μ1 →
  (r3 = 0 →
   kd μ1 o = 3 ∧
   ∃ x5, fr μ1 2 0 o = some x5 ∧
   kd μ1 x5 = 10 ∧
   wp_X7_dropRedo μ1 x5 (Int64.toInt32 a1) (fun (μ6 : Mem) =>
   KM μ1 μ6 →
   post 0 μ6)) ∧ (¬ r3 = 0 →
   post 6 μ1))
set_option maxRecDepth 100000 in
set_option maxHeartbeats 4000000 in
theorem c_X0_drop (l : Launch) (T : Tb) (B : Nat) (μ : Mem) (o : Nat) (a1 : Int64) (post : Int32 → Mem → Prop) (hw : wp_X0_drop μ o a1 post) : Met l yX0_drop (.code yX0_drop cX0_drop 3 (some .int) :: G) rm_X0_drop (Pm (Rl T B) T B μ [.ref o, .long a1]) (va_Qi (fun r9 μ9 => post r9 μ9 ∧ KM μ μ9) (Bm (Rl T B)) (Ai B)) 0 0 (Ai B) := by
  refine mx_of RX0 rfl (by decide) (Nat.le_of_ble_eq_true rfl) ?_
  intro p e s m below meth c0 X hr hk hnm M ls hl
  have hl : lv_has ls 3 [(0, .ref o), (1, .long a1)] := hl
  unfold wp_X0_drop at hw
  have hKM : KM μ μ := KM.rf μ
  refine lv_lload_n X.1 X.2.1 dX0_drop_0 rfl (lv_at hl 1 rfl) ?_
  have hw2 := hw
  clear hw
  refine mx_ci M (mx_runS (n := 1) (As := [.long a1]) (rest := []) X M (c_X9_isCell l T B μ a1 _ hw2) kw_743 kw_704 kw_86 kw_705 (by decide +kernel) rfl rfl ⟨Nat.le_of_ble_eq_true rfl, Nat.le_of_ble_eq_true rfl⟩ rfl hl.1 (Nat.le_of_ble_eq_true rfl) dX0_drop_1 ⟨by decide, by decide⟩) (fun r3 μ1 H locs ⟨hw, hKM1⟩ M => ?_)
  replace hw := hw hKM1
  have hKM1_ := hKM.tr hKM1
  obtain ⟨hwt, hwf⟩ := hw
  refine lv_if_eq (tgt := 10) X.1 X.2.1 dX0_drop_4 (by decide) (fun hq => ?_) (fun hq => ?_)
  · have hw := hwt hq
    refine lv_aload_n X.1 X.2.1 dX0_drop_10 rfl (lv_at hl 0 rfl) ?_
    obtain ⟨hk4, hw⟩ := hw
    obtain ⟨x5, ex5, hw⟩ := hw
    refine mx_getr (C := RX0) (F := TX0) (N := 7) (ci := 2) X M 0 rfl in_X0 (by decide) rfl (by decide) kw_207 dX0_drop_11 hk4 ?_
    rw [ex5]
    refine lv_lload_n X.1 X.2.1 dX0_drop_14 rfl (lv_at hl 1 rfl) ?_
    refine lv_l2i X.1 X.2.1 dX0_drop_15 rfl ?_
    obtain ⟨hk8, hw⟩ := hw
    have hw7 := hw
    clear hw
    refine mx_cv M (mx_runV (n := 1) (As := [.int (Int64.toInt32 a1)]) (rest := []) X M (c_X7_dropRedo l T B μ1 x5 (Int64.toInt32 a1) _ hw7) (mx_recv (C := RX7) (F := TX7) (N := 8) (ci := 9) X M rfl (by decide) hk8) kw_824 kw_825 kw_826 kw_68 kw_827 (by decide +kernel) rfl rfl ⟨Nat.le_of_ble_eq_true rfl, Nat.le_of_ble_eq_true rfl⟩ rfl hl.1 (Nat.le_of_ble_eq_true rfl) dX0_drop_16 ⟨by decide, by decide⟩) (fun μ6 H locs ⟨hw, hKM6⟩ M => ?_)
    replace hw := hw hKM6
    have hKM6_ := hKM1_.tr hKM6
    have hk9 := hKM6.at hk4
    have hk10 := hKM6.at hk8
    refine lv_iconst (v := 0) X.1 X.2.1 dX0_drop_19 (by decide) ?_
    exact mx_iret X hr hk M dX0_drop_20 (by decide) (by decide) ⟨hw, hKM6_⟩
  · have hw := hwf hq
    refine lv_bipush (v := 6) X.1 X.2.1 dX0_drop_7 (by decide) ?_
    exact mx_iret X hr hk M dX0_drop_9 (by decide) (by decide) ⟨hw, hKM1_⟩
