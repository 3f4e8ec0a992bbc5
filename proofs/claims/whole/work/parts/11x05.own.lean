abbrev rm_X7_keepFrames : Room := { frames := 3, cells := 0, slots := 0, locals := 64 }
def wp_X7_keepFrames (μ : Mem) (o : Nat) (a1 : Int32) (post : Mem → Prop) : Prop :=
  kd μ o = 10 ∧
  wp_X10_within μ a1 (fi μ 9 1 o) (fun (r4 : Int32) (μ2 : Mem) =>
  KM μ μ2 →
  (r4 = 0 →
   post μ2) ∧ (¬ r4 = 0 →
   ∃ x6, fr μ2 9 0 o = some x6 ∧
   kd μ2 x6 = 2 ∧
   wp_Jx4a65c_size_8abf5 μ2 x6 (fun (r9 : Int32) (μ7 : Mem) =>
   KM μ2 μ7 →
   (r9 ≤ a1 →
    post μ7) ∧ (¬ r9 ≤ a1 →
    ∃ x13, fr μ7 9 4 o = some x13 ∧
    ∃ x14, fr μ7 9 0 o = some x14 ∧
    kd μ7 x14 = 2 ∧
    wp_Jx4a65c_get_915e3 μ7 x14 a1 (fun (r17 : Option Nat) (μ15 : Mem) =>
    KM μ7 μ15 →
    ∃ x21, r17 = some x21 ∧
    kd μ15 x21 = 4 ∧
    kd μ15 x13 = 7 ∧
    wp_X4_shrink μ15 x13 (fi μ15 3 2 x21) (fun (μ23 : Mem) =>
    KM μ15 μ23 →
    ∀ μ28 : Mem, μ28 = sfi μ23 9 1 o a1 →
    post μ28))))))
set_option maxRecDepth 100000 in
set_option maxHeartbeats 4000000 in
theorem c_X7_keepFrames (l : Launch) (T : Tb) (B : Nat) (μ : Mem) (o : Nat) (a1 : Int32) (post : Mem → Prop) (hw : wp_X7_keepFrames μ o a1 post) : Met l yX7_keepFrames (.code yX7_keepFrames cX7_keepFrames 2 none :: G) rm_X7_keepFrames (Pm (Rl T B) T B μ [.ref o, .int a1]) (va_Qv (fun μ9 => post μ9 ∧ KM μ μ9) (Bm (Rl T B)) (Ai B)) 0 0 (Ai B) := by
  refine mx_of RX7 rfl (by decide) (Nat.le_of_ble_eq_true rfl) ?_
  intro p e s m below meth c0 X hr hk hnm M ls hl
  have hl : lv_has ls 2 [(0, .ref o), (1, .int a1)] := hl
  unfold wp_X7_keepFrames at hw
  have hKM : KM μ μ := KM.rf μ
  refine lv_iload_n X.1 X.2.1 dX7_keepFrames_0 rfl (lv_at hl 1 rfl) ?_
  refine lv_aload_n X.1 X.2.1 dX7_keepFrames_1 rfl (lv_at hl 0 rfl) ?_
  obtain ⟨hk1, hw⟩ := hw
  refine mx_geti (C := RX7) (F := TX7) (N := 8) (ci := 9) X M 1 rfl in_X7 (by decide) rfl (by decide) kw_154 dX7_keepFrames_2 hk1 ?_
  have hw3 := hw
  clear hw
  refine mx_ci M (mx_runSN (n := 2) (As := [.int a1, .int (fi μ 9 1 o)]) (rest := []) X M (c_X10_within l T B μ a1 (fi μ 9 1 o) _ hw3) kw_510 kw_309 kw_65 kw_310 (by decide +kernel) rfl rfl ⟨Nat.le_of_ble_eq_true rfl, Nat.le_of_ble_eq_true rfl⟩ rfl hl.1 (Nat.le_of_ble_eq_true rfl) dX7_keepFrames_5 ⟨by decide, by decide⟩) (fun r4 μ2 H locs ⟨hw, hKM2⟩ M => ?_)
  replace hw := hw hKM2
  have hKM2_ := hKM.tr hKM2
  have hk5 := hKM2.at hk1
  obtain ⟨hwt, hwf⟩ := hw
  refine lv_if_eq (tgt := 48) X.1 X.2.1 dX7_keepFrames_8 (by decide) (fun hq => ?_) (fun hq => ?_)
  · have hw := hwt hq
    exact mx_vret X hr hk M dX7_keepFrames_48 (by decide) (by decide) ⟨hw, hKM2_⟩
  · have hw := hwf hq
    refine lv_iload_n X.1 X.2.1 dX7_keepFrames_11 rfl (lv_at hl 1 rfl) ?_
    refine lv_aload_n X.1 X.2.1 dX7_keepFrames_12 rfl (lv_at hl 0 rfl) ?_
    obtain ⟨x6, ex6, hw⟩ := hw
    refine mx_getr (C := RX7) (F := TX7) (N := 8) (ci := 9) X M 0 rfl in_X7 (by decide) rfl (by decide) kw_153 dX7_keepFrames_13 hk5 ?_
    rw [ex6]
    obtain ⟨hk10, hw⟩ := hw
    have hw8 := hw
    clear hw
    refine mx_ci M (mx_runV (n := 0) (As := []) (rest := [.int a1]) X M (c_Jx4a65c_size_8abf5 l T B μ2 x6 _ hw8) (mx_recv (C := RJx4a65c) (F := TJx4a65c) (N := 3) (ci := 1) X M rfl (by decide) hk10) kw_509 kw_299 kw_300 kw_68 kw_301 (by decide +kernel) rfl rfl ⟨Nat.le_of_ble_eq_true rfl, Nat.le_of_ble_eq_true rfl⟩ rfl hl.1 (Nat.le_of_ble_eq_true rfl) dX7_keepFrames_16 ⟨by decide, by decide⟩) (fun r9 μ7 H locs ⟨hw, hKM7⟩ M => ?_)
    replace hw := hw hKM7
    have hKM7_ := hKM2_.tr hKM7
    have hk11 := hKM7.at hk5
    have hk12 := hKM7.at hk10
    obtain ⟨hwt, hwf⟩ := hw
    refine lv_icmp_ge (tgt := 48) X.1 X.2.1 dX7_keepFrames_19 (by decide) (fun hq => ?_) (fun hq => ?_)
    · have hw := hwt hq
      exact mx_vret X hr hk M dX7_keepFrames_48 (by decide) (by decide) ⟨hw, hKM7_⟩
    · have hw := hwf hq
      refine lv_aload_n X.1 X.2.1 dX7_keepFrames_22 rfl (lv_at hl 0 rfl) ?_
      obtain ⟨x13, ex13, hw⟩ := hw
      refine mx_getr (C := RX7) (F := TX7) (N := 8) (ci := 9) X M 4 rfl in_X7 (by decide) rfl (by decide) kw_159 dX7_keepFrames_23 hk11 ?_
      rw [ex13]
      refine lv_aload_n X.1 X.2.1 dX7_keepFrames_26 rfl (lv_at hl 0 rfl) ?_
      obtain ⟨x14, ex14, hw⟩ := hw
      refine mx_getr (C := RX7) (F := TX7) (N := 8) (ci := 9) X M 0 rfl in_X7 (by decide) rfl (by decide) kw_153 dX7_keepFrames_27 hk11 ?_
      rw [ex14]
      refine lv_iload_n X.1 X.2.1 dX7_keepFrames_30 rfl (lv_at hl 1 rfl) ?_
      obtain ⟨hk18, hw⟩ := hw
      have hw16 := hw
      clear hw
      refine mx_cq M (mx_runV (n := 1) (As := [.int a1]) (rest := [.ref x13]) X M (c_Jx4a65c_get_915e3 l T B μ7 x14 a1 _ hw16) (mx_recv (C := RJx4a65c) (F := TJx4a65c) (N := 3) (ci := 1) X M rfl (by decide) hk18) kw_511 kw_445 kw_446 kw_68 kw_447 (by decide +kernel) rfl rfl ⟨Nat.le_of_ble_eq_true rfl, Nat.le_of_ble_eq_true rfl⟩ rfl hl.1 (Nat.le_of_ble_eq_true rfl) dX7_keepFrames_31 ⟨by decide, by decide⟩) (fun r17 μ15 H locs ⟨hw, hKM15⟩ M => ?_)
      replace hw := hw hKM15
      have hKM15_ := hKM7_.tr hKM15
      have hk19 := hKM15.at hk11
      have hk20 := hKM15.at hk18
      obtain ⟨x21, ex21, hw⟩ := hw
      subst ex21
      have hl : lv_has ls 2 [(0, .ref o), (1, .int a1)] := hl
      obtain ⟨hk22, hw⟩ := hw
      refine va_castY (C := RX1) X.1 X.2.1 X.2.2.2.1 (X.2.2.2.2.1 _ kw_512) (X.2.2.2.2.2.1.2.1 _ kw_1340) (mx_recv (C := RX1) (F := TX1) (N := 7) (ci := 3) X M rfl (by decide) hk22) dX7_keepFrames_34 ?_
      refine mx_geti (C := RX1) (F := TX1) (N := 7) (ci := 3) X M 2 rfl in_X1 (by decide) rfl (by decide) kw_523 dX7_keepFrames_37 hk22 ?_
      obtain ⟨hk25, hw⟩ := hw
      have hw24 := hw
      clear hw
      refine mx_cv M (mx_runV (n := 1) (As := [.int (fi μ15 3 2 x21)]) (rest := []) X M (c_X4_shrink l T B μ15 x13 (fi μ15 3 2 x21) _ hw24) (mx_recv (C := RX4) (F := TX4) (N := 2) (ci := 6) X M rfl (by decide) hk25) kw_495 kw_496 kw_497 kw_71 kw_498 (by decide +kernel) rfl rfl ⟨Nat.le_of_ble_eq_true rfl, Nat.le_of_ble_eq_true rfl⟩ rfl hl.1 (Nat.le_of_ble_eq_true rfl) dX7_keepFrames_40 ⟨by decide, by decide⟩) (fun μ23 H locs ⟨hw, hKM23⟩ M => ?_)
      replace hw := hw hKM23
      have hKM23_ := hKM15_.tr hKM23
      have hk26 := hKM23.at hk19
      have hk27 := hKM23.at hk25
      refine lv_aload_n X.1 X.2.1 dX7_keepFrames_43 rfl (lv_at hl 0 rfl) ?_
      refine lv_iload_n X.1 X.2.1 dX7_keepFrames_44 rfl (lv_at hl 1 rfl) ?_
      refine my_puti (C := RX7) (F := TX7) (N := 8) (ci := 9) X M 1 rfl in_X7 tyX7 tyX7_ok nmX7 (by decide) rfl (by decide) kw_154 (Or.inl rfl) dX7_keepFrames_45 hk26 rfl rfl (fun μ28 H locs eμ28 M => ?_)
      replace hw := hw μ28 eμ28
      have hKM29 : KM μ μ28 := by rw [eμ28]; exact hKM23_
      have hk30 : kd μ28 o = 10 := by rw [eμ28]; exact hk26
      exact mx_vret X hr hk M dX7_keepFrames_48 (by decide) (by decide) ⟨hw, hKM29⟩

abbrev rm_X7_cutTo : Room := { frames := 4, cells := 0, slots := 0, locals := 85 }
def wp_X7_cutTo (μ : Mem) (o : Nat) (a1 : Int32) (a2 : Nat) (post : Mem → Prop) : Prop :=
  kd μ o = 10 ∧
  ∀ μ2 : Mem, μ2 = sfi μ 9 3 o (if (if a1 < 0 then 0 else a1) < (fi μ 9 3 o) then (if a1 < 0 then 0 else a1) else (fi μ 9 3 o)) →
  wp_X7_redoAt μ2 o ((fi μ2 9 3 o) - 1) (fun (r7 : Option Nat) (μ5 : Mem) =>
  KM μ2 μ5 →
  (r7 = none →
   ∃ x10, fr μ5 9 5 o = some x10 ∧
   kd μ5 x10 = 7 ∧
   wp_X4_shrink μ5 x10 0 (fun (μ11 : Mem) =>
   KM μ5 μ11 →
   kd μ11 a2 = 4 ∧
   wp_X7_keepFrames μ11 o ((fi μ11 3 0 a2) + 1) (fun (μ17 : Mem) =>
   KM μ11 μ17 →
   post μ17))) ∧ (∀ x9, r7 = some x9 →
   kd μ5 a2 = 4 ∧
   kd μ5 x9 = 9 ∧
   wp_X7_keepFrames μ5 o (if ((fi μ5 3 0 a2) + 1) < (fi μ5 8 3 x9) then (fi μ5 8 3 x9) else ((fi μ5 3 0 a2) + 1)) (fun (μ23 : Mem) =>
   KM μ5 μ23 →
   post μ23)))
set_option maxRecDepth 100000 in
set_option maxHeartbeats 4000000 in
theorem c_X7_cutTo (l : Launch) (T : Tb) (B : Nat) (μ : Mem) (o : Nat) (a1 : Int32) (a2 : Nat) (post : Mem → Prop) (hw : wp_X7_cutTo μ o a1 a2 post) : Met l yX7_cutTo (.code yX7_cutTo cX7_cutTo 4 none :: G) rm_X7_cutTo (Pm (Rl T B) T B μ [.ref o, .int a1, .ref a2]) (va_Qv (fun μ9 => post μ9 ∧ KM μ μ9) (Bm (Rl T B)) (Ai B)) 0 0 (Ai B) := by
  refine mx_of RX7 rfl (by decide) (Nat.le_of_ble_eq_true rfl) ?_
  intro p e s m below meth c0 X hr hk hnm M ls hl
  have hl : lv_has ls 4 [(0, .ref o), (1, .int a1), (2, .ref a2)] := hl
  unfold wp_X7_cutTo at hw
  have hKM : KM μ μ := KM.rf μ
  refine lv_aload_n X.1 X.2.1 dX7_cutTo_0 rfl (lv_at hl 0 rfl) ?_
  refine lv_aload_n X.1 X.2.1 dX7_cutTo_1 rfl (lv_at hl 0 rfl) ?_
  obtain ⟨hk1, hw⟩ := hw
  refine mx_geti (C := RX7) (F := TX7) (N := 8) (ci := 9) X M 3 rfl in_X7 (by decide) rfl (by decide) kw_157 dX7_cutTo_2 hk1 ?_
  refine lv_iload_n X.1 X.2.1 dX7_cutTo_5 rfl (lv_at hl 1 rfl) ?_
  refine lv_iconst (v := 0) X.1 X.2.1 dX7_cutTo_6 (by decide) ?_
  refine my_max X kw_572 kw_280 kw_75 kw_281 hl.1 (Nat.le_of_ble_eq_true rfl) (Nat.le_of_ble_eq_true rfl) (by decide) (by decide) dX7_cutTo_7 ?_
  refine my_min X kw_789 kw_293 kw_75 kw_294 hl.1 (Nat.le_of_ble_eq_true rfl) (Nat.le_of_ble_eq_true rfl) (by decide) (by decide) dX7_cutTo_10 ?_
  refine my_puti (C := RX7) (F := TX7) (N := 8) (ci := 9) X M 3 rfl in_X7 tyX7 tyX7_ok nmX7 (by decide) rfl (by decide) kw_157 (Or.inl rfl) dX7_cutTo_13 hk1 rfl rfl (fun μ2 H locs eμ2 M => ?_)
  replace hw := hw μ2 eμ2
  have hKM3 : KM μ μ2 := by rw [eμ2]; exact hKM
  have hk4 : kd μ2 o = 10 := by rw [eμ2]; exact hk1
  refine lv_aload_n X.1 X.2.1 dX7_cutTo_16 rfl (lv_at hl 0 rfl) ?_
  refine lv_aload_n X.1 X.2.1 dX7_cutTo_17 rfl (lv_at hl 0 rfl) ?_
  refine mx_geti (C := RX7) (F := TX7) (N := 8) (ci := 9) X M 3 rfl in_X7 (by decide) rfl (by decide) kw_157 dX7_cutTo_18 hk4 ?_
  refine lv_iconst (v := 1) X.1 X.2.1 dX7_cutTo_21 (by decide) ?_
  refine lv_isub X.1 X.2.1 dX7_cutTo_22 ?_
  have hw6 := hw
  clear hw
  refine mx_cq M (mx_runV (n := 1) (As := [.int ((fi μ2 9 3 o) - 1)]) (rest := []) X M (c_X7_redoAt l T B μ2 o ((fi μ2 9 3 o) - 1) _ hw6) (mx_recv (C := RX7) (F := TX7) (N := 8) (ci := 9) X M rfl (by decide) hk4) kw_577 kw_579 kw_8 kw_70 kw_580 (by decide +kernel) rfl rfl ⟨Nat.le_of_ble_eq_true rfl, Nat.le_of_ble_eq_true rfl⟩ rfl hl.1 (Nat.le_of_ble_eq_true rfl) dX7_cutTo_23 ⟨by decide, by decide⟩) (fun r7 μ5 H locs ⟨hw, hKM5⟩ M => ?_)
  replace hw := hw hKM5
  have hKM5_ := hKM3.tr hKM5
  have hk8 := hKM5.at hk4
  refine mq_astore_n (lv' := [(3, va_rf r7), (0, .ref o), (1, .int a1), (2, .ref a2)]) X.1 X.2.1 dX7_cutTo_26 rfl hl (by decide) rfl (fun ls hl => ?_)
  refine mq_aload_n X.1 X.2.1 dX7_cutTo_27 rfl (lv_at hl 0 rfl) ?_
  obtain ⟨hwn, hws⟩ := hw
  rcases r7 with _ | x9
  · have hw := hwn rfl
    have hl : lv_has ls 4 [(3, .null), (0, .ref o), (1, .int a1), (2, .ref a2)] := hl
    refine lv_ifnonnullN X.1 X.2.1 dX7_cutTo_28 ?_
    refine lv_aload_n X.1 X.2.1 dX7_cutTo_31 rfl (lv_at hl 1 rfl) ?_
    obtain ⟨x10, ex10, hw⟩ := hw
    refine mx_getr (C := RX7) (F := TX7) (N := 8) (ci := 9) X M 5 rfl in_X7 (by decide) rfl (by decide) kw_160 dX7_cutTo_32 hk8 ?_
    rw [ex10]
    refine lv_iconst (v := 0) X.1 X.2.1 dX7_cutTo_35 (by decide) ?_
    obtain ⟨hk13, hw⟩ := hw
    have hw12 := hw
    clear hw
    refine mx_cv M (mx_runV (n := 1) (As := [.int 0]) (rest := []) X M (c_X4_shrink l T B μ5 x10 0 _ hw12) (mx_recv (C := RX4) (F := TX4) (N := 2) (ci := 6) X M rfl (by decide) hk13) kw_495 kw_496 kw_497 kw_71 kw_498 (by decide +kernel) rfl rfl ⟨Nat.le_of_ble_eq_true rfl, Nat.le_of_ble_eq_true rfl⟩ rfl hl.1 (Nat.le_of_ble_eq_true rfl) dX7_cutTo_36 ⟨by decide, by decide⟩) (fun μ11 H locs ⟨hw, hKM11⟩ M => ?_)
    replace hw := hw hKM11
    have hKM11_ := hKM5_.tr hKM11
    have hk14 := hKM11.at hk8
    have hk15 := hKM11.at hk13
    refine lv_aload_n X.1 X.2.1 dX7_cutTo_39 rfl (lv_at hl 1 rfl) ?_
    refine lv_aload_n X.1 X.2.1 dX7_cutTo_40 rfl (lv_at hl 3 rfl) ?_
    obtain ⟨hk16, hw⟩ := hw
    refine mx_geti (C := RX1) (F := TX1) (N := 7) (ci := 3) X M 0 rfl in_X1 (by decide) rfl (by decide) kw_519 dX7_cutTo_41 hk16 ?_
    refine lv_iconst (v := 1) X.1 X.2.1 dX7_cutTo_44 (by decide) ?_
    refine lv_iadd X.1 X.2.1 dX7_cutTo_45 ?_
    have hw18 := hw
    clear hw
    refine mx_cv M (mx_runV (n := 1) (As := [.int ((fi μ11 3 0 a2) + 1)]) (rest := []) X M (c_X7_keepFrames l T B μ11 o ((fi μ11 3 0 a2) + 1) _ hw18) (mx_recv (C := RX7) (F := TX7) (N := 8) (ci := 9) X M rfl (by decide) hk14) kw_606 kw_608 kw_10 kw_70 kw_609 (by decide +kernel) rfl rfl ⟨Nat.le_of_ble_eq_true rfl, Nat.le_of_ble_eq_true rfl⟩ rfl hl.1 (Nat.le_of_ble_eq_true rfl) dX7_cutTo_46 ⟨by decide, by decide⟩) (fun μ17 H locs ⟨hw, hKM17⟩ M => ?_)
    replace hw := hw hKM17
    have hKM17_ := hKM11_.tr hKM17
    have hk19 := hKM17.at hk14
    have hk20 := hKM17.at hk16
    refine lv_goto (tgt := 69) X.1 X.2.1 dX7_cutTo_49 (by decide) ?_
    exact mx_vret X hr hk M dX7_cutTo_69 (by decide) (by decide) ⟨hw, hKM17_⟩
  · have hw := hws x9 rfl
    have hl : lv_has ls 4 [(3, .ref x9), (0, .ref o), (1, .int a1), (2, .ref a2)] := hl
    refine lv_ifnonnull (tgt := 52) X.1 X.2.1 dX7_cutTo_28 (by decide) ?_
    refine lv_aload_n X.1 X.2.1 dX7_cutTo_52 rfl (lv_at hl 1 rfl) ?_
    refine lv_aload_n X.1 X.2.1 dX7_cutTo_53 rfl (lv_at hl 3 rfl) ?_
    obtain ⟨hk21, hw⟩ := hw
    refine mx_geti (C := RX1) (F := TX1) (N := 7) (ci := 3) X M 0 rfl in_X1 (by decide) rfl (by decide) kw_519 dX7_cutTo_54 hk21 ?_
    refine lv_iconst (v := 1) X.1 X.2.1 dX7_cutTo_57 (by decide) ?_
    refine lv_iadd X.1 X.2.1 dX7_cutTo_58 ?_
    refine lv_aload_n X.1 X.2.1 dX7_cutTo_59 rfl (lv_at hl 0 rfl) ?_
    obtain ⟨hk22, hw⟩ := hw
    refine mx_geti (C := RX6) (F := TX6) (N := 7) (ci := 8) X M 3 rfl in_X6 (by decide) rfl (by decide) kw_756 dX7_cutTo_60 hk22 ?_
    refine my_max X kw_572 kw_280 kw_75 kw_281 hl.1 (Nat.le_of_ble_eq_true rfl) (Nat.le_of_ble_eq_true rfl) (by decide) (by decide) dX7_cutTo_63 ?_
    have hw24 := hw
    clear hw
    refine mx_cv M (mx_runV (n := 1) (As := [.int (if ((fi μ5 3 0 a2) + 1) < (fi μ5 8 3 x9) then (fi μ5 8 3 x9) else ((fi μ5 3 0 a2) + 1))]) (rest := []) X M (c_X7_keepFrames l T B μ5 o (if ((fi μ5 3 0 a2) + 1) < (fi μ5 8 3 x9) then (fi μ5 8 3 x9) else ((fi μ5 3 0 a2) + 1)) _ hw24) (mx_recv (C := RX7) (F := TX7) (N := 8) (ci := 9) X M rfl (by decide) hk8) kw_606 kw_608 kw_10 kw_70 kw_609 (by decide +kernel) rfl rfl ⟨Nat.le_of_ble_eq_true rfl, Nat.le_of_ble_eq_true rfl⟩ rfl hl.1 (Nat.le_of_ble_eq_true rfl) dX7_cutTo_66 ⟨by decide, by decide⟩) (fun μ23 H locs ⟨hw, hKM23⟩ M => ?_)
    replace hw := hw hKM23
    have hKM23_ := hKM5_.tr hKM23
    have hk25 := hKM23.at hk8
    have hk26 := hKM23.at hk21
    have hk27 := hKM23.at hk22
    exact mx_vret X hr hk M dX7_cutTo_69 (by decide) (by decide) ⟨hw, hKM23_⟩

abbrev rm_X7_dropRedo : Room := { frames := 4, cells := 0, slots := 0, locals := 85 }
def wp_X7_dropRedo (μ : Mem) (o : Nat) (a1 : Int32) (post : Mem → Prop) : Prop :=
  kd μ o = 10 ∧
  wp_X7_redoAt μ o a1 (fun (r3 : Option Nat) (μ1 : Mem) =>
  KM μ μ1 →
  (r3 = none →
   post μ1) ∧ (∀ x6, r3 = some x6 →
   kd μ1 x6 = 9 ∧
   ∀ μ8 : Mem, μ8 = sfi μ1 8 2 x6 1 →
   post μ8))
set_option maxRecDepth 100000 in
set_option maxHeartbeats 4000000 in
theorem c_X7_dropRedo (l : Launch) (T : Tb) (B : Nat) (μ : Mem) (o : Nat) (a1 : Int32) (post : Mem → Prop) (hw : wp_X7_dropRedo μ o a1 post) : Met l yX7_dropRedo (.code yX7_dropRedo cX7_dropRedo 3 none :: G) rm_X7_dropRedo (Pm (Rl T B) T B μ [.ref o, .int a1]) (va_Qv (fun μ9 => post μ9 ∧ KM μ μ9) (Bm (Rl T B)) (Ai B)) 0 0 (Ai B) := by
  refine mx_of RX7 rfl (by decide) (Nat.le_of_ble_eq_true rfl) ?_
  intro p e s m below meth c0 X hr hk hnm M ls hl
  have hl : lv_has ls 3 [(0, .ref o), (1, .int a1)] := hl
  unfold wp_X7_dropRedo at hw
  have hKM : KM μ μ := KM.rf μ
  refine lv_aload_n X.1 X.2.1 dX7_dropRedo_0 rfl (lv_at hl 0 rfl) ?_
  refine lv_iload_n X.1 X.2.1 dX7_dropRedo_1 rfl (lv_at hl 1 rfl) ?_
  obtain ⟨hk4, hw⟩ := hw
  have hw2 := hw
  clear hw
  refine mx_cq M (mx_runV (n := 1) (As := [.int a1]) (rest := []) X M (c_X7_redoAt l T B μ o a1 _ hw2) (mx_recv (C := RX7) (F := TX7) (N := 8) (ci := 9) X M rfl (by decide) hk4) kw_577 kw_579 kw_8 kw_70 kw_580 (by decide +kernel) rfl rfl ⟨Nat.le_of_ble_eq_true rfl, Nat.le_of_ble_eq_true rfl⟩ rfl hl.1 (Nat.le_of_ble_eq_true rfl) dX7_dropRedo_2 ⟨by decide, by decide⟩) (fun r3 μ1 H locs ⟨hw, hKM1⟩ M => ?_)
  replace hw := hw hKM1
  have hKM1_ := hKM.tr hKM1
  have hk5 := hKM1.at hk4
  refine mq_astore_n (lv' := [(2, va_rf r3), (0, .ref o), (1, .int a1)]) X.1 X.2.1 dX7_dropRedo_5 rfl hl (by decide) rfl (fun ls hl => ?_)
  refine mq_aload_n X.1 X.2.1 dX7_dropRedo_6 rfl (lv_at hl 0 rfl) ?_
  obtain ⟨hwn, hws⟩ := hw
  rcases r3 with _ | x6
  · have hw := hwn rfl
    have hl : lv_has ls 3 [(2, .null), (0, .ref o), (1, .int a1)] := hl
    refine lv_ifnullN (tgt := 15) X.1 X.2.1 dX7_dropRedo_7 (by decide) ?_
    exact mx_vret X hr hk M dX7_dropRedo_15 (by decide) (by decide) ⟨hw, hKM1_⟩
  · have hw := hws x6 rfl
    have hl : lv_has ls 3 [(2, .ref x6), (0, .ref o), (1, .int a1)] := hl
    refine lv_ifnull X.1 X.2.1 dX7_dropRedo_7 ?_
    refine lv_aload_n X.1 X.2.1 dX7_dropRedo_10 rfl (lv_at hl 0 rfl) ?_
    refine lv_iconst (v := 1) X.1 X.2.1 dX7_dropRedo_11 (by decide) ?_
    obtain ⟨hk7, hw⟩ := hw
    refine my_puti (C := RX6) (F := TX6) (N := 7) (ci := 8) X M 2 rfl in_X6 tyX6 tyX6_ok nmX6 (by decide) rfl (by decide) kw_754 (Or.inl rfl) dX7_dropRedo_12 hk7 (by decide) (by decide) (fun μ8 H locs eμ8 M => ?_)
    replace hw := hw μ8 eμ8
    have hKM9 : KM μ μ8 := by rw [eμ8]; exact hKM1_
    have hk10 : kd μ8 o = 10 := by rw [eμ8]; exact hk5
    have hk11 : kd μ8 x6 = 9 := by rw [eμ8]; exact hk7
    exact mx_vret X hr hk M dX7_dropRedo_15 (by decide) (by decide) ⟨hw, hKM9⟩

abbrev rm_X7_leave : Room := { frames := 4, cells := 0, slots := 0, locals := 85 }
def wp_X7_leave_31 (o : Nat) (post : Mem → Prop) (μ : Mem) (x1 : Nat) (t0 : Int32) : Prop :=
  kd μ x1 = 4 ∧
  kd μ o = 10 ∧
  ((fi μ 3 0 x1) = ((fi μ 9 1 o) - 1) →
   (t0 = 0 →
    wp_X7_keepFrames μ o (fi μ 3 0 x1) (fun (μ9 : Mem) =>
    KM μ μ9 →
    post μ9)) ∧ (¬ t0 = 0 →
    post μ)) ∧ (¬ (fi μ 3 0 x1) = ((fi μ 9 1 o) - 1) →
   post μ)
def wp_X7_leave (μ : Mem) (o : Nat) (a1 : Nat) (post : Mem → Prop) : Prop :=
  kd μ o = 10 ∧
  wp_X7_redoAt μ o ((fi μ 9 3 o) - 1) (fun (r4 : Option Nat) (μ2 : Mem) =>
  KM μ μ2 →
  (r4 = none →
   wp_X7_leave_31 o post μ2 a1 0) ∧ (∀ x6, r4 = some x6 →
   kd μ2 x6 = 9 ∧
   kd μ2 a1 = 4 ∧
   ((fi μ2 8 3 x6) ≤ (fi μ2 3 0 a1) →
    wp_X7_leave_31 o post μ2 a1 0) ∧ (¬ (fi μ2 8 3 x6) ≤ (fi μ2 3 0 a1) →
    wp_X7_leave_31 o post μ2 a1 1)))
set_option maxRecDepth 100000 in
set_option maxHeartbeats 4000000 in
theorem b_X7_leave_31 {T : Tb} {B : Nat} {p : Program} {l : Launch} {e : Env} {s : State} {m : MethodId} {args : Array Value} {below : List Frame} {meth : Method} {c0 : Code} {post : Mem → Prop} {μ0 : Mem} {o : Nat} (X : CX T B p m c0 cX7_leave 4 s args RX7) (hr : meth.sig.returnType = none) (hk : meth.locks = false) : ∀ (μ : Mem) (x1 : Nat) (t0 : Int32) (H : Heap) (locs : List Loc) (ls : Array Slot), KM μ0 μ → wp_X7_leave_31 o post μ x1 t0 → MG (Rl T B) B s μ H locs → lv_has ls 4 [(0, .ref o), (1, .ref x1)] → W p l e rm_X7_leave s m args below meth c0 H locs 0 0 (MQ below (va_Qv (fun μ9 => post μ9 ∧ KM μ0 μ9) (Bm (Rl T B)) (Ai B)) args s 0 0 (Ai B)) (F0 m 31 ls [.int t0]) := by
  intro μ x1 t0 H locs ls hKM hw M hl
  unfold wp_X7_leave_31 at hw
  refine lv_istore_n (lv' := [(3, .int t0), (0, .ref o), (1, .ref x1)]) X.1 X.2.1 dX7_leave_31 rfl hl (by decide) rfl (fun ls hl => ?_)
  refine lv_aload_n X.1 X.2.1 dX7_leave_32 rfl (lv_at hl 2 rfl) ?_
  obtain ⟨hk7, hw⟩ := hw
  refine mx_geti (C := RX1) (F := TX1) (N := 7) (ci := 3) X M 0 rfl in_X1 (by decide) rfl (by decide) kw_519 dX7_leave_33 hk7 ?_
  refine lv_aload_n X.1 X.2.1 dX7_leave_36 rfl (lv_at hl 1 rfl) ?_
  obtain ⟨hk8, hw⟩ := hw
  refine mx_geti (C := RX7) (F := TX7) (N := 8) (ci := 9) X M 1 rfl in_X7 (by decide) rfl (by decide) kw_154 dX7_leave_37 hk8 ?_
  refine lv_iconst (v := 1) X.1 X.2.1 dX7_leave_40 (by decide) ?_
  refine lv_isub X.1 X.2.1 dX7_leave_41 ?_
  obtain ⟨hwf, hwt⟩ := hw
  refine lv_icmp_ne (tgt := 57) X.1 X.2.1 dX7_leave_42 (by decide) (fun hq => ?_) (fun hq => ?_)
  · have hw := hwt hq
    exact mx_vret X hr hk M dX7_leave_57 (by decide) (by decide) ⟨hw, hKM⟩
  · have hw := hwf hq
    refine lv_iload_n X.1 X.2.1 dX7_leave_45 rfl (lv_at hl 0 rfl) ?_
    obtain ⟨hwf, hwt⟩ := hw
    refine lv_if_ne (tgt := 57) X.1 X.2.1 dX7_leave_46 (by decide) (fun hq => ?_) (fun hq => ?_)
    · have hw := hwt hq
      exact mx_vret X hr hk M dX7_leave_57 (by decide) (by decide) ⟨hw, hKM⟩
    · have hw := hwf hq
      refine lv_aload_n X.1 X.2.1 dX7_leave_49 rfl (lv_at hl 1 rfl) ?_
      refine lv_aload_n X.1 X.2.1 dX7_leave_50 rfl (lv_at hl 2 rfl) ?_
      refine mx_geti (C := RX1) (F := TX1) (N := 7) (ci := 3) X M 0 rfl in_X1 (by decide) rfl (by decide) kw_519 dX7_leave_51 hk7 ?_
      have hw10 := hw
      clear hw
      refine mx_cv M (mx_runV (n := 1) (As := [.int (fi μ 3 0 x1)]) (rest := []) X M (c_X7_keepFrames l T B μ o (fi μ 3 0 x1) _ hw10) (mx_recv (C := RX7) (F := TX7) (N := 8) (ci := 9) X M rfl (by decide) hk8) kw_606 kw_608 kw_10 kw_70 kw_609 (by decide +kernel) rfl rfl ⟨Nat.le_of_ble_eq_true rfl, Nat.le_of_ble_eq_true rfl⟩ rfl hl.1 (Nat.le_of_ble_eq_true rfl) dX7_leave_54 ⟨by decide, by decide⟩) (fun μ9 H locs ⟨hw, hKM9⟩ M => ?_)
      replace hw := hw hKM9
      have hKM9_ := hKM.tr hKM9
      have hk11 := hKM9.at hk7
      have hk12 := hKM9.at hk8
      exact mx_vret X hr hk M dX7_leave_57 (by decide) (by decide) ⟨hw, hKM9_⟩
set_option maxRecDepth 100000 in
set_option maxHeartbeats 4000000 in
theorem c_X7_leave (l : Launch) (T : Tb) (B : Nat) (μ : Mem) (o : Nat) (a1 : Nat) (post : Mem → Prop) (hw : wp_X7_leave μ o a1 post) : Met l yX7_leave (.code yX7_leave cX7_leave 4 none :: G) rm_X7_leave (Pm (Rl T B) T B μ [.ref o, .ref a1]) (va_Qv (fun μ9 => post μ9 ∧ KM μ μ9) (Bm (Rl T B)) (Ai B)) 0 0 (Ai B) := by
  refine mx_of RX7 rfl (by decide) (Nat.le_of_ble_eq_true rfl) ?_
  intro p e s m below meth c0 X hr hk hnm M ls hl
  have hl : lv_has ls 4 [(0, .ref o), (1, .ref a1)] := hl
  unfold wp_X7_leave at hw
  have hKM : KM μ μ := KM.rf μ
  refine lv_aload_n X.1 X.2.1 dX7_leave_0 rfl (lv_at hl 0 rfl) ?_
  refine lv_aload_n X.1 X.2.1 dX7_leave_1 rfl (lv_at hl 0 rfl) ?_
  obtain ⟨hk1, hw⟩ := hw
  refine mx_geti (C := RX7) (F := TX7) (N := 8) (ci := 9) X M 3 rfl in_X7 (by decide) rfl (by decide) kw_157 dX7_leave_2 hk1 ?_
  refine lv_iconst (v := 1) X.1 X.2.1 dX7_leave_5 (by decide) ?_
  refine lv_isub X.1 X.2.1 dX7_leave_6 ?_
  have hw3 := hw
  clear hw
  refine mx_cq M (mx_runV (n := 1) (As := [.int ((fi μ 9 3 o) - 1)]) (rest := []) X M (c_X7_redoAt l T B μ o ((fi μ 9 3 o) - 1) _ hw3) (mx_recv (C := RX7) (F := TX7) (N := 8) (ci := 9) X M rfl (by decide) hk1) kw_577 kw_579 kw_8 kw_70 kw_580 (by decide +kernel) rfl rfl ⟨Nat.le_of_ble_eq_true rfl, Nat.le_of_ble_eq_true rfl⟩ rfl hl.1 (Nat.le_of_ble_eq_true rfl) dX7_leave_7 ⟨by decide, by decide⟩) (fun r4 μ2 H locs ⟨hw, hKM2⟩ M => ?_)
  replace hw := hw hKM2
  have hKM2_ := hKM.tr hKM2
  have hk5 := hKM2.at hk1
  refine mq_astore_n (lv' := [(2, va_rf r4), (0, .ref o), (1, .ref a1)]) X.1 X.2.1 dX7_leave_10 rfl hl (by decide) rfl (fun ls hl => ?_)
  refine mq_aload_n X.1 X.2.1 dX7_leave_11 rfl (lv_at hl 0 rfl) ?_
  obtain ⟨hwn, hws⟩ := hw
  rcases r4 with _ | x6
  · have hw := hwn rfl
    have hl : lv_has ls 4 [(2, .null), (0, .ref o), (1, .ref a1)] := hl
    refine lv_ifnullN (tgt := 30) X.1 X.2.1 dX7_leave_12 (by decide) ?_
    refine lv_iconst (v := 0) X.1 X.2.1 dX7_leave_30 (by decide) ?_
    exact b_X7_leave_31 X hr hk μ2 a1 0 _ _ _ hKM2_ hw M (lv_sub hl [1, 2] rfl)
  · have hw := hws x6 rfl
    have hl : lv_has ls 4 [(2, .ref x6), (0, .ref o), (1, .ref a1)] := hl
    refine lv_ifnull X.1 X.2.1 dX7_leave_12 ?_
    refine lv_aload_n X.1 X.2.1 dX7_leave_15 rfl (lv_at hl 0 rfl) ?_
    obtain ⟨hk13, hw⟩ := hw
    refine mx_geti (C := RX6) (F := TX6) (N := 7) (ci := 8) X M 3 rfl in_X6 (by decide) rfl (by decide) kw_756 dX7_leave_16 hk13 ?_
    refine lv_aload_n X.1 X.2.1 dX7_leave_19 rfl (lv_at hl 2 rfl) ?_
    obtain ⟨hk14, hw⟩ := hw
    refine mx_geti (C := RX1) (F := TX1) (N := 7) (ci := 3) X M 0 rfl in_X1 (by decide) rfl (by decide) kw_519 dX7_leave_20 hk14 ?_
    obtain ⟨hwt, hwf⟩ := hw
    refine lv_icmp_le (tgt := 30) X.1 X.2.1 dX7_leave_23 (by decide) (fun hq => ?_) (fun hq => ?_)
    · have hw := hwt hq
      refine lv_iconst (v := 0) X.1 X.2.1 dX7_leave_30 (by decide) ?_
      exact b_X7_leave_31 X hr hk μ2 a1 0 _ _ _ hKM2_ hw M (lv_sub hl [1, 2] rfl)
    · have hw := hwf hq
      refine lv_iconst (v := 1) X.1 X.2.1 dX7_leave_26 (by decide) ?_
      refine lv_goto (tgt := 31) X.1 X.2.1 dX7_leave_27 (by decide) ?_
      exact b_X7_leave_31 X hr hk μ2 a1 1 _ _ _ hKM2_ hw M (lv_sub hl [1, 2] rfl)

abbrev rm_X7_popRedo : Room := { frames := 4, cells := 0, slots := 0, locals := 85 }
def wp_X7_popRedo (μ : Mem) (o : Nat) (post : Option Nat → Mem → Prop) : Prop :=
  kd μ o = 10 ∧
  wp_X7_redoAt μ o ((fi μ 9 3 o) - 1) (fun (r4 : Option Nat) (μ2 : Mem) =>
  KM μ μ2 →
  (r4 = none →
   post none μ2) ∧ (∀ x6, r4 = some x6 →
   ∀ μ7 : Mem, μ7 = sfi μ2 9 3 o ((fi μ2 9 3 o) - 1) →
   kd μ7 x6 = 9 ∧
   wp_X7_keepFrames μ7 o (fi μ7 8 3 x6) (fun (μ11 : Mem) =>
   KM μ7 μ11 →
   post (some x6) μ11)))
set_option maxRecDepth 100000 in
set_option maxHeartbeats 4000000 in
theorem c_X7_popRedo (l : Launch) (T : Tb) (B : Nat) (μ : Mem) (o : Nat) (post : Option Nat → Mem → Prop) (hw : wp_X7_popRedo μ o post) : Met l yX7_popRedo (.code yX7_popRedo cX7_popRedo 2 (some (.object "RedoMachine$Redo")) :: G) rm_X7_popRedo (Pm (Rl T B) T B μ [.ref o]) (va_Qq (fun r9 μ9 => post r9 μ9 ∧ KM μ μ9) (Bm (Rl T B)) (Ai B)) 0 0 (Ai B) := by
  refine mx_of RX7 rfl (by decide) (Nat.le_of_ble_eq_true rfl) ?_
  intro p e s m below meth c0 X hr hk hnm M ls hl
  have hl : lv_has ls 2 [(0, .ref o)] := hl
  unfold wp_X7_popRedo at hw
  have hKM : KM μ μ := KM.rf μ
  refine lv_aload_n X.1 X.2.1 dX7_popRedo_0 rfl (lv_at hl 0 rfl) ?_
  refine lv_aload_n X.1 X.2.1 dX7_popRedo_1 rfl (lv_at hl 0 rfl) ?_
  obtain ⟨hk1, hw⟩ := hw
  refine mx_geti (C := RX7) (F := TX7) (N := 8) (ci := 9) X M 3 rfl in_X7 (by decide) rfl (by decide) kw_157 dX7_popRedo_2 hk1 ?_
  refine lv_iconst (v := 1) X.1 X.2.1 dX7_popRedo_5 (by decide) ?_
  refine lv_isub X.1 X.2.1 dX7_popRedo_6 ?_
  have hw3 := hw
  clear hw
  refine mx_cq M (mx_runV (n := 1) (As := [.int ((fi μ 9 3 o) - 1)]) (rest := []) X M (c_X7_redoAt l T B μ o ((fi μ 9 3 o) - 1) _ hw3) (mx_recv (C := RX7) (F := TX7) (N := 8) (ci := 9) X M rfl (by decide) hk1) kw_577 kw_579 kw_8 kw_70 kw_580 (by decide +kernel) rfl rfl ⟨Nat.le_of_ble_eq_true rfl, Nat.le_of_ble_eq_true rfl⟩ rfl hl.1 (Nat.le_of_ble_eq_true rfl) dX7_popRedo_7 ⟨by decide, by decide⟩) (fun r4 μ2 H locs ⟨hw, hKM2⟩ M => ?_)
  replace hw := hw hKM2
  have hKM2_ := hKM.tr hKM2
  have hk5 := hKM2.at hk1
  refine mq_astore_n (lv' := [(1, va_rf r4), (0, .ref o)]) X.1 X.2.1 dX7_popRedo_10 rfl hl (by decide) rfl (fun ls hl => ?_)
  refine mq_aload_n X.1 X.2.1 dX7_popRedo_11 rfl (lv_at hl 0 rfl) ?_
  obtain ⟨hwn, hws⟩ := hw
  rcases r4 with _ | x6
  · have hw := hwn rfl
    have hl : lv_has ls 2 [(1, .null), (0, .ref o)] := hl
    refine lv_ifnullN (tgt := 33) X.1 X.2.1 dX7_popRedo_12 (by decide) ?_
    refine lv_aload_nN X.1 X.2.1 dX7_popRedo_33 rfl (lv_at hl 0 rfl) ?_
    exact mx_aret (r := none) X hr (Or.inl ⟨_, rfl⟩) hk M dX7_popRedo_34 (by decide) (by decide) ⟨hw, hKM2_⟩
  · have hw := hws x6 rfl
    have hl : lv_has ls 2 [(1, .ref x6), (0, .ref o)] := hl
    refine lv_ifnull X.1 X.2.1 dX7_popRedo_12 ?_
    refine lv_aload_n X.1 X.2.1 dX7_popRedo_15 rfl (lv_at hl 1 rfl) ?_
    refine lv_dup X.1 X.2.1 dX7_popRedo_16 rfl ?_
    refine mx_geti (C := RX7) (F := TX7) (N := 8) (ci := 9) X M 3 rfl in_X7 (by decide) rfl (by decide) kw_157 dX7_popRedo_17 hk5 ?_
    refine lv_iconst (v := 1) X.1 X.2.1 dX7_popRedo_20 (by decide) ?_
    refine lv_isub X.1 X.2.1 dX7_popRedo_21 ?_
    refine my_puti (C := RX7) (F := TX7) (N := 8) (ci := 9) X M 3 rfl in_X7 tyX7 tyX7_ok nmX7 (by decide) rfl (by decide) kw_157 (Or.inl rfl) dX7_popRedo_22 hk5 rfl rfl (fun μ7 H locs eμ7 M => ?_)
    replace hw := hw μ7 eμ7
    have hKM8 : KM μ μ7 := by rw [eμ7]; exact hKM2_
    have hk9 : kd μ7 o = 10 := by rw [eμ7]; exact hk5
    refine lv_aload_n X.1 X.2.1 dX7_popRedo_25 rfl (lv_at hl 1 rfl) ?_
    refine lv_aload_n X.1 X.2.1 dX7_popRedo_26 rfl (lv_at hl 0 rfl) ?_
    obtain ⟨hk10, hw⟩ := hw
    refine mx_geti (C := RX6) (F := TX6) (N := 7) (ci := 8) X M 3 rfl in_X6 (by decide) rfl (by decide) kw_756 dX7_popRedo_27 hk10 ?_
    have hw12 := hw
    clear hw
    refine mx_cv M (mx_runV (n := 1) (As := [.int (fi μ7 8 3 x6)]) (rest := []) X M (c_X7_keepFrames l T B μ7 o (fi μ7 8 3 x6) _ hw12) (mx_recv (C := RX7) (F := TX7) (N := 8) (ci := 9) X M rfl (by decide) hk9) kw_606 kw_608 kw_10 kw_70 kw_609 (by decide +kernel) rfl rfl ⟨Nat.le_of_ble_eq_true rfl, Nat.le_of_ble_eq_true rfl⟩ rfl hl.1 (Nat.le_of_ble_eq_true rfl) dX7_popRedo_30 ⟨by decide, by decide⟩) (fun μ11 H locs ⟨hw, hKM11⟩ M => ?_)
    replace hw := hw hKM11
    have hKM11_ := hKM8.tr hKM11
    have hk13 := hKM11.at hk9
    have hk14 := hKM11.at hk10
    refine lv_aload_n X.1 X.2.1 dX7_popRedo_33 rfl (lv_at hl 0 rfl) ?_
    exact mx_aret (r := (some x6)) X hr (Or.inl ⟨_, rfl⟩) hk M dX7_popRedo_34 (by decide) (by decide) ⟨hw, hKM11_⟩

abbrev rm_X7_goBackTo : Room := { frames := 3, cells := 0, slots := 0, locals := 64 }
def wp_X7_goBackTo_8 (o : Nat) (post : Mem → Prop) : Nat → Mem → Nat → Int32 → Prop
  | 0, _, _, _ => False
  | n + 1, μ, x1, x2 =>
    kd μ x1 = 9 ∧
    (x2 ≤ (fi μ 8 5 x1) →
     post μ) ∧ (¬ x2 ≤ (fi μ 8 5 x1) →
     kd μ o = 10 ∧
     ∃ x11, fr μ 9 5 o = some x11 ∧
     kd μ x11 = 7 ∧
     wp_X4_pop μ x11 (fun (r14 : Int64) (μ12 : Mem) =>
     KM μ μ12 →
     ∃ x19, fr μ12 9 4 o = some x19 ∧
     kd μ12 x19 = 7 ∧
     wp_X4_set μ12 x19 (Int64.toInt32 (r14 &&& 65535)) (r14 >>> (Int32.toInt64 16 &&& 63)) (fun (μ20 : Mem) =>
     KM μ12 μ20 →
     ∀ v26 : Int32, v26 = x2 + (-1) →
     wp_X7_goBackTo_8 o post n μ20 x1 v26)))
def wp_X7_goBackTo (μ : Mem) (o : Nat) (a1 : Nat) (post : Mem → Prop) : Prop :=
  kd μ o = 10 ∧
  ∃ x2, fr μ 9 5 o = some x2 ∧
  kd μ x2 = 7 ∧
  wp_X4_size μ x2 (fun (r5 : Int32) (μ3 : Mem) =>
  KM μ μ3 →
  ∃ n27, wp_X7_goBackTo_8 o post n27 μ3 a1 r5)
set_option maxRecDepth 100000 in
set_option maxHeartbeats 4000000 in
theorem b_X7_goBackTo_8 {T : Tb} {B : Nat} {p : Program} {l : Launch} {e : Env} {s : State} {m : MethodId} {args : Array Value} {below : List Frame} {meth : Method} {c0 : Code} {post : Mem → Prop} {μ0 : Mem} {o : Nat} (X : CX T B p m c0 cX7_goBackTo 5 s args RX7) (hr : meth.sig.returnType = none) (hk : meth.locks = false) : ∀ (n : Nat) (μ : Mem) (x1 : Nat) (x2 : Int32) (H : Heap) (locs : List Loc) (ls : Array Slot), KM μ0 μ → wp_X7_goBackTo_8 o post n μ x1 x2 → MG (Rl T B) B s μ H locs → lv_has ls 5 [(0, .ref o), (1, .ref x1), (2, .int x2)] → W p l e rm_X7_goBackTo s m args below meth c0 H locs 0 0 (MQ below (va_Qv (fun μ9 => post μ9 ∧ KM μ0 μ9) (Bm (Rl T B)) (Ai B)) args s 0 0 (Ai B)) (F0 m 8 ls []) := by
  intro n
  induction n with
  | zero =>
    intro μ x1 x2 H locs ls hKM hw
    exact hw.elim
  | succ n ih =>
    intro μ x1 x2 H locs ls hKM hw M hl
    rw [wp_X7_goBackTo_8] at hw
    refine lv_iload_n X.1 X.2.1 dX7_goBackTo_8 rfl (lv_at hl 2 rfl) ?_
    refine lv_aload_n X.1 X.2.1 dX7_goBackTo_9 rfl (lv_at hl 1 rfl) ?_
    obtain ⟨hk9, hw⟩ := hw
    refine mx_geti (C := RX6) (F := TX6) (N := 7) (ci := 8) X M 5 rfl in_X6 (by decide) rfl (by decide) kw_758 dX7_goBackTo_10 hk9 ?_
    obtain ⟨hwt, hwf⟩ := hw
    refine lv_icmp_le (tgt := 47) X.1 X.2.1 dX7_goBackTo_13 (by decide) (fun hq => ?_) (fun hq => ?_)
    · have hw := hwt hq
      exact mx_vret X hr hk M dX7_goBackTo_47 (by decide) (by decide) ⟨hw, hKM⟩
    · have hw := hwf hq
      refine lv_aload_n X.1 X.2.1 dX7_goBackTo_16 rfl (lv_at hl 0 rfl) ?_
      obtain ⟨hk10, hw⟩ := hw
      obtain ⟨x11, ex11, hw⟩ := hw
      refine mx_getr (C := RX7) (F := TX7) (N := 8) (ci := 9) X M 5 rfl in_X7 (by decide) rfl (by decide) kw_160 dX7_goBackTo_17 hk10 ?_
      rw [ex11]
      obtain ⟨hk15, hw⟩ := hw
      have hw13 := hw
      clear hw
      refine mx_cl M (mx_runV (n := 0) (As := []) (rest := []) X M (c_X4_pop l T B μ x11 _ hw13) (mx_recv (C := RX4) (F := TX4) (N := 2) (ci := 6) X M rfl (by decide) hk15) kw_614 kw_615 kw_616 kw_71 kw_617 (by decide +kernel) rfl rfl ⟨Nat.le_of_ble_eq_true rfl, Nat.le_of_ble_eq_true rfl⟩ rfl hl.1 (Nat.le_of_ble_eq_true rfl) dX7_goBackTo_20 ⟨by decide, by decide⟩) (fun r14 μ12 H locs ⟨hw, hKM12⟩ M => ?_)
      replace hw := hw hKM12
      have hKM12_ := hKM.tr hKM12
      have hk16 := hKM12.at hk9
      have hk17 := hKM12.at hk10
      have hk18 := hKM12.at hk15
      refine lv_lstore_n (lv' := [(3, .long r14), (0, .ref o), (1, .ref x1), (2, .int x2)]) X.1 X.2.1 dX7_goBackTo_23 rfl hl (by decide) rfl (fun ls hl => ?_)
      refine lv_aload_n X.1 X.2.1 dX7_goBackTo_24 rfl (lv_at hl 1 rfl) ?_
      obtain ⟨x19, ex19, hw⟩ := hw
      refine mx_getr (C := RX7) (F := TX7) (N := 8) (ci := 9) X M 4 rfl in_X7 (by decide) rfl (by decide) kw_159 dX7_goBackTo_25 hk17 ?_
      rw [ex19]
      refine lv_lload_n X.1 X.2.1 dX7_goBackTo_28 rfl (lv_at hl 0 rfl) ?_
      refine lv_ldc2 (v := 65535) X.1 X.2.1 X.2.2.2.1 (X.2.2.2.2.1 _ kw_620) dX7_goBackTo_29 ?_
      refine lv_land X.1 X.2.1 dX7_goBackTo_32 ?_
      refine lv_l2i X.1 X.2.1 dX7_goBackTo_33 rfl ?_
      refine lv_lload_n X.1 X.2.1 dX7_goBackTo_34 rfl (lv_at hl 0 rfl) ?_
      refine lv_bipush (v := 16) X.1 X.2.1 dX7_goBackTo_35 (by decide) ?_
      refine lv_lshr X.1 X.2.1 dX7_goBackTo_37 rfl ?_
      obtain ⟨hk22, hw⟩ := hw
      have hw21 := hw
      clear hw
      refine mx_cv M (mx_runV (n := 2) (As := [.int (Int64.toInt32 (r14 &&& 65535)), .long (r14 >>> (Int32.toInt64 16 &&& 63))]) (rest := []) X M (c_X4_set l T B μ12 x19 (Int64.toInt32 (r14 &&& 65535)) (r14 >>> (Int32.toInt64 16 &&& 63)) _ hw21) (mx_recv (C := RX4) (F := TX4) (N := 2) (ci := 6) X M rfl (by decide) hk22) kw_586 kw_587 kw_588 kw_71 kw_589 (by decide +kernel) rfl rfl ⟨Nat.le_of_ble_eq_true rfl, Nat.le_of_ble_eq_true rfl⟩ rfl hl.1 (Nat.le_of_ble_eq_true rfl) dX7_goBackTo_38 ⟨by decide, by decide⟩) (fun μ20 H locs ⟨hw, hKM20⟩ M => ?_)
      replace hw := hw hKM20
      have hKM20_ := hKM12_.tr hKM20
      have hk23 := hKM20.at hk16
      have hk24 := hKM20.at hk17
      have hk25 := hKM20.at hk22
      obtain ⟨v26, ev26⟩ : ∃ y : Int32, y = x2 + (-1) := ⟨_, rfl⟩
      replace hw := hw v26 ev26
      refine lv_iinc (v := v26) (lv' := [(2, .int v26), (3, .long r14), (0, .ref o), (1, .ref x1)]) X.1 X.2.1 dX7_goBackTo_41 hl (k := 3) rfl (by rw [ev26]; rfl) (by decide) rfl (fun ls hl => ?_)
      refine lv_goto (tgt := 8) X.1 X.2.1 dX7_goBackTo_44 (by decide) ?_
      exact ih μ20 x1 v26 _ _ _ hKM20_ hw M (lv_sub hl [2, 3, 0] rfl)
set_option maxRecDepth 100000 in
set_option maxHeartbeats 4000000 in
theorem c_X7_goBackTo (l : Launch) (T : Tb) (B : Nat) (μ : Mem) (o : Nat) (a1 : Nat) (post : Mem → Prop) (hw : wp_X7_goBackTo μ o a1 post) : Met l yX7_goBackTo (.code yX7_goBackTo cX7_goBackTo 5 none :: G) rm_X7_goBackTo (Pm (Rl T B) T B μ [.ref o, .ref a1]) (va_Qv (fun μ9 => post μ9 ∧ KM μ μ9) (Bm (Rl T B)) (Ai B)) 0 0 (Ai B) := by
  refine mx_of RX7 rfl (by decide) (Nat.le_of_ble_eq_true rfl) ?_
  intro p e s m below meth c0 X hr hk hnm M ls hl
  have hl : lv_has ls 5 [(0, .ref o), (1, .ref a1)] := hl
  unfold wp_X7_goBackTo at hw
  have hKM : KM μ μ := KM.rf μ
  refine lv_aload_n X.1 X.2.1 dX7_goBackTo_0 rfl (lv_at hl 0 rfl) ?_
  obtain ⟨hk1, hw⟩ := hw
  obtain ⟨x2, ex2, hw⟩ := hw
  refine mx_getr (C := RX7) (F := TX7) (N := 8) (ci := 9) X M 5 rfl in_X7 (by decide) rfl (by decide) kw_160 dX7_goBackTo_1 hk1 ?_
  rw [ex2]
  obtain ⟨hk6, hw⟩ := hw
  have hw4 := hw
  clear hw
  refine mx_ci M (mx_runV (n := 0) (As := []) (rest := []) X M (c_X4_size l T B μ x2 _ hw4) (mx_recv (C := RX4) (F := TX4) (N := 2) (ci := 6) X M rfl (by decide) hk6) kw_547 kw_548 kw_549 kw_71 kw_550 (by decide +kernel) rfl rfl ⟨Nat.le_of_ble_eq_true rfl, Nat.le_of_ble_eq_true rfl⟩ rfl hl.1 (Nat.le_of_ble_eq_true rfl) dX7_goBackTo_4 ⟨by decide, by decide⟩) (fun r5 μ3 H locs ⟨hw, hKM3⟩ M => ?_)
  replace hw := hw hKM3
  have hKM3_ := hKM.tr hKM3
  have hk7 := hKM3.at hk1
  have hk8 := hKM3.at hk6
  refine lv_istore_n (lv' := [(2, .int r5), (0, .ref o), (1, .ref a1)]) X.1 X.2.1 dX7_goBackTo_7 rfl hl (by decide) rfl (fun ls hl => ?_)
  obtain ⟨n27, hw⟩ := hw
  exact b_X7_goBackTo_8 X hr hk n27 μ3 a1 r5 _ _ _ hKM3_ hw M (lv_sub hl [1, 2, 0] rfl)

abbrev rm_X0_init (c z : Nat) : Room := { frames := 5, cells := c, slots := z, locals := 100 }
def wp_X0_init (c z : Nat) (μ : Mem) (o : Nat) (post : Mem → Prop) : Prop :=
  1 ≤ c ∧ 8 ≤ z ∧ ∀ (q1 : Nat) (μ2 : Mem), kd μ q1 = 0 → μ2 = nob μ 9 q1 →
  ∃ c6 z7, c6 ≤ c - 1 ∧ z7 ≤ z - 8 ∧
  wp_X7_init c6 z7 μ2 q1 (fun (μ5 : Mem) =>
  KM μ2 μ5 →
  kd μ5 o = 3 ∧
  ∀ μ11 : Mem, μ11 = sfr μ5 2 0 o (some q1) →
  1 ≤ (c - 1) - c6 ∧ 4 ≤ (z - 8) - z7 ∧ ∀ (q15 : Nat) (μ16 : Mem), kd μ11 q15 = 0 → μ16 = nob μ11 4 q15 →
  ∃ c21 z22, c21 ≤ ((c - 1) - c6) - 1 ∧ z22 ≤ ((z - 8) - z7) - 4 ∧
  wp_X2_init c21 z22 μ16 q15 (fun (μ20 : Mem) =>
  KM μ16 μ20 →
  ∀ μ26 : Mem, μ26 = sfr μ20 2 1 o (some q15) →
  ∀ μ30 : Mem, μ30 = sfi μ26 2 2 o (-1) →
  post μ30))
set_option maxRecDepth 100000 in
set_option maxHeartbeats 4000000 in
theorem c_X0_init (l : Launch) (T : Tb) (B : Nat) (c z : Nat) (μ : Mem) (o : Nat) (post : Mem → Prop) (hw : wp_X0_init c z μ o post) : Met l yX0_init (.code yX0_init cX0_init 1 none :: G) (rm_X0_init c z) (Pm (Rl T B) T B μ [.ref o]) (va_Qv (fun μ9 => post μ9 ∧ KM μ μ9) (Bm (Rl T B)) (Ai B)) c z (Ai B) := by
  refine mx_of RX0 rfl (by decide) (Nat.le_of_ble_eq_true rfl) ?_
  intro p e s m below meth c0 X hr hk hnm M ls hl
  have hl : lv_has ls 1 [(0, .ref o)] := hl
  unfold wp_X0_init at hw
  have hKM : KM μ μ := KM.rf μ
  have hc : 0 + c ≤ c := by omega
  have hz : 0 + z ≤ z := by omega
  refine lv_aload_n X.1 X.2.1 dX0_init_0 rfl (lv_at hl 0 rfl) ?_
  refine my_obj X kw_130 kw_96 kw_97 hl.1 (Nat.le_of_ble_eq_true rfl) (Nat.le_of_ble_eq_true rfl) (Nat.le_of_ble_eq_true rfl) dX0_init_1 ?_
  refine lv_aload_n X.1 X.2.1 dX0_init_4 rfl (lv_at hl 0 rfl) ?_
  obtain ⟨hb1, hb2, hw⟩ := hw
  refine my_new (C := RX7) (F := TX7) (N := 8) (ci := 9) X M rfl in_X7 tyX7 tyX7_ok df_X7 (by decide) kw_131 kw_132 kw_70 dX0_init_5 (show 0 + 1 ≤ c by omega) (show 0 + 8 ≤ z by omega) (fun q1 μ2 H hq1 eμ2 M => ?_)
  replace hw := hw q1 μ2 hq1 eμ2
  have hKM3 : KM μ μ2 := by rw [eμ2]; exact hKM.tr (KM_nob hq1)
  have hk4 : kd μ2 q1 = 10 := by rw [eμ2]; exact kd_nob
  have hc : (0 + 1) + (c - 1) ≤ c := by omega
  have hz : (0 + 8) + (z - 8) ≤ z := by omega
  refine lv_dup X.1 X.2.1 dX0_init_8 rfl ?_
  obtain ⟨c6, z7, hc6, hz7, hw⟩ := hw
  have hw8 := hw
  clear hw
  refine mx_cv M (mx_runIN (n := 0) (As := []) (rest := [.ref q1, .ref o]) X M (c_X7_init l T B c6 z7 μ2 q1 _ hw8) kw_133 kw_134 rfl kw_70 kw_135 (by decide +kernel) rfl rfl ⟨Nat.le_of_ble_eq_true rfl, Nat.le_of_ble_eq_true rfl⟩ rfl hl.1 (Nat.le_of_ble_eq_true rfl) dX0_init_9 ⟨(show (0 + 1) + c6 ≤ c by omega), (show (0 + 8) + z7 ≤ z by omega)⟩) (fun μ5 H locs ⟨hw, hKM5⟩ M => ?_)
  replace hw := hw hKM5
  have hKM5_ := hKM3.tr hKM5
  have hk9 := hKM5.at hk4
  have hc : ((0 + 1) + c6) + ((c - 1) - c6) ≤ c := by omega
  have hz : ((0 + 8) + z7) + ((z - 8) - z7) ≤ z := by omega
  obtain ⟨hk10, hw⟩ := hw
  refine my_putr (C := RX0) (F := TX0) (N := 7) (ci := 2) X M 0 rfl in_X0 tyX0 tyX0_ok nmX0 (by decide) rfl (by decide) kw_203 (Or.inr ⟨hnm, rfl⟩) dX0_init_12 hk10 (some q1) (mq_no _ _) (mq_fo _ _) (fun μ11 H locs eμ11 M => ?_)
  replace hw := hw μ11 eμ11
  have hKM12 : KM μ μ11 := by rw [eμ11]; exact hKM5_
  have hk13 : kd μ11 q1 = 10 := by rw [eμ11]; exact hk9
  have hk14 : kd μ11 o = 3 := by rw [eμ11]; exact hk10
  refine lv_aload_n X.1 X.2.1 dX0_init_15 rfl (lv_at hl 0 rfl) ?_
  obtain ⟨hb1, hb2, hw⟩ := hw
  refine my_new (C := RX2) (F := TX2) (N := 4) (ci := 4) X M rfl in_X2 tyX2 tyX2_ok df_X2 (by decide) kw_181 kw_182 kw_72 dX0_init_16 (show ((0 + 1) + c6) + 1 ≤ c by omega) (show ((0 + 8) + z7) + 4 ≤ z by omega) (fun q15 μ16 H hq15 eμ16 M => ?_)
  replace hw := hw q15 μ16 hq15 eμ16
  have hKM17 : KM μ μ16 := by rw [eμ16]; exact hKM12.tr (KM_nob hq15)
  have hk18 : kd μ16 o = 3 := by rw [eμ16]; exact (KM_nob hq15).at hk14
  have hk19 : kd μ16 q15 = 5 := by rw [eμ16]; exact kd_nob
  have hc : (((0 + 1) + c6) + 1) + (((c - 1) - c6) - 1) ≤ c := by omega
  have hz : (((0 + 8) + z7) + 4) + (((z - 8) - z7) - 4) ≤ z := by omega
  refine lv_dup X.1 X.2.1 dX0_init_19 rfl ?_
  obtain ⟨c21, z22, hc21, hz22, hw⟩ := hw
  have hw23 := hw
  clear hw
  refine mx_cv M (mx_runIN (n := 0) (As := []) (rest := [.ref q15, .ref o]) X M (c_X2_init l T B c21 z22 μ16 q15 _ hw23) kw_183 kw_184 rfl kw_72 kw_185 (by decide +kernel) rfl rfl ⟨Nat.le_of_ble_eq_true rfl, Nat.le_of_ble_eq_true rfl⟩ rfl hl.1 (Nat.le_of_ble_eq_true rfl) dX0_init_20 ⟨(show (((0 + 1) + c6) + 1) + c21 ≤ c by omega), (show (((0 + 8) + z7) + 4) + z22 ≤ z by omega)⟩) (fun μ20 H locs ⟨hw, hKM20⟩ M => ?_)
  replace hw := hw hKM20
  have hKM20_ := hKM17.tr hKM20
  have hk24 := hKM20.at hk18
  have hk25 := hKM20.at hk19
  have hc : ((((0 + 1) + c6) + 1) + c21) + ((((c - 1) - c6) - 1) - c21) ≤ c := by omega
  have hz : ((((0 + 8) + z7) + 4) + z22) + ((((z - 8) - z7) - 4) - z22) ≤ z := by omega
  refine my_putr (C := RX0) (F := TX0) (N := 7) (ci := 2) X M 1 rfl in_X0 tyX0 tyX0_ok nmX0 (by decide) rfl (by decide) kw_204 (Or.inr ⟨hnm, rfl⟩) dX0_init_23 hk24 (some q15) (mq_no _ _) (mq_fo _ _) (fun μ26 H locs eμ26 M => ?_)
  replace hw := hw μ26 eμ26
  have hKM27 : KM μ μ26 := by rw [eμ26]; exact hKM20_
  have hk28 : kd μ26 o = 3 := by rw [eμ26]; exact hk24
  have hk29 : kd μ26 q15 = 5 := by rw [eμ26]; exact hk25
  refine lv_aload_n X.1 X.2.1 dX0_init_26 rfl (lv_at hl 0 rfl) ?_
  refine lv_iconst (v := (-1)) X.1 X.2.1 dX0_init_27 (by decide) ?_
  refine my_puti (C := RX0) (F := TX0) (N := 7) (ci := 2) X M 2 rfl in_X0 tyX0 tyX0_ok nmX0 (by decide) rfl (by decide) kw_206 (Or.inl rfl) dX0_init_28 hk28 rfl rfl (fun μ30 H locs eμ30 M => ?_)
  replace hw := hw μ30 eμ30
  have hKM31 : KM μ μ30 := by rw [eμ30]; exact hKM27
  have hk32 : kd μ30 o = 3 := by rw [eμ30]; exact hk28
  exact mx_vret X hr hk M dX0_init_31 (by omega) (by omega) ⟨hw, hKM31⟩

abbrev rm_X0_start (c z : Nat) : Room := { frames := 8, cells := c, slots := z, locals := 194 }
def wp_X0_start_30 (o : Nat) (post : Mem → Prop) : Nat → Nat → Nat → Mem → Nat → Option Nat → Int32 → Prop
  | 0, _, _, _, _, _, _ => False
  | n + 1, c, z, μ, x2, x5, x6 =>
    isArr (kd μ x2) ∧
    ((nI (al μ x2)) ≤ x6 →
     kd μ o = 3 ∧
     ∀ μ24 : Mem, μ24 = sfi μ 2 2 o 0 →
     ∀ μ27 : Mem, μ27 = sfi μ24 2 3 o 0 →
     ∀ μ30 : Mem, μ30 = sfi μ27 2 4 o 0 →
     ∀ μ33 : Mem, μ33 = sfr μ30 2 5 o x5 →
     ∀ μ36 : Mem, μ36 = sfi μ33 2 6 o 0 →
     post μ36) ∧ (¬ (nI (al μ x2)) ≤ x6 →
     kd μ o = 3 ∧
     ∃ x40, fr μ 2 0 o = some x40 ∧
     kd μ x2 = 102 ∧
     vp_in x6 (al μ x2) ∧
     ∃ x42, x5 = some x42 ∧
     kd μ x40 = 10 ∧
     ∃ c44 z45, c44 ≤ c ∧ z45 ≤ z ∧
     wp_X7_write c44 z45 μ x40 x42 x6 (Int32.toInt64 (ai μ x2 (Int32.toNatClampNeg x6))) (fun (μ43 : Mem) =>
     KM μ μ43 →
     ∀ v51 : Int32, v51 = x6 + 1 →
     wp_X0_start_30 o post n (c - c44) (z - z45) μ43 x2 (some x42) v51))
def wp_X0_start (c z : Nat) (μ : Mem) (o : Nat) (a1 : Nat) (a2 : Nat) (a3 : Int32) (a4 : Int32) (post : Mem → Prop) : Prop :=
  kd μ o = 3 ∧
  ∃ x2, fr μ 2 0 o = some x2 ∧
  kd μ x2 = 10 ∧
  wp_X7_clear μ x2 a3 (fun (μ3 : Mem) =>
  KM μ μ3 →
  ∃ x8, fr μ3 2 1 o = some x8 ∧
  kd μ3 x8 = 5 ∧
  wp_X2_clear μ3 x8 a4 (fun (μ9 : Mem) =>
  KM μ3 μ9 →
  ∃ x14, fr μ9 2 0 o = some x14 ∧
  kd μ9 x14 = 10 ∧
  ∃ c16 z17, c16 ≤ c ∧ z17 ≤ z ∧
  wp_X7_pushFrame c16 z17 μ9 x14 a1 (fun (r19 : Option Nat) (μ15 : Mem) =>
  KM μ9 μ15 →
  ∃ n52, wp_X0_start_30 o post n52 (c - c16) (z - z17) μ15 a2 r19 0)))
set_option maxRecDepth 100000 in
set_option maxHeartbeats 4000000 in
theorem b_X0_start_30 {T : Tb} {B : Nat} {p : Program} {l : Launch} {e : Env} {s : State} {m : MethodId} {args : Array Value} {below : List Frame} {meth : Method} {c0 : Code} {post : Mem → Prop} {μ0 : Mem} {o : Nat} {cT zT : Nat} (X : CX T B p m c0 cX0_start 7 s args RX0) (hr : meth.sig.returnType = none) (hk : meth.locks = false) : ∀ (n : Nat) (c z cells slots : Nat) (μ : Mem) (x2 : Nat) (x5 : Option Nat) (x6 : Int32) (H : Heap) (locs : List Loc) (ls : Array Slot), cells + c ≤ cT → slots + z ≤ zT → KM μ0 μ → wp_X0_start_30 o post n c z μ x2 x5 x6 → MG (Rl T B) B s μ H locs → lv_has ls 7 [(0, .ref o), (2, .ref x2), (5, va_rf x5), (6, .int x6)] → W p l e (rm_X0_start cT zT) s m args below meth c0 H locs cells slots (MQ below (va_Qv (fun μ9 => post μ9 ∧ KM μ0 μ9) (Bm (Rl T B)) (Ai B)) args s cT zT (Ai B)) (F0 m 30 ls []) := by
  intro n
  induction n with
  | zero =>
    intro c z cells slots μ x2 x5 x6 H locs ls hc hz hKM hw
    exact hw.elim
  | succ n ih =>
    intro c z cells slots μ x2 x5 x6 H locs ls hc hz hKM hw M hl
    rw [wp_X0_start_30] at hw
    refine lv_iload X.1 X.2.1 dX0_start_30 (lv_at hl 3 rfl) ?_
    refine lv_aload_n X.1 X.2.1 dX0_start_32 rfl (lv_at hl 1 rfl) ?_
    obtain ⟨hia, hw⟩ := hw
    refine mx_len X M dX0_start_33 hia ?_
    obtain ⟨hwt, hwf⟩ := hw
    refine lv_icmp_ge (tgt := 59) X.1 X.2.1 dX0_start_34 (by decide) (fun hq => ?_) (fun hq => ?_)
    · have hw := hwt hq
      refine lv_aload_n X.1 X.2.1 dX0_start_59 rfl (lv_at hl 0 rfl) ?_
      refine lv_iconst (v := 0) X.1 X.2.1 dX0_start_60 (by decide) ?_
      obtain ⟨hk23, hw⟩ := hw
      refine my_puti (C := RX0) (F := TX0) (N := 7) (ci := 2) X M 2 rfl in_X0 tyX0 tyX0_ok nmX0 (by decide) rfl (by decide) kw_206 (Or.inl rfl) dX0_start_61 hk23 rfl rfl (fun μ24 H locs eμ24 M => ?_)
      replace hw := hw μ24 eμ24
      have hKM25 : KM μ0 μ24 := by rw [eμ24]; exact hKM
      have hk26 : kd μ24 o = 3 := by rw [eμ24]; exact hk23
      refine lv_aload_n X.1 X.2.1 dX0_start_64 rfl (lv_at hl 0 rfl) ?_
      refine lv_iconst (v := 0) X.1 X.2.1 dX0_start_65 (by decide) ?_
      refine my_puti (C := RX0) (F := TX0) (N := 7) (ci := 2) X M 3 rfl in_X0 tyX0 tyX0_ok nmX0 (by decide) rfl (by decide) kw_207 (Or.inl rfl) dX0_start_66 hk26 rfl rfl (fun μ27 H locs eμ27 M => ?_)
      replace hw := hw μ27 eμ27
      have hKM28 : KM μ0 μ27 := by rw [eμ27]; exact hKM25
      have hk29 : kd μ27 o = 3 := by rw [eμ27]; exact hk26
      refine lv_aload_n X.1 X.2.1 dX0_start_69 rfl (lv_at hl 0 rfl) ?_
      refine lv_iconst (v := 0) X.1 X.2.1 dX0_start_70 (by decide) ?_
      refine my_puti (C := RX0) (F := TX0) (N := 7) (ci := 2) X M 4 rfl in_X0 tyX0 tyX0_ok nmX0 (by decide) rfl (by decide) kw_208 (Or.inl rfl) dX0_start_71 hk29 rfl rfl (fun μ30 H locs eμ30 M => ?_)
      replace hw := hw μ30 eμ30
      have hKM31 : KM μ0 μ30 := by rw [eμ30]; exact hKM28
      have hk32 : kd μ30 o = 3 := by rw [eμ30]; exact hk29
      refine lv_aload_n X.1 X.2.1 dX0_start_74 rfl (lv_at hl 0 rfl) ?_
      refine mq_aload X.1 X.2.1 dX0_start_75 (lv_at hl 2 rfl) ?_
      refine my_putr (C := RX0) (F := TX0) (N := 7) (ci := 2) X M 5 rfl in_X0 tyX0 tyX0_ok nmX0 (by decide) rfl (by decide) kw_209 (Or.inl rfl) dX0_start_77 hk32 x5 (mq_no _ _) (mq_fo _ _) (fun μ33 H locs eμ33 M => ?_)
      replace hw := hw μ33 eμ33
      have hKM34 : KM μ0 μ33 := by rw [eμ33]; exact hKM31
      have hk35 : kd μ33 o = 3 := by rw [eμ33]; exact hk32
      refine lv_aload_n X.1 X.2.1 dX0_start_80 rfl (lv_at hl 0 rfl) ?_
      refine lv_iconst (v := 0) X.1 X.2.1 dX0_start_81 (by decide) ?_
      refine my_puti (C := RX0) (F := TX0) (N := 7) (ci := 2) X M 6 rfl in_X0 tyX0 tyX0_ok nmX0 (by decide) rfl (by decide) kw_210 (Or.inl rfl) dX0_start_82 hk35 rfl rfl (fun μ36 H locs eμ36 M => ?_)
      replace hw := hw μ36 eμ36
      have hKM37 : KM μ0 μ36 := by rw [eμ36]; exact hKM34
      have hk38 : kd μ36 o = 3 := by rw [eμ36]; exact hk35
      exact mx_vret X hr hk M dX0_start_85 (by omega) (by omega) ⟨hw, hKM37⟩
    · have hw := hwf hq
      refine lv_aload_n X.1 X.2.1 dX0_start_37 rfl (lv_at hl 0 rfl) ?_
      obtain ⟨hk39, hw⟩ := hw
      obtain ⟨x40, ex40, hw⟩ := hw
      refine mx_getr (C := RX0) (F := TX0) (N := 7) (ci := 2) X M 0 rfl in_X0 (by decide) rfl (by decide) kw_203 dX0_start_38 hk39 ?_
      rw [ex40]
      refine mq_aload X.1 X.2.1 dX0_start_41 (lv_at hl 2 rfl) ?_
      refine lv_iload X.1 X.2.1 dX0_start_43 (lv_at hl 3 rfl) ?_
      refine lv_aload_n X.1 X.2.1 dX0_start_45 rfl (lv_at hl 1 rfl) ?_
      refine lv_iload X.1 X.2.1 dX0_start_46 (lv_at hl 3 rfl) ?_
      obtain ⟨hk41, hw⟩ := hw
      obtain ⟨hi, hw⟩ := hw
      refine mx_ald X M dX0_start_48 hk41 hi ?_
      refine lv_i2l X.1 X.2.1 dX0_start_49 rfl ?_
      obtain ⟨x42, ex42, hw⟩ := hw
      subst ex42
      have hl : lv_has ls 7 [(0, .ref o), (2, .ref x2), (5, .ref x42), (6, .int x6)] := hl
      obtain ⟨hk47, hw⟩ := hw
      obtain ⟨c44, z45, hc44, hz45, hw⟩ := hw
      have hw46 := hw
      clear hw
      refine mx_cv M (mx_runV (n := 3) (As := [.ref x42, .int x6, .long (Int32.toInt64 (ai μ x2 (Int32.toNatClampNeg x6)))]) (rest := []) X M (c_X7_write l T B c44 z45 μ x40 x42 x6 (Int32.toInt64 (ai μ x2 (Int32.toNatClampNeg x6))) _ hw46) (mx_recv (C := RX7) (F := TX7) (N := 8) (ci := 9) X M rfl (by decide) hk47) kw_573 kw_574 kw_575 kw_70 kw_576 (by decide +kernel) rfl rfl ⟨Nat.le_of_ble_eq_true rfl, Nat.le_of_ble_eq_true rfl⟩ rfl hl.1 (Nat.le_of_ble_eq_true rfl) dX0_start_50 ⟨(show cells + c44 ≤ cT by omega), (show slots + z45 ≤ zT by omega)⟩) (fun μ43 H locs ⟨hw, hKM43⟩ M => ?_)
      replace hw := hw hKM43
      have hKM43_ := hKM.tr hKM43
      have hk48 := hKM43.at hk39
      have hk49 := hKM43.at hk41
      have hk50 := hKM43.at hk47
      have hc : (cells + c44) + (c - c44) ≤ cT := by omega
      have hz : (slots + z45) + (z - z45) ≤ zT := by omega
      obtain ⟨v51, ev51⟩ : ∃ y : Int32, y = x6 + 1 := ⟨_, rfl⟩
      replace hw := hw v51 ev51
      refine lv_iinc (v := v51) (lv' := [(6, .int v51), (0, .ref o), (2, .ref x2), (5, .ref x42)]) X.1 X.2.1 dX0_start_53 hl (k := 3) rfl (by rw [ev51]; rfl) (by decide) rfl (fun ls hl => ?_)
      refine lv_goto (tgt := 30) X.1 X.2.1 dX0_start_56 (by decide) ?_
      exact ih _ _ _ _ μ43 x2 (some x42) v51 _ _ _ (by omega) (by omega) hKM43_ hw M (lv_sub hl [1, 2, 3, 0] rfl)
set_option maxRecDepth 100000 in
set_option maxHeartbeats 4000000 in
theorem c_X0_start (l : Launch) (T : Tb) (B : Nat) (c z : Nat) (μ : Mem) (o : Nat) (a1 : Nat) (a2 : Nat) (a3 : Int32) (a4 : Int32) (post : Mem → Prop) (hw : wp_X0_start c z μ o a1 a2 a3 a4 post) : Met l yX0_start (.code yX0_start cX0_start 7 none :: G) (rm_X0_start c z) (Pm (Rl T B) T B μ [.ref o, .ref a1, .ref a2, .int a3, .int a4]) (va_Qv (fun μ9 => post μ9 ∧ KM μ μ9) (Bm (Rl T B)) (Ai B)) c z (Ai B) := by
  refine mx_of RX0 rfl (by decide) (Nat.le_of_ble_eq_true rfl) ?_
  intro p e s m below meth c0 X hr hk hnm M ls hl
  have hl : lv_has ls 7 [(0, .ref o), (1, .ref a1), (2, .ref a2), (3, .int a3), (4, .int a4)] := hl
  unfold wp_X0_start at hw
  have hKM : KM μ μ := KM.rf μ
  have hc : 0 + c ≤ c := by omega
  have hz : 0 + z ≤ z := by omega
  refine lv_aload_n X.1 X.2.1 dX0_start_0 rfl (lv_at hl 0 rfl) ?_
  obtain ⟨hk1, hw⟩ := hw
  obtain ⟨x2, ex2, hw⟩ := hw
  refine mx_getr (C := RX0) (F := TX0) (N := 7) (ci := 2) X M 0 rfl in_X0 (by decide) rfl (by decide) kw_203 dX0_start_1 hk1 ?_
  rw [ex2]
  refine lv_iload_n X.1 X.2.1 dX0_start_4 rfl (lv_at hl 3 rfl) ?_
  obtain ⟨hk5, hw⟩ := hw
  have hw4 := hw
  clear hw
  refine mx_cv M (mx_runV (n := 1) (As := [.int a3]) (rest := []) X M (c_X7_clear l T B μ x2 a3 _ hw4) (mx_recv (C := RX7) (F := TX7) (N := 8) (ci := 9) X M rfl (by decide) hk5) kw_491 kw_492 kw_493 kw_70 kw_494 (by decide +kernel) rfl rfl ⟨Nat.le_of_ble_eq_true rfl, Nat.le_of_ble_eq_true rfl⟩ rfl hl.1 (Nat.le_of_ble_eq_true rfl) dX0_start_5 ⟨(show 0 + 0 ≤ c by omega), (show 0 + 0 ≤ z by omega)⟩) (fun μ3 H locs ⟨hw, hKM3⟩ M => ?_)
  replace hw := hw hKM3
  have hKM3_ := hKM.tr hKM3
  have hk6 := hKM3.at hk1
  have hk7 := hKM3.at hk5
  have hc : (0 + 0) + (c) ≤ c := by omega
  have hz : (0 + 0) + (z) ≤ z := by omega
  refine lv_aload_n X.1 X.2.1 dX0_start_8 rfl (lv_at hl 0 rfl) ?_
  obtain ⟨x8, ex8, hw⟩ := hw
  refine mx_getr (C := RX0) (F := TX0) (N := 7) (ci := 2) X M 1 rfl in_X0 (by decide) rfl (by decide) kw_204 dX0_start_9 hk6 ?_
  rw [ex8]
  refine lv_iload X.1 X.2.1 dX0_start_12 (lv_at hl 4 rfl) ?_
  obtain ⟨hk11, hw⟩ := hw
  have hw10 := hw
  clear hw
  refine mx_cv M (mx_runV (n := 1) (As := [.int a4]) (rest := []) X M (c_X2_clear l T B μ3 x8 a4 _ hw10) (mx_recv (C := RX2) (F := TX2) (N := 4) (ci := 4) X M rfl (by decide) hk11) kw_500 kw_501 kw_502 kw_72 kw_503 (by decide +kernel) rfl rfl ⟨Nat.le_of_ble_eq_true rfl, Nat.le_of_ble_eq_true rfl⟩ rfl hl.1 (Nat.le_of_ble_eq_true rfl) dX0_start_14 ⟨(show (0 + 0) + 0 ≤ c by omega), (show (0 + 0) + 0 ≤ z by omega)⟩) (fun μ9 H locs ⟨hw, hKM9⟩ M => ?_)
  replace hw := hw hKM9
  have hKM9_ := hKM3_.tr hKM9
  have hk12 := hKM9.at hk6
  have hk13 := hKM9.at hk11
  have hc : ((0 + 0) + 0) + (c) ≤ c := by omega
  have hz : ((0 + 0) + 0) + (z) ≤ z := by omega
  refine lv_aload_n X.1 X.2.1 dX0_start_17 rfl (lv_at hl 0 rfl) ?_
  obtain ⟨x14, ex14, hw⟩ := hw
  refine mx_getr (C := RX0) (F := TX0) (N := 7) (ci := 2) X M 0 rfl in_X0 (by decide) rfl (by decide) kw_203 dX0_start_18 hk12 ?_
  rw [ex14]
  refine lv_aload_n X.1 X.2.1 dX0_start_21 rfl (lv_at hl 1 rfl) ?_
  obtain ⟨hk20, hw⟩ := hw
  obtain ⟨c16, z17, hc16, hz17, hw⟩ := hw
  have hw18 := hw
  clear hw
  refine mx_cq M (mx_runV (n := 1) (As := [.ref a1]) (rest := []) X M (c_X7_pushFrame l T B c16 z17 μ9 x14 a1 _ hw18) (mx_recv (C := RX7) (F := TX7) (N := 8) (ci := 9) X M rfl (by decide) hk20) kw_505 kw_506 kw_507 kw_70 kw_508 (by decide +kernel) rfl rfl ⟨Nat.le_of_ble_eq_true rfl, Nat.le_of_ble_eq_true rfl⟩ rfl hl.1 (Nat.le_of_ble_eq_true rfl) dX0_start_22 ⟨(show ((0 + 0) + 0) + c16 ≤ c by omega), (show ((0 + 0) + 0) + z17 ≤ z by omega)⟩) (fun r19 μ15 H locs ⟨hw, hKM15⟩ M => ?_)
  replace hw := hw hKM15
  have hKM15_ := hKM9_.tr hKM15
  have hk21 := hKM15.at hk12
  have hk22 := hKM15.at hk20
  have hc : (((0 + 0) + 0) + c16) + (c - c16) ≤ c := by omega
  have hz : (((0 + 0) + 0) + z17) + (z - z17) ≤ z := by omega
  refine mq_astore (lv' := [(5, va_rf r19), (0, .ref o), (1, .ref a1), (2, .ref a2), (3, .int a3), (4, .int a4)]) X.1 X.2.1 dX0_start_25 hl (by decide) rfl (fun ls hl => ?_)
  refine lv_iconst (v := 0) X.1 X.2.1 dX0_start_27 (by decide) ?_
  refine lv_istore (lv' := [(6, .int 0), (5, va_rf r19), (0, .ref o), (1, .ref a1), (2, .ref a2), (3, .int a3), (4, .int a4)]) X.1 X.2.1 dX0_start_28 hl (by decide) (by simp [mq_cat]) (fun ls hl => ?_)
  obtain ⟨n52, hw⟩ := hw
  exact b_X0_start_30 X hr hk n52 _ _ _ _ μ15 a2 r19 0 _ _ _ (by omega) (by omega) hKM15_ hw M (lv_sub hl [2, 4, 1, 0] rfl)

abbrev rm_X0_figure : Room := { frames := 2, cells := 0, slots := 0, locals := 40 }
def wp_X0_figure (μ : Mem) (o : Nat) (a1 : Int32) (post : Int32 → Mem → Prop) : Prop :=
  (a1 = 0 →
   kd μ o = 3 ∧
   post (fi μ 2 2 o) μ) ∧
  (a1 = 1 →
   kd μ o = 3 ∧
   post (fi μ 2 3 o) μ) ∧
  (a1 = 2 →
   kd μ o = 3 ∧
   ∃ x4, fr μ 2 0 o = some x4 ∧
   kd μ x4 = 10 ∧
   wp_X7_size μ x4 (fun (r7 : Int32) (μ5 : Mem) =>
   KM μ μ5 →
   post r7 μ5)) ∧
  (a1 = 3 →
   kd μ o = 3 ∧
   ∃ x12, fr μ 2 0 o = some x12 ∧
   kd μ x12 = 10 ∧
   post (fi μ 9 7 x12) μ) ∧
  (a1 = 4 →
   kd μ o = 3 ∧
   ∃ x15, fr μ 2 1 o = some x15 ∧
   kd μ x15 = 5 ∧
   wp_X2_used μ x15 (fun (r18 : Int32) (μ16 : Mem) =>
   KM μ μ16 →
   post r18 μ16)) ∧
  (a1 = 5 →
   kd μ o = 3 ∧
   ∃ x23, fr μ 2 1 o = some x23 ∧
   kd μ x23 = 5 ∧
   post (fi μ 4 3 x23) μ) ∧
  (a1 = 6 →
   kd μ o = 3 ∧
   post (fi μ 2 4 o) μ) ∧
  (a1 = 7 →
   kd μ o = 3 ∧
   ∃ x27, fr μ 2 0 o = some x27 ∧
   kd μ x27 = 10 ∧
   post (fi μ 9 3 x27) μ) ∧
  (a1 = 8 →
   kd μ o = 3 ∧
   ∃ x30, fr μ 2 0 o = some x30 ∧
   kd μ x30 = 10 ∧
   post (fi μ 9 1 x30) μ) ∧
  (¬ a1 = 0 → ¬ a1 = 1 → ¬ a1 = 2 → ¬ a1 = 3 → ¬ a1 = 4 → ¬ a1 = 5 → ¬ a1 = 6 → ¬ a1 = 7 → ¬ a1 = 8 → 
   post (-1) μ)
set_option maxRecDepth 100000 in
set_option maxHeartbeats 4000000 in
theorem c_X0_figure (l : Launch) (T : Tb) (B : Nat) (μ : Mem) (o : Nat) (a1 : Int32) (post : Int32 → Mem → Prop) (hw : wp_X0_figure μ o a1 post) : Met l yX0_figure (.code yX0_figure cX0_figure 2 (some .int) :: G) rm_X0_figure (Pm (Rl T B) T B μ [.ref o, .int a1]) (va_Qi (fun r9 μ9 => post r9 μ9 ∧ KM μ μ9) (Bm (Rl T B)) (Ai B)) 0 0 (Ai B) := by
  refine mx_of RX0 rfl (by decide) (Nat.le_of_ble_eq_true rfl) ?_
  intro p e s m below meth c0 X hr hk hnm M ls hl
  have hl : lv_has ls 2 [(0, .ref o), (1, .int a1)] := hl
  unfold wp_X0_figure at hw
  have hKM : KM μ μ := KM.rf μ
  refine lv_iload_n X.1 X.2.1 dX0_figure_0 rfl (lv_at hl 1 rfl) ?_
  obtain ⟨hw_0, hw_1, hw_2, hw_3, hw_4, hw_5, hw_6, hw_7, hw_8, hw_d⟩ := hw
  by_cases q_0 : a1 = 0
  · have hw := hw_0 q_0
    refine lv_tableIn (off := 51) (tgt := 52) X.1 X.2.1 dX0_figure_1 (by rw [q_0]; decide) (by rw [q_0]; decide) (by rw [q_0]; rfl) (by decide) ?_
    refine lv_aload_n X.1 X.2.1 dX0_figure_52 rfl (lv_at hl 0 rfl) ?_
    obtain ⟨hk1, hw⟩ := hw
    refine mx_geti (C := RX0) (F := TX0) (N := 7) (ci := 2) X M 2 rfl in_X0 (by decide) rfl (by decide) kw_206 dX0_figure_53 hk1 ?_
    exact mx_iret X hr hk M dX0_figure_56 (by decide) (by decide) ⟨hw, hKM⟩
  by_cases q_1 : a1 = 1
  · have hw := hw_1 q_1
    refine lv_tableIn (off := 56) (tgt := 57) X.1 X.2.1 dX0_figure_1 (by rw [q_1]; decide) (by rw [q_1]; decide) (by rw [q_1]; rfl) (by decide) ?_
    refine lv_aload_n X.1 X.2.1 dX0_figure_57 rfl (lv_at hl 0 rfl) ?_
    obtain ⟨hk2, hw⟩ := hw
    refine mx_geti (C := RX0) (F := TX0) (N := 7) (ci := 2) X M 3 rfl in_X0 (by decide) rfl (by decide) kw_207 dX0_figure_58 hk2 ?_
    exact mx_iret X hr hk M dX0_figure_61 (by decide) (by decide) ⟨hw, hKM⟩
  by_cases q_2 : a1 = 2
  · have hw := hw_2 q_2
    refine lv_tableIn (off := 61) (tgt := 62) X.1 X.2.1 dX0_figure_1 (by rw [q_2]; decide) (by rw [q_2]; decide) (by rw [q_2]; rfl) (by decide) ?_
    refine lv_aload_n X.1 X.2.1 dX0_figure_62 rfl (lv_at hl 0 rfl) ?_
    obtain ⟨hk3, hw⟩ := hw
    obtain ⟨x4, ex4, hw⟩ := hw
    refine mx_getr (C := RX0) (F := TX0) (N := 7) (ci := 2) X M 0 rfl in_X0 (by decide) rfl (by decide) kw_203 dX0_figure_63 hk3 ?_
    rw [ex4]
    obtain ⟨hk8, hw⟩ := hw
    have hw6 := hw
    clear hw
    refine mx_ci M (mx_runV (n := 0) (As := []) (rest := []) X M (c_X7_size l T B μ x4 _ hw6) (mx_recv (C := RX7) (F := TX7) (N := 8) (ci := 9) X M rfl (by decide) hk8) kw_818 kw_569 kw_570 kw_70 kw_571 (by decide +kernel) rfl rfl ⟨Nat.le_of_ble_eq_true rfl, Nat.le_of_ble_eq_true rfl⟩ rfl hl.1 (Nat.le_of_ble_eq_true rfl) dX0_figure_66 ⟨by decide, by decide⟩) (fun r7 μ5 H locs ⟨hw, hKM5⟩ M => ?_)
    replace hw := hw hKM5
    have hKM5_ := hKM.tr hKM5
    have hk9 := hKM5.at hk3
    have hk10 := hKM5.at hk8
    exact mx_iret X hr hk M dX0_figure_69 (by decide) (by decide) ⟨hw, hKM5_⟩
  by_cases q_3 : a1 = 3
  · have hw := hw_3 q_3
    refine lv_tableIn (off := 69) (tgt := 70) X.1 X.2.1 dX0_figure_1 (by rw [q_3]; decide) (by rw [q_3]; decide) (by rw [q_3]; rfl) (by decide) ?_
    refine lv_aload_n X.1 X.2.1 dX0_figure_70 rfl (lv_at hl 0 rfl) ?_
    obtain ⟨hk11, hw⟩ := hw
    obtain ⟨x12, ex12, hw⟩ := hw
    refine mx_getr (C := RX0) (F := TX0) (N := 7) (ci := 2) X M 0 rfl in_X0 (by decide) rfl (by decide) kw_203 dX0_figure_71 hk11 ?_
    rw [ex12]
    obtain ⟨hk13, hw⟩ := hw
    refine mx_geti (C := RX7) (F := TX7) (N := 8) (ci := 9) X M 7 rfl in_X7 (by decide) rfl (by decide) kw_163 dX0_figure_74 hk13 ?_
    exact mx_iret X hr hk M dX0_figure_77 (by decide) (by decide) ⟨hw, hKM⟩
  by_cases q_4 : a1 = 4
  · have hw := hw_4 q_4
    refine lv_tableIn (off := 77) (tgt := 78) X.1 X.2.1 dX0_figure_1 (by rw [q_4]; decide) (by rw [q_4]; decide) (by rw [q_4]; rfl) (by decide) ?_
    refine lv_aload_n X.1 X.2.1 dX0_figure_78 rfl (lv_at hl 0 rfl) ?_
    obtain ⟨hk14, hw⟩ := hw
    obtain ⟨x15, ex15, hw⟩ := hw
    refine mx_getr (C := RX0) (F := TX0) (N := 7) (ci := 2) X M 1 rfl in_X0 (by decide) rfl (by decide) kw_204 dX0_figure_79 hk14 ?_
    rw [ex15]
    obtain ⟨hk19, hw⟩ := hw
    have hw17 := hw
    clear hw
    refine mx_ci M (mx_runV (n := 0) (As := []) (rest := []) X M (c_X2_used l T B μ x15 _ hw17) (mx_recv (C := RX2) (F := TX2) (N := 4) (ci := 4) X M rfl (by decide) hk19) kw_736 kw_737 kw_738 kw_72 kw_739 (by decide +kernel) rfl rfl ⟨Nat.le_of_ble_eq_true rfl, Nat.le_of_ble_eq_true rfl⟩ rfl hl.1 (Nat.le_of_ble_eq_true rfl) dX0_figure_82 ⟨by decide, by decide⟩) (fun r18 μ16 H locs ⟨hw, hKM16⟩ M => ?_)
    replace hw := hw hKM16
    have hKM16_ := hKM.tr hKM16
    have hk20 := hKM16.at hk14
    have hk21 := hKM16.at hk19
    exact mx_iret X hr hk M dX0_figure_85 (by decide) (by decide) ⟨hw, hKM16_⟩
  by_cases q_5 : a1 = 5
  · have hw := hw_5 q_5
    refine lv_tableIn (off := 85) (tgt := 86) X.1 X.2.1 dX0_figure_1 (by rw [q_5]; decide) (by rw [q_5]; decide) (by rw [q_5]; rfl) (by decide) ?_
    refine lv_aload_n X.1 X.2.1 dX0_figure_86 rfl (lv_at hl 0 rfl) ?_
    obtain ⟨hk22, hw⟩ := hw
    obtain ⟨x23, ex23, hw⟩ := hw
    refine mx_getr (C := RX0) (F := TX0) (N := 7) (ci := 2) X M 1 rfl in_X0 (by decide) rfl (by decide) kw_204 dX0_figure_87 hk22 ?_
    rw [ex23]
    obtain ⟨hk24, hw⟩ := hw
    refine mx_geti (C := RX2) (F := TX2) (N := 4) (ci := 4) X M 3 rfl in_X2 (by decide) rfl (by decide) kw_193 dX0_figure_90 hk24 ?_
    exact mx_iret X hr hk M dX0_figure_93 (by decide) (by decide) ⟨hw, hKM⟩
  by_cases q_6 : a1 = 6
  · have hw := hw_6 q_6
    refine lv_tableIn (off := 93) (tgt := 94) X.1 X.2.1 dX0_figure_1 (by rw [q_6]; decide) (by rw [q_6]; decide) (by rw [q_6]; rfl) (by decide) ?_
    refine lv_aload_n X.1 X.2.1 dX0_figure_94 rfl (lv_at hl 0 rfl) ?_
    obtain ⟨hk25, hw⟩ := hw
    refine mx_geti (C := RX0) (F := TX0) (N := 7) (ci := 2) X M 4 rfl in_X0 (by decide) rfl (by decide) kw_208 dX0_figure_95 hk25 ?_
    exact mx_iret X hr hk M dX0_figure_98 (by decide) (by decide) ⟨hw, hKM⟩
  by_cases q_7 : a1 = 7
  · have hw := hw_7 q_7
    refine lv_tableIn (off := 98) (tgt := 99) X.1 X.2.1 dX0_figure_1 (by rw [q_7]; decide) (by rw [q_7]; decide) (by rw [q_7]; rfl) (by decide) ?_
    refine lv_aload_n X.1 X.2.1 dX0_figure_99 rfl (lv_at hl 0 rfl) ?_
    obtain ⟨hk26, hw⟩ := hw
    obtain ⟨x27, ex27, hw⟩ := hw
    refine mx_getr (C := RX0) (F := TX0) (N := 7) (ci := 2) X M 0 rfl in_X0 (by decide) rfl (by decide) kw_203 dX0_figure_100 hk26 ?_
    rw [ex27]
    obtain ⟨hk28, hw⟩ := hw
    refine mx_geti (C := RX7) (F := TX7) (N := 8) (ci := 9) X M 3 rfl in_X7 (by decide) rfl (by decide) kw_158 dX0_figure_103 hk28 ?_
    exact mx_iret X hr hk M dX0_figure_106 (by decide) (by decide) ⟨hw, hKM⟩
  by_cases q_8 : a1 = 8
  · have hw := hw_8 q_8
    refine lv_tableIn (off := 106) (tgt := 107) X.1 X.2.1 dX0_figure_1 (by rw [q_8]; decide) (by rw [q_8]; decide) (by rw [q_8]; rfl) (by decide) ?_
    refine lv_aload_n X.1 X.2.1 dX0_figure_107 rfl (lv_at hl 0 rfl) ?_
    obtain ⟨hk29, hw⟩ := hw
    obtain ⟨x30, ex30, hw⟩ := hw
    refine mx_getr (C := RX0) (F := TX0) (N := 7) (ci := 2) X M 0 rfl in_X0 (by decide) rfl (by decide) kw_203 dX0_figure_108 hk29 ?_
    rw [ex30]
    obtain ⟨hk31, hw⟩ := hw
    refine mx_geti (C := RX7) (F := TX7) (N := 8) (ci := 9) X M 1 rfl in_X7 (by decide) rfl (by decide) kw_155 dX0_figure_111 hk31 ?_
    exact mx_iret X hr hk M dX0_figure_114 (by decide) (by decide) ⟨hw, hKM⟩
  have hw := hw_d q_0 q_1 q_2 q_3 q_4 q_5 q_6 q_7 q_8
  have g_0 := lv_neT q_0 (by decide : (0 : Int32).toInt = 0)
  have g_1 := lv_neT q_1 (by decide : (1 : Int32).toInt = 1)
  have g_2 := lv_neT q_2 (by decide : (2 : Int32).toInt = 2)
  have g_3 := lv_neT q_3 (by decide : (3 : Int32).toInt = 3)
  have g_4 := lv_neT q_4 (by decide : (4 : Int32).toInt = 4)
  have g_5 := lv_neT q_5 (by decide : (5 : Int32).toInt = 5)
  have g_6 := lv_neT q_6 (by decide : (6 : Int32).toInt = 6)
  have g_7 := lv_neT q_7 (by decide : (7 : Int32).toInt = 7)
  have g_8 := lv_neT q_8 (by decide : (8 : Int32).toInt = 8)
  refine lv_tableOut (tgt := 115) X.1 X.2.1 dX0_figure_1 (by omega) (by decide) ?_
  refine lv_iconst (v := (-1)) X.1 X.2.1 dX0_figure_115 (by decide) ?_
  exact mx_iret X hr hk M dX0_figure_116 (by decide) (by decide) ⟨hw, hKM⟩
