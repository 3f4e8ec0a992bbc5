abbrev rm_X10_run (c z : Nat) : Room := { frames := 11, cells := c, slots := z, locals := 263 }
def wp_X10_run (c z : Nat) (μ : Mem) (o : Nat) (a1 : Int32) (post : Int32 → Mem → Prop) : Prop :=
  kd μ o = 12 ∧
  ∃ x2, fr μ 11 4 o = some x2 ∧
  kd μ x2 = 3 ∧
  ∃ c4 z5, c4 ≤ c ∧ z5 ≤ z ∧
  wp_X0_advance c4 z5 μ x2 a1 (fun (r7 : Int32) (μ3 : Mem) =>
  KM μ μ3 →
  post r7 μ3)
set_option maxRecDepth 100000 in
set_option maxHeartbeats 4000000 in
theorem c_X10_run (l : Launch) (T : Tb) (B : Nat) (c z : Nat) (μ : Mem) (o : Nat) (a1 : Int32) (post : Int32 → Mem → Prop) (hw : wp_X10_run c z μ o a1 post) : Met l yX10_run (.code yX10_run cX10_run 2 (some .int) :: G) (rm_X10_run c z) (Pm (Rl T B) T B μ [.ref o, .int a1]) (va_Qi (fun r9 μ9 => post r9 μ9 ∧ KM μ μ9) (Bm (Rl T B)) (Ai B)) c z (Ai B) := by
  refine mx_of RX10 rfl (by decide) (Nat.le_of_ble_eq_true rfl) ?_
  intro p e s m below meth c0 X hr hk hnm M ls hl
  have hl : lv_has ls 2 [(0, .ref o), (1, .int a1)] := hl
  unfold wp_X10_run at hw
  have hKM : KM μ μ := KM.rf μ
  have hc : 0 + c ≤ c := by omega
  have hz : 0 + z ≤ z := by omega
  refine lv_aload_n X.1 X.2.1 dX10_run_0 rfl (lv_at hl 0 rfl) ?_
  obtain ⟨hk1, hw⟩ := hw
  obtain ⟨x2, ex2, hw⟩ := hw
  refine mx_getr (C := RX10) (F := TX10) (N := 6) (ci := 11) X M 4 rfl in_X10 (by decide) rfl (by decide) kw_281 dX10_run_1 hk1 ?_
  rw [ex2]
  refine lv_iload_n X.1 X.2.1 dX10_run_4 rfl (lv_at hl 1 rfl) ?_
  obtain ⟨hk8, hw⟩ := hw
  obtain ⟨c4, z5, hc4, hz5, hw⟩ := hw
  have hw6 := hw
  clear hw
  refine mx_ci M (mx_runV (n := 1) (As := [.int a1]) (rest := []) X M (c_X0_advance l T B c4 z5 μ x2 a1 _ hw6) (mx_recv (C := RX0) (F := TX0) (N := 7) (ci := 2) X M rfl (by decide) hk8) kw_624 kw_625 kw_626 kw_67 kw_627 (by decide +kernel) rfl rfl ⟨Nat.le_of_ble_eq_true rfl, Nat.le_of_ble_eq_true rfl⟩ rfl hl.1 (Nat.le_of_ble_eq_true rfl) dX10_run_5 ⟨(show 0 + c4 ≤ c by omega), (show 0 + z5 ≤ z by omega)⟩) (fun r7 μ3 H locs ⟨hw, hKM3⟩ M => ?_)
  replace hw := hw hKM3
  have hKM3_ := hKM.tr hKM3
  have hk9 := hKM3.at hk1
  have hk10 := hKM3.at hk8
  have hc : (0 + c4) + (c - c4) ≤ c := by omega
  have hz : (0 + z5) + (z - z5) ≤ z := by omega
  exact mx_iret X hr hk M dX10_run_8 (by omega) (by omega) ⟨hw, hKM3_⟩

abbrev rm_X10_told : Room := { frames := 3, cells := 0, slots := 0, locals := 61 }
def wp_X10_told (μ : Mem) (o : Nat) (a1 : Int32) (post : Int32 → Mem → Prop) : Prop :=
  kd μ o = 12 ∧
  ∃ x2, fr μ 11 4 o = some x2 ∧
  kd μ x2 = 3 ∧
  wp_X0_figure μ x2 a1 (fun (r5 : Int32) (μ3 : Mem) =>
  KM μ μ3 →
  post r5 μ3)
set_option maxRecDepth 100000 in
set_option maxHeartbeats 4000000 in
theorem c_X10_told (l : Launch) (T : Tb) (B : Nat) (μ : Mem) (o : Nat) (a1 : Int32) (post : Int32 → Mem → Prop) (hw : wp_X10_told μ o a1 post) : Met l yX10_told (.code yX10_told cX10_told 2 (some .int) :: G) rm_X10_told (Pm (Rl T B) T B μ [.ref o, .int a1]) (va_Qi (fun r9 μ9 => post r9 μ9 ∧ KM μ μ9) (Bm (Rl T B)) (Ai B)) 0 0 (Ai B) := by
  refine mx_of RX10 rfl (by decide) (Nat.le_of_ble_eq_true rfl) ?_
  intro p e s m below meth c0 X hr hk hnm M ls hl
  have hl : lv_has ls 2 [(0, .ref o), (1, .int a1)] := hl
  unfold wp_X10_told at hw
  have hKM : KM μ μ := KM.rf μ
  refine lv_aload_n X.1 X.2.1 dX10_told_0 rfl (lv_at hl 0 rfl) ?_
  obtain ⟨hk1, hw⟩ := hw
  obtain ⟨x2, ex2, hw⟩ := hw
  refine mx_getr (C := RX10) (F := TX10) (N := 6) (ci := 11) X M 4 rfl in_X10 (by decide) rfl (by decide) kw_281 dX10_told_1 hk1 ?_
  rw [ex2]
  refine lv_iload_n X.1 X.2.1 dX10_told_4 rfl (lv_at hl 1 rfl) ?_
  obtain ⟨hk6, hw⟩ := hw
  have hw4 := hw
  clear hw
  refine mx_ci M (mx_runV (n := 1) (As := [.int a1]) (rest := []) X M (c_X0_figure l T B μ x2 a1 _ hw4) (mx_recv (C := RX0) (F := TX0) (N := 7) (ci := 2) X M rfl (by decide) hk6) kw_844 kw_845 kw_846 kw_67 kw_847 (by decide +kernel) rfl rfl ⟨Nat.le_of_ble_eq_true rfl, Nat.le_of_ble_eq_true rfl⟩ rfl hl.1 (Nat.le_of_ble_eq_true rfl) dX10_told_5 ⟨by decide, by decide⟩) (fun r5 μ3 H locs ⟨hw, hKM3⟩ M => ?_)
  replace hw := hw hKM3
  have hKM3_ := hKM.tr hKM3
  have hk7 := hKM3.at hk1
  have hk8 := hKM3.at hk6
  exact mx_iret X hr hk M dX10_told_8 (by decide) (by decide) ⟨hw, hKM3_⟩

abbrev rm_X10_slot : Room := { frames := 4, cells := 0, slots := 0, locals := 86 }
def wp_X10_slot (μ : Mem) (o : Nat) (a1 : Int32) (post : Int64 → Mem → Prop) : Prop :=
  kd μ o = 12 ∧
  ∃ x2, fr μ 11 4 o = some x2 ∧
  kd μ x2 = 3 ∧
  wp_X0_slotSeen μ x2 a1 (fun (r5 : Int64) (μ3 : Mem) =>
  KM μ μ3 →
  post r5 μ3)
set_option maxRecDepth 100000 in
set_option maxHeartbeats 4000000 in
theorem c_X10_slot (l : Launch) (T : Tb) (B : Nat) (μ : Mem) (o : Nat) (a1 : Int32) (post : Int64 → Mem → Prop) (hw : wp_X10_slot μ o a1 post) : Met l yX10_slot (.code yX10_slot cX10_slot 2 (some .long) :: G) rm_X10_slot (Pm (Rl T B) T B μ [.ref o, .int a1]) (va_Ql (fun r9 μ9 => post r9 μ9 ∧ KM μ μ9) (Bm (Rl T B)) (Ai B)) 0 0 (Ai B) := by
  refine mx_of RX10 rfl (by decide) (Nat.le_of_ble_eq_true rfl) ?_
  intro p e s m below meth c0 X hr hk hnm M ls hl
  have hl : lv_has ls 2 [(0, .ref o), (1, .int a1)] := hl
  unfold wp_X10_slot at hw
  have hKM : KM μ μ := KM.rf μ
  refine lv_aload_n X.1 X.2.1 dX10_slot_0 rfl (lv_at hl 0 rfl) ?_
  obtain ⟨hk1, hw⟩ := hw
  obtain ⟨x2, ex2, hw⟩ := hw
  refine mx_getr (C := RX10) (F := TX10) (N := 6) (ci := 11) X M 4 rfl in_X10 (by decide) rfl (by decide) kw_281 dX10_slot_1 hk1 ?_
  rw [ex2]
  refine lv_iload_n X.1 X.2.1 dX10_slot_4 rfl (lv_at hl 1 rfl) ?_
  obtain ⟨hk6, hw⟩ := hw
  have hw4 := hw
  clear hw
  refine mx_cl M (mx_runV (n := 1) (As := [.int a1]) (rest := []) X M (c_X0_slotSeen l T B μ x2 a1 _ hw4) (mx_recv (C := RX0) (F := TX0) (N := 7) (ci := 2) X M rfl (by decide) hk6) kw_895 kw_896 kw_897 kw_67 kw_898 (by decide +kernel) rfl rfl ⟨Nat.le_of_ble_eq_true rfl, Nat.le_of_ble_eq_true rfl⟩ rfl hl.1 (Nat.le_of_ble_eq_true rfl) dX10_slot_5 ⟨by decide, by decide⟩) (fun r5 μ3 H locs ⟨hw, hKM3⟩ M => ?_)
  replace hw := hw hKM3
  have hKM3_ := hKM.tr hKM3
  have hk7 := hKM3.at hk1
  have hk8 := hKM3.at hk6
  exact mx_lret X hr hk M dX10_slot_8 (by decide) (by decide) ⟨hw, hKM3_⟩
