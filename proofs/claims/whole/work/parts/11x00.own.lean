abbrev rm_Jxa1e45_init_da8c8 : Room := { frames := 1, cells := 0, slots := 0, locals := 20 }
def wp_Jxa1e45_init_da8c8 (μ : Mem) (o : Nat) (post : Mem → Prop) : Prop :=
  post μ
set_option maxRecDepth 100000 in
set_option maxHeartbeats 4000000 in
theorem c_Jxa1e45_init_da8c8 (l : Launch) (T : Tb) (B : Nat) (μ : Mem) (o : Nat) (post : Mem → Prop) (hw : wp_Jxa1e45_init_da8c8 μ o post) : Met l yJxa1e45_init_da8c8 (.code yJxa1e45_init_da8c8 cJxa1e45_init_da8c8 1 none :: G) rm_Jxa1e45_init_da8c8 (Pm (Rl T B) T B μ [.ref o]) (va_Qv (fun μ9 => post μ9 ∧ KM μ μ9) (Bm (Rl T B)) (Ai B)) 0 0 (Ai B) := by
  refine mx_of RJxa1e45 rfl (by decide) (Nat.le_of_ble_eq_true rfl) ?_
  intro p e s m below meth c0 X hr hk hnm M ls hl
  have hl : lv_has ls 1 [(0, .ref o)] := hl
  unfold wp_Jxa1e45_init_da8c8 at hw
  have hKM : KM μ μ := KM.rf μ
  refine lv_aload_n X.1 X.2.1 dJxa1e45_init_da8c8_0 rfl (lv_at hl 0 rfl) ?_
  refine my_obj X kw_109 kw_96 kw_97 hl.1 (Nat.le_of_ble_eq_true rfl) (Nat.le_of_ble_eq_true rfl) (Nat.le_of_ble_eq_true rfl) dJxa1e45_init_da8c8_1 ?_
  exact mx_vret X hr hk M dJxa1e45_init_da8c8_4 (by decide) (by decide) ⟨hw, hKM⟩

abbrev rm_Jxc12de_init_da8c8 : Room := { frames := 2, cells := 0, slots := 0, locals := 40 }
def wp_Jxc12de_init_da8c8 (μ : Mem) (o : Nat) (post : Mem → Prop) : Prop :=
  wp_Jxa1e45_init_da8c8 μ o (fun (μ1 : Mem) =>
  KM μ μ1 →
  kd μ1 o = 2 ∧
  ∀ μ4 : Mem, μ4 = sfi μ1 1 0 o 0 →
  post μ4)
set_option maxRecDepth 100000 in
set_option maxHeartbeats 4000000 in
theorem c_Jxc12de_init_da8c8 (l : Launch) (T : Tb) (B : Nat) (μ : Mem) (o : Nat) (post : Mem → Prop) (hw : wp_Jxc12de_init_da8c8 μ o post) : Met l yJxc12de_init_da8c8 (.code yJxc12de_init_da8c8 cJxc12de_init_da8c8 1 none :: G) rm_Jxc12de_init_da8c8 (Pm (Rl T B) T B μ [.ref o]) (va_Qv (fun μ9 => post μ9 ∧ KM μ μ9) (Bm (Rl T B)) (Ai B)) 0 0 (Ai B) := by
  refine mx_of RJxc12de rfl (by decide) (Nat.le_of_ble_eq_true rfl) ?_
  intro p e s m below meth c0 X hr hk hnm M ls hl
  have hl : lv_has ls 1 [(0, .ref o)] := hl
  unfold wp_Jxc12de_init_da8c8 at hw
  have hKM : KM μ μ := KM.rf μ
  refine lv_aload_n X.1 X.2.1 dJxc12de_init_da8c8_0 rfl (lv_at hl 0 rfl) ?_
  have hw2 := hw
  clear hw
  refine mx_cv M (mx_runI (n := 0) (As := []) (rest := []) X M (c_Jxa1e45_init_da8c8 l T B μ o _ hw2) kw_106 kw_107 rfl kw_66 kw_108 (by decide +kernel) rfl rfl ⟨Nat.le_of_ble_eq_true rfl, Nat.le_of_ble_eq_true rfl⟩ rfl hl.1 (Nat.le_of_ble_eq_true rfl) dJxc12de_init_da8c8_1 ⟨by decide, by decide⟩) (fun μ1 H locs ⟨hw, hKM1⟩ M => ?_)
  replace hw := hw hKM1
  have hKM1_ := hKM.tr hKM1
  refine lv_aload_n X.1 X.2.1 dJxc12de_init_da8c8_4 rfl (lv_at hl 0 rfl) ?_
  refine lv_iconst (v := 0) X.1 X.2.1 dJxc12de_init_da8c8_5 (by decide) ?_
  obtain ⟨hk3, hw⟩ := hw
  refine my_puti (C := RJx4a65c) (F := TJx4a65c) (N := 3) (ci := 1) X M 0 rfl in_Jx4a65c tyJx4a65c tyJx4a65c_ok nmJx4a65c (by decide) rfl (by decide) kw_114 (Or.inl rfl) dJxc12de_init_da8c8_6 hk3 rfl rfl (fun μ4 H locs eμ4 M => ?_)
  replace hw := hw μ4 eμ4
  have hKM5 : KM μ μ4 := by rw [eμ4]; exact hKM1_
  have hk6 : kd μ4 o = 2 := by rw [eμ4]; exact hk3
  exact mx_vret X hr hk M dJxc12de_init_da8c8_9 (by decide) (by decide) ⟨hw, hKM5⟩

abbrev rm_Jx4a65c_init_da8c8 : Room := { frames := 3, cells := 0, slots := 0, locals := 60 }
def wp_Jx4a65c_init_da8c8 (μ : Mem) (o : Nat) (post : Mem → Prop) : Prop :=
  wp_Jxc12de_init_da8c8 μ o (fun (μ1 : Mem) =>
  KM μ μ1 →
  ∀ q3, kd μ1 q3 = 106 →
  kd μ1 o = 2 ∧
  ∀ μ6 : Mem, μ6 = sfr μ1 1 1 o (some q3) →
  post μ6)
set_option maxRecDepth 100000 in
set_option maxHeartbeats 4000000 in
theorem c_Jx4a65c_init_da8c8 (l : Launch) (T : Tb) (B : Nat) (μ : Mem) (o : Nat) (post : Mem → Prop) (hw : wp_Jx4a65c_init_da8c8 μ o post) : Met l yJx4a65c_init_da8c8 (.code yJx4a65c_init_da8c8 cJx4a65c_init_da8c8 1 none :: G) rm_Jx4a65c_init_da8c8 (Pm (Rl T B) T B μ [.ref o]) (va_Qv (fun μ9 => post μ9 ∧ KM μ μ9) (Bm (Rl T B)) (Ai B)) 0 0 (Ai B) := by
  refine mx_of RJx4a65c rfl (by decide) (Nat.le_of_ble_eq_true rfl) ?_
  intro p e s m below meth c0 X hr hk hnm M ls hl
  have hl : lv_has ls 1 [(0, .ref o)] := hl
  unfold wp_Jx4a65c_init_da8c8 at hw
  have hKM : KM μ μ := KM.rf μ
  refine lv_aload_n X.1 X.2.1 dJx4a65c_init_da8c8_0 rfl (lv_at hl 0 rfl) ?_
  have hw2 := hw
  clear hw
  refine mx_cv M (mx_runI (n := 0) (As := []) (rest := []) X M (c_Jxc12de_init_da8c8 l T B μ o _ hw2) kw_103 kw_104 rfl kw_67 kw_105 (by decide +kernel) rfl rfl ⟨Nat.le_of_ble_eq_true rfl, Nat.le_of_ble_eq_true rfl⟩ rfl hl.1 (Nat.le_of_ble_eq_true rfl) dJx4a65c_init_da8c8_1 ⟨by decide, by decide⟩) (fun μ1 H locs ⟨hw, hKM1⟩ M => ?_)
  replace hw := hw hKM1
  have hKM1_ := hKM.tr hKM1
  refine lv_aload_n X.1 X.2.1 dJx4a65c_init_da8c8_4 rfl (lv_at hl 0 rfl) ?_
  refine my_stE X M kw_110 dJx4a65c_init_da8c8_5 (fun q3 hk4 => ?_)
  replace hw := hw q3 hk4
  obtain ⟨hk5, hw⟩ := hw
  refine my_putr (C := RJx4a65c) (F := TJx4a65c) (N := 3) (ci := 1) X M 1 rfl in_Jx4a65c tyJx4a65c tyJx4a65c_ok nmJx4a65c (by decide) rfl (by decide) kw_112 (Or.inl rfl) dJx4a65c_init_da8c8_8 hk5 (some q3) (mq_na _ _) (mq_fa _ _) (fun μ6 H locs eμ6 M => ?_)
  replace hw := hw μ6 eμ6
  have hKM7 : KM μ μ6 := by rw [eμ6]; exact hKM1_
  have hk8 : kd μ6 q3 = 106 := by rw [eμ6]; exact hk4
  have hk9 : kd μ6 o = 2 := by rw [eμ6]; exact hk5
  exact mx_vret X hr hk M dJx4a65c_init_da8c8_11 (by decide) (by decide) ⟨hw, hKM7⟩

abbrev rm_Jx4a65c_size_8abf5 : Room := { frames := 0, cells := 0, slots := 0, locals := 0 }
def wp_Jx4a65c_size_8abf5 (μ : Mem) (o : Nat) (post : Int32 → Mem → Prop) : Prop :=
  kd μ o = 2 ∧
  post (fi μ 1 2 o) μ
set_option maxRecDepth 100000 in
set_option maxHeartbeats 4000000 in
theorem c_Jx4a65c_size_8abf5 (l : Launch) (T : Tb) (B : Nat) (μ : Mem) (o : Nat) (post : Int32 → Mem → Prop) (hw : wp_Jx4a65c_size_8abf5 μ o post) : Met l yJx4a65c_size_8abf5 (.code yJx4a65c_size_8abf5 cJx4a65c_size_8abf5 1 (some .int) :: G) rm_Jx4a65c_size_8abf5 (Pm (Rl T B) T B μ [.ref o]) (va_Qi (fun r9 μ9 => post r9 μ9 ∧ KM μ μ9) (Bm (Rl T B)) (Ai B)) 0 0 (Ai B) := by
  refine mx_of RJx4a65c rfl (by decide) (Nat.le_of_ble_eq_true rfl) ?_
  intro p e s m below meth c0 X hr hk hnm M ls hl
  have hl : lv_has ls 1 [(0, .ref o)] := hl
  unfold wp_Jx4a65c_size_8abf5 at hw
  have hKM : KM μ μ := KM.rf μ
  refine lv_aload_n X.1 X.2.1 dJx4a65c_size_8abf5_0 rfl (lv_at hl 0 rfl) ?_
  obtain ⟨hk1, hw⟩ := hw
  refine mx_geti (C := RJx4a65c) (F := TJx4a65c) (N := 3) (ci := 1) X M 2 rfl in_Jx4a65c (by decide) rfl (by decide) kw_113 dJx4a65c_size_8abf5_1 hk1 ?_
  exact mx_iret X hr hk M dJx4a65c_size_8abf5_4 (by decide) (by decide) ⟨hw, hKM⟩

abbrev rm_Jx4a65c_elementData_915e3 : Room := { frames := 0, cells := 0, slots := 0, locals := 0 }
def wp_Jx4a65c_elementData_915e3 (μ : Mem) (o : Nat) (a1 : Int32) (post : Option Nat → Mem → Prop) : Prop :=
  kd μ o = 2 ∧
  ∃ x2, fr μ 1 1 o = some x2 ∧
  kd μ x2 = 105 ∧
  vp_in a1 (al μ x2) ∧
  ∀ r4, r4 = ar μ x2 (Int32.toNatClampNeg a1) →
  post r4 μ
set_option maxRecDepth 100000 in
set_option maxHeartbeats 4000000 in
theorem c_Jx4a65c_elementData_915e3 (l : Launch) (T : Tb) (B : Nat) (μ : Mem) (o : Nat) (a1 : Int32) (post : Option Nat → Mem → Prop) (hw : wp_Jx4a65c_elementData_915e3 μ o a1 post) : Met l yJx4a65c_elementData_915e3 (.code yJx4a65c_elementData_915e3 cJx4a65c_elementData_915e3 2 (some (.object "java/lang/Object")) :: G) rm_Jx4a65c_elementData_915e3 (Pm (Rl T B) T B μ [.ref o, .int a1]) (va_Qq (fun r9 μ9 => post r9 μ9 ∧ KM μ μ9) (Bm (Rl T B)) (Ai B)) 0 0 (Ai B) := by
  refine mx_of RJx4a65c rfl (by decide) (Nat.le_of_ble_eq_true rfl) ?_
  intro p e s m below meth c0 X hr hk hnm M ls hl
  have hl : lv_has ls 2 [(0, .ref o), (1, .int a1)] := hl
  unfold wp_Jx4a65c_elementData_915e3 at hw
  have hKM : KM μ μ := KM.rf μ
  refine lv_aload_n X.1 X.2.1 dJx4a65c_elementData_915e3_0 rfl (lv_at hl 0 rfl) ?_
  obtain ⟨hk1, hw⟩ := hw
  obtain ⟨x2, ex2, hw⟩ := hw
  refine mx_getr (C := RJx4a65c) (F := TJx4a65c) (N := 3) (ci := 1) X M 1 rfl in_Jx4a65c (by decide) rfl (by decide) kw_112 dJx4a65c_elementData_915e3_1 hk1 ?_
  rw [ex2]
  refine lv_iload_n X.1 X.2.1 dJx4a65c_elementData_915e3_4 rfl (lv_at hl 1 rfl) ?_
  obtain ⟨hk3, hw⟩ := hw
  obtain ⟨hi, hw⟩ := hw
  refine mx_rld X M dJx4a65c_elementData_915e3_5 hk3 hi ?_
  obtain ⟨r4, er4⟩ : ∃ y, y = ar μ x2 (Int32.toNatClampNeg a1) := ⟨_, rfl⟩
  replace hw := hw r4 er4
  rw [← er4]
  exact mx_aret (r := r4) X hr (Or.inl ⟨_, rfl⟩) hk M dJx4a65c_elementData_915e3_6 (by decide) (by decide) ⟨hw, hKM⟩

abbrev rm_J3_checkIndex_8e157 : Room := { frames := 0, cells := 0, slots := 0, locals := 0 }
def wp_J3_checkIndex_8e157 (μ : Mem) (a1 : Int32) (a2 : Int32) (a3 : Option Nat) (post : Int32 → Mem → Prop) : Prop :=
  (a1 < 0 →
   False) ∧ (¬ a1 < 0 →
   (a1 < a2 →
    post a1 μ) ∧ (¬ a1 < a2 →
    False))
set_option maxRecDepth 100000 in
set_option maxHeartbeats 4000000 in
theorem c_J3_checkIndex_8e157 (l : Launch) (T : Tb) (B : Nat) (μ : Mem) (a1 : Int32) (a2 : Int32) (a3 : Option Nat) (post : Int32 → Mem → Prop) (hw : wp_J3_checkIndex_8e157 μ a1 a2 a3 post) : Met l yJ3_checkIndex_8e157 (.code yJ3_checkIndex_8e157 cJ3_checkIndex_8e157 3 (some .int) :: G) rm_J3_checkIndex_8e157 (Pm (Rl T B) T B μ [.int a1, .int a2, va_rf a3]) (va_Qi (fun r9 μ9 => post r9 μ9 ∧ KM μ μ9) (Bm (Rl T B)) (Ai B)) 0 0 (Ai B) := by
  refine mx_of RJ3 rfl (by decide) (by cases a3 <;> exact Nat.le_of_ble_eq_true rfl) ?_
  intro p e s m below meth c0 X hr hk hnm M ls hl
  have hl : lv_has ls 3 [(0, .int a1), (1, .int a2), (2, va_rf a3)] := hl
  unfold wp_J3_checkIndex_8e157 at hw
  have hKM : KM μ μ := KM.rf μ
  refine lv_iload_n X.1 X.2.1 dJ3_checkIndex_8e157_0 rfl (lv_at hl 0 rfl) ?_
  obtain ⟨hwt, hwf⟩ := hw
  refine lv_if_lt (tgt := 9) X.1 X.2.1 dJ3_checkIndex_8e157_1 (by decide) (fun hq => ?_) (fun hq => ?_)
  · have hw := hwt hq
    refine mq_aload_n X.1 X.2.1 dJ3_checkIndex_8e157_9 rfl (lv_at hl 2 rfl) ?_
    refine lv_iload_n X.1 X.2.1 dJ3_checkIndex_8e157_10 rfl (lv_at hl 0 rfl) ?_
    refine lv_iload_n X.1 X.2.1 dJ3_checkIndex_8e157_11 rfl (lv_at hl 1 rfl) ?_
    exact hw.elim
  · have hw := hwf hq
    refine lv_iload_n X.1 X.2.1 dJ3_checkIndex_8e157_4 rfl (lv_at hl 0 rfl) ?_
    refine lv_iload_n X.1 X.2.1 dJ3_checkIndex_8e157_5 rfl (lv_at hl 1 rfl) ?_
    obtain ⟨hwt, hwf⟩ := hw
    refine lv_icmp_lt (tgt := 16) X.1 X.2.1 dJ3_checkIndex_8e157_6 (by decide) (fun hq => ?_) (fun hq => ?_)
    · have hw := hwt hq
      refine lv_iload_n X.1 X.2.1 dJ3_checkIndex_8e157_16 rfl (lv_at hl 0 rfl) ?_
      exact mx_iret X hr hk M dJ3_checkIndex_8e157_17 (by decide) (by decide) ⟨hw, hKM⟩
    · have hw := hwf hq
      refine mq_aload_n X.1 X.2.1 dJ3_checkIndex_8e157_9 rfl (lv_at hl 2 rfl) ?_
      refine lv_iload_n X.1 X.2.1 dJ3_checkIndex_8e157_10 rfl (lv_at hl 0 rfl) ?_
      refine lv_iload_n X.1 X.2.1 dJ3_checkIndex_8e157_11 rfl (lv_at hl 1 rfl) ?_
      exact hw.elim

abbrev rm_J15_checkIndex_7cf53 : Room := { frames := 1, cells := 0, slots := 0, locals := 22 }
def wp_J15_checkIndex_7cf53 (μ : Mem) (a1 : Int32) (a2 : Int32) (post : Int32 → Mem → Prop) : Prop :=
  wp_J3_checkIndex_8e157 μ a1 a2 none (fun (r3 : Int32) (μ1 : Mem) =>
  KM μ μ1 →
  post r3 μ1)
set_option maxRecDepth 100000 in
set_option maxHeartbeats 4000000 in
theorem c_J15_checkIndex_7cf53 (l : Launch) (T : Tb) (B : Nat) (μ : Mem) (a1 : Int32) (a2 : Int32) (post : Int32 → Mem → Prop) (hw : wp_J15_checkIndex_7cf53 μ a1 a2 post) : Met l yJ15_checkIndex_7cf53 (.code yJ15_checkIndex_7cf53 cJ15_checkIndex_7cf53 2 (some .int) :: G) rm_J15_checkIndex_7cf53 (Pm (Rl T B) T B μ [.int a1, .int a2]) (va_Qi (fun r9 μ9 => post r9 μ9 ∧ KM μ μ9) (Bm (Rl T B)) (Ai B)) 0 0 (Ai B) := by
  refine mx_of RJ15 rfl (by decide) (Nat.le_of_ble_eq_true rfl) ?_
  intro p e s m below meth c0 X hr hk hnm M ls hl
  have hl : lv_has ls 2 [(0, .int a1), (1, .int a2)] := hl
  unfold wp_J15_checkIndex_7cf53 at hw
  have hKM : KM μ μ := KM.rf μ
  refine lv_iload_n X.1 X.2.1 dJ15_checkIndex_7cf53_0 rfl (lv_at hl 0 rfl) ?_
  refine lv_iload_n X.1 X.2.1 dJ15_checkIndex_7cf53_1 rfl (lv_at hl 1 rfl) ?_
  refine lv_null X.1 X.2.1 dJ15_checkIndex_7cf53_2 ?_
  have hw2 := hw
  clear hw
  refine mx_ci M (mx_runS (n := 3) (As := [.int a1, .int a2, va_rf none]) (rest := []) X M (c_J3_checkIndex_8e157 l T B μ a1 a2 none _ hw2) kw_451 kw_452 kw_82 kw_453 (by decide +kernel) rfl rfl ⟨Nat.le_of_ble_eq_true rfl, Nat.le_of_ble_eq_true rfl⟩ rfl hl.1 (Nat.le_of_ble_eq_true rfl) dJ15_checkIndex_7cf53_3 ⟨by decide, by decide⟩) (fun r3 μ1 H locs ⟨hw, hKM1⟩ M => ?_)
  replace hw := hw hKM1
  have hKM1_ := hKM.tr hKM1
  exact mx_iret X hr hk M dJ15_checkIndex_7cf53_6 (by decide) (by decide) ⟨hw, hKM1_⟩

abbrev rm_Jx4a65c_get_915e3 : Room := { frames := 2, cells := 0, slots := 0, locals := 43 }
def wp_Jx4a65c_get_915e3 (μ : Mem) (o : Nat) (a1 : Int32) (post : Option Nat → Mem → Prop) : Prop :=
  kd μ o = 2 ∧
  wp_J15_checkIndex_7cf53 μ a1 (fi μ 1 2 o) (fun (r4 : Int32) (μ2 : Mem) =>
  KM μ μ2 →
  wp_Jx4a65c_elementData_915e3 μ2 o a1 (fun (r8 : Option Nat) (μ6 : Mem) =>
  KM μ2 μ6 →
  post r8 μ6))
set_option maxRecDepth 100000 in
set_option maxHeartbeats 4000000 in
theorem c_Jx4a65c_get_915e3 (l : Launch) (T : Tb) (B : Nat) (μ : Mem) (o : Nat) (a1 : Int32) (post : Option Nat → Mem → Prop) (hw : wp_Jx4a65c_get_915e3 μ o a1 post) : Met l yJx4a65c_get_915e3 (.code yJx4a65c_get_915e3 cJx4a65c_get_915e3 2 (some (.object "java/lang/Object")) :: G) rm_Jx4a65c_get_915e3 (Pm (Rl T B) T B μ [.ref o, .int a1]) (va_Qq (fun r9 μ9 => post r9 μ9 ∧ KM μ μ9) (Bm (Rl T B)) (Ai B)) 0 0 (Ai B) := by
  refine mx_of RJx4a65c rfl (by decide) (Nat.le_of_ble_eq_true rfl) ?_
  intro p e s m below meth c0 X hr hk hnm M ls hl
  have hl : lv_has ls 2 [(0, .ref o), (1, .int a1)] := hl
  unfold wp_Jx4a65c_get_915e3 at hw
  have hKM : KM μ μ := KM.rf μ
  refine lv_iload_n X.1 X.2.1 dJx4a65c_get_915e3_0 rfl (lv_at hl 1 rfl) ?_
  refine lv_aload_n X.1 X.2.1 dJx4a65c_get_915e3_1 rfl (lv_at hl 0 rfl) ?_
  obtain ⟨hk1, hw⟩ := hw
  refine mx_geti (C := RJx4a65c) (F := TJx4a65c) (N := 3) (ci := 1) X M 2 rfl in_Jx4a65c (by decide) rfl (by decide) kw_113 dJx4a65c_get_915e3_2 hk1 ?_
  have hw3 := hw
  clear hw
  refine mx_ci M (mx_runS (n := 2) (As := [.int a1, .int (fi μ 1 2 o)]) (rest := []) X M (c_J15_checkIndex_7cf53 l T B μ a1 (fi μ 1 2 o) _ hw3) kw_448 kw_449 kw_81 kw_450 (by decide +kernel) rfl rfl ⟨Nat.le_of_ble_eq_true rfl, Nat.le_of_ble_eq_true rfl⟩ rfl hl.1 (Nat.le_of_ble_eq_true rfl) dJx4a65c_get_915e3_5 ⟨by decide, by decide⟩) (fun r4 μ2 H locs ⟨hw, hKM2⟩ M => ?_)
  replace hw := hw hKM2
  have hKM2_ := hKM.tr hKM2
  have hk5 := hKM2.at hk1
  refine lv_pop X.1 X.2.1 dJx4a65c_get_915e3_8 rfl ?_
  refine lv_aload_n X.1 X.2.1 dJx4a65c_get_915e3_9 rfl (lv_at hl 0 rfl) ?_
  refine lv_iload_n X.1 X.2.1 dJx4a65c_get_915e3_10 rfl (lv_at hl 1 rfl) ?_
  have hw7 := hw
  clear hw
  refine mx_cq M (mx_runV (n := 1) (As := [.int a1]) (rest := []) X M (c_Jx4a65c_elementData_915e3 l T B μ2 o a1 _ hw7) (mx_recv (C := RJx4a65c) (F := TJx4a65c) (N := 3) (ci := 1) X M rfl (by decide) hk5) kw_454 kw_455 kw_456 kw_68 kw_457 (by decide +kernel) rfl rfl ⟨Nat.le_of_ble_eq_true rfl, Nat.le_of_ble_eq_true rfl⟩ rfl hl.1 (Nat.le_of_ble_eq_true rfl) dJx4a65c_get_915e3_11 ⟨by decide, by decide⟩) (fun r8 μ6 H locs ⟨hw, hKM6⟩ M => ?_)
  replace hw := hw hKM6
  have hKM6_ := hKM2_.tr hKM6
  have hk9 := hKM6.at hk5
  exact mx_aret (r := r8) X hr (Or.inl ⟨_, rfl⟩) hk M dJx4a65c_get_915e3_14 (by decide) (by decide) ⟨hw, hKM6_⟩

abbrev rm_J7_copyOf_c38d5 (c z : Nat) : Room := { frames := 1, cells := c, slots := z, locals := 40 }
def wp_J7_copyOf_c38d5 (c z : Nat) (μ : Mem) (a1 : Nat) (a2 : Int32) (post : Option Nat → Mem → Prop) : Prop :=
  isArr (kd μ a1) ∧
  (a2 = (nI (al μ a1)) →
   False) ∧ (¬ a2 = (nI (al μ a1)) →
   ¬ a2 < 0 ∧ (Int32.toNatClampNeg a2) ≤ 1048576 ∧ 1 ≤ c ∧ (Int32.toNatClampNeg a2) ≤ z ∧ ∀ (q1 : Nat) (μ2 : Mem), kd μ q1 = 0 → μ2 = nar μ 103 q1 (Int32.toNatClampNeg a2) →
   isArr (kd μ2 a1) ∧
   kd μ2 a1 = 103 ∧
   ¬ (0 : Int32) < 0 ∧ ¬ (0 : Int32) < 0 ∧ ¬ (if a2 < (nI (al μ2 a1)) then a2 else (nI (al μ2 a1))) < 0 ∧ (Int32.toNatClampNeg 0) + (Int32.toNatClampNeg (if a2 < (nI (al μ2 a1)) then a2 else (nI (al μ2 a1)))) ≤ al μ2 a1 ∧ (Int32.toNatClampNeg 0) + (Int32.toNatClampNeg (if a2 < (nI (al μ2 a1)) then a2 else (nI (al μ2 a1)))) ≤ al μ2 q1 ∧ ∀ μ6 : Mem, μ6 = cpj μ2 a1 (Int32.toNatClampNeg 0) q1 (Int32.toNatClampNeg 0) (Int32.toNatClampNeg (if a2 < (nI (al μ2 a1)) then a2 else (nI (al μ2 a1)))) →
   post (some q1) μ6)
set_option maxRecDepth 100000 in
set_option maxHeartbeats 4000000 in
theorem c_J7_copyOf_c38d5 (l : Launch) (T : Tb) (B : Nat) (c z : Nat) (μ : Mem) (a1 : Nat) (a2 : Int32) (post : Option Nat → Mem → Prop) (hw : wp_J7_copyOf_c38d5 c z μ a1 a2 post) : Met l yJ7_copyOf_c38d5 (.code yJ7_copyOf_c38d5 cJ7_copyOf_c38d5 3 (some (.array .long)) :: G) (rm_J7_copyOf_c38d5 c z) (Pm (Rl T B) T B μ [.ref a1, .int a2]) (va_Qq (fun r9 μ9 => post r9 μ9 ∧ KM μ μ9) (Bm (Rl T B)) (Ai B)) c z (Ai B) := by
  refine mx_of RJ7 rfl (by decide) (Nat.le_of_ble_eq_true rfl) ?_
  intro p e s m below meth c0 X hr hk hnm M ls hl
  have hl : lv_has ls 3 [(0, .ref a1), (1, .int a2)] := hl
  unfold wp_J7_copyOf_c38d5 at hw
  have hKM : KM μ μ := KM.rf μ
  have hc : 0 + c ≤ c := by omega
  have hz : 0 + z ≤ z := by omega
  refine lv_iload_n X.1 X.2.1 dJ7_copyOf_c38d5_0 rfl (lv_at hl 1 rfl) ?_
  refine lv_aload_n X.1 X.2.1 dJ7_copyOf_c38d5_1 rfl (lv_at hl 0 rfl) ?_
  obtain ⟨hia, hw⟩ := hw
  refine mx_len X M dJ7_copyOf_c38d5_2 hia ?_
  obtain ⟨hwf, hwt⟩ := hw
  refine lv_icmp_ne (tgt := 14) X.1 X.2.1 dJ7_copyOf_c38d5_3 (by decide) (fun hq => ?_) (fun hq => ?_)
  · have hw := hwt hq
    refine lv_iload_n X.1 X.2.1 dJ7_copyOf_c38d5_14 rfl (lv_at hl 1 rfl) ?_
    obtain ⟨hb0, hb3, hb1, hb2, hw⟩ := hw
    refine my_newJ X M kw_152 dJ7_copyOf_c38d5_15 hb0 hb3 (show 0 + 1 ≤ c by omega) (show 0 + (Int32.toNatClampNeg a2) ≤ z by omega) (fun q1 μ2 H hq1 eμ2 M => ?_)
    replace hw := hw q1 μ2 hq1 eμ2
    have hKM3 : KM μ μ2 := by rw [eμ2]; exact hKM.tr (KM_nar hq1)
    have hk4 : kd μ2 q1 = 103 := by rw [eμ2]; exact kd_nar
    have hc : (0 + 1) + (c - 1) ≤ c := by omega
    have hz : (0 + (Int32.toNatClampNeg a2)) + (z - (Int32.toNatClampNeg a2)) ≤ z := by omega
    refine lv_astore_n (lv' := [(2, .ref q1), (0, .ref a1), (1, .int a2)]) X.1 X.2.1 dJ7_copyOf_c38d5_17 rfl hl (by decide) rfl (fun ls hl => ?_)
    refine lv_aload_n X.1 X.2.1 dJ7_copyOf_c38d5_18 rfl (lv_at hl 1 rfl) ?_
    refine lv_iconst (v := 0) X.1 X.2.1 dJ7_copyOf_c38d5_19 (by decide) ?_
    refine lv_aload_n X.1 X.2.1 dJ7_copyOf_c38d5_20 rfl (lv_at hl 0 rfl) ?_
    refine lv_iconst (v := 0) X.1 X.2.1 dJ7_copyOf_c38d5_21 (by decide) ?_
    refine lv_aload_n X.1 X.2.1 dJ7_copyOf_c38d5_22 rfl (lv_at hl 1 rfl) ?_
    obtain ⟨hia, hw⟩ := hw
    refine mx_len X M dJ7_copyOf_c38d5_23 hia ?_
    refine lv_iload_n X.1 X.2.1 dJ7_copyOf_c38d5_24 rfl (lv_at hl 2 rfl) ?_
    refine my_min X kw_292 kw_293 kw_75 kw_294 hl.1 (Nat.le_of_ble_eq_true rfl) (Nat.le_of_ble_eq_true rfl) (show (0 + 1) ≤ c by omega) (show (0 + (Int32.toNatClampNeg a2)) ≤ z by omega) dJ7_copyOf_c38d5_25 ?_
    obtain ⟨hk5, hw⟩ := hw
    obtain ⟨g1, g2, g3, g4, g5, hw⟩ := hw
    refine my_cpj X M ⟨kw_295, kw_297, kw_296, kw_77⟩ hl.1 hk5 hk4 g1 g2 g3 g4 g5 (Nat.le_of_ble_eq_true rfl) (Nat.le_of_ble_eq_true rfl) dJ7_copyOf_c38d5_28 (fun μ6 H locs eμ6 M => ?_)
    replace hw := hw μ6 eμ6
    have hKM7 : KM μ μ6 := by rw [eμ6]; exact hKM3
    have hk8 : kd μ6 q1 = 103 := by rw [eμ6]; exact hk4
    have hk9 : kd μ6 a1 = 103 := by rw [eμ6]; exact hk5
    refine lv_aload_n X.1 X.2.1 dJ7_copyOf_c38d5_31 rfl (lv_at hl 0 rfl) ?_
    exact mx_aret (r := (some q1)) X hr (Or.inr ⟨_, rfl⟩) hk M dJ7_copyOf_c38d5_32 (by omega) (by omega) ⟨hw, hKM7⟩
  · have hw := hwf hq
    refine lv_aload_n X.1 X.2.1 dJ7_copyOf_c38d5_6 rfl (lv_at hl 0 rfl) ?_
    exact hw.elim

abbrev rm_J7_copyOf_59c91 (c z : Nat) : Room := { frames := 1, cells := c, slots := z, locals := 40 }
def wp_J7_copyOf_59c91 (c z : Nat) (μ : Mem) (a1 : Nat) (a2 : Int32) (post : Option Nat → Mem → Prop) : Prop :=
  isArr (kd μ a1) ∧
  (a2 = (nI (al μ a1)) →
   kd μ a1 = 102 ∧
   1 ≤ c ∧ al μ a1 ≤ z ∧ ∀ (q11 : Nat) (μ12 : Mem), kd μ q11 = 0 → μ12 = cln μ a1 q11 →
   post (some q11) μ12) ∧ (¬ a2 = (nI (al μ a1)) →
   ¬ a2 < 0 ∧ (Int32.toNatClampNeg a2) ≤ 1048576 ∧ 1 ≤ c ∧ (Int32.toNatClampNeg a2) ≤ z ∧ ∀ (q1 : Nat) (μ2 : Mem), kd μ q1 = 0 → μ2 = nar μ 102 q1 (Int32.toNatClampNeg a2) →
   isArr (kd μ2 a1) ∧
   kd μ2 a1 = 102 ∧
   ¬ (0 : Int32) < 0 ∧ ¬ (0 : Int32) < 0 ∧ ¬ (if a2 < (nI (al μ2 a1)) then a2 else (nI (al μ2 a1))) < 0 ∧ (Int32.toNatClampNeg 0) + (Int32.toNatClampNeg (if a2 < (nI (al μ2 a1)) then a2 else (nI (al μ2 a1)))) ≤ al μ2 a1 ∧ (Int32.toNatClampNeg 0) + (Int32.toNatClampNeg (if a2 < (nI (al μ2 a1)) then a2 else (nI (al μ2 a1)))) ≤ al μ2 q1 ∧ ∀ μ6 : Mem, μ6 = cpi μ2 a1 (Int32.toNatClampNeg 0) q1 (Int32.toNatClampNeg 0) (Int32.toNatClampNeg (if a2 < (nI (al μ2 a1)) then a2 else (nI (al μ2 a1)))) →
   post (some q1) μ6)
set_option maxRecDepth 100000 in
set_option maxHeartbeats 4000000 in
theorem c_J7_copyOf_59c91 (l : Launch) (T : Tb) (B : Nat) (c z : Nat) (μ : Mem) (a1 : Nat) (a2 : Int32) (post : Option Nat → Mem → Prop) (hw : wp_J7_copyOf_59c91 c z μ a1 a2 post) : Met l yJ7_copyOf_59c91 (.code yJ7_copyOf_59c91 cJ7_copyOf_59c91 3 (some (.array .int)) :: G) (rm_J7_copyOf_59c91 c z) (Pm (Rl T B) T B μ [.ref a1, .int a2]) (va_Qq (fun r9 μ9 => post r9 μ9 ∧ KM μ μ9) (Bm (Rl T B)) (Ai B)) c z (Ai B) := by
  refine mx_of RJ7 rfl (by decide) (Nat.le_of_ble_eq_true rfl) ?_
  intro p e s m below meth c0 X hr hk hnm M ls hl
  have hl : lv_has ls 3 [(0, .ref a1), (1, .int a2)] := hl
  unfold wp_J7_copyOf_59c91 at hw
  have hKM : KM μ μ := KM.rf μ
  have hc : 0 + c ≤ c := by omega
  have hz : 0 + z ≤ z := by omega
  refine lv_iload_n X.1 X.2.1 dJ7_copyOf_59c91_0 rfl (lv_at hl 1 rfl) ?_
  refine lv_aload_n X.1 X.2.1 dJ7_copyOf_59c91_1 rfl (lv_at hl 0 rfl) ?_
  obtain ⟨hia, hw⟩ := hw
  refine mx_len X M dJ7_copyOf_59c91_2 hia ?_
  obtain ⟨hwf, hwt⟩ := hw
  refine lv_icmp_ne (tgt := 14) X.1 X.2.1 dJ7_copyOf_59c91_3 (by decide) (fun hq => ?_) (fun hq => ?_)
  · have hw := hwt hq
    refine lv_iload_n X.1 X.2.1 dJ7_copyOf_59c91_14 rfl (lv_at hl 1 rfl) ?_
    obtain ⟨hb0, hb3, hb1, hb2, hw⟩ := hw
    refine my_newI X M kw_124 dJ7_copyOf_59c91_15 hb0 hb3 (show 0 + 1 ≤ c by omega) (show 0 + (Int32.toNatClampNeg a2) ≤ z by omega) (fun q1 μ2 H hq1 eμ2 M => ?_)
    replace hw := hw q1 μ2 hq1 eμ2
    have hKM3 : KM μ μ2 := by rw [eμ2]; exact hKM.tr (KM_nar hq1)
    have hk4 : kd μ2 q1 = 102 := by rw [eμ2]; exact kd_nar
    have hc : (0 + 1) + (c - 1) ≤ c := by omega
    have hz : (0 + (Int32.toNatClampNeg a2)) + (z - (Int32.toNatClampNeg a2)) ≤ z := by omega
    refine lv_astore_n (lv' := [(2, .ref q1), (0, .ref a1), (1, .int a2)]) X.1 X.2.1 dJ7_copyOf_59c91_17 rfl hl (by decide) rfl (fun ls hl => ?_)
    refine lv_aload_n X.1 X.2.1 dJ7_copyOf_59c91_18 rfl (lv_at hl 1 rfl) ?_
    refine lv_iconst (v := 0) X.1 X.2.1 dJ7_copyOf_59c91_19 (by decide) ?_
    refine lv_aload_n X.1 X.2.1 dJ7_copyOf_59c91_20 rfl (lv_at hl 0 rfl) ?_
    refine lv_iconst (v := 0) X.1 X.2.1 dJ7_copyOf_59c91_21 (by decide) ?_
    refine lv_aload_n X.1 X.2.1 dJ7_copyOf_59c91_22 rfl (lv_at hl 1 rfl) ?_
    obtain ⟨hia, hw⟩ := hw
    refine mx_len X M dJ7_copyOf_59c91_23 hia ?_
    refine lv_iload_n X.1 X.2.1 dJ7_copyOf_59c91_24 rfl (lv_at hl 2 rfl) ?_
    refine my_min X kw_292 kw_293 kw_75 kw_294 hl.1 (Nat.le_of_ble_eq_true rfl) (Nat.le_of_ble_eq_true rfl) (show (0 + 1) ≤ c by omega) (show (0 + (Int32.toNatClampNeg a2)) ≤ z by omega) dJ7_copyOf_59c91_25 ?_
    obtain ⟨hk5, hw⟩ := hw
    obtain ⟨g1, g2, g3, g4, g5, hw⟩ := hw
    refine my_cpi X M ⟨kw_295, kw_297, kw_296, kw_77⟩ hl.1 hk5 hk4 g1 g2 g3 g4 g5 (Nat.le_of_ble_eq_true rfl) (Nat.le_of_ble_eq_true rfl) dJ7_copyOf_59c91_28 (fun μ6 H locs eμ6 M => ?_)
    replace hw := hw μ6 eμ6
    have hKM7 : KM μ μ6 := by rw [eμ6]; exact hKM3
    have hk8 : kd μ6 q1 = 102 := by rw [eμ6]; exact hk4
    have hk9 : kd μ6 a1 = 102 := by rw [eμ6]; exact hk5
    refine lv_aload_n X.1 X.2.1 dJ7_copyOf_59c91_31 rfl (lv_at hl 0 rfl) ?_
    exact mx_aret (r := (some q1)) X hr (Or.inr ⟨_, rfl⟩) hk M dJ7_copyOf_59c91_32 (by omega) (by omega) ⟨hw, hKM7⟩
  · have hw := hwf hq
    refine lv_aload_n X.1 X.2.1 dJ7_copyOf_59c91_6 rfl (lv_at hl 0 rfl) ?_
    obtain ⟨hk10, hw⟩ := hw
    obtain ⟨hb1, hb2, hw⟩ := hw
    refine my_clnI X M kw_285 kw_286 kw_287 kw_288 kw_289 kw_290 hl.1 hk10 (Nat.le_of_ble_eq_true rfl) (Nat.le_of_ble_eq_true rfl) (show 0 + 1 ≤ c by omega) (show 0 + al μ a1 ≤ z by omega) dJ7_copyOf_59c91_7 (fun q11 μ12 H hq11 eμ12 M => ?_)
    replace hw := hw q11 μ12 hq11 eμ12
    have hKM13 : KM μ μ12 := by rw [eμ12]; exact hKM.tr (KM_cln hq11)
    have hk14 : kd μ12 a1 = 102 := by rw [eμ12]; exact (KM_cln hq11).at hk10
    have hk15 : kd μ12 q11 = 102 := by rw [eμ12]; simp [kd, cln, va_up]; exact hk10
    have hc : (0 + 1) + (c - 1) ≤ c := by omega
    have hz : (0 + al μ a1) + (z - al μ a1) ≤ z := by omega
    refine my_castI X M kw_291 hk15 dJ7_copyOf_59c91_10 ?_
    exact mx_aret (r := (some q11)) X hr (Or.inr ⟨_, rfl⟩) hk M dJ7_copyOf_59c91_13 (by omega) (by omega) ⟨hw, hKM13⟩

abbrev rm_J7_copyOf_6403c (c z : Nat) : Room := { frames := 1, cells := c, slots := z, locals := 40 }
def wp_J7_copyOf_6403c (c z : Nat) (μ : Mem) (a1 : Nat) (a2 : Int32) (post : Option Nat → Mem → Prop) : Prop :=
  ¬ a2 < 0 ∧ (Int32.toNatClampNeg a2) ≤ 1048576 ∧ 1 ≤ c ∧ (Int32.toNatClampNeg a2) ≤ z ∧ ∀ (q1 : Nat) (μ2 : Mem), kd μ q1 = 0 → μ2 = nar μ 105 q1 (Int32.toNatClampNeg a2) →
  isArr (kd μ2 a1) ∧
  kd μ2 a1 = 105 ∧
  ¬ (0 : Int32) < 0 ∧ ¬ (0 : Int32) < 0 ∧ ¬ (if a2 < (nI (al μ2 a1)) then a2 else (nI (al μ2 a1))) < 0 ∧ (Int32.toNatClampNeg 0) + (Int32.toNatClampNeg (if a2 < (nI (al μ2 a1)) then a2 else (nI (al μ2 a1)))) ≤ al μ2 a1 ∧ (Int32.toNatClampNeg 0) + (Int32.toNatClampNeg (if a2 < (nI (al μ2 a1)) then a2 else (nI (al μ2 a1)))) ≤ al μ2 q1 ∧ (∃ t, isEl t ∧ ∀ i y, i < (Int32.toNatClampNeg (if a2 < (nI (al μ2 a1)) then a2 else (nI (al μ2 a1)))) → ar μ2 a1 ((Int32.toNatClampNeg 0) + i) = some y → kd μ2 y = t) ∧ ∀ μ6 : Mem, μ6 = cpr μ2 a1 (Int32.toNatClampNeg 0) q1 (Int32.toNatClampNeg 0) (Int32.toNatClampNeg (if a2 < (nI (al μ2 a1)) then a2 else (nI (al μ2 a1)))) →
  post (some q1) μ6
set_option maxRecDepth 100000 in
set_option maxHeartbeats 4000000 in
theorem c_J7_copyOf_6403c (l : Launch) (T : Tb) (B : Nat) (c z : Nat) (μ : Mem) (a1 : Nat) (a2 : Int32) (post : Option Nat → Mem → Prop) (hw : wp_J7_copyOf_6403c c z μ a1 a2 post) : Met l yJ7_copyOf_6403c (.code yJ7_copyOf_6403c cJ7_copyOf_6403c 4 (some (.array (.object "java/lang/Object"))) :: G) (rm_J7_copyOf_6403c c z) (Pm (Rl T B) T B μ [.ref a1, .int a2, .ref (st T 3)]) (va_Qq (fun r9 μ9 => post r9 μ9 ∧ KM μ μ9) (Bm (Rl T B)) (Ai B)) c z (Ai B) := by
  refine mx_of RJ7 rfl (by decide) (Nat.le_of_ble_eq_true rfl) ?_
  intro p e s m below meth c0 X hr hk hnm M ls hl
  have hl : lv_has ls 4 [(0, .ref a1), (1, .int a2), (2, .ref (st T 3))] := hl
  unfold wp_J7_copyOf_6403c at hw
  have hKM : KM μ μ := KM.rf μ
  have hc : 0 + c ≤ c := by omega
  have hz : 0 + z ≤ z := by omega
  refine lv_aload_n X.1 X.2.1 dJ7_copyOf_6403c_0 rfl (lv_at hl 2 rfl) ?_
  refine my_ldcC X kw_388 dJ7_copyOf_6403c_1 ?_
  refine lv_acmp_ne (tgt := 13) (rx := (some (st T 3))) (ry := (some (st T 3))) X.1 X.2.1 dJ7_copyOf_6403c_3 (by decide) (fun hq => absurd rfl hq) (fun _ => ?_)
  refine lv_iload_n X.1 X.2.1 dJ7_copyOf_6403c_6 rfl (lv_at hl 1 rfl) ?_
  obtain ⟨hb0, hb3, hb1, hb2, hw⟩ := hw
  refine my_newR X M kw_390 dJ7_copyOf_6403c_7 hb0 hb3 (show 0 + 1 ≤ c by omega) (show 0 + (Int32.toNatClampNeg a2) ≤ z by omega) (fun q1 μ2 H hq1 eμ2 M => ?_)
  replace hw := hw q1 μ2 hq1 eμ2
  have hKM3 : KM μ μ2 := by rw [eμ2]; exact hKM.tr (KM_nar hq1)
  have hk4 : kd μ2 q1 = 105 := by rw [eμ2]; exact kd_nar
  have hc : (0 + 1) + (c - 1) ≤ c := by omega
  have hz : (0 + (Int32.toNatClampNeg a2)) + (z - (Int32.toNatClampNeg a2)) ≤ z := by omega
  refine lv_goto (tgt := 24) X.1 X.2.1 dJ7_copyOf_6403c_10 (by decide) ?_
  refine lv_astore_n (lv' := [(3, .ref q1), (0, .ref a1), (1, .int a2), (2, .ref (st T 3))]) X.1 X.2.1 dJ7_copyOf_6403c_24 rfl hl (by decide) rfl (fun ls hl => ?_)
  refine lv_aload_n X.1 X.2.1 dJ7_copyOf_6403c_25 rfl (lv_at hl 1 rfl) ?_
  refine lv_iconst (v := 0) X.1 X.2.1 dJ7_copyOf_6403c_26 (by decide) ?_
  refine lv_aload_n X.1 X.2.1 dJ7_copyOf_6403c_27 rfl (lv_at hl 0 rfl) ?_
  refine lv_iconst (v := 0) X.1 X.2.1 dJ7_copyOf_6403c_28 (by decide) ?_
  refine lv_aload_n X.1 X.2.1 dJ7_copyOf_6403c_29 rfl (lv_at hl 1 rfl) ?_
  obtain ⟨hia, hw⟩ := hw
  refine mx_len X M dJ7_copyOf_6403c_30 hia ?_
  refine lv_iload_n X.1 X.2.1 dJ7_copyOf_6403c_31 rfl (lv_at hl 2 rfl) ?_
  refine my_min X kw_292 kw_293 kw_75 kw_294 hl.1 (Nat.le_of_ble_eq_true rfl) (Nat.le_of_ble_eq_true rfl) (show (0 + 1) ≤ c by omega) (show (0 + (Int32.toNatClampNeg a2)) ≤ z by omega) dJ7_copyOf_6403c_32 ?_
  obtain ⟨hk5, hw⟩ := hw
  obtain ⟨g1, g2, g3, g4, g5, ⟨tt, htt, hel⟩, hw⟩ := hw
  refine my_cpr X M ⟨kw_295, kw_297, kw_296, kw_77⟩ hl.1 hk5 hk4 g1 g2 g3 g4 g5 tt htt hel (Nat.le_of_ble_eq_true rfl) (Nat.le_of_ble_eq_true rfl) dJ7_copyOf_6403c_35 (fun μ6 H locs eμ6 M => ?_)
  replace hw := hw μ6 eμ6
  have hKM7 : KM μ μ6 := by rw [eμ6]; exact hKM3
  have hk8 : kd μ6 q1 = 105 := by rw [eμ6]; exact hk4
  have hk9 : kd μ6 a1 = 105 := by rw [eμ6]; exact hk5
  refine lv_aload_n X.1 X.2.1 dJ7_copyOf_6403c_38 rfl (lv_at hl 0 rfl) ?_
  exact mx_aret (r := (some q1)) X hr (Or.inr ⟨_, rfl⟩) hk M dJ7_copyOf_6403c_39 (by omega) (by omega) ⟨hw, hKM7⟩

abbrev rm_J7_copyOf_1904c (c z : Nat) : Room := { frames := 2, cells := c, slots := z, locals := 63 }
def wp_J7_copyOf_1904c (c z : Nat) (μ : Mem) (a1 : Nat) (a2 : Int32) (post : Option Nat → Mem → Prop) : Prop :=
  kd μ a1 = 105 ∧
  ∃ c3 z4, c3 ≤ c ∧ z4 ≤ z ∧
  wp_J7_copyOf_6403c c3 z4 μ a1 a2 (fun (r6 : Option Nat) (μ2 : Mem) =>
  KM μ μ2 →
  post r6 μ2)
set_option maxRecDepth 100000 in
set_option maxHeartbeats 4000000 in
theorem c_J7_copyOf_1904c (l : Launch) (T : Tb) (B : Nat) (c z : Nat) (μ : Mem) (a1 : Nat) (a2 : Int32) (post : Option Nat → Mem → Prop) (hw : wp_J7_copyOf_1904c c z μ a1 a2 post) : Met l yJ7_copyOf_1904c (.code yJ7_copyOf_1904c cJ7_copyOf_1904c 2 (some (.array (.object "java/lang/Object"))) :: G) (rm_J7_copyOf_1904c c z) (Pm (Rl T B) T B μ [.ref a1, .int a2]) (va_Qq (fun r9 μ9 => post r9 μ9 ∧ KM μ μ9) (Bm (Rl T B)) (Ai B)) c z (Ai B) := by
  refine mx_of RJ7 rfl (by decide) (Nat.le_of_ble_eq_true rfl) ?_
  intro p e s m below meth c0 X hr hk hnm M ls hl
  have hl : lv_has ls 2 [(0, .ref a1), (1, .int a2)] := hl
  unfold wp_J7_copyOf_1904c at hw
  have hKM : KM μ μ := KM.rf μ
  have hc : 0 + c ≤ c := by omega
  have hz : 0 + z ≤ z := by omega
  refine lv_aload_n X.1 X.2.1 dJ7_copyOf_1904c_0 rfl (lv_at hl 0 rfl) ?_
  refine lv_iload_n X.1 X.2.1 dJ7_copyOf_1904c_1 rfl (lv_at hl 1 rfl) ?_
  refine lv_aload_n X.1 X.2.1 dJ7_copyOf_1904c_2 rfl (lv_at hl 0 rfl) ?_
  obtain ⟨hk1, hw⟩ := hw
  refine my_getC X M kw_368 kw_1345 kw_1344 kw_369 kw_384 hl.1 hk1 (Nat.le_of_ble_eq_true rfl) (Nat.le_of_ble_eq_true rfl) dJ7_copyOf_1904c_3 ?_
  obtain ⟨c3, z4, hc3, hz4, hw⟩ := hw
  have hw5 := hw
  clear hw
  refine mx_cq M (mx_runS (n := 3) (As := [.ref a1, .int a2, .ref (st T 3)]) (rest := []) X M (c_J7_copyOf_6403c l T B c3 z4 μ a1 a2 _ hw5) kw_385 kw_386 kw_76 kw_387 (by decide +kernel) rfl rfl ⟨Nat.le_of_ble_eq_true rfl, Nat.le_of_ble_eq_true rfl⟩ rfl hl.1 (Nat.le_of_ble_eq_true rfl) dJ7_copyOf_1904c_6 ⟨(show 0 + c3 ≤ c by omega), (show 0 + z4 ≤ z by omega)⟩) (fun r6 μ2 H locs ⟨hw, hKM2⟩ M => ?_)
  replace hw := hw hKM2
  have hKM2_ := hKM.tr hKM2
  have hk7 := hKM2.at hk1
  have hc : (0 + c3) + (c - c3) ≤ c := by omega
  have hz : (0 + z4) + (z - z4) ≤ z := by omega
  exact mx_aret (r := r6) X hr (Or.inr ⟨_, rfl⟩) hk M dJ7_copyOf_1904c_9 (by omega) (by omega) ⟨hw, hKM2_⟩

abbrev rm_J8_newLength_cabcc : Room := { frames := 1, cells := 0, slots := 0, locals := 14 }
def wp_J8_newLength_cabcc (μ : Mem) (a1 : Int32) (a2 : Int32) (a3 : Int32) (post : Int32 → Mem → Prop) : Prop :=
  ∀ v1 : Int32, v1 = (a1 + (if a2 < a3 then a3 else a2)) →
  (v1 ≤ (0 : Int32) →
   False) ∧ (¬ v1 ≤ (0 : Int32) →
   (2147483639 < v1 →
    False) ∧ (¬ 2147483639 < v1 →
    post v1 μ))
set_option maxRecDepth 100000 in
set_option maxHeartbeats 4000000 in
theorem c_J8_newLength_cabcc (l : Launch) (T : Tb) (B : Nat) (μ : Mem) (a1 : Int32) (a2 : Int32) (a3 : Int32) (post : Int32 → Mem → Prop) (hw : wp_J8_newLength_cabcc μ a1 a2 a3 post) : Met l yJ8_newLength_cabcc (.code yJ8_newLength_cabcc cJ8_newLength_cabcc 4 (some .int) :: G) rm_J8_newLength_cabcc (Pm (Rl T B) T B μ [.int a1, .int a2, .int a3]) (va_Qi (fun r9 μ9 => post r9 μ9 ∧ KM μ μ9) (Bm (Rl T B)) (Ai B)) 0 0 (Ai B) := by
  refine mx_of RJ8 rfl (by decide) (Nat.le_of_ble_eq_true rfl) ?_
  intro p e s m below meth c0 X hr hk hnm M ls hl
  have hl : lv_has ls 4 [(0, .int a1), (1, .int a2), (2, .int a3)] := hl
  unfold wp_J8_newLength_cabcc at hw
  have hKM : KM μ μ := KM.rf μ
  refine lv_iload_n X.1 X.2.1 dJ8_newLength_cabcc_0 rfl (lv_at hl 0 rfl) ?_
  refine lv_iload_n X.1 X.2.1 dJ8_newLength_cabcc_1 rfl (lv_at hl 1 rfl) ?_
  refine lv_iload_n X.1 X.2.1 dJ8_newLength_cabcc_2 rfl (lv_at hl 2 rfl) ?_
  refine my_max X kw_360 kw_280 kw_75 kw_281 hl.1 (Nat.le_of_ble_eq_true rfl) (Nat.le_of_ble_eq_true rfl) (by decide) (by decide) dJ8_newLength_cabcc_3 ?_
  refine lv_iadd X.1 X.2.1 dJ8_newLength_cabcc_6 ?_
  refine lv_topi (fun v1 ev1 => ?_)
  replace hw := hw v1 ev1
  refine lv_istore_n (lv' := [(3, .int v1), (0, .int a1), (1, .int a2), (2, .int a3)]) X.1 X.2.1 dJ8_newLength_cabcc_7 rfl hl (by decide) rfl (fun ls hl => ?_)
  refine lv_iconst (v := 0) X.1 X.2.1 dJ8_newLength_cabcc_8 (by decide) ?_
  refine lv_iload_n X.1 X.2.1 dJ8_newLength_cabcc_9 rfl (lv_at hl 0 rfl) ?_
  obtain ⟨hwt, hwf⟩ := hw
  refine lv_icmp_ge (tgt := 21) X.1 X.2.1 dJ8_newLength_cabcc_10 (by decide) (fun hq => ?_) (fun hq => ?_)
  · have hw := hwt hq
    refine lv_iload_n X.1 X.2.1 dJ8_newLength_cabcc_21 rfl (lv_at hl 1 rfl) ?_
    refine lv_iload_n X.1 X.2.1 dJ8_newLength_cabcc_22 rfl (lv_at hl 2 rfl) ?_
    exact hw.elim
  · have hw := hwf hq
    refine lv_iload_n X.1 X.2.1 dJ8_newLength_cabcc_13 rfl (lv_at hl 0 rfl) ?_
    refine lv_ldc (v := 2147483639) X.1 X.2.1 X.2.2.2.1 (X.2.2.2.2.1 _ kw_361) dJ8_newLength_cabcc_14 ?_
    obtain ⟨hwt, hwf⟩ := hw
    refine lv_icmp_gt (tgt := 21) X.1 X.2.1 dJ8_newLength_cabcc_16 (by decide) (fun hq => ?_) (fun hq => ?_)
    · have hw := hwt hq
      refine lv_iload_n X.1 X.2.1 dJ8_newLength_cabcc_21 rfl (lv_at hl 1 rfl) ?_
      refine lv_iload_n X.1 X.2.1 dJ8_newLength_cabcc_22 rfl (lv_at hl 2 rfl) ?_
      exact hw.elim
    · have hw := hwf hq
      refine lv_iload_n X.1 X.2.1 dJ8_newLength_cabcc_19 rfl (lv_at hl 0 rfl) ?_
      exact mx_iret X hr hk M dJ8_newLength_cabcc_20 (by decide) (by decide) ⟨hw, hKM⟩

abbrev rm_Jx4a65c_grow_92f84 (c z : Nat) : Room := { frames := 3, cells := c, slots := z, locals := 84 }
def wp_Jx4a65c_grow_92f84_20 (o : Nat) (post : Option Nat → Mem → Prop) (c z : Nat) (μ : Mem) (x1 : Int32) (x2 : Int32) : Prop :=
  wp_J8_newLength_cabcc μ x2 (x1 - x2) (x2 >>> ((1 : Int32) &&& 31)) (fun (r6 : Int32) (μ4 : Mem) =>
  KM μ μ4 →
  kd μ4 o = 2 ∧
  ∃ x8, fr μ4 1 1 o = some x8 ∧
  ∃ c10 z11, c10 ≤ c ∧ z11 ≤ z ∧
  wp_J7_copyOf_1904c c10 z11 μ4 x8 r6 (fun (r13 : Option Nat) (μ9 : Mem) =>
  KM μ4 μ9 →
  ∀ μ15 : Mem, μ15 = sfr μ9 1 1 o r13 →
  post r13 μ15))
def wp_Jx4a65c_grow_92f84 (c z : Nat) (μ : Mem) (o : Nat) (a1 : Int32) (post : Option Nat → Mem → Prop) : Prop :=
  kd μ o = 2 ∧
  ∃ x2, fr μ 1 1 o = some x2 ∧
  isArr (kd μ x2) ∧
  ∀ v3 : Int32, v3 = (nI (al μ x2)) →
  (0 < v3 →
   wp_Jx4a65c_grow_92f84_20 o post c z μ a1 v3) ∧ (¬ 0 < v3 →
   ∃ x18, fr μ 1 1 o = some x18 ∧
   ∀ q19, kd μ q19 = 106 →
   ((some x18) = (some q19) →
    ¬ (if 10 < a1 then a1 else 10) < 0 ∧ (Int32.toNatClampNeg (if 10 < a1 then a1 else 10)) ≤ 1048576 ∧ 1 ≤ c ∧ (Int32.toNatClampNeg (if 10 < a1 then a1 else 10)) ≤ z ∧ ∀ (q21 : Nat) (μ22 : Mem), kd μ q21 = 0 → μ22 = nar μ 105 q21 (Int32.toNatClampNeg (if 10 < a1 then a1 else 10)) →
    ∀ μ26 : Mem, μ26 = sfr μ22 1 1 o (some q21) →
    post (some q21) μ26) ∧ (¬ (some x18) = (some q19) →
    wp_Jx4a65c_grow_92f84_20 o post c z μ a1 v3))
set_option maxRecDepth 100000 in
set_option maxHeartbeats 4000000 in
theorem b_Jx4a65c_grow_92f84_20 {T : Tb} {B : Nat} {p : Program} {l : Launch} {e : Env} {s : State} {m : MethodId} {args : Array Value} {below : List Frame} {meth : Method} {c0 : Code} {post : Option Nat → Mem → Prop} {μ0 : Mem} {o : Nat} {cT zT : Nat} (X : CX T B p m c0 cJx4a65c_grow_92f84 4 s args RJx4a65c) (hr : meth.sig.returnType = (some (.array (.object "java/lang/Object")))) (hk : meth.locks = false) : ∀ (c z cells slots : Nat) (μ : Mem) (x1 : Int32) (x2 : Int32) (H : Heap) (locs : List Loc) (ls : Array Slot), cells + c ≤ cT → slots + z ≤ zT → KM μ0 μ → wp_Jx4a65c_grow_92f84_20 o post c z μ x1 x2 → MG (Rl T B) B s μ H locs → lv_has ls 4 [(0, .ref o), (1, .int x1), (2, .int x2)] → W p l e (rm_Jx4a65c_grow_92f84 cT zT) s m args below meth c0 H locs cells slots (MQ below (va_Qq (fun r9 μ9 => post r9 μ9 ∧ KM μ0 μ9) (Bm (Rl T B)) (Ai B)) args s cT zT (Ai B)) (F0 m 20 ls []) := by
  intro c z cells slots μ x1 x2 H locs ls hc hz hKM hw M hl
  unfold wp_Jx4a65c_grow_92f84_20 at hw
  refine lv_iload_n X.1 X.2.1 dJx4a65c_grow_92f84_20 rfl (lv_at hl 2 rfl) ?_
  refine lv_iload_n X.1 X.2.1 dJx4a65c_grow_92f84_21 rfl (lv_at hl 1 rfl) ?_
  refine lv_iload_n X.1 X.2.1 dJx4a65c_grow_92f84_22 rfl (lv_at hl 2 rfl) ?_
  refine lv_isub X.1 X.2.1 dJx4a65c_grow_92f84_23 ?_
  refine lv_iload_n X.1 X.2.1 dJx4a65c_grow_92f84_24 rfl (lv_at hl 2 rfl) ?_
  refine lv_iconst (v := 1) X.1 X.2.1 dJx4a65c_grow_92f84_25 (by decide) ?_
  refine lv_ishr X.1 X.2.1 dJx4a65c_grow_92f84_26 ?_
  have hw5 := hw
  clear hw
  refine mx_ci M (mx_runS (n := 3) (As := [.int x2, .int (x1 - x2), .int (x2 >>> ((1 : Int32) &&& 31))]) (rest := []) X M (c_J8_newLength_cabcc l T B μ x2 (x1 - x2) (x2 >>> ((1 : Int32) &&& 31)) _ hw5) kw_357 kw_358 kw_79 kw_359 (by decide +kernel) rfl rfl ⟨Nat.le_of_ble_eq_true rfl, Nat.le_of_ble_eq_true rfl⟩ rfl hl.1 (Nat.le_of_ble_eq_true rfl) dJx4a65c_grow_92f84_27 ⟨(show cells + 0 ≤ cT by omega), (show slots + 0 ≤ zT by omega)⟩) (fun r6 μ4 H locs ⟨hw, hKM4⟩ M => ?_)
  replace hw := hw hKM4
  have hKM4_ := hKM.tr hKM4
  have hc : (cells + 0) + (c) ≤ cT := by omega
  have hz : (slots + 0) + (z) ≤ zT := by omega
  refine lv_istore_n (lv' := [(3, .int r6), (0, .ref o), (1, .int x1), (2, .int x2)]) X.1 X.2.1 dJx4a65c_grow_92f84_30 rfl hl (by decide) rfl (fun ls hl => ?_)
  refine lv_aload_n X.1 X.2.1 dJx4a65c_grow_92f84_31 rfl (lv_at hl 1 rfl) ?_
  refine lv_aload_n X.1 X.2.1 dJx4a65c_grow_92f84_32 rfl (lv_at hl 1 rfl) ?_
  obtain ⟨hk7, hw⟩ := hw
  obtain ⟨x8, ex8, hw⟩ := hw
  refine mx_getr (C := RJx4a65c) (F := TJx4a65c) (N := 3) (ci := 1) X M 1 rfl in_Jx4a65c (by decide) rfl (by decide) kw_112 dJx4a65c_grow_92f84_33 hk7 ?_
  rw [ex8]
  refine lv_iload_n X.1 X.2.1 dJx4a65c_grow_92f84_36 rfl (lv_at hl 0 rfl) ?_
  obtain ⟨c10, z11, hc10, hz11, hw⟩ := hw
  have hw12 := hw
  clear hw
  refine mx_cq M (mx_runS (n := 2) (As := [.ref x8, .int r6]) (rest := [.ref o]) X M (c_J7_copyOf_1904c l T B c10 z11 μ4 x8 r6 _ hw12) kw_365 kw_366 kw_76 kw_367 (by decide +kernel) rfl rfl ⟨Nat.le_of_ble_eq_true rfl, Nat.le_of_ble_eq_true rfl⟩ rfl hl.1 (Nat.le_of_ble_eq_true rfl) dJx4a65c_grow_92f84_37 ⟨(show (cells + 0) + c10 ≤ cT by omega), (show (slots + 0) + z11 ≤ zT by omega)⟩) (fun r13 μ9 H locs ⟨hw, hKM9⟩ M => ?_)
  replace hw := hw hKM9
  have hKM9_ := hKM4_.tr hKM9
  have hk14 := hKM9.at hk7
  have hc : ((cells + 0) + c10) + (c - c10) ≤ cT := by omega
  have hz : ((slots + 0) + z11) + (z - z11) ≤ zT := by omega
  refine lv_dup_x1 X.1 X.2.1 dJx4a65c_grow_92f84_40 (mq_cat _) rfl ?_
  refine my_putr (C := RJx4a65c) (F := TJx4a65c) (N := 3) (ci := 1) X M 1 rfl in_Jx4a65c tyJx4a65c tyJx4a65c_ok nmJx4a65c (by decide) rfl (by decide) kw_112 (Or.inl rfl) dJx4a65c_grow_92f84_41 hk14 r13 (mq_na _ _) (mq_fa _ _) (fun μ15 H locs eμ15 M => ?_)
  replace hw := hw μ15 eμ15
  have hKM16 : KM μ0 μ15 := by rw [eμ15]; exact hKM9_
  have hk17 : kd μ15 o = 2 := by rw [eμ15]; exact hk14
  exact mx_aret (r := r13) X hr (Or.inr ⟨_, rfl⟩) hk M dJx4a65c_grow_92f84_44 (by omega) (by omega) ⟨hw, hKM16⟩
set_option maxRecDepth 100000 in
set_option maxHeartbeats 4000000 in
theorem c_Jx4a65c_grow_92f84 (l : Launch) (T : Tb) (B : Nat) (c z : Nat) (μ : Mem) (o : Nat) (a1 : Int32) (post : Option Nat → Mem → Prop) (hw : wp_Jx4a65c_grow_92f84 c z μ o a1 post) : Met l yJx4a65c_grow_92f84 (.code yJx4a65c_grow_92f84 cJx4a65c_grow_92f84 4 (some (.array (.object "java/lang/Object"))) :: G) (rm_Jx4a65c_grow_92f84 c z) (Pm (Rl T B) T B μ [.ref o, .int a1]) (va_Qq (fun r9 μ9 => post r9 μ9 ∧ KM μ μ9) (Bm (Rl T B)) (Ai B)) c z (Ai B) := by
  refine mx_of RJx4a65c rfl (by decide) (Nat.le_of_ble_eq_true rfl) ?_
  intro p e s m below meth c0 X hr hk hnm M ls hl
  have hl : lv_has ls 4 [(0, .ref o), (1, .int a1)] := hl
  unfold wp_Jx4a65c_grow_92f84 at hw
  have hKM : KM μ μ := KM.rf μ
  have hc : 0 + c ≤ c := by omega
  have hz : 0 + z ≤ z := by omega
  refine lv_aload_n X.1 X.2.1 dJx4a65c_grow_92f84_0 rfl (lv_at hl 0 rfl) ?_
  obtain ⟨hk1, hw⟩ := hw
  obtain ⟨x2, ex2, hw⟩ := hw
  refine mx_getr (C := RJx4a65c) (F := TJx4a65c) (N := 3) (ci := 1) X M 1 rfl in_Jx4a65c (by decide) rfl (by decide) kw_112 dJx4a65c_grow_92f84_1 hk1 ?_
  rw [ex2]
  obtain ⟨hia, hw⟩ := hw
  refine mx_len X M dJx4a65c_grow_92f84_4 hia ?_
  refine lv_topi (fun v3 ev3 => ?_)
  replace hw := hw v3 ev3
  refine lv_istore_n (lv' := [(2, .int v3), (0, .ref o), (1, .int a1)]) X.1 X.2.1 dJx4a65c_grow_92f84_5 rfl hl (by decide) rfl (fun ls hl => ?_)
  refine lv_iload_n X.1 X.2.1 dJx4a65c_grow_92f84_6 rfl (lv_at hl 0 rfl) ?_
  obtain ⟨hwt, hwf⟩ := hw
  refine lv_if_gt (tgt := 20) X.1 X.2.1 dJx4a65c_grow_92f84_7 (by decide) (fun hq => ?_) (fun hq => ?_)
  · have hw := hwt hq
    exact b_Jx4a65c_grow_92f84_20 X hr hk _ _ _ _ μ a1 v3 _ _ _ (by omega) (by omega) hKM hw M (lv_sub hl [1, 2, 0] rfl)
  · have hw := hwf hq
    refine lv_aload_n X.1 X.2.1 dJx4a65c_grow_92f84_10 rfl (lv_at hl 1 rfl) ?_
    obtain ⟨x18, ex18, hw⟩ := hw
    refine mx_getr (C := RJx4a65c) (F := TJx4a65c) (N := 3) (ci := 1) X M 1 rfl in_Jx4a65c (by decide) rfl (by decide) kw_112 dJx4a65c_grow_92f84_11 hk1 ?_
    rw [ex18]
    refine my_stE X M kw_110 dJx4a65c_grow_92f84_14 (fun q19 hk20 => ?_)
    replace hw := hw q19 hk20
    obtain ⟨hwt, hwf⟩ := hw
    refine lv_acmp_eq (tgt := 45) (rx := (some x18)) (ry := (some q19)) X.1 X.2.1 dJx4a65c_grow_92f84_17 (by decide) (fun hq => ?_) (fun hq => ?_)
    · have hw := hwt hq
      refine lv_aload_n X.1 X.2.1 dJx4a65c_grow_92f84_45 rfl (lv_at hl 1 rfl) ?_
      refine lv_bipush (v := 10) X.1 X.2.1 dJx4a65c_grow_92f84_46 (by decide) ?_
      refine lv_iload_n X.1 X.2.1 dJx4a65c_grow_92f84_48 rfl (lv_at hl 2 rfl) ?_
      refine my_max X kw_391 kw_280 kw_75 kw_281 hl.1 (Nat.le_of_ble_eq_true rfl) (Nat.le_of_ble_eq_true rfl) (show 0 ≤ c by omega) (show 0 ≤ z by omega) dJx4a65c_grow_92f84_49 ?_
      obtain ⟨hb0, hb3, hb1, hb2, hw⟩ := hw
      refine my_newR X M kw_392 dJx4a65c_grow_92f84_52 hb0 hb3 (show 0 + 1 ≤ c by omega) (show 0 + (Int32.toNatClampNeg (if 10 < a1 then a1 else 10)) ≤ z by omega) (fun q21 μ22 H hq21 eμ22 M => ?_)
      replace hw := hw q21 μ22 hq21 eμ22
      have hKM23 : KM μ μ22 := by rw [eμ22]; exact hKM.tr (KM_nar hq21)
      have hk24 : kd μ22 o = 2 := by rw [eμ22]; exact (KM_nar hq21).at hk1
      have hk25 : kd μ22 q21 = 105 := by rw [eμ22]; exact kd_nar
      have hc : (0 + 1) + (c - 1) ≤ c := by omega
      have hz : (0 + (Int32.toNatClampNeg (if 10 < a1 then a1 else 10))) + (z - (Int32.toNatClampNeg (if 10 < a1 then a1 else 10))) ≤ z := by omega
      refine lv_dup_x1 X.1 X.2.1 dJx4a65c_grow_92f84_55 rfl rfl ?_
      refine my_putr (C := RJx4a65c) (F := TJx4a65c) (N := 3) (ci := 1) X M 1 rfl in_Jx4a65c tyJx4a65c tyJx4a65c_ok nmJx4a65c (by decide) rfl (by decide) kw_112 (Or.inl rfl) dJx4a65c_grow_92f84_56 hk24 (some q21) (mq_na _ _) (mq_fa _ _) (fun μ26 H locs eμ26 M => ?_)
      replace hw := hw μ26 eμ26
      have hKM27 : KM μ μ26 := by rw [eμ26]; exact hKM23
      have hk28 : kd μ26 o = 2 := by rw [eμ26]; exact hk24
      have hk29 : kd μ26 q21 = 105 := by rw [eμ26]; exact hk25
      exact mx_aret (r := (some q21)) X hr (Or.inr ⟨_, rfl⟩) hk M dJx4a65c_grow_92f84_59 (by omega) (by omega) ⟨hw, hKM27⟩
    · have hw := hwf hq
      exact b_Jx4a65c_grow_92f84_20 X hr hk _ _ _ _ μ a1 v3 _ _ _ (by omega) (by omega) hKM hw M (lv_sub hl [1, 2, 0] rfl)

abbrev rm_Jx4a65c_grow_d5877 (c z : Nat) : Room := { frames := 4, cells := c, slots := z, locals := 107 }
def wp_Jx4a65c_grow_d5877 (c z : Nat) (μ : Mem) (o : Nat) (post : Option Nat → Mem → Prop) : Prop :=
  kd μ o = 2 ∧
  ∃ c3 z4, c3 ≤ c ∧ z4 ≤ z ∧
  wp_Jx4a65c_grow_92f84 c3 z4 μ o ((fi μ 1 2 o) + 1) (fun (r6 : Option Nat) (μ2 : Mem) =>
  KM μ μ2 →
  post r6 μ2)
set_option maxRecDepth 100000 in
set_option maxHeartbeats 4000000 in
theorem c_Jx4a65c_grow_d5877 (l : Launch) (T : Tb) (B : Nat) (c z : Nat) (μ : Mem) (o : Nat) (post : Option Nat → Mem → Prop) (hw : wp_Jx4a65c_grow_d5877 c z μ o post) : Met l yJx4a65c_grow_d5877 (.code yJx4a65c_grow_d5877 cJx4a65c_grow_d5877 1 (some (.array (.object "java/lang/Object"))) :: G) (rm_Jx4a65c_grow_d5877 c z) (Pm (Rl T B) T B μ [.ref o]) (va_Qq (fun r9 μ9 => post r9 μ9 ∧ KM μ μ9) (Bm (Rl T B)) (Ai B)) c z (Ai B) := by
  refine mx_of RJx4a65c rfl (by decide) (Nat.le_of_ble_eq_true rfl) ?_
  intro p e s m below meth c0 X hr hk hnm M ls hl
  have hl : lv_has ls 1 [(0, .ref o)] := hl
  unfold wp_Jx4a65c_grow_d5877 at hw
  have hKM : KM μ μ := KM.rf μ
  have hc : 0 + c ≤ c := by omega
  have hz : 0 + z ≤ z := by omega
  refine lv_aload_n X.1 X.2.1 dJx4a65c_grow_d5877_0 rfl (lv_at hl 0 rfl) ?_
  refine lv_aload_n X.1 X.2.1 dJx4a65c_grow_d5877_1 rfl (lv_at hl 0 rfl) ?_
  obtain ⟨hk1, hw⟩ := hw
  refine mx_geti (C := RJx4a65c) (F := TJx4a65c) (N := 3) (ci := 1) X M 2 rfl in_Jx4a65c (by decide) rfl (by decide) kw_113 dJx4a65c_grow_d5877_2 hk1 ?_
  refine lv_iconst (v := 1) X.1 X.2.1 dJx4a65c_grow_d5877_5 (by decide) ?_
  refine lv_iadd X.1 X.2.1 dJx4a65c_grow_d5877_6 ?_
  obtain ⟨c3, z4, hc3, hz4, hw⟩ := hw
  have hw5 := hw
  clear hw
  refine mx_cq M (mx_runV (n := 1) (As := [.int ((fi μ 1 2 o) + 1)]) (rest := []) X M (c_Jx4a65c_grow_92f84 l T B c3 z4 μ o ((fi μ 1 2 o) + 1) _ hw5) (mx_recv (C := RJx4a65c) (F := TJx4a65c) (N := 3) (ci := 1) X M rfl (by decide) hk1) kw_353 kw_355 kw_3 kw_68 kw_356 (by decide +kernel) rfl rfl ⟨Nat.le_of_ble_eq_true rfl, Nat.le_of_ble_eq_true rfl⟩ rfl hl.1 (Nat.le_of_ble_eq_true rfl) dJx4a65c_grow_d5877_7 ⟨(show 0 + c3 ≤ c by omega), (show 0 + z4 ≤ z by omega)⟩) (fun r6 μ2 H locs ⟨hw, hKM2⟩ M => ?_)
  replace hw := hw hKM2
  have hKM2_ := hKM.tr hKM2
  have hk7 := hKM2.at hk1
  have hc : (0 + c3) + (c - c3) ≤ c := by omega
  have hz : (0 + z4) + (z - z4) ≤ z := by omega
  exact mx_aret (r := r6) X hr (Or.inr ⟨_, rfl⟩) hk M dJx4a65c_grow_d5877_10 (by omega) (by omega) ⟨hw, hKM2_⟩

abbrev rm_Jx4a65c_add_72be8 (c z : Nat) : Room := { frames := 5, cells := c, slots := z, locals := 127 }
def wp_Jx4a65c_add_72be8 (c z : Nat) (μ : Mem) (o : Nat) (a1 : Nat) (a2 : Nat) (a3 : Int32) (post : Mem → Prop) : Prop :=
  isArr (kd μ a2) ∧
  (a3 = (nI (al μ a2)) →
   kd μ o = 2 ∧
   ∃ c11 z12, c11 ≤ c ∧ z12 ≤ z ∧
   wp_Jx4a65c_grow_d5877 c11 z12 μ o (fun (r14 : Option Nat) (μ10 : Mem) =>
   KM μ μ10 →
   ∃ x17, r14 = some x17 ∧
   kd μ10 x17 = 105 ∧
   isEl (kd μ10 a1) ∧ vp_in a3 (al μ10 x17) ∧
   ∀ μ19 : Mem, μ19 = sar μ10 x17 (Int32.toNatClampNeg a3) (some a1) →
   ∀ μ23 : Mem, μ23 = sfi μ19 1 2 o (a3 + 1) →
   post μ23)) ∧ (¬ a3 = (nI (al μ a2)) →
   kd μ a2 = 105 ∧
   isEl (kd μ a1) ∧ vp_in a3 (al μ a2) ∧
   ∀ μ2 : Mem, μ2 = sar μ a2 (Int32.toNatClampNeg a3) (some a1) →
   kd μ2 o = 2 ∧
   ∀ μ6 : Mem, μ6 = sfi μ2 1 2 o (a3 + 1) →
   post μ6)
set_option maxRecDepth 100000 in
set_option maxHeartbeats 4000000 in
theorem c_Jx4a65c_add_72be8 (l : Launch) (T : Tb) (B : Nat) (c z : Nat) (μ : Mem) (o : Nat) (a1 : Nat) (a2 : Nat) (a3 : Int32) (post : Mem → Prop) (hw : wp_Jx4a65c_add_72be8 c z μ o a1 a2 a3 post) : Met l yJx4a65c_add_72be8 (.code yJx4a65c_add_72be8 cJx4a65c_add_72be8 4 none :: G) (rm_Jx4a65c_add_72be8 c z) (Pm (Rl T B) T B μ [.ref o, .ref a1, .ref a2, .int a3]) (va_Qv (fun μ9 => post μ9 ∧ KM μ μ9) (Bm (Rl T B)) (Ai B)) c z (Ai B) := by
  refine mx_of RJx4a65c rfl (by decide) (Nat.le_of_ble_eq_true rfl) ?_
  intro p e s m below meth c0 X hr hk hnm M ls hl
  have hl : lv_has ls 4 [(0, .ref o), (1, .ref a1), (2, .ref a2), (3, .int a3)] := hl
  unfold wp_Jx4a65c_add_72be8 at hw
  have hKM : KM μ μ := KM.rf μ
  have hc : 0 + c ≤ c := by omega
  have hz : 0 + z ≤ z := by omega
  refine lv_iload_n X.1 X.2.1 dJx4a65c_add_72be8_0 rfl (lv_at hl 3 rfl) ?_
  refine lv_aload_n X.1 X.2.1 dJx4a65c_add_72be8_1 rfl (lv_at hl 2 rfl) ?_
  obtain ⟨hia, hw⟩ := hw
  refine mx_len X M dJx4a65c_add_72be8_2 hia ?_
  obtain ⟨hwf, hwt⟩ := hw
  refine lv_icmp_ne (tgt := 11) X.1 X.2.1 dJx4a65c_add_72be8_3 (by decide) (fun hq => ?_) (fun hq => ?_)
  · have hw := hwt hq
    refine lv_aload_n X.1 X.2.1 dJx4a65c_add_72be8_11 rfl (lv_at hl 2 rfl) ?_
    refine lv_iload_n X.1 X.2.1 dJx4a65c_add_72be8_12 rfl (lv_at hl 3 rfl) ?_
    refine lv_aload_n X.1 X.2.1 dJx4a65c_add_72be8_13 rfl (lv_at hl 1 rfl) ?_
    obtain ⟨hk1, hw⟩ := hw
    obtain ⟨hie, hi, hw⟩ := hw
    refine my_rst X M dJx4a65c_add_72be8_14 hk1 hie hi (fun μ2 H locs eμ2 M => ?_)
    replace hw := hw μ2 eμ2
    have hKM3 : KM μ μ2 := by rw [eμ2]; exact hKM
    have hk4 : kd μ2 a2 = 105 := by rw [eμ2]; exact hk1
    refine lv_aload_n X.1 X.2.1 dJx4a65c_add_72be8_15 rfl (lv_at hl 0 rfl) ?_
    refine lv_iload_n X.1 X.2.1 dJx4a65c_add_72be8_16 rfl (lv_at hl 3 rfl) ?_
    refine lv_iconst (v := 1) X.1 X.2.1 dJx4a65c_add_72be8_17 (by decide) ?_
    refine lv_iadd X.1 X.2.1 dJx4a65c_add_72be8_18 ?_
    obtain ⟨hk5, hw⟩ := hw
    refine my_puti (C := RJx4a65c) (F := TJx4a65c) (N := 3) (ci := 1) X M 2 rfl in_Jx4a65c tyJx4a65c tyJx4a65c_ok nmJx4a65c (by decide) rfl (by decide) kw_113 (Or.inl rfl) dJx4a65c_add_72be8_19 hk5 rfl rfl (fun μ6 H locs eμ6 M => ?_)
    replace hw := hw μ6 eμ6
    have hKM7 : KM μ μ6 := by rw [eμ6]; exact hKM3
    have hk8 : kd μ6 a2 = 105 := by rw [eμ6]; exact hk4
    have hk9 : kd μ6 o = 2 := by rw [eμ6]; exact hk5
    exact mx_vret X hr hk M dJx4a65c_add_72be8_22 (by omega) (by omega) ⟨hw, hKM7⟩
  · have hw := hwf hq
    refine lv_aload_n X.1 X.2.1 dJx4a65c_add_72be8_6 rfl (lv_at hl 0 rfl) ?_
    obtain ⟨hk15, hw⟩ := hw
    obtain ⟨c11, z12, hc11, hz12, hw⟩ := hw
    have hw13 := hw
    clear hw
    refine mx_cq M (mx_runV (n := 0) (As := []) (rest := []) X M (c_Jx4a65c_grow_d5877 l T B c11 z12 μ o _ hw13) (mx_recv (C := RJx4a65c) (F := TJx4a65c) (N := 3) (ci := 1) X M rfl (by decide) hk15) kw_349 kw_351 kw_2 kw_68 kw_352 (by decide +kernel) rfl rfl ⟨Nat.le_of_ble_eq_true rfl, Nat.le_of_ble_eq_true rfl⟩ rfl hl.1 (Nat.le_of_ble_eq_true rfl) dJx4a65c_add_72be8_7 ⟨(show 0 + c11 ≤ c by omega), (show 0 + z12 ≤ z by omega)⟩) (fun r14 μ10 H locs ⟨hw, hKM10⟩ M => ?_)
    replace hw := hw hKM10
    have hKM10_ := hKM.tr hKM10
    have hk16 := hKM10.at hk15
    have hc : (0 + c11) + (c - c11) ≤ c := by omega
    have hz : (0 + z12) + (z - z12) ≤ z := by omega
    refine mq_astore_n (lv' := [(2, va_rf r14), (0, .ref o), (1, .ref a1), (3, .int a3)]) X.1 X.2.1 dJx4a65c_add_72be8_10 rfl hl (by decide) rfl (fun ls hl => ?_)
    refine mq_aload_n X.1 X.2.1 dJx4a65c_add_72be8_11 rfl (lv_at hl 0 rfl) ?_
    refine lv_iload_n X.1 X.2.1 dJx4a65c_add_72be8_12 rfl (lv_at hl 3 rfl) ?_
    refine lv_aload_n X.1 X.2.1 dJx4a65c_add_72be8_13 rfl (lv_at hl 2 rfl) ?_
    obtain ⟨x17, ex17, hw⟩ := hw
    subst ex17
    have hl : lv_has ls 4 [(2, .ref x17), (0, .ref o), (1, .ref a1), (3, .int a3)] := hl
    obtain ⟨hk18, hw⟩ := hw
    obtain ⟨hie, hi, hw⟩ := hw
    refine my_rst X M dJx4a65c_add_72be8_14 hk18 hie hi (fun μ19 H locs eμ19 M => ?_)
    replace hw := hw μ19 eμ19
    have hKM20 : KM μ μ19 := by rw [eμ19]; exact hKM10_
    have hk21 : kd μ19 o = 2 := by rw [eμ19]; exact hk16
    have hk22 : kd μ19 x17 = 105 := by rw [eμ19]; exact hk18
    refine lv_aload_n X.1 X.2.1 dJx4a65c_add_72be8_15 rfl (lv_at hl 1 rfl) ?_
    refine lv_iload_n X.1 X.2.1 dJx4a65c_add_72be8_16 rfl (lv_at hl 3 rfl) ?_
    refine lv_iconst (v := 1) X.1 X.2.1 dJx4a65c_add_72be8_17 (by decide) ?_
    refine lv_iadd X.1 X.2.1 dJx4a65c_add_72be8_18 ?_
    refine my_puti (C := RJx4a65c) (F := TJx4a65c) (N := 3) (ci := 1) X M 2 rfl in_Jx4a65c tyJx4a65c tyJx4a65c_ok nmJx4a65c (by decide) rfl (by decide) kw_113 (Or.inl rfl) dJx4a65c_add_72be8_19 hk21 rfl rfl (fun μ23 H locs eμ23 M => ?_)
    replace hw := hw μ23 eμ23
    have hKM24 : KM μ μ23 := by rw [eμ23]; exact hKM20
    have hk25 : kd μ23 o = 2 := by rw [eμ23]; exact hk21
    have hk26 : kd μ23 x17 = 105 := by rw [eμ23]; exact hk22
    exact mx_vret X hr hk M dJx4a65c_add_72be8_22 (by omega) (by omega) ⟨hw, hKM24⟩

abbrev rm_Jx4a65c_add_9ea2d (c z : Nat) : Room := { frames := 6, cells := c, slots := z, locals := 150 }
def wp_Jx4a65c_add_9ea2d (c z : Nat) (μ : Mem) (o : Nat) (a1 : Nat) (post : Int32 → Mem → Prop) : Prop :=
  kd μ o = 2 ∧
  ∀ μ2 : Mem, μ2 = sfi μ 1 0 o ((fi μ 1 0 o) + 1) →
  ∃ x5, fr μ2 1 1 o = some x5 ∧
  ∃ c7 z8, c7 ≤ c ∧ z8 ≤ z ∧
  wp_Jx4a65c_add_72be8 c7 z8 μ2 o a1 x5 (fi μ2 1 2 o) (fun (μ6 : Mem) =>
  KM μ2 μ6 →
  post 1 μ6)
set_option maxRecDepth 100000 in
set_option maxHeartbeats 4000000 in
theorem c_Jx4a65c_add_9ea2d (l : Launch) (T : Tb) (B : Nat) (c z : Nat) (μ : Mem) (o : Nat) (a1 : Nat) (post : Int32 → Mem → Prop) (hw : wp_Jx4a65c_add_9ea2d c z μ o a1 post) : Met l yJx4a65c_add_9ea2d (.code yJx4a65c_add_9ea2d cJx4a65c_add_9ea2d 2 (some .boolean) :: G) (rm_Jx4a65c_add_9ea2d c z) (Pm (Rl T B) T B μ [.ref o, .ref a1]) (va_Qi (fun r9 μ9 => post r9 μ9 ∧ KM μ μ9) (Bm (Rl T B)) (Ai B)) c z (Ai B) := by
  refine mx_of RJx4a65c rfl (by decide) (Nat.le_of_ble_eq_true rfl) ?_
  intro p e s m below meth c0 X hr hk hnm M ls hl
  have hl : lv_has ls 2 [(0, .ref o), (1, .ref a1)] := hl
  unfold wp_Jx4a65c_add_9ea2d at hw
  have hKM : KM μ μ := KM.rf μ
  have hc : 0 + c ≤ c := by omega
  have hz : 0 + z ≤ z := by omega
  refine lv_aload_n X.1 X.2.1 dJx4a65c_add_9ea2d_0 rfl (lv_at hl 0 rfl) ?_
  refine lv_dup X.1 X.2.1 dJx4a65c_add_9ea2d_1 rfl ?_
  obtain ⟨hk1, hw⟩ := hw
  refine my_getm X M in_Jx4a65c kw_115 kw_116 dJx4a65c_add_9ea2d_2 hk1 ?_
  refine lv_iconst (v := 1) X.1 X.2.1 dJx4a65c_add_9ea2d_5 (by decide) ?_
  refine lv_iadd X.1 X.2.1 dJx4a65c_add_9ea2d_6 ?_
  refine my_putm X M in_Jx4a65c kw_115 kw_116 dJx4a65c_add_9ea2d_7 hk1 (fun μ2 H locs eμ2 M => ?_)
  replace hw := hw μ2 eμ2
  have hKM3 : KM μ μ2 := by rw [eμ2]; exact hKM
  have hk4 : kd μ2 o = 2 := by rw [eμ2]; exact hk1
  refine lv_aload_n X.1 X.2.1 dJx4a65c_add_9ea2d_10 rfl (lv_at hl 0 rfl) ?_
  refine lv_aload_n X.1 X.2.1 dJx4a65c_add_9ea2d_11 rfl (lv_at hl 1 rfl) ?_
  refine lv_aload_n X.1 X.2.1 dJx4a65c_add_9ea2d_12 rfl (lv_at hl 0 rfl) ?_
  obtain ⟨x5, ex5, hw⟩ := hw
  refine mx_getr (C := RJx4a65c) (F := TJx4a65c) (N := 3) (ci := 1) X M 1 rfl in_Jx4a65c (by decide) rfl (by decide) kw_112 dJx4a65c_add_9ea2d_13 hk4 ?_
  rw [ex5]
  refine lv_aload_n X.1 X.2.1 dJx4a65c_add_9ea2d_16 rfl (lv_at hl 0 rfl) ?_
  refine mx_geti (C := RJx4a65c) (F := TJx4a65c) (N := 3) (ci := 1) X M 2 rfl in_Jx4a65c (by decide) rfl (by decide) kw_113 dJx4a65c_add_9ea2d_17 hk4 ?_
  obtain ⟨c7, z8, hc7, hz8, hw⟩ := hw
  have hw9 := hw
  clear hw
  refine mx_cv M (mx_runV (n := 3) (As := [.ref a1, .ref x5, .int (fi μ2 1 2 o)]) (rest := []) X M (c_Jx4a65c_add_72be8 l T B c7 z8 μ2 o a1 x5 (fi μ2 1 2 o) _ hw9) (mx_recv (C := RJx4a65c) (F := TJx4a65c) (N := 3) (ci := 1) X M rfl (by decide) hk4) kw_345 kw_347 kw_1 kw_68 kw_348 (by decide +kernel) rfl rfl ⟨Nat.le_of_ble_eq_true rfl, Nat.le_of_ble_eq_true rfl⟩ rfl hl.1 (Nat.le_of_ble_eq_true rfl) dJx4a65c_add_9ea2d_20 ⟨(show 0 + c7 ≤ c by omega), (show 0 + z8 ≤ z by omega)⟩) (fun μ6 H locs ⟨hw, hKM6⟩ M => ?_)
  replace hw := hw hKM6
  have hKM6_ := hKM3.tr hKM6
  have hk10 := hKM6.at hk4
  have hc : (0 + c7) + (c - c7) ≤ c := by omega
  have hz : (0 + z8) + (z - z8) ≤ z := by omega
  refine lv_iconst (v := 1) X.1 X.2.1 dJx4a65c_add_9ea2d_23 (by decide) ?_
  exact mx_zret X hr hk M dJx4a65c_add_9ea2d_24 (by omega) (by omega) (by decide) ⟨hw, hKM6_⟩

abbrev rm_X10_within : Room := { frames := 0, cells := 0, slots := 0, locals := 0 }
def wp_X10_within (μ : Mem) (a1 : Int32) (a2 : Int32) (post : Int32 → Mem → Prop) : Prop :=
  (a1 < 0 →
   post 0 μ) ∧ (¬ a1 < 0 →
   (a2 ≤ a1 →
    post 0 μ) ∧ (¬ a2 ≤ a1 →
    post 1 μ))
set_option maxRecDepth 100000 in
set_option maxHeartbeats 4000000 in
theorem c_X10_within (l : Launch) (T : Tb) (B : Nat) (μ : Mem) (a1 : Int32) (a2 : Int32) (post : Int32 → Mem → Prop) (hw : wp_X10_within μ a1 a2 post) : Met l yX10_within (.code yX10_within cX10_within 2 (some .boolean) :: G) rm_X10_within (Pm (Rl T B) T B μ [.int a1, .int a2]) (va_Qi (fun r9 μ9 => post r9 μ9 ∧ KM μ μ9) (Bm (Rl T B)) (Ai B)) 0 0 (Ai B) := by
  refine mx_of RX10 rfl (by decide) (Nat.le_of_ble_eq_true rfl) ?_
  intro p e s m below meth c0 X hr hk hnm M ls hl
  have hl : lv_has ls 2 [(0, .int a1), (1, .int a2)] := hl
  unfold wp_X10_within at hw
  have hKM : KM μ μ := KM.rf μ
  refine lv_iload_n X.1 X.2.1 dX10_within_0 rfl (lv_at hl 0 rfl) ?_
  obtain ⟨hwt, hwf⟩ := hw
  refine lv_if_lt (tgt := 13) X.1 X.2.1 dX10_within_1 (by decide) (fun hq => ?_) (fun hq => ?_)
  · have hw := hwt hq
    refine lv_iconst (v := 0) X.1 X.2.1 dX10_within_13 (by decide) ?_
    exact mx_zret X hr hk M dX10_within_14 (by decide) (by decide) (by decide) ⟨hw, hKM⟩
  · have hw := hwf hq
    refine lv_iload_n X.1 X.2.1 dX10_within_4 rfl (lv_at hl 0 rfl) ?_
    refine lv_iload_n X.1 X.2.1 dX10_within_5 rfl (lv_at hl 1 rfl) ?_
    obtain ⟨hwt, hwf⟩ := hw
    refine lv_icmp_ge (tgt := 13) X.1 X.2.1 dX10_within_6 (by decide) (fun hq => ?_) (fun hq => ?_)
    · have hw := hwt hq
      refine lv_iconst (v := 0) X.1 X.2.1 dX10_within_13 (by decide) ?_
      exact mx_zret X hr hk M dX10_within_14 (by decide) (by decide) (by decide) ⟨hw, hKM⟩
    · have hw := hwf hq
      refine lv_iconst (v := 1) X.1 X.2.1 dX10_within_9 (by decide) ?_
      refine lv_goto (tgt := 14) X.1 X.2.1 dX10_within_10 (by decide) ?_
      exact mx_zret X hr hk M dX10_within_14 (by decide) (by decide) (by decide) ⟨hw, hKM⟩

abbrev rm_X10_isLimit : Room := { frames := 0, cells := 0, slots := 0, locals := 0 }
def wp_X10_isLimit (μ : Mem) (a1 : Int32) (post : Int32 → Mem → Prop) : Prop :=
  (a1 < 0 →
   post 0 μ) ∧ (¬ a1 < 0 →
   (20000 < a1 →
    post 0 μ) ∧ (¬ 20000 < a1 →
    post 1 μ))
set_option maxRecDepth 100000 in
set_option maxHeartbeats 4000000 in
theorem c_X10_isLimit (l : Launch) (T : Tb) (B : Nat) (μ : Mem) (a1 : Int32) (post : Int32 → Mem → Prop) (hw : wp_X10_isLimit μ a1 post) : Met l yX10_isLimit (.code yX10_isLimit cX10_isLimit 1 (some .boolean) :: G) rm_X10_isLimit (Pm (Rl T B) T B μ [.int a1]) (va_Qi (fun r9 μ9 => post r9 μ9 ∧ KM μ μ9) (Bm (Rl T B)) (Ai B)) 0 0 (Ai B) := by
  refine mx_of RX10 rfl (by decide) (Nat.le_of_ble_eq_true rfl) ?_
  intro p e s m below meth c0 X hr hk hnm M ls hl
  have hl : lv_has ls 1 [(0, .int a1)] := hl
  unfold wp_X10_isLimit at hw
  have hKM : KM μ μ := KM.rf μ
  refine lv_iload_n X.1 X.2.1 dX10_isLimit_0 rfl (lv_at hl 0 rfl) ?_
  obtain ⟨hwt, hwf⟩ := hw
  refine lv_if_lt (tgt := 15) X.1 X.2.1 dX10_isLimit_1 (by decide) (fun hq => ?_) (fun hq => ?_)
  · have hw := hwt hq
    refine lv_iconst (v := 0) X.1 X.2.1 dX10_isLimit_15 (by decide) ?_
    exact mx_zret X hr hk M dX10_isLimit_16 (by decide) (by decide) (by decide) ⟨hw, hKM⟩
  · have hw := hwf hq
    refine lv_iload_n X.1 X.2.1 dX10_isLimit_4 rfl (lv_at hl 0 rfl) ?_
    refine lv_sipush (v := 20000) X.1 X.2.1 dX10_isLimit_5 (by decide) ?_
    obtain ⟨hwt, hwf⟩ := hw
    refine lv_icmp_gt (tgt := 15) X.1 X.2.1 dX10_isLimit_8 (by decide) (fun hq => ?_) (fun hq => ?_)
    · have hw := hwt hq
      refine lv_iconst (v := 0) X.1 X.2.1 dX10_isLimit_15 (by decide) ?_
      exact mx_zret X hr hk M dX10_isLimit_16 (by decide) (by decide) (by decide) ⟨hw, hKM⟩
    · have hw := hwf hq
      refine lv_iconst (v := 1) X.1 X.2.1 dX10_isLimit_11 (by decide) ?_
      refine lv_goto (tgt := 16) X.1 X.2.1 dX10_isLimit_12 (by decide) ?_
      exact mx_zret X hr hk M dX10_isLimit_16 (by decide) (by decide) (by decide) ⟨hw, hKM⟩
