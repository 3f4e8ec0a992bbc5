abbrev rm_X0_fail : Room := { frames := 5, cells := 0, slots := 0, locals := 106 }
def wp_X0_fail_8 (o : Nat) (post : Mem → Prop) : Nat → Mem → Int32 → Prop
  | 0, _, _ => False
  | n + 1, μ, x1 =>
    (x1 ≤ 0 →
     kd μ o = 3 ∧
     ∀ μ6 : Mem, μ6 = sfi μ 2 2 o 2 →
     post μ6) ∧ (¬ x1 ≤ 0 →
     kd μ o = 3 ∧
     ∃ x10, fr μ 2 0 o = some x10 ∧
     kd μ x10 = 10 ∧
     wp_X7_popRedo μ x10 (fun (r13 : Option Nat) (μ11 : Mem) =>
     KM μ μ11 →
     (r13 = none →
      ∀ v18 : Int32, v18 = x1 + (-1) →
      wp_X0_fail_8 o post n μ11 v18) ∧ (∀ x17, r13 = some x17 →
      kd μ11 x17 = 9 ∧
      ((fi μ11 8 2 x17) = 0 →
       ∃ x21, fr μ11 2 0 o = some x21 ∧
       kd μ11 x21 = 10 ∧
       wp_X7_goBackTo μ11 x21 x17 (fun (μ22 : Mem) =>
       KM μ11 μ22 →
       ∃ x28, fr μ22 2 1 o = some x28 ∧
       kd μ22 x28 = 5 ∧
       wp_X2_goBackTo μ22 x28 (fi μ22 8 6 x17) (fun (μ29 : Mem) =>
       KM μ22 μ29 →
       ∃ x35, fr μ29 8 0 x17 = some x35 ∧
       ∀ μ36 : Mem, μ36 = sfr μ29 2 5 o (some x35) →
       ∀ μ40 : Mem, μ40 = sfi μ36 2 6 o (fi μ36 8 1 x17) →
       ∀ μ44 : Mem, μ44 = sfi μ40 2 2 o 0 →
       post μ44))) ∧ (¬ (fi μ11 8 2 x17) = 0 →
       ∀ v20 : Int32, v20 = x1 + (-1) →
       wp_X0_fail_8 o post n μ11 v20))))
def wp_X0_fail (μ : Mem) (o : Nat) (post : Mem → Prop) : Prop :=
  kd μ o = 3 ∧
  ∃ x2, fr μ 2 0 o = some x2 ∧
  kd μ x2 = 10 ∧
  ∀ v4 : Int32, v4 = (fi μ 9 3 x2) →
  ∃ n48, wp_X0_fail_8 o post n48 μ v4
set_option maxRecDepth 100000 in
set_option maxHeartbeats 4000000 in
theorem b_X0_fail_8 {T : Tb} {B : Nat} {p : Program} {l : Launch} {e : Env} {s : State} {m : MethodId} {args : Array Value} {below : List Frame} {meth : Method} {c0 : Code} {post : Mem → Prop} {μ0 : Mem} {o : Nat} (X : CX T B p m c0 cX0_fail 3 s args RX0) (hr : meth.sig.returnType = none) (hk : meth.locks = false) : ∀ (n : Nat) (μ : Mem) (x1 : Int32) (H : Heap) (locs : List Loc) (ls : Array Slot), KM μ0 μ → wp_X0_fail_8 o post n μ x1 → MG (Rl T B) B s μ H locs → lv_has ls 3 [(0, .ref o), (1, .int x1)] → W p l e rm_X0_fail s m args below meth c0 H locs 0 0 (MQ below (va_Qv (fun μ9 => post μ9 ∧ KM μ0 μ9) (Bm (Rl T B)) (Ai B)) args s 0 0 (Ai B)) (F0 m 8 ls []) := by
  intro n
  induction n with
  | zero =>
    intro μ x1 H locs ls hKM hw
    exact hw.elim
  | succ n ih =>
    intro μ x1 H locs ls hKM hw M hl
    rw [wp_X0_fail_8] at hw
    refine lv_iload_n X.1 X.2.1 dX0_fail_8 rfl (lv_at hl 1 rfl) ?_
    obtain ⟨hwt, hwf⟩ := hw
    refine lv_if_le (tgt := 78) X.1 X.2.1 dX0_fail_9 (by decide) (fun hq => ?_) (fun hq => ?_)
    · have hw := hwt hq
      refine lv_aload_n X.1 X.2.1 dX0_fail_78 rfl (lv_at hl 0 rfl) ?_
      refine lv_iconst (v := 2) X.1 X.2.1 dX0_fail_79 (by decide) ?_
      obtain ⟨hk5, hw⟩ := hw
      refine my_puti (C := RX0) (F := TX0) (N := 7) (ci := 2) X M 2 rfl in_X0 tyX0 tyX0_ok nmX0 (by decide) rfl (by decide) kw_206 (Or.inl rfl) dX0_fail_80 hk5 rfl rfl (fun μ6 H locs eμ6 M => ?_)
      replace hw := hw μ6 eμ6
      have hKM7 : KM μ0 μ6 := by rw [eμ6]; exact hKM
      have hk8 : kd μ6 o = 3 := by rw [eμ6]; exact hk5
      exact mx_vret X hr hk M dX0_fail_83 (by decide) (by decide) ⟨hw, hKM7⟩
    · have hw := hwf hq
      refine lv_aload_n X.1 X.2.1 dX0_fail_12 rfl (lv_at hl 0 rfl) ?_
      obtain ⟨hk9, hw⟩ := hw
      obtain ⟨x10, ex10, hw⟩ := hw
      refine mx_getr (C := RX0) (F := TX0) (N := 7) (ci := 2) X M 0 rfl in_X0 (by decide) rfl (by decide) kw_203 dX0_fail_13 hk9 ?_
      rw [ex10]
      obtain ⟨hk14, hw⟩ := hw
      have hw12 := hw
      clear hw
      refine mx_cq M (mx_runV (n := 0) (As := []) (rest := []) X M (c_X7_popRedo l T B μ x10 _ hw12) (mx_recv (C := RX7) (F := TX7) (N := 8) (ci := 9) X M rfl (by decide) hk14) kw_602 kw_603 kw_604 kw_70 kw_605 (by decide +kernel) rfl rfl ⟨Nat.le_of_ble_eq_true rfl, Nat.le_of_ble_eq_true rfl⟩ rfl hl.1 (Nat.le_of_ble_eq_true rfl) dX0_fail_16 ⟨by decide, by decide⟩) (fun r13 μ11 H locs ⟨hw, hKM11⟩ M => ?_)
      replace hw := hw hKM11
      have hKM11_ := hKM.tr hKM11
      have hk15 := hKM11.at hk9
      have hk16 := hKM11.at hk14
      refine mq_astore_n (lv' := [(2, va_rf r13), (0, .ref o), (1, .int x1)]) X.1 X.2.1 dX0_fail_19 rfl hl (by decide) rfl (fun ls hl => ?_)
      refine mq_aload_n X.1 X.2.1 dX0_fail_20 rfl (lv_at hl 0 rfl) ?_
      obtain ⟨hwn, hws⟩ := hw
      rcases r13 with _ | x17
      · have hw := hwn rfl
        have hl : lv_has ls 3 [(2, .null), (0, .ref o), (1, .int x1)] := hl
        refine lv_ifnullN (tgt := 72) X.1 X.2.1 dX0_fail_21 (by decide) ?_
        obtain ⟨v18, ev18⟩ : ∃ y : Int32, y = x1 + (-1) := ⟨_, rfl⟩
        replace hw := hw v18 ev18
        refine lv_iinc (v := v18) (lv' := [(1, .int v18), (2, .null), (0, .ref o)]) X.1 X.2.1 dX0_fail_72 hl (k := 2) rfl (by rw [ev18]; rfl) (by decide) rfl (fun ls hl => ?_)
        refine lv_goto (tgt := 8) X.1 X.2.1 dX0_fail_75 (by decide) ?_
        exact ih μ11 v18 _ _ _ hKM11_ hw M (lv_sub hl [2, 0] rfl)
      · have hw := hws x17 rfl
        have hl : lv_has ls 3 [(2, .ref x17), (0, .ref o), (1, .int x1)] := hl
        refine lv_ifnull X.1 X.2.1 dX0_fail_21 ?_
        refine lv_aload_n X.1 X.2.1 dX0_fail_24 rfl (lv_at hl 0 rfl) ?_
        obtain ⟨hk19, hw⟩ := hw
        refine mx_geti (C := RX6) (F := TX6) (N := 7) (ci := 8) X M 2 rfl in_X6 (by decide) rfl (by decide) kw_755 dX0_fail_25 hk19 ?_
        obtain ⟨hwf, hwt⟩ := hw
        refine lv_if_ne (tgt := 72) X.1 X.2.1 dX0_fail_28 (by decide) (fun hq => ?_) (fun hq => ?_)
        · have hw := hwt hq
          obtain ⟨v20, ev20⟩ : ∃ y : Int32, y = x1 + (-1) := ⟨_, rfl⟩
          replace hw := hw v20 ev20
          refine lv_iinc (v := v20) (lv' := [(1, .int v20), (2, .ref x17), (0, .ref o)]) X.1 X.2.1 dX0_fail_72 hl (k := 2) rfl (by rw [ev20]; rfl) (by decide) rfl (fun ls hl => ?_)
          refine lv_goto (tgt := 8) X.1 X.2.1 dX0_fail_75 (by decide) ?_
          exact ih μ11 v20 _ _ _ hKM11_ hw M (lv_sub hl [2, 0] rfl)
        · have hw := hwf hq
          refine lv_aload_n X.1 X.2.1 dX0_fail_31 rfl (lv_at hl 1 rfl) ?_
          obtain ⟨x21, ex21, hw⟩ := hw
          refine mx_getr (C := RX0) (F := TX0) (N := 7) (ci := 2) X M 0 rfl in_X0 (by decide) rfl (by decide) kw_203 dX0_fail_32 hk15 ?_
          rw [ex21]
          refine lv_aload_n X.1 X.2.1 dX0_fail_35 rfl (lv_at hl 0 rfl) ?_
          obtain ⟨hk24, hw⟩ := hw
          have hw23 := hw
          clear hw
          refine mx_cv M (mx_runV (n := 1) (As := [.ref x17]) (rest := []) X M (c_X7_goBackTo l T B μ11 x21 x17 _ hw23) (mx_recv (C := RX7) (F := TX7) (N := 8) (ci := 9) X M rfl (by decide) hk24) kw_610 kw_611 kw_612 kw_70 kw_613 (by decide +kernel) rfl rfl ⟨Nat.le_of_ble_eq_true rfl, Nat.le_of_ble_eq_true rfl⟩ rfl hl.1 (Nat.le_of_ble_eq_true rfl) dX0_fail_36 ⟨by decide, by decide⟩) (fun μ22 H locs ⟨hw, hKM22⟩ M => ?_)
          replace hw := hw hKM22
          have hKM22_ := hKM11_.tr hKM22
          have hk25 := hKM22.at hk15
          have hk26 := hKM22.at hk19
          have hk27 := hKM22.at hk24
          refine lv_aload_n X.1 X.2.1 dX0_fail_39 rfl (lv_at hl 1 rfl) ?_
          obtain ⟨x28, ex28, hw⟩ := hw
          refine mx_getr (C := RX0) (F := TX0) (N := 7) (ci := 2) X M 1 rfl in_X0 (by decide) rfl (by decide) kw_204 dX0_fail_40 hk25 ?_
          rw [ex28]
          refine lv_aload_n X.1 X.2.1 dX0_fail_43 rfl (lv_at hl 0 rfl) ?_
          refine mx_geti (C := RX6) (F := TX6) (N := 7) (ci := 8) X M 6 rfl in_X6 (by decide) rfl (by decide) kw_760 dX0_fail_44 hk26 ?_
          obtain ⟨hk31, hw⟩ := hw
          have hw30 := hw
          clear hw
          refine mx_cv M (mx_runV (n := 1) (As := [.int (fi μ22 8 6 x17)]) (rest := []) X M (c_X2_goBackTo l T B μ22 x28 (fi μ22 8 6 x17) _ hw30) (mx_recv (C := RX2) (F := TX2) (N := 4) (ci := 4) X M rfl (by decide) hk31) kw_621 kw_622 kw_623 kw_72 kw_624 (by decide +kernel) rfl rfl ⟨Nat.le_of_ble_eq_true rfl, Nat.le_of_ble_eq_true rfl⟩ rfl hl.1 (Nat.le_of_ble_eq_true rfl) dX0_fail_47 ⟨by decide, by decide⟩) (fun μ29 H locs ⟨hw, hKM29⟩ M => ?_)
          replace hw := hw hKM29
          have hKM29_ := hKM22_.tr hKM29
          have hk32 := hKM29.at hk25
          have hk33 := hKM29.at hk26
          have hk34 := hKM29.at hk31
          refine lv_aload_n X.1 X.2.1 dX0_fail_50 rfl (lv_at hl 1 rfl) ?_
          refine lv_aload_n X.1 X.2.1 dX0_fail_51 rfl (lv_at hl 0 rfl) ?_
          obtain ⟨x35, ex35, hw⟩ := hw
          refine mx_getr (C := RX6) (F := TX6) (N := 7) (ci := 8) X M 0 rfl in_X6 (by decide) rfl (by decide) kw_751 dX0_fail_52 hk33 ?_
          rw [ex35]
          refine my_putr (C := RX0) (F := TX0) (N := 7) (ci := 2) X M 5 rfl in_X0 tyX0 tyX0_ok nmX0 (by decide) rfl (by decide) kw_209 (Or.inl rfl) dX0_fail_55 hk32 (some x35) (mq_no _ _) (mq_fo _ _) (fun μ36 H locs eμ36 M => ?_)
          replace hw := hw μ36 eμ36
          have hKM37 : KM μ0 μ36 := by rw [eμ36]; exact hKM29_
          have hk38 : kd μ36 o = 3 := by rw [eμ36]; exact hk32
          have hk39 : kd μ36 x17 = 9 := by rw [eμ36]; exact hk33
          refine lv_aload_n X.1 X.2.1 dX0_fail_58 rfl (lv_at hl 1 rfl) ?_
          refine lv_aload_n X.1 X.2.1 dX0_fail_59 rfl (lv_at hl 0 rfl) ?_
          refine mx_geti (C := RX6) (F := TX6) (N := 7) (ci := 8) X M 1 rfl in_X6 (by decide) rfl (by decide) kw_753 dX0_fail_60 hk39 ?_
          refine my_puti (C := RX0) (F := TX0) (N := 7) (ci := 2) X M 6 rfl in_X0 tyX0 tyX0_ok nmX0 (by decide) rfl (by decide) kw_210 (Or.inl rfl) dX0_fail_63 hk38 rfl rfl (fun μ40 H locs eμ40 M => ?_)
          replace hw := hw μ40 eμ40
          have hKM41 : KM μ0 μ40 := by rw [eμ40]; exact hKM37
          have hk42 : kd μ40 o = 3 := by rw [eμ40]; exact hk38
          have hk43 : kd μ40 x17 = 9 := by rw [eμ40]; exact hk39
          refine lv_aload_n X.1 X.2.1 dX0_fail_66 rfl (lv_at hl 1 rfl) ?_
          refine lv_iconst (v := 0) X.1 X.2.1 dX0_fail_67 (by decide) ?_
          refine my_puti (C := RX0) (F := TX0) (N := 7) (ci := 2) X M 2 rfl in_X0 tyX0 tyX0_ok nmX0 (by decide) rfl (by decide) kw_206 (Or.inl rfl) dX0_fail_68 hk42 rfl rfl (fun μ44 H locs eμ44 M => ?_)
          replace hw := hw μ44 eμ44
          have hKM45 : KM μ0 μ44 := by rw [eμ44]; exact hKM41
          have hk46 : kd μ44 o = 3 := by rw [eμ44]; exact hk42
          have hk47 : kd μ44 x17 = 9 := by rw [eμ44]; exact hk43
          exact mx_vret X hr hk M dX0_fail_71 (by decide) (by decide) ⟨hw, hKM45⟩
set_option maxRecDepth 100000 in
set_option maxHeartbeats 4000000 in
theorem c_X0_fail (l : Launch) (T : Tb) (B : Nat) (μ : Mem) (o : Nat) (post : Mem → Prop) (hw : wp_X0_fail μ o post) : Met l yX0_fail (.code yX0_fail cX0_fail 3 none :: G) rm_X0_fail (Pm (Rl T B) T B μ [.ref o]) (va_Qv (fun μ9 => post μ9 ∧ KM μ μ9) (Bm (Rl T B)) (Ai B)) 0 0 (Ai B) := by
  refine mx_of RX0 rfl (by decide) (Nat.le_of_ble_eq_true rfl) ?_
  intro p e s m below meth c0 X hr hk hnm M ls hl
  have hl : lv_has ls 3 [(0, .ref o)] := hl
  unfold wp_X0_fail at hw
  have hKM : KM μ μ := KM.rf μ
  refine lv_aload_n X.1 X.2.1 dX0_fail_0 rfl (lv_at hl 0 rfl) ?_
  obtain ⟨hk1, hw⟩ := hw
  obtain ⟨x2, ex2, hw⟩ := hw
  refine mx_getr (C := RX0) (F := TX0) (N := 7) (ci := 2) X M 0 rfl in_X0 (by decide) rfl (by decide) kw_203 dX0_fail_1 hk1 ?_
  rw [ex2]
  obtain ⟨hk3, hw⟩ := hw
  refine mx_geti (C := RX7) (F := TX7) (N := 8) (ci := 9) X M 3 rfl in_X7 (by decide) rfl (by decide) kw_158 dX0_fail_4 hk3 ?_
  refine lv_topi (fun v4 ev4 => ?_)
  replace hw := hw v4 ev4
  refine lv_istore_n (lv' := [(1, .int v4), (0, .ref o)]) X.1 X.2.1 dX0_fail_7 rfl hl (by decide) rfl (fun ls hl => ?_)
  obtain ⟨n48, hw⟩ := hw
  exact b_X0_fail_8 X hr hk n48 μ v4 _ _ _ hKM hw M (lv_sub hl [1, 0] rfl)

abbrev rm_X0_settle : Room := { frames := 6, cells := 0, slots := 0, locals := 128 }
def wp_X0_settle (μ : Mem) (o : Nat) (a1 : Int32) (post : Mem → Prop) : Prop :=
  (a1 = 7 →
   kd μ o = 3 ∧
   wp_X0_fail μ o (fun (μ5 : Mem) =>
   KM μ μ5 →
   post μ5)) ∧ (¬ a1 = 7 →
   kd μ o = 3 ∧
   ∀ μ2 : Mem, μ2 = sfi μ 2 2 o a1 →
   post μ2)
set_option maxRecDepth 100000 in
set_option maxHeartbeats 4000000 in
theorem c_X0_settle (l : Launch) (T : Tb) (B : Nat) (μ : Mem) (o : Nat) (a1 : Int32) (post : Mem → Prop) (hw : wp_X0_settle μ o a1 post) : Met l yX0_settle (.code yX0_settle cX0_settle 2 none :: G) rm_X0_settle (Pm (Rl T B) T B μ [.ref o, .int a1]) (va_Qv (fun μ9 => post μ9 ∧ KM μ μ9) (Bm (Rl T B)) (Ai B)) 0 0 (Ai B) := by
  refine mx_of RX0 rfl (by decide) (Nat.le_of_ble_eq_true rfl) ?_
  intro p e s m below meth c0 X hr hk hnm M ls hl
  have hl : lv_has ls 2 [(0, .ref o), (1, .int a1)] := hl
  unfold wp_X0_settle at hw
  have hKM : KM μ μ := KM.rf μ
  refine lv_iload_n X.1 X.2.1 dX0_settle_0 rfl (lv_at hl 1 rfl) ?_
  refine lv_bipush (v := 7) X.1 X.2.1 dX0_settle_1 (by decide) ?_
  obtain ⟨hwf, hwt⟩ := hw
  refine lv_icmp_ne (tgt := 13) X.1 X.2.1 dX0_settle_3 (by decide) (fun hq => ?_) (fun hq => ?_)
  · have hw := hwt hq
    refine lv_aload_n X.1 X.2.1 dX0_settle_13 rfl (lv_at hl 0 rfl) ?_
    refine lv_iload_n X.1 X.2.1 dX0_settle_14 rfl (lv_at hl 1 rfl) ?_
    obtain ⟨hk1, hw⟩ := hw
    refine my_puti (C := RX0) (F := TX0) (N := 7) (ci := 2) X M 2 rfl in_X0 tyX0 tyX0_ok nmX0 (by decide) rfl (by decide) kw_206 (Or.inl rfl) dX0_settle_15 hk1 rfl rfl (fun μ2 H locs eμ2 M => ?_)
    replace hw := hw μ2 eμ2
    have hKM3 : KM μ μ2 := by rw [eμ2]; exact hKM
    have hk4 : kd μ2 o = 3 := by rw [eμ2]; exact hk1
    exact mx_vret X hr hk M dX0_settle_18 (by decide) (by decide) ⟨hw, hKM3⟩
  · have hw := hwf hq
    refine lv_aload_n X.1 X.2.1 dX0_settle_6 rfl (lv_at hl 0 rfl) ?_
    obtain ⟨hk7, hw⟩ := hw
    have hw6 := hw
    clear hw
    refine mx_cv M (mx_runV (n := 0) (As := []) (rest := []) X M (c_X0_fail l T B μ o _ hw6) (mx_recv (C := RX0) (F := TX0) (N := 7) (ci := 2) X M rfl (by decide) hk7) kw_598 kw_600 kw_9 kw_69 kw_601 (by decide +kernel) rfl rfl ⟨Nat.le_of_ble_eq_true rfl, Nat.le_of_ble_eq_true rfl⟩ rfl hl.1 (Nat.le_of_ble_eq_true rfl) dX0_settle_7 ⟨by decide, by decide⟩) (fun μ5 H locs ⟨hw, hKM5⟩ M => ?_)
    replace hw := hw hKM5
    have hKM5_ := hKM.tr hKM5
    have hk8 := hKM5.at hk7
    refine lv_goto (tgt := 18) X.1 X.2.1 dX0_settle_10 (by decide) ?_
    exact mx_vret X hr hk M dX0_settle_18 (by decide) (by decide) ⟨hw, hKM5_⟩

abbrev rm_X0_step (c z : Nat) : Room := { frames := 9, cells := c, slots := z, locals := 219 }
def wp_X0_step (c z : Nat) (μ : Mem) (o : Nat) (a1 : Nat) (post : Int32 → Mem → Prop) : Prop :=
  kd μ a1 = 4 ∧
  ∃ x2, fr μ 3 1 a1 = some x2 ∧
  kd μ o = 3 ∧
  kd μ x2 = 8 ∧
  wp_X5_instructionAt μ x2 (fi μ 2 6 o) (fun (r6 : Option Nat) (μ4 : Mem) =>
  KM μ μ4 →
  (r6 = none →
   post 7 μ4) ∧ (∀ x11, r6 = some x11 →
   ∀ μ12 : Mem, μ12 = sfi μ4 2 6 o ((fi μ4 2 6 o) + 1) →
   kd μ12 x11 = 6 ∧
   ((fi μ12 5 0 x11) = 0 →
    ∃ c18 z19, c18 ≤ c ∧ z19 ≤ z ∧
    wp_X0_become c18 z19 μ12 o a1 (fi μ12 5 1 x11) (Int32.toInt64 (fi μ12 5 2 x11)) (fun (r21 : Int32) (μ17 : Mem) =>
    KM μ12 μ17 →
    post r21 μ17)) ∧
   ((fi μ12 5 0 x11) = 1 →
    ∃ x25, fr μ12 2 0 o = some x25 ∧
    kd μ12 x25 = 10 ∧
    wp_X7_read μ12 x25 a1 (fi μ12 5 2 x11) (fun (r28 : Int64) (μ26 : Mem) =>
    KM μ12 μ26 →
    ∃ c35 z36, c35 ≤ c ∧ z36 ≤ z ∧
    wp_X0_become c35 z36 μ26 o a1 (fi μ12 5 1 x11) r28 (fun (r38 : Int32) (μ34 : Mem) =>
    KM μ26 μ34 →
    post r38 μ34))) ∧
   ((fi μ12 5 0 x11) = 2 →
    ∃ c43 z44, c43 ≤ c ∧ z44 ≤ z ∧
    wp_X0_make c43 z44 μ12 o a1 x11 (fun (r46 : Int32) (μ42 : Mem) =>
    KM μ12 μ42 →
    post r46 μ42)) ∧
   ((fi μ12 5 0 x11) = 3 →
    ∃ c51 z52, c51 ≤ c ∧ z52 ≤ z ∧
    wp_X0_take c51 z52 μ12 o a1 x11 (fun (r54 : Int32) (μ50 : Mem) =>
    KM μ12 μ50 →
    post r54 μ50)) ∧
   ((fi μ12 5 0 x11) = 4 →
    ∃ x58, fr μ12 2 1 o = some x58 ∧
    ∃ x59, fr μ12 2 0 o = some x59 ∧
    kd μ12 x59 = 10 ∧
    wp_X7_read μ12 x59 a1 (fi μ12 5 1 x11) (fun (r62 : Int64) (μ60 : Mem) =>
    KM μ12 μ60 →
    ∃ x68, fr μ60 2 0 o = some x68 ∧
    kd μ60 x68 = 10 ∧
    wp_X7_read μ60 x68 a1 (fi μ60 5 2 x11) (fun (r71 : Int64) (μ69 : Mem) =>
    KM μ60 μ69 →
    kd μ69 x58 = 5 ∧
    ∃ c78 z79, c78 ≤ c ∧ z79 ≤ z ∧
    wp_X2_compare c78 z79 μ69 x58 r62 r71 (fun (r81 : Int32) (μ77 : Mem) =>
    KM μ69 μ77 →
    post r81 μ77)))) ∧
   ((fi μ12 5 0 x11) = 5 →
    ∃ c88 z89, c88 ≤ c ∧ z89 ≤ z ∧
    wp_X0_sum c88 z89 μ12 o a1 x11 (fun (r91 : Int32) (μ87 : Mem) =>
    KM μ12 μ87 →
    post r91 μ87)) ∧
   ((fi μ12 5 0 x11) = 6 →
    wp_X0_compare μ12 o a1 x11 (fun (r97 : Int32) (μ95 : Mem) =>
    KM μ12 μ95 →
    post r97 μ95)) ∧
   ((fi μ12 5 0 x11) = 7 →
    wp_X0_go μ12 o (fi μ12 5 1 x11) (fun (r103 : Int32) (μ101 : Mem) =>
    KM μ12 μ101 →
    post r103 μ101)) ∧
   ((fi μ12 5 0 x11) = 8 →
    ∃ x107, fr μ12 2 0 o = some x107 ∧
    kd μ12 x107 = 10 ∧
    wp_X7_read μ12 x107 a1 (fi μ12 5 1 x11) (fun (r110 : Int64) (μ108 : Mem) =>
    KM μ12 μ108 →
    wp_X9_hasTag μ108 r110 (fi μ108 5 2 x11) (fun (r118 : Int32) (μ116 : Mem) =>
    KM μ108 μ116 →
    (r118 = 0 →
     wp_X0_go μ116 o (fi μ116 5 3 x11) (fun (r124 : Int32) (μ122 : Mem) =>
     KM μ116 μ122 →
     post r124 μ122)) ∧ (¬ r118 = 0 →
     post 0 μ116)))) ∧
   ((fi μ12 5 0 x11) = 9 →
    ∃ c129 z130, c129 ≤ c ∧ z130 ≤ z ∧
    wp_X0_leaveRedo c129 z130 μ12 o a1 (fi μ12 5 1 x11) (fun (r132 : Int32) (μ128 : Mem) =>
    KM μ12 μ128 →
    post r132 μ128)) ∧
   ((fi μ12 5 0 x11) = 10 →
    ∃ c137 z138, c137 ≤ c ∧ z138 ≤ z ∧
    wp_X0_call c137 z138 μ12 o a1 x11 (fun (r140 : Int32) (μ136 : Mem) =>
    KM μ12 μ136 →
    post r140 μ136)) ∧
   ((fi μ12 5 0 x11) = 11 →
    ∃ x144, fr μ12 2 0 o = some x144 ∧
    kd μ12 x144 = 10 ∧
    ∃ c147 z148, c147 ≤ c ∧ z148 ≤ z ∧
    wp_X0_become c147 z148 μ12 o a1 (fi μ12 5 1 x11) (Int32.toInt64 (fi μ12 9 3 x144)) (fun (r150 : Int32) (μ146 : Mem) =>
    KM μ12 μ146 →
    post r150 μ146)) ∧
   ((fi μ12 5 0 x11) = 12 →
    ∃ x154, fr μ12 2 0 o = some x154 ∧
    kd μ12 x154 = 10 ∧
    wp_X7_read μ12 x154 a1 (fi μ12 5 1 x11) (fun (r157 : Int64) (μ155 : Mem) =>
    KM μ12 μ155 →
    wp_X0_cut μ155 o a1 r157 (fun (r165 : Int32) (μ163 : Mem) =>
    KM μ155 μ163 →
    post r165 μ163))) ∧
   ((fi μ12 5 0 x11) = 13 →
    ∃ x169, fr μ12 2 0 o = some x169 ∧
    kd μ12 x169 = 10 ∧
    wp_X7_read μ12 x169 a1 (fi μ12 5 1 x11) (fun (r172 : Int64) (μ170 : Mem) =>
    KM μ12 μ170 →
    wp_X0_drop μ170 o r172 (fun (r180 : Int32) (μ178 : Mem) =>
    KM μ170 μ178 →
    post r180 μ178))) ∧
   ((fi μ12 5 0 x11) = 14 →
    ∃ c185 z186, c185 ≤ c ∧ z186 ≤ z ∧
    wp_X0_exit c185 z186 μ12 o a1 (fun (r188 : Int32) (μ184 : Mem) =>
    KM μ12 μ184 →
    post r188 μ184)) ∧
   (¬ (fi μ12 5 0 x11) = 0 → ¬ (fi μ12 5 0 x11) = 1 → ¬ (fi μ12 5 0 x11) = 2 → ¬ (fi μ12 5 0 x11) = 3 → ¬ (fi μ12 5 0 x11) = 4 → ¬ (fi μ12 5 0 x11) = 5 → ¬ (fi μ12 5 0 x11) = 6 → ¬ (fi μ12 5 0 x11) = 7 → ¬ (fi μ12 5 0 x11) = 8 → ¬ (fi μ12 5 0 x11) = 9 → ¬ (fi μ12 5 0 x11) = 10 → ¬ (fi μ12 5 0 x11) = 11 → ¬ (fi μ12 5 0 x11) = 12 → ¬ (fi μ12 5 0 x11) = 13 → ¬ (fi μ12 5 0 x11) = 14 → 
    post 7 μ12)))
set_option maxRecDepth 100000 in
set_option maxHeartbeats 4000000 in
theorem c_X0_step (l : Launch) (T : Tb) (B : Nat) (c z : Nat) (μ : Mem) (o : Nat) (a1 : Nat) (post : Int32 → Mem → Prop) (hw : wp_X0_step c z μ o a1 post) : Met l yX0_step (.code yX0_step cX0_step 3 (some .int) :: G) (rm_X0_step c z) (Pm (Rl T B) T B μ [.ref o, .ref a1]) (va_Qi (fun r9 μ9 => post r9 μ9 ∧ KM μ μ9) (Bm (Rl T B)) (Ai B)) c z (Ai B) := by
  refine mx_of RX0 rfl (by decide) (Nat.le_of_ble_eq_true rfl) ?_
  intro p e s m below meth c0 X hr hk hnm M ls hl
  have hl : lv_has ls 3 [(0, .ref o), (1, .ref a1)] := hl
  unfold wp_X0_step at hw
  have hKM : KM μ μ := KM.rf μ
  have hc : 0 + c ≤ c := by omega
  have hz : 0 + z ≤ z := by omega
  refine lv_aload_n X.1 X.2.1 dX0_step_0 rfl (lv_at hl 1 rfl) ?_
  obtain ⟨hk1, hw⟩ := hw
  obtain ⟨x2, ex2, hw⟩ := hw
  refine mx_getr (C := RX1) (F := TX1) (N := 7) (ci := 3) X M 1 rfl in_X1 (by decide) rfl (by decide) kw_521 dX0_step_1 hk1 ?_
  rw [ex2]
  refine lv_aload_n X.1 X.2.1 dX0_step_4 rfl (lv_at hl 0 rfl) ?_
  obtain ⟨hk3, hw⟩ := hw
  refine mx_geti (C := RX0) (F := TX0) (N := 7) (ci := 2) X M 6 rfl in_X0 (by decide) rfl (by decide) kw_210 dX0_step_5 hk3 ?_
  obtain ⟨hk7, hw⟩ := hw
  have hw5 := hw
  clear hw
  refine mx_cq M (mx_runV (n := 1) (As := [.int (fi μ 2 6 o)]) (rest := []) X M (c_X5_instructionAt l T B μ x2 (fi μ 2 6 o) _ hw5) (mx_recv (C := RX5) (F := TX5) (N := 5) (ci := 7) X M rfl (by decide) hk7) kw_629 kw_630 kw_631 kw_78 kw_632 (by decide +kernel) rfl rfl ⟨Nat.le_of_ble_eq_true rfl, Nat.le_of_ble_eq_true rfl⟩ rfl hl.1 (Nat.le_of_ble_eq_true rfl) dX0_step_8 ⟨(show 0 + 0 ≤ c by omega), (show 0 + 0 ≤ z by omega)⟩) (fun r6 μ4 H locs ⟨hw, hKM4⟩ M => ?_)
  replace hw := hw hKM4
  have hKM4_ := hKM.tr hKM4
  have hk8 := hKM4.at hk1
  have hk9 := hKM4.at hk3
  have hk10 := hKM4.at hk7
  have hc : (0 + 0) + (c) ≤ c := by omega
  have hz : (0 + 0) + (z) ≤ z := by omega
  refine mq_astore_n (lv' := [(2, va_rf r6), (0, .ref o), (1, .ref a1)]) X.1 X.2.1 dX0_step_11 rfl hl (by decide) rfl (fun ls hl => ?_)
  refine mq_aload_n X.1 X.2.1 dX0_step_12 rfl (lv_at hl 0 rfl) ?_
  obtain ⟨hwn, hws⟩ := hw
  rcases r6 with _ | x11
  · have hw := hwn rfl
    have hl : lv_has ls 3 [(2, .null), (0, .ref o), (1, .ref a1)] := hl
    refine lv_ifnonnullN X.1 X.2.1 dX0_step_13 ?_
    refine lv_bipush (v := 7) X.1 X.2.1 dX0_step_16 (by decide) ?_
    exact mx_iret X hr hk M dX0_step_18 (by omega) (by omega) ⟨hw, hKM4_⟩
  · have hw := hws x11 rfl
    have hl : lv_has ls 3 [(2, .ref x11), (0, .ref o), (1, .ref a1)] := hl
    refine lv_ifnonnull (tgt := 19) X.1 X.2.1 dX0_step_13 (by decide) ?_
    refine lv_aload_n X.1 X.2.1 dX0_step_19 rfl (lv_at hl 1 rfl) ?_
    refine lv_dup X.1 X.2.1 dX0_step_20 rfl ?_
    refine mx_geti (C := RX0) (F := TX0) (N := 7) (ci := 2) X M 6 rfl in_X0 (by decide) rfl (by decide) kw_210 dX0_step_21 hk9 ?_
    refine lv_iconst (v := 1) X.1 X.2.1 dX0_step_24 (by decide) ?_
    refine lv_iadd X.1 X.2.1 dX0_step_25 ?_
    refine my_puti (C := RX0) (F := TX0) (N := 7) (ci := 2) X M 6 rfl in_X0 tyX0 tyX0_ok nmX0 (by decide) rfl (by decide) kw_210 (Or.inl rfl) dX0_step_26 hk9 rfl rfl (fun μ12 H locs eμ12 M => ?_)
    replace hw := hw μ12 eμ12
    have hKM13 : KM μ μ12 := by rw [eμ12]; exact hKM4_
    have hk14 : kd μ12 a1 = 4 := by rw [eμ12]; exact hk8
    have hk15 : kd μ12 o = 3 := by rw [eμ12]; exact hk9
    refine lv_aload_n X.1 X.2.1 dX0_step_29 rfl (lv_at hl 0 rfl) ?_
    obtain ⟨hk16, hw⟩ := hw
    refine mx_geti (C := RX3) (F := TX3) (N := 7) (ci := 5) X M 0 rfl in_X3 (by decide) rfl (by decide) kw_405 dX0_step_30 hk16 ?_
    obtain ⟨hw_0, hw_1, hw_2, hw_3, hw_4, hw_5, hw_6, hw_7, hw_8, hw_9, hw_10, hw_11, hw_12, hw_13, hw_14, hw_d⟩ := hw
    by_cases q_0 : (fi μ12 5 0 x11) = 0
    · have hw := hw_0 q_0
      refine lv_tableIn (off := 75) (tgt := 108) X.1 X.2.1 dX0_step_33 (by rw [q_0]; decide) (by rw [q_0]; decide) (by rw [q_0]; rfl) (by decide) ?_
      refine lv_aload_n X.1 X.2.1 dX0_step_108 rfl (lv_at hl 1 rfl) ?_
      refine lv_aload_n X.1 X.2.1 dX0_step_109 rfl (lv_at hl 2 rfl) ?_
      refine lv_aload_n X.1 X.2.1 dX0_step_110 rfl (lv_at hl 0 rfl) ?_
      refine mx_geti (C := RX3) (F := TX3) (N := 7) (ci := 5) X M 1 rfl in_X3 (by decide) rfl (by decide) kw_408 dX0_step_111 hk16 ?_
      refine lv_aload_n X.1 X.2.1 dX0_step_114 rfl (lv_at hl 0 rfl) ?_
      refine mx_geti (C := RX3) (F := TX3) (N := 7) (ci := 5) X M 2 rfl in_X3 (by decide) rfl (by decide) kw_411 dX0_step_115 hk16 ?_
      refine lv_i2l X.1 X.2.1 dX0_step_118 rfl ?_
      obtain ⟨c18, z19, hc18, hz19, hw⟩ := hw
      have hw20 := hw
      clear hw
      refine mx_ci M (mx_runV (n := 3) (As := [.ref a1, .int (fi μ12 5 1 x11), .long (Int32.toInt64 (fi μ12 5 2 x11))]) (rest := []) X M (c_X0_become l T B c18 z19 μ12 o a1 (fi μ12 5 1 x11) (Int32.toInt64 (fi μ12 5 2 x11)) _ hw20) (mx_recv (C := RX0) (F := TX0) (N := 7) (ci := 2) X M rfl (by decide) hk15) kw_635 kw_637 kw_12 kw_69 kw_638 (by decide +kernel) rfl rfl ⟨Nat.le_of_ble_eq_true rfl, Nat.le_of_ble_eq_true rfl⟩ rfl hl.1 (Nat.le_of_ble_eq_true rfl) dX0_step_119 ⟨(show (0 + 0) + c18 ≤ c by omega), (show (0 + 0) + z19 ≤ z by omega)⟩) (fun r21 μ17 H locs ⟨hw, hKM17⟩ M => ?_)
      replace hw := hw hKM17
      have hKM17_ := hKM13.tr hKM17
      have hk22 := hKM17.at hk14
      have hk23 := hKM17.at hk15
      have hk24 := hKM17.at hk16
      have hc : ((0 + 0) + c18) + (c - c18) ≤ c := by omega
      have hz : ((0 + 0) + z19) + (z - z19) ≤ z := by omega
      exact mx_iret X hr hk M dX0_step_122 (by omega) (by omega) ⟨hw, hKM17_⟩
    by_cases q_1 : (fi μ12 5 0 x11) = 1
    · have hw := hw_1 q_1
      refine lv_tableIn (off := 90) (tgt := 123) X.1 X.2.1 dX0_step_33 (by rw [q_1]; decide) (by rw [q_1]; decide) (by rw [q_1]; rfl) (by decide) ?_
      refine lv_aload_n X.1 X.2.1 dX0_step_123 rfl (lv_at hl 1 rfl) ?_
      refine lv_aload_n X.1 X.2.1 dX0_step_124 rfl (lv_at hl 2 rfl) ?_
      refine lv_aload_n X.1 X.2.1 dX0_step_125 rfl (lv_at hl 0 rfl) ?_
      refine mx_geti (C := RX3) (F := TX3) (N := 7) (ci := 5) X M 1 rfl in_X3 (by decide) rfl (by decide) kw_408 dX0_step_126 hk16 ?_
      refine lv_aload_n X.1 X.2.1 dX0_step_129 rfl (lv_at hl 1 rfl) ?_
      obtain ⟨x25, ex25, hw⟩ := hw
      refine mx_getr (C := RX0) (F := TX0) (N := 7) (ci := 2) X M 0 rfl in_X0 (by decide) rfl (by decide) kw_203 dX0_step_130 hk15 ?_
      rw [ex25]
      refine lv_aload_n X.1 X.2.1 dX0_step_133 rfl (lv_at hl 2 rfl) ?_
      refine lv_aload_n X.1 X.2.1 dX0_step_134 rfl (lv_at hl 0 rfl) ?_
      refine mx_geti (C := RX3) (F := TX3) (N := 7) (ci := 5) X M 2 rfl in_X3 (by decide) rfl (by decide) kw_411 dX0_step_135 hk16 ?_
      obtain ⟨hk29, hw⟩ := hw
      have hw27 := hw
      clear hw
      refine mx_cl M (mx_runV (n := 2) (As := [.ref a1, .int (fi μ12 5 2 x11)]) (rest := [.int (fi μ12 5 1 x11), .ref a1, .ref o]) X M (c_X7_read l T B μ12 x25 a1 (fi μ12 5 2 x11) _ hw27) (mx_recv (C := RX7) (F := TX7) (N := 8) (ci := 9) X M rfl (by decide) hk29) kw_639 kw_640 kw_641 kw_70 kw_642 (by decide +kernel) rfl rfl ⟨Nat.le_of_ble_eq_true rfl, Nat.le_of_ble_eq_true rfl⟩ rfl hl.1 (Nat.le_of_ble_eq_true rfl) dX0_step_138 ⟨(show (0 + 0) + 0 ≤ c by omega), (show (0 + 0) + 0 ≤ z by omega)⟩) (fun r28 μ26 H locs ⟨hw, hKM26⟩ M => ?_)
      replace hw := hw hKM26
      have hKM26_ := hKM13.tr hKM26
      have hk30 := hKM26.at hk14
      have hk31 := hKM26.at hk15
      have hk32 := hKM26.at hk16
      have hk33 := hKM26.at hk29
      have hc : ((0 + 0) + 0) + (c) ≤ c := by omega
      have hz : ((0 + 0) + 0) + (z) ≤ z := by omega
      obtain ⟨c35, z36, hc35, hz36, hw⟩ := hw
      have hw37 := hw
      clear hw
      refine mx_ci M (mx_runV (n := 3) (As := [.ref a1, .int (fi μ12 5 1 x11), .long r28]) (rest := []) X M (c_X0_become l T B c35 z36 μ26 o a1 (fi μ12 5 1 x11) r28 _ hw37) (mx_recv (C := RX0) (F := TX0) (N := 7) (ci := 2) X M rfl (by decide) hk31) kw_635 kw_637 kw_12 kw_69 kw_638 (by decide +kernel) rfl rfl ⟨Nat.le_of_ble_eq_true rfl, Nat.le_of_ble_eq_true rfl⟩ rfl hl.1 (Nat.le_of_ble_eq_true rfl) dX0_step_141 ⟨(show ((0 + 0) + 0) + c35 ≤ c by omega), (show ((0 + 0) + 0) + z36 ≤ z by omega)⟩) (fun r38 μ34 H locs ⟨hw, hKM34⟩ M => ?_)
      replace hw := hw hKM34
      have hKM34_ := hKM26_.tr hKM34
      have hk39 := hKM34.at hk30
      have hk40 := hKM34.at hk31
      have hk41 := hKM34.at hk32
      have hc : (((0 + 0) + 0) + c35) + (c - c35) ≤ c := by omega
      have hz : (((0 + 0) + 0) + z36) + (z - z36) ≤ z := by omega
      exact mx_iret X hr hk M dX0_step_144 (by omega) (by omega) ⟨hw, hKM34_⟩
    by_cases q_2 : (fi μ12 5 0 x11) = 2
    · have hw := hw_2 q_2
      refine lv_tableIn (off := 112) (tgt := 145) X.1 X.2.1 dX0_step_33 (by rw [q_2]; decide) (by rw [q_2]; decide) (by rw [q_2]; rfl) (by decide) ?_
      refine lv_aload_n X.1 X.2.1 dX0_step_145 rfl (lv_at hl 1 rfl) ?_
      refine lv_aload_n X.1 X.2.1 dX0_step_146 rfl (lv_at hl 2 rfl) ?_
      refine lv_aload_n X.1 X.2.1 dX0_step_147 rfl (lv_at hl 0 rfl) ?_
      obtain ⟨c43, z44, hc43, hz44, hw⟩ := hw
      have hw45 := hw
      clear hw
      refine mx_ci M (mx_runV (n := 2) (As := [.ref a1, .ref x11]) (rest := []) X M (c_X0_make l T B c43 z44 μ12 o a1 x11 _ hw45) (mx_recv (C := RX0) (F := TX0) (N := 7) (ci := 2) X M rfl (by decide) hk15) kw_643 kw_645 kw_13 kw_69 kw_646 (by decide +kernel) rfl rfl ⟨Nat.le_of_ble_eq_true rfl, Nat.le_of_ble_eq_true rfl⟩ rfl hl.1 (Nat.le_of_ble_eq_true rfl) dX0_step_148 ⟨(show (0 + 0) + c43 ≤ c by omega), (show (0 + 0) + z44 ≤ z by omega)⟩) (fun r46 μ42 H locs ⟨hw, hKM42⟩ M => ?_)
      replace hw := hw hKM42
      have hKM42_ := hKM13.tr hKM42
      have hk47 := hKM42.at hk14
      have hk48 := hKM42.at hk15
      have hk49 := hKM42.at hk16
      have hc : ((0 + 0) + c43) + (c - c43) ≤ c := by omega
      have hz : ((0 + 0) + z44) + (z - z44) ≤ z := by omega
      exact mx_iret X hr hk M dX0_step_151 (by omega) (by omega) ⟨hw, hKM42_⟩
    by_cases q_3 : (fi μ12 5 0 x11) = 3
    · have hw := hw_3 q_3
      refine lv_tableIn (off := 119) (tgt := 152) X.1 X.2.1 dX0_step_33 (by rw [q_3]; decide) (by rw [q_3]; decide) (by rw [q_3]; rfl) (by decide) ?_
      refine lv_aload_n X.1 X.2.1 dX0_step_152 rfl (lv_at hl 1 rfl) ?_
      refine lv_aload_n X.1 X.2.1 dX0_step_153 rfl (lv_at hl 2 rfl) ?_
      refine lv_aload_n X.1 X.2.1 dX0_step_154 rfl (lv_at hl 0 rfl) ?_
      obtain ⟨c51, z52, hc51, hz52, hw⟩ := hw
      have hw53 := hw
      clear hw
      refine mx_ci M (mx_runV (n := 2) (As := [.ref a1, .ref x11]) (rest := []) X M (c_X0_take l T B c51 z52 μ12 o a1 x11 _ hw53) (mx_recv (C := RX0) (F := TX0) (N := 7) (ci := 2) X M rfl (by decide) hk15) kw_666 kw_668 kw_14 kw_69 kw_669 (by decide +kernel) rfl rfl ⟨Nat.le_of_ble_eq_true rfl, Nat.le_of_ble_eq_true rfl⟩ rfl hl.1 (Nat.le_of_ble_eq_true rfl) dX0_step_155 ⟨(show (0 + 0) + c51 ≤ c by omega), (show (0 + 0) + z52 ≤ z by omega)⟩) (fun r54 μ50 H locs ⟨hw, hKM50⟩ M => ?_)
      replace hw := hw hKM50
      have hKM50_ := hKM13.tr hKM50
      have hk55 := hKM50.at hk14
      have hk56 := hKM50.at hk15
      have hk57 := hKM50.at hk16
      have hc : ((0 + 0) + c51) + (c - c51) ≤ c := by omega
      have hz : ((0 + 0) + z52) + (z - z52) ≤ z := by omega
      exact mx_iret X hr hk M dX0_step_158 (by omega) (by omega) ⟨hw, hKM50_⟩
    by_cases q_4 : (fi μ12 5 0 x11) = 4
    · have hw := hw_4 q_4
      refine lv_tableIn (off := 126) (tgt := 159) X.1 X.2.1 dX0_step_33 (by rw [q_4]; decide) (by rw [q_4]; decide) (by rw [q_4]; rfl) (by decide) ?_
      refine lv_aload_n X.1 X.2.1 dX0_step_159 rfl (lv_at hl 1 rfl) ?_
      obtain ⟨x58, ex58, hw⟩ := hw
      refine mx_getr (C := RX0) (F := TX0) (N := 7) (ci := 2) X M 1 rfl in_X0 (by decide) rfl (by decide) kw_204 dX0_step_160 hk15 ?_
      rw [ex58]
      refine lv_aload_n X.1 X.2.1 dX0_step_163 rfl (lv_at hl 1 rfl) ?_
      obtain ⟨x59, ex59, hw⟩ := hw
      refine mx_getr (C := RX0) (F := TX0) (N := 7) (ci := 2) X M 0 rfl in_X0 (by decide) rfl (by decide) kw_203 dX0_step_164 hk15 ?_
      rw [ex59]
      refine lv_aload_n X.1 X.2.1 dX0_step_167 rfl (lv_at hl 2 rfl) ?_
      refine lv_aload_n X.1 X.2.1 dX0_step_168 rfl (lv_at hl 0 rfl) ?_
      refine mx_geti (C := RX3) (F := TX3) (N := 7) (ci := 5) X M 1 rfl in_X3 (by decide) rfl (by decide) kw_408 dX0_step_169 hk16 ?_
      obtain ⟨hk63, hw⟩ := hw
      have hw61 := hw
      clear hw
      refine mx_cl M (mx_runV (n := 2) (As := [.ref a1, .int (fi μ12 5 1 x11)]) (rest := [.ref x58]) X M (c_X7_read l T B μ12 x59 a1 (fi μ12 5 1 x11) _ hw61) (mx_recv (C := RX7) (F := TX7) (N := 8) (ci := 9) X M rfl (by decide) hk63) kw_639 kw_640 kw_641 kw_70 kw_642 (by decide +kernel) rfl rfl ⟨Nat.le_of_ble_eq_true rfl, Nat.le_of_ble_eq_true rfl⟩ rfl hl.1 (Nat.le_of_ble_eq_true rfl) dX0_step_172 ⟨(show (0 + 0) + 0 ≤ c by omega), (show (0 + 0) + 0 ≤ z by omega)⟩) (fun r62 μ60 H locs ⟨hw, hKM60⟩ M => ?_)
      replace hw := hw hKM60
      have hKM60_ := hKM13.tr hKM60
      have hk64 := hKM60.at hk14
      have hk65 := hKM60.at hk15
      have hk66 := hKM60.at hk16
      have hk67 := hKM60.at hk63
      have hc : ((0 + 0) + 0) + (c) ≤ c := by omega
      have hz : ((0 + 0) + 0) + (z) ≤ z := by omega
      refine lv_aload_n X.1 X.2.1 dX0_step_175 rfl (lv_at hl 1 rfl) ?_
      obtain ⟨x68, ex68, hw⟩ := hw
      refine mx_getr (C := RX0) (F := TX0) (N := 7) (ci := 2) X M 0 rfl in_X0 (by decide) rfl (by decide) kw_203 dX0_step_176 hk65 ?_
      rw [ex68]
      refine lv_aload_n X.1 X.2.1 dX0_step_179 rfl (lv_at hl 2 rfl) ?_
      refine lv_aload_n X.1 X.2.1 dX0_step_180 rfl (lv_at hl 0 rfl) ?_
      refine mx_geti (C := RX3) (F := TX3) (N := 7) (ci := 5) X M 2 rfl in_X3 (by decide) rfl (by decide) kw_411 dX0_step_181 hk66 ?_
      obtain ⟨hk72, hw⟩ := hw
      have hw70 := hw
      clear hw
      refine mx_cl M (mx_runV (n := 2) (As := [.ref a1, .int (fi μ60 5 2 x11)]) (rest := [.long r62, .ref x58]) X M (c_X7_read l T B μ60 x68 a1 (fi μ60 5 2 x11) _ hw70) (mx_recv (C := RX7) (F := TX7) (N := 8) (ci := 9) X M rfl (by decide) hk72) kw_639 kw_640 kw_641 kw_70 kw_642 (by decide +kernel) rfl rfl ⟨Nat.le_of_ble_eq_true rfl, Nat.le_of_ble_eq_true rfl⟩ rfl hl.1 (Nat.le_of_ble_eq_true rfl) dX0_step_184 ⟨(show ((0 + 0) + 0) + 0 ≤ c by omega), (show ((0 + 0) + 0) + 0 ≤ z by omega)⟩) (fun r71 μ69 H locs ⟨hw, hKM69⟩ M => ?_)
      replace hw := hw hKM69
      have hKM69_ := hKM60_.tr hKM69
      have hk73 := hKM69.at hk64
      have hk74 := hKM69.at hk65
      have hk75 := hKM69.at hk66
      have hk76 := hKM69.at hk72
      have hc : (((0 + 0) + 0) + 0) + (c) ≤ c := by omega
      have hz : (((0 + 0) + 0) + 0) + (z) ≤ z := by omega
      obtain ⟨hk82, hw⟩ := hw
      obtain ⟨c78, z79, hc78, hz79, hw⟩ := hw
      have hw80 := hw
      clear hw
      refine mx_ci M (mx_runV (n := 2) (As := [.long r62, .long r71]) (rest := []) X M (c_X2_compare l T B c78 z79 μ69 x58 r62 r71 _ hw80) (mx_recv (C := RX2) (F := TX2) (N := 4) (ci := 4) X M rfl (by decide) hk82) kw_693 kw_694 kw_695 kw_72 kw_696 (by decide +kernel) rfl rfl ⟨Nat.le_of_ble_eq_true rfl, Nat.le_of_ble_eq_true rfl⟩ rfl hl.1 (Nat.le_of_ble_eq_true rfl) dX0_step_187 ⟨(show (((0 + 0) + 0) + 0) + c78 ≤ c by omega), (show (((0 + 0) + 0) + 0) + z79 ≤ z by omega)⟩) (fun r81 μ77 H locs ⟨hw, hKM77⟩ M => ?_)
      replace hw := hw hKM77
      have hKM77_ := hKM69_.tr hKM77
      have hk83 := hKM77.at hk73
      have hk84 := hKM77.at hk74
      have hk85 := hKM77.at hk75
      have hk86 := hKM77.at hk82
      have hc : ((((0 + 0) + 0) + 0) + c78) + (c - c78) ≤ c := by omega
      have hz : ((((0 + 0) + 0) + 0) + z79) + (z - z79) ≤ z := by omega
      exact mx_iret X hr hk M dX0_step_190 (by omega) (by omega) ⟨hw, hKM77_⟩
    by_cases q_5 : (fi μ12 5 0 x11) = 5
    · have hw := hw_5 q_5
      refine lv_tableIn (off := 158) (tgt := 191) X.1 X.2.1 dX0_step_33 (by rw [q_5]; decide) (by rw [q_5]; decide) (by rw [q_5]; rfl) (by decide) ?_
      refine lv_aload_n X.1 X.2.1 dX0_step_191 rfl (lv_at hl 1 rfl) ?_
      refine lv_aload_n X.1 X.2.1 dX0_step_192 rfl (lv_at hl 2 rfl) ?_
      refine lv_aload_n X.1 X.2.1 dX0_step_193 rfl (lv_at hl 0 rfl) ?_
      obtain ⟨c88, z89, hc88, hz89, hw⟩ := hw
      have hw90 := hw
      clear hw
      refine mx_ci M (mx_runV (n := 2) (As := [.ref a1, .ref x11]) (rest := []) X M (c_X0_sum l T B c88 z89 μ12 o a1 x11 _ hw90) (mx_recv (C := RX0) (F := TX0) (N := 7) (ci := 2) X M rfl (by decide) hk15) kw_709 kw_711 kw_16 kw_69 kw_712 (by decide +kernel) rfl rfl ⟨Nat.le_of_ble_eq_true rfl, Nat.le_of_ble_eq_true rfl⟩ rfl hl.1 (Nat.le_of_ble_eq_true rfl) dX0_step_194 ⟨(show (0 + 0) + c88 ≤ c by omega), (show (0 + 0) + z89 ≤ z by omega)⟩) (fun r91 μ87 H locs ⟨hw, hKM87⟩ M => ?_)
      replace hw := hw hKM87
      have hKM87_ := hKM13.tr hKM87
      have hk92 := hKM87.at hk14
      have hk93 := hKM87.at hk15
      have hk94 := hKM87.at hk16
      have hc : ((0 + 0) + c88) + (c - c88) ≤ c := by omega
      have hz : ((0 + 0) + z89) + (z - z89) ≤ z := by omega
      exact mx_iret X hr hk M dX0_step_197 (by omega) (by omega) ⟨hw, hKM87_⟩
    by_cases q_6 : (fi μ12 5 0 x11) = 6
    · have hw := hw_6 q_6
      refine lv_tableIn (off := 165) (tgt := 198) X.1 X.2.1 dX0_step_33 (by rw [q_6]; decide) (by rw [q_6]; decide) (by rw [q_6]; rfl) (by decide) ?_
      refine lv_aload_n X.1 X.2.1 dX0_step_198 rfl (lv_at hl 1 rfl) ?_
      refine lv_aload_n X.1 X.2.1 dX0_step_199 rfl (lv_at hl 2 rfl) ?_
      refine lv_aload_n X.1 X.2.1 dX0_step_200 rfl (lv_at hl 0 rfl) ?_
      have hw96 := hw
      clear hw
      refine mx_ci M (mx_runV (n := 2) (As := [.ref a1, .ref x11]) (rest := []) X M (c_X0_compare l T B μ12 o a1 x11 _ hw96) (mx_recv (C := RX0) (F := TX0) (N := 7) (ci := 2) X M rfl (by decide) hk15) kw_717 kw_719 kw_17 kw_69 kw_720 (by decide +kernel) rfl rfl ⟨Nat.le_of_ble_eq_true rfl, Nat.le_of_ble_eq_true rfl⟩ rfl hl.1 (Nat.le_of_ble_eq_true rfl) dX0_step_201 ⟨(show (0 + 0) + 0 ≤ c by omega), (show (0 + 0) + 0 ≤ z by omega)⟩) (fun r97 μ95 H locs ⟨hw, hKM95⟩ M => ?_)
      replace hw := hw hKM95
      have hKM95_ := hKM13.tr hKM95
      have hk98 := hKM95.at hk14
      have hk99 := hKM95.at hk15
      have hk100 := hKM95.at hk16
      have hc : ((0 + 0) + 0) + (c) ≤ c := by omega
      have hz : ((0 + 0) + 0) + (z) ≤ z := by omega
      exact mx_iret X hr hk M dX0_step_204 (by omega) (by omega) ⟨hw, hKM95_⟩
    by_cases q_7 : (fi μ12 5 0 x11) = 7
    · have hw := hw_7 q_7
      refine lv_tableIn (off := 172) (tgt := 205) X.1 X.2.1 dX0_step_33 (by rw [q_7]; decide) (by rw [q_7]; decide) (by rw [q_7]; rfl) (by decide) ?_
      refine lv_aload_n X.1 X.2.1 dX0_step_205 rfl (lv_at hl 1 rfl) ?_
      refine lv_aload_n X.1 X.2.1 dX0_step_206 rfl (lv_at hl 0 rfl) ?_
      refine mx_geti (C := RX3) (F := TX3) (N := 7) (ci := 5) X M 1 rfl in_X3 (by decide) rfl (by decide) kw_408 dX0_step_207 hk16 ?_
      have hw102 := hw
      clear hw
      refine mx_ci M (mx_runV (n := 1) (As := [.int (fi μ12 5 1 x11)]) (rest := []) X M (c_X0_go l T B μ12 o (fi μ12 5 1 x11) _ hw102) (mx_recv (C := RX0) (F := TX0) (N := 7) (ci := 2) X M rfl (by decide) hk15) kw_724 kw_726 kw_18 kw_69 kw_727 (by decide +kernel) rfl rfl ⟨Nat.le_of_ble_eq_true rfl, Nat.le_of_ble_eq_true rfl⟩ rfl hl.1 (Nat.le_of_ble_eq_true rfl) dX0_step_210 ⟨(show (0 + 0) + 0 ≤ c by omega), (show (0 + 0) + 0 ≤ z by omega)⟩) (fun r103 μ101 H locs ⟨hw, hKM101⟩ M => ?_)
      replace hw := hw hKM101
      have hKM101_ := hKM13.tr hKM101
      have hk104 := hKM101.at hk14
      have hk105 := hKM101.at hk15
      have hk106 := hKM101.at hk16
      have hc : ((0 + 0) + 0) + (c) ≤ c := by omega
      have hz : ((0 + 0) + 0) + (z) ≤ z := by omega
      exact mx_iret X hr hk M dX0_step_213 (by omega) (by omega) ⟨hw, hKM101_⟩
    by_cases q_8 : (fi μ12 5 0 x11) = 8
    · have hw := hw_8 q_8
      refine lv_tableIn (off := 181) (tgt := 214) X.1 X.2.1 dX0_step_33 (by rw [q_8]; decide) (by rw [q_8]; decide) (by rw [q_8]; rfl) (by decide) ?_
      refine lv_aload_n X.1 X.2.1 dX0_step_214 rfl (lv_at hl 1 rfl) ?_
      obtain ⟨x107, ex107, hw⟩ := hw
      refine mx_getr (C := RX0) (F := TX0) (N := 7) (ci := 2) X M 0 rfl in_X0 (by decide) rfl (by decide) kw_203 dX0_step_215 hk15 ?_
      rw [ex107]
      refine lv_aload_n X.1 X.2.1 dX0_step_218 rfl (lv_at hl 2 rfl) ?_
      refine lv_aload_n X.1 X.2.1 dX0_step_219 rfl (lv_at hl 0 rfl) ?_
      refine mx_geti (C := RX3) (F := TX3) (N := 7) (ci := 5) X M 1 rfl in_X3 (by decide) rfl (by decide) kw_408 dX0_step_220 hk16 ?_
      obtain ⟨hk111, hw⟩ := hw
      have hw109 := hw
      clear hw
      refine mx_cl M (mx_runV (n := 2) (As := [.ref a1, .int (fi μ12 5 1 x11)]) (rest := []) X M (c_X7_read l T B μ12 x107 a1 (fi μ12 5 1 x11) _ hw109) (mx_recv (C := RX7) (F := TX7) (N := 8) (ci := 9) X M rfl (by decide) hk111) kw_639 kw_640 kw_641 kw_70 kw_642 (by decide +kernel) rfl rfl ⟨Nat.le_of_ble_eq_true rfl, Nat.le_of_ble_eq_true rfl⟩ rfl hl.1 (Nat.le_of_ble_eq_true rfl) dX0_step_223 ⟨(show (0 + 0) + 0 ≤ c by omega), (show (0 + 0) + 0 ≤ z by omega)⟩) (fun r110 μ108 H locs ⟨hw, hKM108⟩ M => ?_)
      replace hw := hw hKM108
      have hKM108_ := hKM13.tr hKM108
      have hk112 := hKM108.at hk14
      have hk113 := hKM108.at hk15
      have hk114 := hKM108.at hk16
      have hk115 := hKM108.at hk111
      have hc : ((0 + 0) + 0) + (c) ≤ c := by omega
      have hz : ((0 + 0) + 0) + (z) ≤ z := by omega
      refine lv_aload_n X.1 X.2.1 dX0_step_226 rfl (lv_at hl 0 rfl) ?_
      refine mx_geti (C := RX3) (F := TX3) (N := 7) (ci := 5) X M 2 rfl in_X3 (by decide) rfl (by decide) kw_411 dX0_step_227 hk114 ?_
      have hw117 := hw
      clear hw
      refine mx_ci M (mx_runS (n := 2) (As := [.long r110, .int (fi μ108 5 2 x11)]) (rest := []) X M (c_X9_hasTag l T B μ108 r110 (fi μ108 5 2 x11) _ hw117) kw_670 kw_671 kw_84 kw_672 (by decide +kernel) rfl rfl ⟨Nat.le_of_ble_eq_true rfl, Nat.le_of_ble_eq_true rfl⟩ rfl hl.1 (Nat.le_of_ble_eq_true rfl) dX0_step_230 ⟨(show ((0 + 0) + 0) + 0 ≤ c by omega), (show ((0 + 0) + 0) + 0 ≤ z by omega)⟩) (fun r118 μ116 H locs ⟨hw, hKM116⟩ M => ?_)
      replace hw := hw hKM116
      have hKM116_ := hKM108_.tr hKM116
      have hk119 := hKM116.at hk112
      have hk120 := hKM116.at hk113
      have hk121 := hKM116.at hk114
      have hc : (((0 + 0) + 0) + 0) + (c) ≤ c := by omega
      have hz : (((0 + 0) + 0) + 0) + (z) ≤ z := by omega
      obtain ⟨hwt, hwf⟩ := hw
      refine lv_if_eq (tgt := 240) X.1 X.2.1 dX0_step_233 (by decide) (fun hq => ?_) (fun hq => ?_)
      · have hw := hwt hq
        refine lv_aload_n X.1 X.2.1 dX0_step_240 rfl (lv_at hl 1 rfl) ?_
        refine lv_aload_n X.1 X.2.1 dX0_step_241 rfl (lv_at hl 0 rfl) ?_
        refine mx_geti (C := RX3) (F := TX3) (N := 7) (ci := 5) X M 3 rfl in_X3 (by decide) rfl (by decide) kw_414 dX0_step_242 hk121 ?_
        have hw123 := hw
        clear hw
        refine mx_ci M (mx_runV (n := 1) (As := [.int (fi μ116 5 3 x11)]) (rest := []) X M (c_X0_go l T B μ116 o (fi μ116 5 3 x11) _ hw123) (mx_recv (C := RX0) (F := TX0) (N := 7) (ci := 2) X M rfl (by decide) hk120) kw_724 kw_726 kw_18 kw_69 kw_727 (by decide +kernel) rfl rfl ⟨Nat.le_of_ble_eq_true rfl, Nat.le_of_ble_eq_true rfl⟩ rfl hl.1 (Nat.le_of_ble_eq_true rfl) dX0_step_245 ⟨(show (((0 + 0) + 0) + 0) + 0 ≤ c by omega), (show (((0 + 0) + 0) + 0) + 0 ≤ z by omega)⟩) (fun r124 μ122 H locs ⟨hw, hKM122⟩ M => ?_)
        replace hw := hw hKM122
        have hKM122_ := hKM116_.tr hKM122
        have hk125 := hKM122.at hk119
        have hk126 := hKM122.at hk120
        have hk127 := hKM122.at hk121
        have hc : ((((0 + 0) + 0) + 0) + 0) + (c) ≤ c := by omega
        have hz : ((((0 + 0) + 0) + 0) + 0) + (z) ≤ z := by omega
        exact mx_iret X hr hk M dX0_step_248 (by omega) (by omega) ⟨hw, hKM122_⟩
      · have hw := hwf hq
        refine lv_iconst (v := 0) X.1 X.2.1 dX0_step_236 (by decide) ?_
        refine lv_goto (tgt := 248) X.1 X.2.1 dX0_step_237 (by decide) ?_
        exact mx_iret X hr hk M dX0_step_248 (by omega) (by omega) ⟨hw, hKM116_⟩
    by_cases q_9 : (fi μ12 5 0 x11) = 9
    · have hw := hw_9 q_9
      refine lv_tableIn (off := 216) (tgt := 249) X.1 X.2.1 dX0_step_33 (by rw [q_9]; decide) (by rw [q_9]; decide) (by rw [q_9]; rfl) (by decide) ?_
      refine lv_aload_n X.1 X.2.1 dX0_step_249 rfl (lv_at hl 1 rfl) ?_
      refine lv_aload_n X.1 X.2.1 dX0_step_250 rfl (lv_at hl 2 rfl) ?_
      refine lv_aload_n X.1 X.2.1 dX0_step_251 rfl (lv_at hl 0 rfl) ?_
      refine mx_geti (C := RX3) (F := TX3) (N := 7) (ci := 5) X M 1 rfl in_X3 (by decide) rfl (by decide) kw_408 dX0_step_252 hk16 ?_
      obtain ⟨c129, z130, hc129, hz130, hw⟩ := hw
      have hw131 := hw
      clear hw
      refine mx_ci M (mx_runV (n := 2) (As := [.ref a1, .int (fi μ12 5 1 x11)]) (rest := []) X M (c_X0_leaveRedo l T B c129 z130 μ12 o a1 (fi μ12 5 1 x11) _ hw131) (mx_recv (C := RX0) (F := TX0) (N := 7) (ci := 2) X M rfl (by decide) hk15) kw_728 kw_730 kw_19 kw_69 kw_731 (by decide +kernel) rfl rfl ⟨Nat.le_of_ble_eq_true rfl, Nat.le_of_ble_eq_true rfl⟩ rfl hl.1 (Nat.le_of_ble_eq_true rfl) dX0_step_255 ⟨(show (0 + 0) + c129 ≤ c by omega), (show (0 + 0) + z130 ≤ z by omega)⟩) (fun r132 μ128 H locs ⟨hw, hKM128⟩ M => ?_)
      replace hw := hw hKM128
      have hKM128_ := hKM13.tr hKM128
      have hk133 := hKM128.at hk14
      have hk134 := hKM128.at hk15
      have hk135 := hKM128.at hk16
      have hc : ((0 + 0) + c129) + (c - c129) ≤ c := by omega
      have hz : ((0 + 0) + z130) + (z - z130) ≤ z := by omega
      exact mx_iret X hr hk M dX0_step_258 (by omega) (by omega) ⟨hw, hKM128_⟩
    by_cases q_10 : (fi μ12 5 0 x11) = 10
    · have hw := hw_10 q_10
      refine lv_tableIn (off := 226) (tgt := 259) X.1 X.2.1 dX0_step_33 (by rw [q_10]; decide) (by rw [q_10]; decide) (by rw [q_10]; rfl) (by decide) ?_
      refine lv_aload_n X.1 X.2.1 dX0_step_259 rfl (lv_at hl 1 rfl) ?_
      refine lv_aload_n X.1 X.2.1 dX0_step_260 rfl (lv_at hl 2 rfl) ?_
      refine lv_aload_n X.1 X.2.1 dX0_step_261 rfl (lv_at hl 0 rfl) ?_
      obtain ⟨c137, z138, hc137, hz138, hw⟩ := hw
      have hw139 := hw
      clear hw
      refine mx_ci M (mx_runV (n := 2) (As := [.ref a1, .ref x11]) (rest := []) X M (c_X0_call l T B c137 z138 μ12 o a1 x11 _ hw139) (mx_recv (C := RX0) (F := TX0) (N := 7) (ci := 2) X M rfl (by decide) hk15) kw_776 kw_778 kw_20 kw_69 kw_779 (by decide +kernel) rfl rfl ⟨Nat.le_of_ble_eq_true rfl, Nat.le_of_ble_eq_true rfl⟩ rfl hl.1 (Nat.le_of_ble_eq_true rfl) dX0_step_262 ⟨(show (0 + 0) + c137 ≤ c by omega), (show (0 + 0) + z138 ≤ z by omega)⟩) (fun r140 μ136 H locs ⟨hw, hKM136⟩ M => ?_)
      replace hw := hw hKM136
      have hKM136_ := hKM13.tr hKM136
      have hk141 := hKM136.at hk14
      have hk142 := hKM136.at hk15
      have hk143 := hKM136.at hk16
      have hc : ((0 + 0) + c137) + (c - c137) ≤ c := by omega
      have hz : ((0 + 0) + z138) + (z - z138) ≤ z := by omega
      exact mx_iret X hr hk M dX0_step_265 (by omega) (by omega) ⟨hw, hKM136_⟩
    by_cases q_11 : (fi μ12 5 0 x11) = 11
    · have hw := hw_11 q_11
      refine lv_tableIn (off := 233) (tgt := 266) X.1 X.2.1 dX0_step_33 (by rw [q_11]; decide) (by rw [q_11]; decide) (by rw [q_11]; rfl) (by decide) ?_
      refine lv_aload_n X.1 X.2.1 dX0_step_266 rfl (lv_at hl 1 rfl) ?_
      refine lv_aload_n X.1 X.2.1 dX0_step_267 rfl (lv_at hl 2 rfl) ?_
      refine lv_aload_n X.1 X.2.1 dX0_step_268 rfl (lv_at hl 0 rfl) ?_
      refine mx_geti (C := RX3) (F := TX3) (N := 7) (ci := 5) X M 1 rfl in_X3 (by decide) rfl (by decide) kw_408 dX0_step_269 hk16 ?_
      refine lv_aload_n X.1 X.2.1 dX0_step_272 rfl (lv_at hl 1 rfl) ?_
      obtain ⟨x144, ex144, hw⟩ := hw
      refine mx_getr (C := RX0) (F := TX0) (N := 7) (ci := 2) X M 0 rfl in_X0 (by decide) rfl (by decide) kw_203 dX0_step_273 hk15 ?_
      rw [ex144]
      obtain ⟨hk145, hw⟩ := hw
      refine mx_geti (C := RX7) (F := TX7) (N := 8) (ci := 9) X M 3 rfl in_X7 (by decide) rfl (by decide) kw_158 dX0_step_276 hk145 ?_
      refine lv_i2l X.1 X.2.1 dX0_step_279 rfl ?_
      obtain ⟨c147, z148, hc147, hz148, hw⟩ := hw
      have hw149 := hw
      clear hw
      refine mx_ci M (mx_runV (n := 3) (As := [.ref a1, .int (fi μ12 5 1 x11), .long (Int32.toInt64 (fi μ12 9 3 x144))]) (rest := []) X M (c_X0_become l T B c147 z148 μ12 o a1 (fi μ12 5 1 x11) (Int32.toInt64 (fi μ12 9 3 x144)) _ hw149) (mx_recv (C := RX0) (F := TX0) (N := 7) (ci := 2) X M rfl (by decide) hk15) kw_635 kw_637 kw_12 kw_69 kw_638 (by decide +kernel) rfl rfl ⟨Nat.le_of_ble_eq_true rfl, Nat.le_of_ble_eq_true rfl⟩ rfl hl.1 (Nat.le_of_ble_eq_true rfl) dX0_step_280 ⟨(show (0 + 0) + c147 ≤ c by omega), (show (0 + 0) + z148 ≤ z by omega)⟩) (fun r150 μ146 H locs ⟨hw, hKM146⟩ M => ?_)
      replace hw := hw hKM146
      have hKM146_ := hKM13.tr hKM146
      have hk151 := hKM146.at hk14
      have hk152 := hKM146.at hk15
      have hk153 := hKM146.at hk16
      have hc : ((0 + 0) + c147) + (c - c147) ≤ c := by omega
      have hz : ((0 + 0) + z148) + (z - z148) ≤ z := by omega
      exact mx_iret X hr hk M dX0_step_283 (by omega) (by omega) ⟨hw, hKM146_⟩
    by_cases q_12 : (fi μ12 5 0 x11) = 12
    · have hw := hw_12 q_12
      refine lv_tableIn (off := 251) (tgt := 284) X.1 X.2.1 dX0_step_33 (by rw [q_12]; decide) (by rw [q_12]; decide) (by rw [q_12]; rfl) (by decide) ?_
      refine lv_aload_n X.1 X.2.1 dX0_step_284 rfl (lv_at hl 1 rfl) ?_
      refine lv_aload_n X.1 X.2.1 dX0_step_285 rfl (lv_at hl 2 rfl) ?_
      refine lv_aload_n X.1 X.2.1 dX0_step_286 rfl (lv_at hl 1 rfl) ?_
      obtain ⟨x154, ex154, hw⟩ := hw
      refine mx_getr (C := RX0) (F := TX0) (N := 7) (ci := 2) X M 0 rfl in_X0 (by decide) rfl (by decide) kw_203 dX0_step_287 hk15 ?_
      rw [ex154]
      refine lv_aload_n X.1 X.2.1 dX0_step_290 rfl (lv_at hl 2 rfl) ?_
      refine lv_aload_n X.1 X.2.1 dX0_step_291 rfl (lv_at hl 0 rfl) ?_
      refine mx_geti (C := RX3) (F := TX3) (N := 7) (ci := 5) X M 1 rfl in_X3 (by decide) rfl (by decide) kw_408 dX0_step_292 hk16 ?_
      obtain ⟨hk158, hw⟩ := hw
      have hw156 := hw
      clear hw
      refine mx_cl M (mx_runV (n := 2) (As := [.ref a1, .int (fi μ12 5 1 x11)]) (rest := [.ref a1, .ref o]) X M (c_X7_read l T B μ12 x154 a1 (fi μ12 5 1 x11) _ hw156) (mx_recv (C := RX7) (F := TX7) (N := 8) (ci := 9) X M rfl (by decide) hk158) kw_639 kw_640 kw_641 kw_70 kw_642 (by decide +kernel) rfl rfl ⟨Nat.le_of_ble_eq_true rfl, Nat.le_of_ble_eq_true rfl⟩ rfl hl.1 (Nat.le_of_ble_eq_true rfl) dX0_step_295 ⟨(show (0 + 0) + 0 ≤ c by omega), (show (0 + 0) + 0 ≤ z by omega)⟩) (fun r157 μ155 H locs ⟨hw, hKM155⟩ M => ?_)
      replace hw := hw hKM155
      have hKM155_ := hKM13.tr hKM155
      have hk159 := hKM155.at hk14
      have hk160 := hKM155.at hk15
      have hk161 := hKM155.at hk16
      have hk162 := hKM155.at hk158
      have hc : ((0 + 0) + 0) + (c) ≤ c := by omega
      have hz : ((0 + 0) + 0) + (z) ≤ z := by omega
      have hw164 := hw
      clear hw
      refine mx_ci M (mx_runV (n := 2) (As := [.ref a1, .long r157]) (rest := []) X M (c_X0_cut l T B μ155 o a1 r157 _ hw164) (mx_recv (C := RX0) (F := TX0) (N := 7) (ci := 2) X M rfl (by decide) hk160) kw_781 kw_783 kw_21 kw_69 kw_784 (by decide +kernel) rfl rfl ⟨Nat.le_of_ble_eq_true rfl, Nat.le_of_ble_eq_true rfl⟩ rfl hl.1 (Nat.le_of_ble_eq_true rfl) dX0_step_298 ⟨(show ((0 + 0) + 0) + 0 ≤ c by omega), (show ((0 + 0) + 0) + 0 ≤ z by omega)⟩) (fun r165 μ163 H locs ⟨hw, hKM163⟩ M => ?_)
      replace hw := hw hKM163
      have hKM163_ := hKM155_.tr hKM163
      have hk166 := hKM163.at hk159
      have hk167 := hKM163.at hk160
      have hk168 := hKM163.at hk161
      have hc : (((0 + 0) + 0) + 0) + (c) ≤ c := by omega
      have hz : (((0 + 0) + 0) + 0) + (z) ≤ z := by omega
      exact mx_iret X hr hk M dX0_step_301 (by omega) (by omega) ⟨hw, hKM163_⟩
    by_cases q_13 : (fi μ12 5 0 x11) = 13
    · have hw := hw_13 q_13
      refine lv_tableIn (off := 269) (tgt := 302) X.1 X.2.1 dX0_step_33 (by rw [q_13]; decide) (by rw [q_13]; decide) (by rw [q_13]; rfl) (by decide) ?_
      refine lv_aload_n X.1 X.2.1 dX0_step_302 rfl (lv_at hl 1 rfl) ?_
      refine lv_aload_n X.1 X.2.1 dX0_step_303 rfl (lv_at hl 1 rfl) ?_
      obtain ⟨x169, ex169, hw⟩ := hw
      refine mx_getr (C := RX0) (F := TX0) (N := 7) (ci := 2) X M 0 rfl in_X0 (by decide) rfl (by decide) kw_203 dX0_step_304 hk15 ?_
      rw [ex169]
      refine lv_aload_n X.1 X.2.1 dX0_step_307 rfl (lv_at hl 2 rfl) ?_
      refine lv_aload_n X.1 X.2.1 dX0_step_308 rfl (lv_at hl 0 rfl) ?_
      refine mx_geti (C := RX3) (F := TX3) (N := 7) (ci := 5) X M 1 rfl in_X3 (by decide) rfl (by decide) kw_408 dX0_step_309 hk16 ?_
      obtain ⟨hk173, hw⟩ := hw
      have hw171 := hw
      clear hw
      refine mx_cl M (mx_runV (n := 2) (As := [.ref a1, .int (fi μ12 5 1 x11)]) (rest := [.ref o]) X M (c_X7_read l T B μ12 x169 a1 (fi μ12 5 1 x11) _ hw171) (mx_recv (C := RX7) (F := TX7) (N := 8) (ci := 9) X M rfl (by decide) hk173) kw_639 kw_640 kw_641 kw_70 kw_642 (by decide +kernel) rfl rfl ⟨Nat.le_of_ble_eq_true rfl, Nat.le_of_ble_eq_true rfl⟩ rfl hl.1 (Nat.le_of_ble_eq_true rfl) dX0_step_312 ⟨(show (0 + 0) + 0 ≤ c by omega), (show (0 + 0) + 0 ≤ z by omega)⟩) (fun r172 μ170 H locs ⟨hw, hKM170⟩ M => ?_)
      replace hw := hw hKM170
      have hKM170_ := hKM13.tr hKM170
      have hk174 := hKM170.at hk14
      have hk175 := hKM170.at hk15
      have hk176 := hKM170.at hk16
      have hk177 := hKM170.at hk173
      have hc : ((0 + 0) + 0) + (c) ≤ c := by omega
      have hz : ((0 + 0) + 0) + (z) ≤ z := by omega
      have hw179 := hw
      clear hw
      refine mx_ci M (mx_runV (n := 1) (As := [.long r172]) (rest := []) X M (c_X0_drop l T B μ170 o r172 _ hw179) (mx_recv (C := RX0) (F := TX0) (N := 7) (ci := 2) X M rfl (by decide) hk175) kw_790 kw_792 kw_22 kw_69 kw_793 (by decide +kernel) rfl rfl ⟨Nat.le_of_ble_eq_true rfl, Nat.le_of_ble_eq_true rfl⟩ rfl hl.1 (Nat.le_of_ble_eq_true rfl) dX0_step_315 ⟨(show ((0 + 0) + 0) + 0 ≤ c by omega), (show ((0 + 0) + 0) + 0 ≤ z by omega)⟩) (fun r180 μ178 H locs ⟨hw, hKM178⟩ M => ?_)
      replace hw := hw hKM178
      have hKM178_ := hKM170_.tr hKM178
      have hk181 := hKM178.at hk174
      have hk182 := hKM178.at hk175
      have hk183 := hKM178.at hk176
      have hc : (((0 + 0) + 0) + 0) + (c) ≤ c := by omega
      have hz : (((0 + 0) + 0) + 0) + (z) ≤ z := by omega
      exact mx_iret X hr hk M dX0_step_318 (by omega) (by omega) ⟨hw, hKM178_⟩
    by_cases q_14 : (fi μ12 5 0 x11) = 14
    · have hw := hw_14 q_14
      refine lv_tableIn (off := 286) (tgt := 319) X.1 X.2.1 dX0_step_33 (by rw [q_14]; decide) (by rw [q_14]; decide) (by rw [q_14]; rfl) (by decide) ?_
      refine lv_aload_n X.1 X.2.1 dX0_step_319 rfl (lv_at hl 1 rfl) ?_
      refine lv_aload_n X.1 X.2.1 dX0_step_320 rfl (lv_at hl 2 rfl) ?_
      obtain ⟨c185, z186, hc185, hz186, hw⟩ := hw
      have hw187 := hw
      clear hw
      refine mx_ci M (mx_runV (n := 1) (As := [.ref a1]) (rest := []) X M (c_X0_exit l T B c185 z186 μ12 o a1 _ hw187) (mx_recv (C := RX0) (F := TX0) (N := 7) (ci := 2) X M rfl (by decide) hk15) kw_798 kw_800 kw_23 kw_69 kw_801 (by decide +kernel) rfl rfl ⟨Nat.le_of_ble_eq_true rfl, Nat.le_of_ble_eq_true rfl⟩ rfl hl.1 (Nat.le_of_ble_eq_true rfl) dX0_step_321 ⟨(show (0 + 0) + c185 ≤ c by omega), (show (0 + 0) + z186 ≤ z by omega)⟩) (fun r188 μ184 H locs ⟨hw, hKM184⟩ M => ?_)
      replace hw := hw hKM184
      have hKM184_ := hKM13.tr hKM184
      have hk189 := hKM184.at hk14
      have hk190 := hKM184.at hk15
      have hk191 := hKM184.at hk16
      have hc : ((0 + 0) + c185) + (c - c185) ≤ c := by omega
      have hz : ((0 + 0) + z186) + (z - z186) ≤ z := by omega
      exact mx_iret X hr hk M dX0_step_324 (by omega) (by omega) ⟨hw, hKM184_⟩
    have hw := hw_d q_0 q_1 q_2 q_3 q_4 q_5 q_6 q_7 q_8 q_9 q_10 q_11 q_12 q_13 q_14
    have g_0 := lv_neT q_0 (by decide : (0 : Int32).toInt = 0)
    have g_1 := lv_neT q_1 (by decide : (1 : Int32).toInt = 1)
    have g_2 := lv_neT q_2 (by decide : (2 : Int32).toInt = 2)
    have g_3 := lv_neT q_3 (by decide : (3 : Int32).toInt = 3)
    have g_4 := lv_neT q_4 (by decide : (4 : Int32).toInt = 4)
    have g_5 := lv_neT q_5 (by decide : (5 : Int32).toInt = 5)
    have g_6 := lv_neT q_6 (by decide : (6 : Int32).toInt = 6)
    have g_7 := lv_neT q_7 (by decide : (7 : Int32).toInt = 7)
    have g_8 := lv_neT q_8 (by decide : (8 : Int32).toInt = 8)
    have g_9 := lv_neT q_9 (by decide : (9 : Int32).toInt = 9)
    have g_10 := lv_neT q_10 (by decide : (10 : Int32).toInt = 10)
    have g_11 := lv_neT q_11 (by decide : (11 : Int32).toInt = 11)
    have g_12 := lv_neT q_12 (by decide : (12 : Int32).toInt = 12)
    have g_13 := lv_neT q_13 (by decide : (13 : Int32).toInt = 13)
    have g_14 := lv_neT q_14 (by decide : (14 : Int32).toInt = 14)
    refine lv_tableOut (tgt := 325) X.1 X.2.1 dX0_step_33 (by omega) (by decide) ?_
    refine lv_bipush (v := 7) X.1 X.2.1 dX0_step_325 (by decide) ?_
    exact mx_iret X hr hk M dX0_step_327 (by omega) (by omega) ⟨hw, hKM13⟩

abbrev rm_X0_advance (c z : Nat) : Room := { frames := 10, cells := c, slots := z, locals := 241 }
def wp_X0_advance_24 (o : Nat) (post : Int32 → Mem → Prop) : Nat → Nat → Nat → Mem → Int32 → Int32 → Prop
  | 0, _, _, _, _, _ => False
  | n + 1, c, z, μ, x1, x2 =>
    (x1 ≤ x2 →
     kd μ o = 3 ∧
     post (fi μ 2 2 o) μ) ∧ (¬ x1 ≤ x2 →
     kd μ o = 3 ∧
     ((fi μ 2 2 o) = 0 →
      (20000 ≤ (fi μ 2 3 o) →
       ∀ μ4 : Mem, μ4 = sfi μ 2 2 o 3 →
       ∀ v7 : Int32, v7 = x2 + 1 →
       wp_X0_advance_24 o post n c z μ4 x1 v7) ∧ (¬ 20000 ≤ (fi μ 2 3 o) →
       ∀ r8, r8 = fr μ 2 5 o →
       (r8 = none →
        ∀ μ10 : Mem, μ10 = sfi μ 2 2 o 3 →
        ∀ v13 : Int32, v13 = x2 + 1 →
        wp_X0_advance_24 o post n c z μ10 x1 v13) ∧ (∀ x9, r8 = some x9 →
        ∀ μ14 : Mem, μ14 = sfi μ 2 3 o ((fi μ 2 3 o) + 1) →
        ∀ r17, r17 = fr μ14 2 5 o →
        ∃ x18, r17 = some x18 ∧
        ∃ c20 z21, c20 ≤ c ∧ z21 ≤ z ∧
        wp_X0_step c20 z21 μ14 o x18 (fun (r23 : Int32) (μ19 : Mem) =>
        KM μ14 μ19 →
        wp_X0_settle μ19 o r23 (fun (μ25 : Mem) =>
        KM μ19 μ25 →
        ∀ v28 : Int32, v28 = x2 + 1 →
        wp_X0_advance_24 o post n (c - c20) (z - z21) μ25 x1 v28))))) ∧ (¬ (fi μ 2 2 o) = 0 →
      post (fi μ 2 2 o) μ))
def wp_X0_advance (c z : Nat) (μ : Mem) (o : Nat) (a1 : Int32) (post : Int32 → Mem → Prop) : Prop :=
  (1 ≤ a1 →
   kd μ o = 3 ∧
   ((fi μ 2 2 o) = 1 →
    wp_X0_fail μ o (fun (μ30 : Mem) =>
    KM μ μ30 →
    ∃ n33, wp_X0_advance_24 o post n33 c z μ30 a1 0)) ∧ (¬ (fi μ 2 2 o) = 1 →
    ∃ n29, wp_X0_advance_24 o post n29 c z μ a1 0)) ∧ (¬ 1 ≤ a1 →
   kd μ o = 3 ∧
   post (fi μ 2 2 o) μ)
set_option maxRecDepth 100000 in
set_option maxHeartbeats 4000000 in
theorem b_X0_advance_24 {T : Tb} {B : Nat} {p : Program} {l : Launch} {e : Env} {s : State} {m : MethodId} {args : Array Value} {below : List Frame} {meth : Method} {c0 : Code} {post : Int32 → Mem → Prop} {μ0 : Mem} {o : Nat} {cT zT : Nat} (X : CX T B p m c0 cX0_advance 3 s args RX0) (hr : meth.sig.returnType = (some .int)) (hk : meth.locks = false) : ∀ (n : Nat) (c z cells slots : Nat) (μ : Mem) (x1 : Int32) (x2 : Int32) (H : Heap) (locs : List Loc) (ls : Array Slot), cells + c ≤ cT → slots + z ≤ zT → KM μ0 μ → wp_X0_advance_24 o post n c z μ x1 x2 → MG (Rl T B) B s μ H locs → lv_has ls 3 [(0, .ref o), (1, .int x1), (2, .int x2)] → W p l e (rm_X0_advance cT zT) s m args below meth c0 H locs cells slots (MQ below (va_Qi (fun r9 μ9 => post r9 μ9 ∧ KM μ0 μ9) (Bm (Rl T B)) (Ai B)) args s cT zT (Ai B)) (F0 m 24 ls []) := by
  intro n
  induction n with
  | zero =>
    intro c z cells slots μ x1 x2 H locs ls hc hz hKM hw
    exact hw.elim
  | succ n ih =>
    intro c z cells slots μ x1 x2 H locs ls hc hz hKM hw M hl
    rw [wp_X0_advance_24] at hw
    refine lv_iload_n X.1 X.2.1 dX0_advance_24 rfl (lv_at hl 2 rfl) ?_
    refine lv_iload_n X.1 X.2.1 dX0_advance_25 rfl (lv_at hl 1 rfl) ?_
    obtain ⟨hwt, hwf⟩ := hw
    refine lv_icmp_ge (tgt := 89) X.1 X.2.1 dX0_advance_26 (by decide) (fun hq => ?_) (fun hq => ?_)
    · have hw := hwt hq
      refine lv_aload_n X.1 X.2.1 dX0_advance_89 rfl (lv_at hl 0 rfl) ?_
      obtain ⟨hk2, hw⟩ := hw
      refine mx_geti (C := RX0) (F := TX0) (N := 7) (ci := 2) X M 2 rfl in_X0 (by decide) rfl (by decide) kw_206 dX0_advance_90 hk2 ?_
      exact mx_iret X hr hk M dX0_advance_93 (by omega) (by omega) ⟨hw, hKM⟩
    · have hw := hwf hq
      refine lv_aload_n X.1 X.2.1 dX0_advance_29 rfl (lv_at hl 0 rfl) ?_
      obtain ⟨hk3, hw⟩ := hw
      refine mx_geti (C := RX0) (F := TX0) (N := 7) (ci := 2) X M 2 rfl in_X0 (by decide) rfl (by decide) kw_206 dX0_advance_30 hk3 ?_
      obtain ⟨hwf, hwt⟩ := hw
      refine lv_if_ne (tgt := 89) X.1 X.2.1 dX0_advance_33 (by decide) (fun hq => ?_) (fun hq => ?_)
      · have hw := hwt hq
        refine lv_aload_n X.1 X.2.1 dX0_advance_89 rfl (lv_at hl 0 rfl) ?_
        refine mx_geti (C := RX0) (F := TX0) (N := 7) (ci := 2) X M 2 rfl in_X0 (by decide) rfl (by decide) kw_206 dX0_advance_90 hk3 ?_
        exact mx_iret X hr hk M dX0_advance_93 (by omega) (by omega) ⟨hw, hKM⟩
      · have hw := hwf hq
        refine lv_aload_n X.1 X.2.1 dX0_advance_36 rfl (lv_at hl 0 rfl) ?_
        refine mx_geti (C := RX0) (F := TX0) (N := 7) (ci := 2) X M 3 rfl in_X0 (by decide) rfl (by decide) kw_207 dX0_advance_37 hk3 ?_
        refine lv_sipush (v := 20000) X.1 X.2.1 dX0_advance_40 (by decide) ?_
        obtain ⟨hwt, hwf⟩ := hw
        refine lv_icmp_ge (tgt := 53) X.1 X.2.1 dX0_advance_43 (by decide) (fun hq => ?_) (fun hq => ?_)
        · have hw := hwt hq
          refine lv_aload_n X.1 X.2.1 dX0_advance_53 rfl (lv_at hl 0 rfl) ?_
          refine lv_iconst (v := 3) X.1 X.2.1 dX0_advance_54 (by decide) ?_
          refine my_puti (C := RX0) (F := TX0) (N := 7) (ci := 2) X M 2 rfl in_X0 tyX0 tyX0_ok nmX0 (by decide) rfl (by decide) kw_206 (Or.inl rfl) dX0_advance_55 hk3 rfl rfl (fun μ4 H locs eμ4 M => ?_)
          replace hw := hw μ4 eμ4
          have hKM5 : KM μ0 μ4 := by rw [eμ4]; exact hKM
          have hk6 : kd μ4 o = 3 := by rw [eμ4]; exact hk3
          refine lv_goto (tgt := 83) X.1 X.2.1 dX0_advance_58 (by decide) ?_
          obtain ⟨v7, ev7⟩ : ∃ y : Int32, y = x2 + 1 := ⟨_, rfl⟩
          replace hw := hw v7 ev7
          refine lv_iinc (v := v7) (lv' := [(2, .int v7), (0, .ref o), (1, .int x1)]) X.1 X.2.1 dX0_advance_83 hl (k := 2) rfl (by rw [ev7]; rfl) (by decide) rfl (fun ls hl => ?_)
          refine lv_goto (tgt := 24) X.1 X.2.1 dX0_advance_86 (by decide) ?_
          exact ih _ _ _ _ μ4 x1 v7 _ _ _ (by omega) (by omega) hKM5 hw M (lv_sub hl [1, 2, 0] rfl)
        · have hw := hwf hq
          refine lv_aload_n X.1 X.2.1 dX0_advance_46 rfl (lv_at hl 0 rfl) ?_
          refine mx_getr (C := RX0) (F := TX0) (N := 7) (ci := 2) X M 5 rfl in_X0 (by decide) rfl (by decide) kw_209 dX0_advance_47 hk3 ?_
          obtain ⟨r8, er8⟩ : ∃ y, y = fr μ 2 5 o := ⟨_, rfl⟩
          replace hw := hw r8 er8
          rw [← er8]
          obtain ⟨hwn, hws⟩ := hw
          rcases r8 with _ | x9
          · have hw := hwn rfl
            have hl : lv_has ls 3 [(0, .ref o), (1, .int x1), (2, .int x2)] := hl
            refine lv_ifnonnullN X.1 X.2.1 dX0_advance_50 ?_
            refine lv_aload_n X.1 X.2.1 dX0_advance_53 rfl (lv_at hl 0 rfl) ?_
            refine lv_iconst (v := 3) X.1 X.2.1 dX0_advance_54 (by decide) ?_
            refine my_puti (C := RX0) (F := TX0) (N := 7) (ci := 2) X M 2 rfl in_X0 tyX0 tyX0_ok nmX0 (by decide) rfl (by decide) kw_206 (Or.inl rfl) dX0_advance_55 hk3 rfl rfl (fun μ10 H locs eμ10 M => ?_)
            replace hw := hw μ10 eμ10
            have hKM11 : KM μ0 μ10 := by rw [eμ10]; exact hKM
            have hk12 : kd μ10 o = 3 := by rw [eμ10]; exact hk3
            refine lv_goto (tgt := 83) X.1 X.2.1 dX0_advance_58 (by decide) ?_
            obtain ⟨v13, ev13⟩ : ∃ y : Int32, y = x2 + 1 := ⟨_, rfl⟩
            replace hw := hw v13 ev13
            refine lv_iinc (v := v13) (lv' := [(2, .int v13), (0, .ref o), (1, .int x1)]) X.1 X.2.1 dX0_advance_83 hl (k := 2) rfl (by rw [ev13]; rfl) (by decide) rfl (fun ls hl => ?_)
            refine lv_goto (tgt := 24) X.1 X.2.1 dX0_advance_86 (by decide) ?_
            exact ih _ _ _ _ μ10 x1 v13 _ _ _ (by omega) (by omega) hKM11 hw M (lv_sub hl [1, 2, 0] rfl)
          · have hw := hws x9 rfl
            have hl : lv_has ls 3 [(0, .ref o), (1, .int x1), (2, .int x2)] := hl
            refine lv_ifnonnull (tgt := 61) X.1 X.2.1 dX0_advance_50 (by decide) ?_
            refine lv_aload_n X.1 X.2.1 dX0_advance_61 rfl (lv_at hl 0 rfl) ?_
            refine lv_dup X.1 X.2.1 dX0_advance_62 rfl ?_
            refine mx_geti (C := RX0) (F := TX0) (N := 7) (ci := 2) X M 3 rfl in_X0 (by decide) rfl (by decide) kw_207 dX0_advance_63 hk3 ?_
            refine lv_iconst (v := 1) X.1 X.2.1 dX0_advance_66 (by decide) ?_
            refine lv_iadd X.1 X.2.1 dX0_advance_67 ?_
            refine my_puti (C := RX0) (F := TX0) (N := 7) (ci := 2) X M 3 rfl in_X0 tyX0 tyX0_ok nmX0 (by decide) rfl (by decide) kw_207 (Or.inl rfl) dX0_advance_68 hk3 rfl rfl (fun μ14 H locs eμ14 M => ?_)
            replace hw := hw μ14 eμ14
            have hKM15 : KM μ0 μ14 := by rw [eμ14]; exact hKM
            have hk16 : kd μ14 o = 3 := by rw [eμ14]; exact hk3
            refine lv_aload_n X.1 X.2.1 dX0_advance_71 rfl (lv_at hl 0 rfl) ?_
            refine lv_aload_n X.1 X.2.1 dX0_advance_72 rfl (lv_at hl 0 rfl) ?_
            refine lv_aload_n X.1 X.2.1 dX0_advance_73 rfl (lv_at hl 0 rfl) ?_
            refine mx_getr (C := RX0) (F := TX0) (N := 7) (ci := 2) X M 5 rfl in_X0 (by decide) rfl (by decide) kw_209 dX0_advance_74 hk16 ?_
            obtain ⟨r17, er17⟩ : ∃ y, y = fr μ14 2 5 o := ⟨_, rfl⟩
            replace hw := hw r17 er17
            rw [← er17]
            obtain ⟨x18, ex18, hw⟩ := hw
            subst ex18
            have hl : lv_has ls 3 [(0, .ref o), (1, .int x1), (2, .int x2)] := hl
            obtain ⟨c20, z21, hc20, hz21, hw⟩ := hw
            have hw22 := hw
            clear hw
            refine mx_ci M (mx_runV (n := 1) (As := [.ref x18]) (rest := [.ref o]) X M (c_X0_step l T B c20 z21 μ14 o x18 _ hw22) (mx_recv (C := RX0) (F := TX0) (N := 7) (ci := 2) X M rfl (by decide) hk16) kw_625 kw_627 kw_11 kw_69 kw_628 (by decide +kernel) rfl rfl ⟨Nat.le_of_ble_eq_true rfl, Nat.le_of_ble_eq_true rfl⟩ rfl hl.1 (Nat.le_of_ble_eq_true rfl) dX0_advance_77 ⟨(show cells + c20 ≤ cT by omega), (show slots + z21 ≤ zT by omega)⟩) (fun r23 μ19 H locs ⟨hw, hKM19⟩ M => ?_)
            replace hw := hw hKM19
            have hKM19_ := hKM15.tr hKM19
            have hk24 := hKM19.at hk16
            have hc : (cells + c20) + (c - c20) ≤ cT := by omega
            have hz : (slots + z21) + (z - z21) ≤ zT := by omega
            have hw26 := hw
            clear hw
            refine mx_cv M (mx_runV (n := 1) (As := [.int r23]) (rest := []) X M (c_X0_settle l T B μ19 o r23 _ hw26) (mx_recv (C := RX0) (F := TX0) (N := 7) (ci := 2) X M rfl (by decide) hk24) kw_806 kw_808 kw_24 kw_69 kw_809 (by decide +kernel) rfl rfl ⟨Nat.le_of_ble_eq_true rfl, Nat.le_of_ble_eq_true rfl⟩ rfl hl.1 (Nat.le_of_ble_eq_true rfl) dX0_advance_80 ⟨(show (cells + c20) + 0 ≤ cT by omega), (show (slots + z21) + 0 ≤ zT by omega)⟩) (fun μ25 H locs ⟨hw, hKM25⟩ M => ?_)
            replace hw := hw hKM25
            have hKM25_ := hKM19_.tr hKM25
            have hk27 := hKM25.at hk24
            have hc : ((cells + c20) + 0) + (c - c20) ≤ cT := by omega
            have hz : ((slots + z21) + 0) + (z - z21) ≤ zT := by omega
            obtain ⟨v28, ev28⟩ : ∃ y : Int32, y = x2 + 1 := ⟨_, rfl⟩
            replace hw := hw v28 ev28
            refine lv_iinc (v := v28) (lv' := [(2, .int v28), (0, .ref o), (1, .int x1)]) X.1 X.2.1 dX0_advance_83 hl (k := 2) rfl (by rw [ev28]; rfl) (by decide) rfl (fun ls hl => ?_)
            refine lv_goto (tgt := 24) X.1 X.2.1 dX0_advance_86 (by decide) ?_
            exact ih _ _ _ _ μ25 x1 v28 _ _ _ (by omega) (by omega) hKM25_ hw M (lv_sub hl [1, 2, 0] rfl)
set_option maxRecDepth 100000 in
set_option maxHeartbeats 4000000 in
theorem c_X0_advance (l : Launch) (T : Tb) (B : Nat) (c z : Nat) (μ : Mem) (o : Nat) (a1 : Int32) (post : Int32 → Mem → Prop) (hw : wp_X0_advance c z μ o a1 post) : Met l yX0_advance (.code yX0_advance cX0_advance 3 (some .int) :: G) (rm_X0_advance c z) (Pm (Rl T B) T B μ [.ref o, .int a1]) (va_Qi (fun r9 μ9 => post r9 μ9 ∧ KM μ μ9) (Bm (Rl T B)) (Ai B)) c z (Ai B) := by
  refine mx_of RX0 rfl (by decide) (Nat.le_of_ble_eq_true rfl) ?_
  intro p e s m below meth c0 X hr hk hnm M ls hl
  have hl : lv_has ls 3 [(0, .ref o), (1, .int a1)] := hl
  unfold wp_X0_advance at hw
  have hKM : KM μ μ := KM.rf μ
  have hc : 0 + c ≤ c := by omega
  have hz : 0 + z ≤ z := by omega
  refine lv_iload_n X.1 X.2.1 dX0_advance_0 rfl (lv_at hl 1 rfl) ?_
  refine lv_iconst (v := 1) X.1 X.2.1 dX0_advance_1 (by decide) ?_
  obtain ⟨hwt, hwf⟩ := hw
  refine lv_icmp_ge (tgt := 10) X.1 X.2.1 dX0_advance_2 (by decide) (fun hq => ?_) (fun hq => ?_)
  · have hw := hwt hq
    refine lv_aload_n X.1 X.2.1 dX0_advance_10 rfl (lv_at hl 0 rfl) ?_
    obtain ⟨hk1, hw⟩ := hw
    refine mx_geti (C := RX0) (F := TX0) (N := 7) (ci := 2) X M 2 rfl in_X0 (by decide) rfl (by decide) kw_206 dX0_advance_11 hk1 ?_
    refine lv_iconst (v := 1) X.1 X.2.1 dX0_advance_14 (by decide) ?_
    obtain ⟨hwf, hwt⟩ := hw
    refine lv_icmp_ne (tgt := 22) X.1 X.2.1 dX0_advance_15 (by decide) (fun hq => ?_) (fun hq => ?_)
    · have hw := hwt hq
      refine lv_iconst (v := 0) X.1 X.2.1 dX0_advance_22 (by decide) ?_
      refine lv_istore_n (lv' := [(2, .int 0), (0, .ref o), (1, .int a1)]) X.1 X.2.1 dX0_advance_23 rfl hl (by decide) rfl (fun ls hl => ?_)
      obtain ⟨n29, hw⟩ := hw
      exact b_X0_advance_24 X hr hk n29 _ _ _ _ μ a1 0 _ _ _ (by omega) (by omega) hKM hw M (lv_sub hl [1, 2, 0] rfl)
    · have hw := hwf hq
      refine lv_aload_n X.1 X.2.1 dX0_advance_18 rfl (lv_at hl 0 rfl) ?_
      have hw31 := hw
      clear hw
      refine mx_cv M (mx_runV (n := 0) (As := []) (rest := []) X M (c_X0_fail l T B μ o _ hw31) (mx_recv (C := RX0) (F := TX0) (N := 7) (ci := 2) X M rfl (by decide) hk1) kw_598 kw_600 kw_9 kw_69 kw_601 (by decide +kernel) rfl rfl ⟨Nat.le_of_ble_eq_true rfl, Nat.le_of_ble_eq_true rfl⟩ rfl hl.1 (Nat.le_of_ble_eq_true rfl) dX0_advance_19 ⟨(show 0 + 0 ≤ c by omega), (show 0 + 0 ≤ z by omega)⟩) (fun μ30 H locs ⟨hw, hKM30⟩ M => ?_)
      replace hw := hw hKM30
      have hKM30_ := hKM.tr hKM30
      have hk32 := hKM30.at hk1
      have hc : (0 + 0) + (c) ≤ c := by omega
      have hz : (0 + 0) + (z) ≤ z := by omega
      refine lv_iconst (v := 0) X.1 X.2.1 dX0_advance_22 (by decide) ?_
      refine lv_istore_n (lv' := [(2, .int 0), (0, .ref o), (1, .int a1)]) X.1 X.2.1 dX0_advance_23 rfl hl (by decide) rfl (fun ls hl => ?_)
      obtain ⟨n33, hw⟩ := hw
      exact b_X0_advance_24 X hr hk n33 _ _ _ _ μ30 a1 0 _ _ _ (by omega) (by omega) hKM30_ hw M (lv_sub hl [1, 2, 0] rfl)
  · have hw := hwf hq
    refine lv_aload_n X.1 X.2.1 dX0_advance_5 rfl (lv_at hl 0 rfl) ?_
    obtain ⟨hk34, hw⟩ := hw
    refine mx_geti (C := RX0) (F := TX0) (N := 7) (ci := 2) X M 2 rfl in_X0 (by decide) rfl (by decide) kw_206 dX0_advance_6 hk34 ?_
    exact mx_iret X hr hk M dX0_advance_9 (by omega) (by omega) ⟨hw, hKM⟩
