abbrev rm_X0_hasOut : Room := { frames := 1, cells := 0, slots := 0, locals := 21 }
def wp_X0_hasOut (μ : Mem) (o : Nat) (a1 : Int32) (post : Int32 → Mem → Prop) : Prop :=
  kd μ o = 3 ∧
  ((fi μ 2 2 o) = 1 →
   ∀ r2, r2 = fr μ 2 5 o →
   (r2 = none →
    post 0 μ) ∧ (∀ x3, r2 = some x3 →
    ∀ r4, r4 = fr μ 2 5 o →
    ∃ x5, r4 = some x5 ∧
    kd μ x5 = 4 ∧
    ∃ x7, fr μ 3 1 x5 = some x7 ∧
    kd μ x7 = 8 ∧
    ∃ x9, fr μ 7 3 x7 = some x9 ∧
    isArr (kd μ x9) ∧
    wp_X10_within μ a1 (nI (al μ x9)) (fun (r12 : Int32) (μ10 : Mem) =>
    KM μ μ10 →
    (r12 = 0 →
     post 0 μ10) ∧ (¬ r12 = 0 →
     post 1 μ10)))) ∧ (¬ (fi μ 2 2 o) = 1 →
   post 0 μ)
set_option maxRecDepth 100000 in
set_option maxHeartbeats 4000000 in
theorem c_X0_hasOut (l : Launch) (T : Tb) (B : Nat) (μ : Mem) (o : Nat) (a1 : Int32) (post : Int32 → Mem → Prop) (hw : wp_X0_hasOut μ o a1 post) : Met l yX0_hasOut (.code yX0_hasOut cX0_hasOut 2 (some .boolean) :: G) rm_X0_hasOut (Pm (Rl T B) T B μ [.ref o, .int a1]) (va_Qi (fun r9 μ9 => post r9 μ9 ∧ KM μ μ9) (Bm (Rl T B)) (Ai B)) 0 0 (Ai B) := by
  refine mx_of RX0 rfl (by decide) (Nat.le_of_ble_eq_true rfl) ?_
  intro p e s m below meth c0 X hr hk hnm M ls hl
  have hl : lv_has ls 2 [(0, .ref o), (1, .int a1)] := hl
  unfold wp_X0_hasOut at hw
  have hKM : KM μ μ := KM.rf μ
  refine lv_aload_n X.1 X.2.1 dX0_hasOut_0 rfl (lv_at hl 0 rfl) ?_
  obtain ⟨hk1, hw⟩ := hw
  refine mx_geti (C := RX0) (F := TX0) (N := 7) (ci := 2) X M 2 rfl in_X0 (by decide) rfl (by decide) kw_206 dX0_hasOut_1 hk1 ?_
  refine lv_iconst (v := 1) X.1 X.2.1 dX0_hasOut_4 (by decide) ?_
  obtain ⟨hwf, hwt⟩ := hw
  refine lv_icmp_ne (tgt := 37) X.1 X.2.1 dX0_hasOut_5 (by decide) (fun hq => ?_) (fun hq => ?_)
  · have hw := hwt hq
    refine lv_iconst (v := 0) X.1 X.2.1 dX0_hasOut_37 (by decide) ?_
    exact mx_zret X hr hk M dX0_hasOut_38 (by decide) (by decide) (by decide) ⟨hw, hKM⟩
  · have hw := hwf hq
    refine lv_aload_n X.1 X.2.1 dX0_hasOut_8 rfl (lv_at hl 0 rfl) ?_
    refine mx_getr (C := RX0) (F := TX0) (N := 7) (ci := 2) X M 5 rfl in_X0 (by decide) rfl (by decide) kw_209 dX0_hasOut_9 hk1 ?_
    obtain ⟨r2, er2⟩ : ∃ y, y = fr μ 2 5 o := ⟨_, rfl⟩
    replace hw := hw r2 er2
    rw [← er2]
    obtain ⟨hwn, hws⟩ := hw
    rcases r2 with _ | x3
    · have hw := hwn rfl
      have hl : lv_has ls 2 [(0, .ref o), (1, .int a1)] := hl
      refine lv_ifnullN (tgt := 37) X.1 X.2.1 dX0_hasOut_12 (by decide) ?_
      refine lv_iconst (v := 0) X.1 X.2.1 dX0_hasOut_37 (by decide) ?_
      exact mx_zret X hr hk M dX0_hasOut_38 (by decide) (by decide) (by decide) ⟨hw, hKM⟩
    · have hw := hws x3 rfl
      have hl : lv_has ls 2 [(0, .ref o), (1, .int a1)] := hl
      refine lv_ifnull X.1 X.2.1 dX0_hasOut_12 ?_
      refine lv_iload_n X.1 X.2.1 dX0_hasOut_15 rfl (lv_at hl 1 rfl) ?_
      refine lv_aload_n X.1 X.2.1 dX0_hasOut_16 rfl (lv_at hl 0 rfl) ?_
      refine mx_getr (C := RX0) (F := TX0) (N := 7) (ci := 2) X M 5 rfl in_X0 (by decide) rfl (by decide) kw_209 dX0_hasOut_17 hk1 ?_
      obtain ⟨r4, er4⟩ : ∃ y, y = fr μ 2 5 o := ⟨_, rfl⟩
      replace hw := hw r4 er4
      rw [← er4]
      obtain ⟨x5, ex5, hw⟩ := hw
      subst ex5
      have hl : lv_has ls 2 [(0, .ref o), (1, .int a1)] := hl
      obtain ⟨hk6, hw⟩ := hw
      obtain ⟨x7, ex7, hw⟩ := hw
      refine mx_getr (C := RX1) (F := TX1) (N := 7) (ci := 3) X M 1 rfl in_X1 (by decide) rfl (by decide) kw_521 dX0_hasOut_20 hk6 ?_
      rw [ex7]
      obtain ⟨hk8, hw⟩ := hw
      obtain ⟨x9, ex9, hw⟩ := hw
      refine mx_getr (C := RX5) (F := TX5) (N := 5) (ci := 7) X M 3 rfl in_X5 (by decide) rfl (by decide) kw_328 dX0_hasOut_23 hk8 ?_
      rw [ex9]
      obtain ⟨hia, hw⟩ := hw
      refine mx_len X M dX0_hasOut_26 hia ?_
      have hw11 := hw
      clear hw
      refine mx_ci M (mx_runSN (n := 2) (As := [.int a1, .int (nI (al μ x9))]) (rest := []) X M (c_X10_within l T B μ a1 (nI (al μ x9)) _ hw11) kw_836 kw_309 kw_65 kw_310 (by decide +kernel) rfl rfl ⟨Nat.le_of_ble_eq_true rfl, Nat.le_of_ble_eq_true rfl⟩ rfl hl.1 (Nat.le_of_ble_eq_true rfl) dX0_hasOut_27 ⟨by decide, by decide⟩) (fun r12 μ10 H locs ⟨hw, hKM10⟩ M => ?_)
      replace hw := hw hKM10
      have hKM10_ := hKM.tr hKM10
      have hk13 := hKM10.at hk1
      obtain ⟨hwt, hwf⟩ := hw
      refine lv_if_eq (tgt := 37) X.1 X.2.1 dX0_hasOut_30 (by decide) (fun hq => ?_) (fun hq => ?_)
      · have hw := hwt hq
        refine lv_iconst (v := 0) X.1 X.2.1 dX0_hasOut_37 (by decide) ?_
        exact mx_zret X hr hk M dX0_hasOut_38 (by decide) (by decide) (by decide) ⟨hw, hKM10_⟩
      · have hw := hwf hq
        refine lv_iconst (v := 1) X.1 X.2.1 dX0_hasOut_33 (by decide) ?_
        refine lv_goto (tgt := 38) X.1 X.2.1 dX0_hasOut_34 (by decide) ?_
        exact mx_zret X hr hk M dX0_hasOut_38 (by decide) (by decide) (by decide) ⟨hw, hKM10_⟩

abbrev rm_X0_outValue : Room := { frames := 3, cells := 0, slots := 0, locals := 64 }
def wp_X0_outValue (μ : Mem) (o : Nat) (a1 : Int32) (post : Int64 → Mem → Prop) : Prop :=
  kd μ o = 3 ∧
  wp_X0_hasOut μ o a1 (fun (r3 : Int32) (μ1 : Mem) =>
  KM μ μ1 →
  (r3 = 0 →
   post 0 μ1) ∧ (¬ r3 = 0 →
   ∃ x6, fr μ1 2 0 o = some x6 ∧
   ∀ r7, r7 = fr μ1 2 5 o →
   ∀ r8, r8 = fr μ1 2 5 o →
   ∃ x9, r8 = some x9 ∧
   kd μ1 x9 = 4 ∧
   ∃ x11, fr μ1 3 1 x9 = some x11 ∧
   kd μ1 x11 = 8 ∧
   ∃ x13, fr μ1 7 3 x11 = some x13 ∧
   kd μ1 x13 = 102 ∧
   vp_in a1 (al μ1 x13) ∧
   ∃ x15, r7 = some x15 ∧
   kd μ1 x6 = 10 ∧
   wp_X7_read μ1 x6 x15 (ai μ1 x13 (Int32.toNatClampNeg a1)) (fun (r18 : Int64) (μ16 : Mem) =>
   KM μ1 μ16 →
   post r18 μ16)))
set_option maxRecDepth 100000 in
set_option maxHeartbeats 4000000 in
theorem c_X0_outValue (l : Launch) (T : Tb) (B : Nat) (μ : Mem) (o : Nat) (a1 : Int32) (post : Int64 → Mem → Prop) (hw : wp_X0_outValue μ o a1 post) : Met l yX0_outValue (.code yX0_outValue cX0_outValue 2 (some .long) :: G) rm_X0_outValue (Pm (Rl T B) T B μ [.ref o, .int a1]) (va_Ql (fun r9 μ9 => post r9 μ9 ∧ KM μ μ9) (Bm (Rl T B)) (Ai B)) 0 0 (Ai B) := by
  refine mx_of RX0 rfl (by decide) (Nat.le_of_ble_eq_true rfl) ?_
  intro p e s m below meth c0 X hr hk hnm M ls hl
  have hl : lv_has ls 2 [(0, .ref o), (1, .int a1)] := hl
  unfold wp_X0_outValue at hw
  have hKM : KM μ μ := KM.rf μ
  refine lv_aload_n X.1 X.2.1 dX0_outValue_0 rfl (lv_at hl 0 rfl) ?_
  refine lv_iload_n X.1 X.2.1 dX0_outValue_1 rfl (lv_at hl 1 rfl) ?_
  obtain ⟨hk4, hw⟩ := hw
  have hw2 := hw
  clear hw
  refine mx_ci M (mx_runV (n := 1) (As := [.int a1]) (rest := []) X M (c_X0_hasOut l T B μ o a1 _ hw2) (mx_recv (C := RX0) (F := TX0) (N := 7) (ci := 2) X M rfl (by decide) hk4) kw_923 kw_850 kw_851 kw_69 kw_852 (by decide +kernel) rfl rfl ⟨Nat.le_of_ble_eq_true rfl, Nat.le_of_ble_eq_true rfl⟩ rfl hl.1 (Nat.le_of_ble_eq_true rfl) dX0_outValue_2 ⟨by decide, by decide⟩) (fun r3 μ1 H locs ⟨hw, hKM1⟩ M => ?_)
  replace hw := hw hKM1
  have hKM1_ := hKM.tr hKM1
  have hk5 := hKM1.at hk4
  obtain ⟨hwt, hwf⟩ := hw
  refine lv_if_eq (tgt := 34) X.1 X.2.1 dX0_outValue_5 (by decide) (fun hq => ?_) (fun hq => ?_)
  · have hw := hwt hq
    refine lv_lconst (v := 0) X.1 X.2.1 dX0_outValue_34 (by decide) ?_
    exact mx_lret X hr hk M dX0_outValue_35 (by decide) (by decide) ⟨hw, hKM1_⟩
  · have hw := hwf hq
    refine lv_aload_n X.1 X.2.1 dX0_outValue_8 rfl (lv_at hl 0 rfl) ?_
    obtain ⟨x6, ex6, hw⟩ := hw
    refine mx_getr (C := RX0) (F := TX0) (N := 7) (ci := 2) X M 0 rfl in_X0 (by decide) rfl (by decide) kw_203 dX0_outValue_9 hk5 ?_
    rw [ex6]
    refine lv_aload_n X.1 X.2.1 dX0_outValue_12 rfl (lv_at hl 0 rfl) ?_
    refine mx_getr (C := RX0) (F := TX0) (N := 7) (ci := 2) X M 5 rfl in_X0 (by decide) rfl (by decide) kw_209 dX0_outValue_13 hk5 ?_
    obtain ⟨r7, er7⟩ : ∃ y, y = fr μ1 2 5 o := ⟨_, rfl⟩
    replace hw := hw r7 er7
    rw [← er7]
    refine lv_aload_n X.1 X.2.1 dX0_outValue_16 rfl (lv_at hl 0 rfl) ?_
    refine mx_getr (C := RX0) (F := TX0) (N := 7) (ci := 2) X M 5 rfl in_X0 (by decide) rfl (by decide) kw_209 dX0_outValue_17 hk5 ?_
    obtain ⟨r8, er8⟩ : ∃ y, y = fr μ1 2 5 o := ⟨_, rfl⟩
    replace hw := hw r8 er8
    rw [← er8]
    obtain ⟨x9, ex9, hw⟩ := hw
    subst ex9
    have hl : lv_has ls 2 [(0, .ref o), (1, .int a1)] := hl
    obtain ⟨hk10, hw⟩ := hw
    obtain ⟨x11, ex11, hw⟩ := hw
    refine mx_getr (C := RX1) (F := TX1) (N := 7) (ci := 3) X M 1 rfl in_X1 (by decide) rfl (by decide) kw_521 dX0_outValue_20 hk10 ?_
    rw [ex11]
    obtain ⟨hk12, hw⟩ := hw
    obtain ⟨x13, ex13, hw⟩ := hw
    refine mx_getr (C := RX5) (F := TX5) (N := 5) (ci := 7) X M 3 rfl in_X5 (by decide) rfl (by decide) kw_328 dX0_outValue_23 hk12 ?_
    rw [ex13]
    refine lv_iload_n X.1 X.2.1 dX0_outValue_26 rfl (lv_at hl 1 rfl) ?_
    obtain ⟨hk14, hw⟩ := hw
    obtain ⟨hi, hw⟩ := hw
    refine mx_ald X M dX0_outValue_27 hk14 hi ?_
    obtain ⟨x15, ex15, hw⟩ := hw
    subst ex15
    have hl : lv_has ls 2 [(0, .ref o), (1, .int a1)] := hl
    obtain ⟨hk19, hw⟩ := hw
    have hw17 := hw
    clear hw
    refine mx_cl M (mx_runV (n := 2) (As := [.ref x15, .int (ai μ1 x13 (Int32.toNatClampNeg a1))]) (rest := []) X M (c_X7_read l T B μ1 x6 x15 (ai μ1 x13 (Int32.toNatClampNeg a1)) _ hw17) (mx_recv (C := RX7) (F := TX7) (N := 8) (ci := 9) X M rfl (by decide) hk19) kw_639 kw_640 kw_641 kw_70 kw_642 (by decide +kernel) rfl rfl ⟨Nat.le_of_ble_eq_true rfl, Nat.le_of_ble_eq_true rfl⟩ rfl hl.1 (Nat.le_of_ble_eq_true rfl) dX0_outValue_28 ⟨by decide, by decide⟩) (fun r18 μ16 H locs ⟨hw, hKM16⟩ M => ?_)
    replace hw := hw hKM16
    have hKM16_ := hKM1_.tr hKM16
    have hk20 := hKM16.at hk5
    have hk21 := hKM16.at hk19
    refine lv_goto (tgt := 35) X.1 X.2.1 dX0_outValue_31 (by decide) ?_
    exact mx_lret X hr hk M dX0_outValue_35 (by decide) (by decide) ⟨hw, hKM16_⟩

abbrev rm_X0_slotSeen : Room := { frames := 3, cells := 0, slots := 0, locals := 64 }
def wp_X0_slotSeen_20 (o : Nat) (post : Int64 → Mem → Prop) (μ : Mem) (x1 : Int32) (t0 : Int32) : Prop :=
  (t0 = 0 →
   post (-1) μ) ∧ (¬ t0 = 0 →
   kd μ o = 3 ∧
   ∀ r3, r3 = fr μ 2 5 o →
   (r3 = none →
    post (-1) μ) ∧ (∀ x4, r3 = some x4 →
    ∀ r5, r5 = fr μ 2 5 o →
    ∃ x6, r5 = some x6 ∧
    kd μ x6 = 4 ∧
    ∃ x8, fr μ 3 1 x6 = some x8 ∧
    kd μ x8 = 8 ∧
    wp_X10_within μ x1 (fi μ 7 1 x8) (fun (r12 : Int32) (μ10 : Mem) =>
    KM μ μ10 →
    (r12 = 0 →
     post (-1) μ10) ∧ (¬ r12 = 0 →
     ∃ x14, fr μ10 2 0 o = some x14 ∧
     ∀ r15, r15 = fr μ10 2 5 o →
     ∃ x16, r15 = some x16 ∧
     kd μ10 x14 = 10 ∧
     wp_X7_read μ10 x14 x16 x1 (fun (r19 : Int64) (μ17 : Mem) =>
     KM μ10 μ17 →
     wp_X9_shown μ17 r19 (fun (r25 : Int64) (μ23 : Mem) =>
     KM μ17 μ23 →
     post r25 μ23))))))
def wp_X0_slotSeen (μ : Mem) (o : Nat) (a1 : Int32) (post : Int64 → Mem → Prop) : Prop :=
  kd μ o = 3 ∧
  ((fi μ 2 2 o) = 0 →
   wp_X0_slotSeen_20 o post μ a1 1) ∧ (¬ (fi μ 2 2 o) = 0 →
   ((fi μ 2 2 o) = 1 →
    wp_X0_slotSeen_20 o post μ a1 1) ∧ (¬ (fi μ 2 2 o) = 1 →
    wp_X0_slotSeen_20 o post μ a1 0))
set_option maxRecDepth 100000 in
set_option maxHeartbeats 4000000 in
theorem b_X0_slotSeen_20 {T : Tb} {B : Nat} {p : Program} {l : Launch} {e : Env} {s : State} {m : MethodId} {args : Array Value} {below : List Frame} {meth : Method} {c0 : Code} {post : Int64 → Mem → Prop} {μ0 : Mem} {o : Nat} (X : CX T B p m c0 cX0_slotSeen 3 s args RX0) (hr : meth.sig.returnType = (some .long)) (hk : meth.locks = false) : ∀ (μ : Mem) (x1 : Int32) (t0 : Int32) (H : Heap) (locs : List Loc) (ls : Array Slot), KM μ0 μ → wp_X0_slotSeen_20 o post μ x1 t0 → MG (Rl T B) B s μ H locs → lv_has ls 3 [(0, .ref o), (1, .int x1)] → W p l e rm_X0_slotSeen s m args below meth c0 H locs 0 0 (MQ below (va_Ql (fun r9 μ9 => post r9 μ9 ∧ KM μ0 μ9) (Bm (Rl T B)) (Ai B)) args s 0 0 (Ai B)) (F0 m 20 ls [.int t0]) := by
  intro μ x1 t0 H locs ls hKM hw M hl
  unfold wp_X0_slotSeen_20 at hw
  refine lv_istore_n (lv' := [(2, .int t0), (0, .ref o), (1, .int x1)]) X.1 X.2.1 dX0_slotSeen_20 rfl hl (by decide) rfl (fun ls hl => ?_)
  refine lv_iload_n X.1 X.2.1 dX0_slotSeen_21 rfl (lv_at hl 0 rfl) ?_
  obtain ⟨hwt, hwf⟩ := hw
  refine lv_if_eq (tgt := 49) X.1 X.2.1 dX0_slotSeen_22 (by decide) (fun hq => ?_) (fun hq => ?_)
  · have hw := hwt hq
    refine lv_ldc2 (v := (-1)) X.1 X.2.1 X.2.2.2.1 (X.2.2.2.2.1 _ kw_837) dX0_slotSeen_49 ?_
    exact mx_lret X hr hk M dX0_slotSeen_52 (by decide) (by decide) ⟨hw, hKM⟩
  · have hw := hwf hq
    refine lv_aload_n X.1 X.2.1 dX0_slotSeen_25 rfl (lv_at hl 1 rfl) ?_
    obtain ⟨hk2, hw⟩ := hw
    refine mx_getr (C := RX0) (F := TX0) (N := 7) (ci := 2) X M 5 rfl in_X0 (by decide) rfl (by decide) kw_209 dX0_slotSeen_26 hk2 ?_
    obtain ⟨r3, er3⟩ : ∃ y, y = fr μ 2 5 o := ⟨_, rfl⟩
    replace hw := hw r3 er3
    rw [← er3]
    obtain ⟨hwn, hws⟩ := hw
    rcases r3 with _ | x4
    · have hw := hwn rfl
      have hl : lv_has ls 3 [(2, .int t0), (0, .ref o), (1, .int x1)] := hl
      refine lv_ifnullN (tgt := 49) X.1 X.2.1 dX0_slotSeen_29 (by decide) ?_
      refine lv_ldc2 (v := (-1)) X.1 X.2.1 X.2.2.2.1 (X.2.2.2.2.1 _ kw_837) dX0_slotSeen_49 ?_
      exact mx_lret X hr hk M dX0_slotSeen_52 (by decide) (by decide) ⟨hw, hKM⟩
    · have hw := hws x4 rfl
      have hl : lv_has ls 3 [(2, .int t0), (0, .ref o), (1, .int x1)] := hl
      refine lv_ifnull X.1 X.2.1 dX0_slotSeen_29 ?_
      refine lv_iload_n X.1 X.2.1 dX0_slotSeen_32 rfl (lv_at hl 2 rfl) ?_
      refine lv_aload_n X.1 X.2.1 dX0_slotSeen_33 rfl (lv_at hl 1 rfl) ?_
      refine mx_getr (C := RX0) (F := TX0) (N := 7) (ci := 2) X M 5 rfl in_X0 (by decide) rfl (by decide) kw_209 dX0_slotSeen_34 hk2 ?_
      obtain ⟨r5, er5⟩ : ∃ y, y = fr μ 2 5 o := ⟨_, rfl⟩
      replace hw := hw r5 er5
      rw [← er5]
      obtain ⟨x6, ex6, hw⟩ := hw
      subst ex6
      have hl : lv_has ls 3 [(2, .int t0), (0, .ref o), (1, .int x1)] := hl
      obtain ⟨hk7, hw⟩ := hw
      obtain ⟨x8, ex8, hw⟩ := hw
      refine mx_getr (C := RX1) (F := TX1) (N := 7) (ci := 3) X M 1 rfl in_X1 (by decide) rfl (by decide) kw_521 dX0_slotSeen_37 hk7 ?_
      rw [ex8]
      obtain ⟨hk9, hw⟩ := hw
      refine mx_geti (C := RX5) (F := TX5) (N := 5) (ci := 7) X M 1 rfl in_X5 (by decide) rfl (by decide) kw_323 dX0_slotSeen_40 hk9 ?_
      have hw11 := hw
      clear hw
      refine mx_ci M (mx_runSN (n := 2) (As := [.int x1, .int (fi μ 7 1 x8)]) (rest := []) X M (c_X10_within l T B μ x1 (fi μ 7 1 x8) _ hw11) kw_836 kw_309 kw_65 kw_310 (by decide +kernel) rfl rfl ⟨Nat.le_of_ble_eq_true rfl, Nat.le_of_ble_eq_true rfl⟩ rfl hl.1 (Nat.le_of_ble_eq_true rfl) dX0_slotSeen_43 ⟨by decide, by decide⟩) (fun r12 μ10 H locs ⟨hw, hKM10⟩ M => ?_)
      replace hw := hw hKM10
      have hKM10_ := hKM.tr hKM10
      have hk13 := hKM10.at hk2
      obtain ⟨hwf, hwt⟩ := hw
      refine lv_if_ne (tgt := 53) X.1 X.2.1 dX0_slotSeen_46 (by decide) (fun hq => ?_) (fun hq => ?_)
      · have hw := hwt hq
        refine lv_aload_n X.1 X.2.1 dX0_slotSeen_53 rfl (lv_at hl 1 rfl) ?_
        obtain ⟨x14, ex14, hw⟩ := hw
        refine mx_getr (C := RX0) (F := TX0) (N := 7) (ci := 2) X M 0 rfl in_X0 (by decide) rfl (by decide) kw_203 dX0_slotSeen_54 hk13 ?_
        rw [ex14]
        refine lv_aload_n X.1 X.2.1 dX0_slotSeen_57 rfl (lv_at hl 1 rfl) ?_
        refine mx_getr (C := RX0) (F := TX0) (N := 7) (ci := 2) X M 5 rfl in_X0 (by decide) rfl (by decide) kw_209 dX0_slotSeen_58 hk13 ?_
        obtain ⟨r15, er15⟩ : ∃ y, y = fr μ10 2 5 o := ⟨_, rfl⟩
        replace hw := hw r15 er15
        rw [← er15]
        refine lv_iload_n X.1 X.2.1 dX0_slotSeen_61 rfl (lv_at hl 2 rfl) ?_
        obtain ⟨x16, ex16, hw⟩ := hw
        subst ex16
        have hl : lv_has ls 3 [(2, .int t0), (0, .ref o), (1, .int x1)] := hl
        obtain ⟨hk20, hw⟩ := hw
        have hw18 := hw
        clear hw
        refine mx_cl M (mx_runV (n := 2) (As := [.ref x16, .int x1]) (rest := []) X M (c_X7_read l T B μ10 x14 x16 x1 _ hw18) (mx_recv (C := RX7) (F := TX7) (N := 8) (ci := 9) X M rfl (by decide) hk20) kw_639 kw_640 kw_641 kw_70 kw_642 (by decide +kernel) rfl rfl ⟨Nat.le_of_ble_eq_true rfl, Nat.le_of_ble_eq_true rfl⟩ rfl hl.1 (Nat.le_of_ble_eq_true rfl) dX0_slotSeen_62 ⟨by decide, by decide⟩) (fun r19 μ17 H locs ⟨hw, hKM17⟩ M => ?_)
        replace hw := hw hKM17
        have hKM17_ := hKM10_.tr hKM17
        have hk21 := hKM17.at hk13
        have hk22 := hKM17.at hk20
        have hw24 := hw
        clear hw
        refine mx_cl M (mx_runS (n := 1) (As := [.long r19]) (rest := []) X M (c_X9_shown l T B μ17 r19 _ hw24) kw_838 kw_839 kw_84 kw_840 (by decide +kernel) rfl rfl ⟨Nat.le_of_ble_eq_true rfl, Nat.le_of_ble_eq_true rfl⟩ rfl hl.1 (Nat.le_of_ble_eq_true rfl) dX0_slotSeen_65 ⟨by decide, by decide⟩) (fun r25 μ23 H locs ⟨hw, hKM23⟩ M => ?_)
        replace hw := hw hKM23
        have hKM23_ := hKM17_.tr hKM23
        have hk26 := hKM23.at hk21
        exact mx_lret X hr hk M dX0_slotSeen_68 (by decide) (by decide) ⟨hw, hKM23_⟩
      · have hw := hwf hq
        refine lv_ldc2 (v := (-1)) X.1 X.2.1 X.2.2.2.1 (X.2.2.2.2.1 _ kw_837) dX0_slotSeen_49 ?_
        exact mx_lret X hr hk M dX0_slotSeen_52 (by decide) (by decide) ⟨hw, hKM10_⟩
set_option maxRecDepth 100000 in
set_option maxHeartbeats 4000000 in
theorem c_X0_slotSeen (l : Launch) (T : Tb) (B : Nat) (μ : Mem) (o : Nat) (a1 : Int32) (post : Int64 → Mem → Prop) (hw : wp_X0_slotSeen μ o a1 post) : Met l yX0_slotSeen (.code yX0_slotSeen cX0_slotSeen 3 (some .long) :: G) rm_X0_slotSeen (Pm (Rl T B) T B μ [.ref o, .int a1]) (va_Ql (fun r9 μ9 => post r9 μ9 ∧ KM μ μ9) (Bm (Rl T B)) (Ai B)) 0 0 (Ai B) := by
  refine mx_of RX0 rfl (by decide) (Nat.le_of_ble_eq_true rfl) ?_
  intro p e s m below meth c0 X hr hk hnm M ls hl
  have hl : lv_has ls 3 [(0, .ref o), (1, .int a1)] := hl
  unfold wp_X0_slotSeen at hw
  have hKM : KM μ μ := KM.rf μ
  refine lv_aload_n X.1 X.2.1 dX0_slotSeen_0 rfl (lv_at hl 0 rfl) ?_
  obtain ⟨hk1, hw⟩ := hw
  refine mx_geti (C := RX0) (F := TX0) (N := 7) (ci := 2) X M 2 rfl in_X0 (by decide) rfl (by decide) kw_206 dX0_slotSeen_1 hk1 ?_
  obtain ⟨hwt, hwf⟩ := hw
  refine lv_if_eq (tgt := 15) X.1 X.2.1 dX0_slotSeen_4 (by decide) (fun hq => ?_) (fun hq => ?_)
  · have hw := hwt hq
    refine lv_iconst (v := 1) X.1 X.2.1 dX0_slotSeen_15 (by decide) ?_
    refine lv_goto (tgt := 20) X.1 X.2.1 dX0_slotSeen_16 (by decide) ?_
    exact b_X0_slotSeen_20 X hr hk μ a1 1 _ _ _ hKM hw M (lv_sub hl [0, 1] rfl)
  · have hw := hwf hq
    refine lv_aload_n X.1 X.2.1 dX0_slotSeen_7 rfl (lv_at hl 0 rfl) ?_
    refine mx_geti (C := RX0) (F := TX0) (N := 7) (ci := 2) X M 2 rfl in_X0 (by decide) rfl (by decide) kw_206 dX0_slotSeen_8 hk1 ?_
    refine lv_iconst (v := 1) X.1 X.2.1 dX0_slotSeen_11 (by decide) ?_
    obtain ⟨hwf, hwt⟩ := hw
    refine lv_icmp_ne (tgt := 19) X.1 X.2.1 dX0_slotSeen_12 (by decide) (fun hq => ?_) (fun hq => ?_)
    · have hw := hwt hq
      refine lv_iconst (v := 0) X.1 X.2.1 dX0_slotSeen_19 (by decide) ?_
      exact b_X0_slotSeen_20 X hr hk μ a1 0 _ _ _ hKM hw M (lv_sub hl [0, 1] rfl)
    · have hw := hwf hq
      refine lv_iconst (v := 1) X.1 X.2.1 dX0_slotSeen_15 (by decide) ?_
      refine lv_goto (tgt := 20) X.1 X.2.1 dX0_slotSeen_16 (by decide) ?_
      exact b_X0_slotSeen_20 X hr hk μ a1 1 _ _ _ hKM hw M (lv_sub hl [0, 1] rfl)

abbrev rm_X0_go : Room := { frames := 0, cells := 0, slots := 0, locals := 0 }
def wp_X0_go (μ : Mem) (o : Nat) (a1 : Int32) (post : Int32 → Mem → Prop) : Prop :=
  kd μ o = 3 ∧
  ∀ μ2 : Mem, μ2 = sfi μ 2 6 o a1 →
  post 0 μ2
set_option maxRecDepth 100000 in
set_option maxHeartbeats 4000000 in
theorem c_X0_go (l : Launch) (T : Tb) (B : Nat) (μ : Mem) (o : Nat) (a1 : Int32) (post : Int32 → Mem → Prop) (hw : wp_X0_go μ o a1 post) : Met l yX0_go (.code yX0_go cX0_go 2 (some .int) :: G) rm_X0_go (Pm (Rl T B) T B μ [.ref o, .int a1]) (va_Qi (fun r9 μ9 => post r9 μ9 ∧ KM μ μ9) (Bm (Rl T B)) (Ai B)) 0 0 (Ai B) := by
  refine mx_of RX0 rfl (by decide) (Nat.le_of_ble_eq_true rfl) ?_
  intro p e s m below meth c0 X hr hk hnm M ls hl
  have hl : lv_has ls 2 [(0, .ref o), (1, .int a1)] := hl
  unfold wp_X0_go at hw
  have hKM : KM μ μ := KM.rf μ
  refine lv_aload_n X.1 X.2.1 dX0_go_0 rfl (lv_at hl 0 rfl) ?_
  refine lv_iload_n X.1 X.2.1 dX0_go_1 rfl (lv_at hl 1 rfl) ?_
  obtain ⟨hk1, hw⟩ := hw
  refine my_puti (C := RX0) (F := TX0) (N := 7) (ci := 2) X M 6 rfl in_X0 tyX0 tyX0_ok nmX0 (by decide) rfl (by decide) kw_210 (Or.inl rfl) dX0_go_2 hk1 rfl rfl (fun μ2 H locs eμ2 M => ?_)
  replace hw := hw μ2 eμ2
  have hKM3 : KM μ μ2 := by rw [eμ2]; exact hKM
  have hk4 : kd μ2 o = 3 := by rw [eμ2]; exact hk1
  refine lv_iconst (v := 0) X.1 X.2.1 dX0_go_5 (by decide) ?_
  exact mx_iret X hr hk M dX0_go_6 (by decide) (by decide) ⟨hw, hKM3⟩

abbrev rm_X0_become (c z : Nat) : Room := { frames := 5, cells := c, slots := z, locals := 111 }
def wp_X0_become (c z : Nat) (μ : Mem) (o : Nat) (a1 : Nat) (a2 : Int32) (a3 : Int64) (post : Int32 → Mem → Prop) : Prop :=
  kd μ o = 3 ∧
  ∃ x2, fr μ 2 0 o = some x2 ∧
  kd μ x2 = 10 ∧
  ∃ c4 z5, c4 ≤ c ∧ z5 ≤ z ∧
  wp_X7_write c4 z5 μ x2 a1 a2 a3 (fun (μ3 : Mem) =>
  KM μ μ3 →
  post 0 μ3)
set_option maxRecDepth 100000 in
set_option maxHeartbeats 4000000 in
theorem c_X0_become (l : Launch) (T : Tb) (B : Nat) (c z : Nat) (μ : Mem) (o : Nat) (a1 : Nat) (a2 : Int32) (a3 : Int64) (post : Int32 → Mem → Prop) (hw : wp_X0_become c z μ o a1 a2 a3 post) : Met l yX0_become (.code yX0_become cX0_become 5 (some .int) :: G) (rm_X0_become c z) (Pm (Rl T B) T B μ [.ref o, .ref a1, .int a2, .long a3]) (va_Qi (fun r9 μ9 => post r9 μ9 ∧ KM μ μ9) (Bm (Rl T B)) (Ai B)) c z (Ai B) := by
  refine mx_of RX0 rfl (by decide) (Nat.le_of_ble_eq_true rfl) ?_
  intro p e s m below meth c0 X hr hk hnm M ls hl
  have hl : lv_has ls 5 [(0, .ref o), (1, .ref a1), (2, .int a2), (3, .long a3)] := hl
  unfold wp_X0_become at hw
  have hKM : KM μ μ := KM.rf μ
  have hc : 0 + c ≤ c := by omega
  have hz : 0 + z ≤ z := by omega
  refine lv_aload_n X.1 X.2.1 dX0_become_0 rfl (lv_at hl 0 rfl) ?_
  obtain ⟨hk1, hw⟩ := hw
  obtain ⟨x2, ex2, hw⟩ := hw
  refine mx_getr (C := RX0) (F := TX0) (N := 7) (ci := 2) X M 0 rfl in_X0 (by decide) rfl (by decide) kw_203 dX0_become_1 hk1 ?_
  rw [ex2]
  refine lv_aload_n X.1 X.2.1 dX0_become_4 rfl (lv_at hl 1 rfl) ?_
  refine lv_iload_n X.1 X.2.1 dX0_become_5 rfl (lv_at hl 2 rfl) ?_
  refine lv_lload_n X.1 X.2.1 dX0_become_6 rfl (lv_at hl 3 rfl) ?_
  obtain ⟨hk7, hw⟩ := hw
  obtain ⟨c4, z5, hc4, hz5, hw⟩ := hw
  have hw6 := hw
  clear hw
  refine mx_cv M (mx_runV (n := 3) (As := [.ref a1, .int a2, .long a3]) (rest := []) X M (c_X7_write l T B c4 z5 μ x2 a1 a2 a3 _ hw6) (mx_recv (C := RX7) (F := TX7) (N := 8) (ci := 9) X M rfl (by decide) hk7) kw_573 kw_574 kw_575 kw_70 kw_576 (by decide +kernel) rfl rfl ⟨Nat.le_of_ble_eq_true rfl, Nat.le_of_ble_eq_true rfl⟩ rfl hl.1 (Nat.le_of_ble_eq_true rfl) dX0_become_7 ⟨(show 0 + c4 ≤ c by omega), (show 0 + z5 ≤ z by omega)⟩) (fun μ3 H locs ⟨hw, hKM3⟩ M => ?_)
  replace hw := hw hKM3
  have hKM3_ := hKM.tr hKM3
  have hk8 := hKM3.at hk1
  have hk9 := hKM3.at hk7
  have hc : (0 + c4) + (c - c4) ≤ c := by omega
  have hz : (0 + z5) + (z - z5) ≤ z := by omega
  refine lv_iconst (v := 0) X.1 X.2.1 dX0_become_10 (by decide) ?_
  exact mx_iret X hr hk M dX0_become_11 (by omega) (by omega) ⟨hw, hKM3_⟩

abbrev rm_X0_make (c z : Nat) : Room := { frames := 6, cells := c, slots := z, locals := 135 }
def wp_X0_make_48 (o : Nat) (post : Int32 → Mem → Prop) : Nat → Nat → Nat → Mem → Nat → Nat → Int64 → Nat → Int32 → Int32 → Prop
  | 0, _, _, _, _, _, _, _, _, _ => False
  | n + 1, c, z, μ, x1, x2, x3, x5, x6, x7 =>
    (x6 ≤ x7 →
     kd μ x2 = 6 ∧
     kd μ o = 3 ∧
     ∃ c27 z28, c27 ≤ c ∧ z28 ≤ z ∧
     wp_X0_become c27 z28 μ o x1 (fi μ 5 1 x2) x3 (fun (r30 : Int32) (μ26 : Mem) =>
     KM μ μ26 →
     post r30 μ26)) ∧ (¬ x6 ≤ x7 →
     kd μ x5 = 102 ∧
     vp_in x7 (al μ x5) ∧
     ∀ v35 : Int32, v35 = (ai μ x5 (Int32.toNatClampNeg x7)) →
     kd μ o = 3 ∧
     ∃ x37, fr μ 2 1 o = some x37 ∧
     ∃ x38, fr μ 2 0 o = some x38 ∧
     kd μ x38 = 10 ∧
     wp_X7_read μ x38 x1 v35 (fun (r41 : Int64) (μ39 : Mem) =>
     KM μ μ39 →
     kd μ39 x37 = 5 ∧
     ∃ c47 z48, c47 ≤ c ∧ z48 ≤ z ∧
     wp_X2_fill c47 z48 μ39 x37 r41 (fun (μ46 : Mem) =>
     KM μ39 μ46 →
     ∀ v54 : Int32, v54 = x7 + 1 →
     wp_X0_make_48 o post n (c - c47) (z - z48) μ46 x1 x2 x3 x5 x6 v54)))
def wp_X0_make (c z : Nat) (μ : Mem) (o : Nat) (a1 : Nat) (a2 : Nat) (post : Int32 → Mem → Prop) : Prop :=
  kd μ o = 3 ∧
  ∃ x2, fr μ 2 1 o = some x2 ∧
  kd μ a2 = 6 ∧
  ∃ x4, fr μ 5 5 a2 = some x4 ∧
  isArr (kd μ x4) ∧
  kd μ x2 = 5 ∧
  wp_X2_hasRoom μ x2 (nI (al μ x4)) (fun (r7 : Int32) (μ5 : Mem) =>
  KM μ μ5 →
  (r7 = 0 →
   post 5 μ5) ∧ (¬ r7 = 0 →
   ∃ x12, fr μ5 2 1 o = some x12 ∧
   ∃ x13, fr μ5 5 5 a2 = some x13 ∧
   isArr (kd μ5 x13) ∧
   kd μ5 x12 = 5 ∧
   ∃ c15 z16, c15 ≤ c ∧ z16 ≤ z ∧
   wp_X2_open c15 z16 μ5 x12 (fi μ5 5 2 a2) (nI (al μ5 x13)) (fun (r18 : Int64) (μ14 : Mem) =>
   KM μ5 μ14 →
   ∃ x23, fr μ14 5 5 a2 = some x23 ∧
   isArr (kd μ14 x23) ∧
   ∀ v24 : Int32, v24 = (nI (al μ14 x23)) →
   ∃ n55, wp_X0_make_48 o post n55 (c - c15) (z - z16) μ14 a1 a2 r18 x23 v24 0)))
set_option maxRecDepth 100000 in
set_option maxHeartbeats 4000000 in
theorem b_X0_make_48 {T : Tb} {B : Nat} {p : Program} {l : Launch} {e : Env} {s : State} {m : MethodId} {args : Array Value} {below : List Frame} {meth : Method} {c0 : Code} {post : Int32 → Mem → Prop} {μ0 : Mem} {o : Nat} {cT zT : Nat} (X : CX T B p m c0 cX0_make 9 s args RX0) (hr : meth.sig.returnType = (some .int)) (hk : meth.locks = false) : ∀ (n : Nat) (c z cells slots : Nat) (μ : Mem) (x1 : Nat) (x2 : Nat) (x3 : Int64) (x5 : Nat) (x6 : Int32) (x7 : Int32) (H : Heap) (locs : List Loc) (ls : Array Slot), cells + c ≤ cT → slots + z ≤ zT → KM μ0 μ → wp_X0_make_48 o post n c z μ x1 x2 x3 x5 x6 x7 → MG (Rl T B) B s μ H locs → lv_has ls 9 [(0, .ref o), (1, .ref x1), (2, .ref x2), (3, .long x3), (5, .ref x5), (6, .int x6), (7, .int x7)] → W p l e (rm_X0_make cT zT) s m args below meth c0 H locs cells slots (MQ below (va_Qi (fun r9 μ9 => post r9 μ9 ∧ KM μ0 μ9) (Bm (Rl T B)) (Ai B)) args s cT zT (Ai B)) (F0 m 48 ls []) := by
  intro n
  induction n with
  | zero =>
    intro c z cells slots μ x1 x2 x3 x5 x6 x7 H locs ls hc hz hKM hw
    exact hw.elim
  | succ n ih =>
    intro c z cells slots μ x1 x2 x3 x5 x6 x7 H locs ls hc hz hKM hw M hl
    rw [wp_X0_make_48] at hw
    refine lv_iload X.1 X.2.1 dX0_make_48 (lv_at hl 6 rfl) ?_
    refine lv_iload X.1 X.2.1 dX0_make_50 (lv_at hl 5 rfl) ?_
    obtain ⟨hwt, hwf⟩ := hw
    refine lv_icmp_ge (tgt := 85) X.1 X.2.1 dX0_make_52 (by decide) (fun hq => ?_) (fun hq => ?_)
    · have hw := hwt hq
      refine lv_aload_n X.1 X.2.1 dX0_make_85 rfl (lv_at hl 0 rfl) ?_
      refine lv_aload_n X.1 X.2.1 dX0_make_86 rfl (lv_at hl 1 rfl) ?_
      refine lv_aload_n X.1 X.2.1 dX0_make_87 rfl (lv_at hl 2 rfl) ?_
      obtain ⟨hk25, hw⟩ := hw
      refine mx_geti (C := RX3) (F := TX3) (N := 7) (ci := 5) X M 1 rfl in_X3 (by decide) rfl (by decide) kw_408 dX0_make_88 hk25 ?_
      refine lv_lload_n X.1 X.2.1 dX0_make_91 rfl (lv_at hl 3 rfl) ?_
      obtain ⟨hk31, hw⟩ := hw
      obtain ⟨c27, z28, hc27, hz28, hw⟩ := hw
      have hw29 := hw
      clear hw
      refine mx_ci M (mx_runV (n := 3) (As := [.ref x1, .int (fi μ 5 1 x2), .long x3]) (rest := []) X M (c_X0_become l T B c27 z28 μ o x1 (fi μ 5 1 x2) x3 _ hw29) (mx_recv (C := RX0) (F := TX0) (N := 7) (ci := 2) X M rfl (by decide) hk31) kw_635 kw_637 kw_12 kw_69 kw_638 (by decide +kernel) rfl rfl ⟨Nat.le_of_ble_eq_true rfl, Nat.le_of_ble_eq_true rfl⟩ rfl hl.1 (Nat.le_of_ble_eq_true rfl) dX0_make_92 ⟨(show cells + c27 ≤ cT by omega), (show slots + z28 ≤ zT by omega)⟩) (fun r30 μ26 H locs ⟨hw, hKM26⟩ M => ?_)
      replace hw := hw hKM26
      have hKM26_ := hKM.tr hKM26
      have hk32 := hKM26.at hk25
      have hk33 := hKM26.at hk31
      have hc : (cells + c27) + (c - c27) ≤ cT := by omega
      have hz : (slots + z28) + (z - z28) ≤ zT := by omega
      exact mx_iret X hr hk M dX0_make_95 (by omega) (by omega) ⟨hw, hKM26_⟩
    · have hw := hwf hq
      refine lv_aload X.1 X.2.1 dX0_make_55 (lv_at hl 4 rfl) ?_
      refine lv_iload X.1 X.2.1 dX0_make_57 (lv_at hl 6 rfl) ?_
      obtain ⟨hk34, hw⟩ := hw
      obtain ⟨hi, hw⟩ := hw
      refine mx_ald X M dX0_make_59 hk34 hi ?_
      refine lv_topi (fun v35 ev35 => ?_)
      replace hw := hw v35 ev35
      refine lv_istore (lv' := [(8, .int v35), (0, .ref o), (1, .ref x1), (2, .ref x2), (3, .long x3), (5, .ref x5), (6, .int x6), (7, .int x7)]) X.1 X.2.1 dX0_make_60 hl (by decide) rfl (fun ls hl => ?_)
      refine lv_aload_n X.1 X.2.1 dX0_make_62 rfl (lv_at hl 1 rfl) ?_
      obtain ⟨hk36, hw⟩ := hw
      obtain ⟨x37, ex37, hw⟩ := hw
      refine mx_getr (C := RX0) (F := TX0) (N := 7) (ci := 2) X M 1 rfl in_X0 (by decide) rfl (by decide) kw_204 dX0_make_63 hk36 ?_
      rw [ex37]
      refine lv_aload_n X.1 X.2.1 dX0_make_66 rfl (lv_at hl 1 rfl) ?_
      obtain ⟨x38, ex38, hw⟩ := hw
      refine mx_getr (C := RX0) (F := TX0) (N := 7) (ci := 2) X M 0 rfl in_X0 (by decide) rfl (by decide) kw_203 dX0_make_67 hk36 ?_
      rw [ex38]
      refine lv_aload_n X.1 X.2.1 dX0_make_70 rfl (lv_at hl 2 rfl) ?_
      refine lv_iload X.1 X.2.1 dX0_make_71 (lv_at hl 0 rfl) ?_
      obtain ⟨hk42, hw⟩ := hw
      have hw40 := hw
      clear hw
      refine mx_cl M (mx_runV (n := 2) (As := [.ref x1, .int v35]) (rest := [.ref x37]) X M (c_X7_read l T B μ x38 x1 v35 _ hw40) (mx_recv (C := RX7) (F := TX7) (N := 8) (ci := 9) X M rfl (by decide) hk42) kw_639 kw_640 kw_641 kw_70 kw_642 (by decide +kernel) rfl rfl ⟨Nat.le_of_ble_eq_true rfl, Nat.le_of_ble_eq_true rfl⟩ rfl hl.1 (Nat.le_of_ble_eq_true rfl) dX0_make_73 ⟨(show cells + 0 ≤ cT by omega), (show slots + 0 ≤ zT by omega)⟩) (fun r41 μ39 H locs ⟨hw, hKM39⟩ M => ?_)
      replace hw := hw hKM39
      have hKM39_ := hKM.tr hKM39
      have hk43 := hKM39.at hk34
      have hk44 := hKM39.at hk36
      have hk45 := hKM39.at hk42
      have hc : (cells + 0) + (c) ≤ cT := by omega
      have hz : (slots + 0) + (z) ≤ zT := by omega
      obtain ⟨hk50, hw⟩ := hw
      obtain ⟨c47, z48, hc47, hz48, hw⟩ := hw
      have hw49 := hw
      clear hw
      refine mx_cv M (mx_runV (n := 1) (As := [.long r41]) (rest := []) X M (c_X2_fill l T B c47 z48 μ39 x37 r41 _ hw49) (mx_recv (C := RX2) (F := TX2) (N := 4) (ci := 4) X M rfl (by decide) hk50) kw_661 kw_662 kw_663 kw_72 kw_664 (by decide +kernel) rfl rfl ⟨Nat.le_of_ble_eq_true rfl, Nat.le_of_ble_eq_true rfl⟩ rfl hl.1 (Nat.le_of_ble_eq_true rfl) dX0_make_76 ⟨(show (cells + 0) + c47 ≤ cT by omega), (show (slots + 0) + z48 ≤ zT by omega)⟩) (fun μ46 H locs ⟨hw, hKM46⟩ M => ?_)
      replace hw := hw hKM46
      have hKM46_ := hKM39_.tr hKM46
      have hk51 := hKM46.at hk43
      have hk52 := hKM46.at hk44
      have hk53 := hKM46.at hk50
      have hc : ((cells + 0) + c47) + (c - c47) ≤ cT := by omega
      have hz : ((slots + 0) + z48) + (z - z48) ≤ zT := by omega
      obtain ⟨v54, ev54⟩ : ∃ y : Int32, y = x7 + 1 := ⟨_, rfl⟩
      replace hw := hw v54 ev54
      refine lv_iinc (v := v54) (lv' := [(7, .int v54), (8, .int v35), (0, .ref o), (1, .ref x1), (2, .ref x2), (3, .long x3), (5, .ref x5), (6, .int x6)]) X.1 X.2.1 dX0_make_79 hl (k := 7) rfl (by rw [ev54]; rfl) (by decide) rfl (fun ls hl => ?_)
      refine lv_goto (tgt := 48) X.1 X.2.1 dX0_make_82 (by decide) ?_
      exact ih _ _ _ _ μ46 x1 x2 x3 x5 x6 v54 _ _ _ (by omega) (by omega) hKM46_ hw M (lv_sub hl [2, 3, 4, 5, 6, 7, 0] rfl)
set_option maxRecDepth 100000 in
set_option maxHeartbeats 4000000 in
theorem c_X0_make (l : Launch) (T : Tb) (B : Nat) (c z : Nat) (μ : Mem) (o : Nat) (a1 : Nat) (a2 : Nat) (post : Int32 → Mem → Prop) (hw : wp_X0_make c z μ o a1 a2 post) : Met l yX0_make (.code yX0_make cX0_make 9 (some .int) :: G) (rm_X0_make c z) (Pm (Rl T B) T B μ [.ref o, .ref a1, .ref a2]) (va_Qi (fun r9 μ9 => post r9 μ9 ∧ KM μ μ9) (Bm (Rl T B)) (Ai B)) c z (Ai B) := by
  refine mx_of RX0 rfl (by decide) (Nat.le_of_ble_eq_true rfl) ?_
  intro p e s m below meth c0 X hr hk hnm M ls hl
  have hl : lv_has ls 9 [(0, .ref o), (1, .ref a1), (2, .ref a2)] := hl
  unfold wp_X0_make at hw
  have hKM : KM μ μ := KM.rf μ
  have hc : 0 + c ≤ c := by omega
  have hz : 0 + z ≤ z := by omega
  refine lv_aload_n X.1 X.2.1 dX0_make_0 rfl (lv_at hl 0 rfl) ?_
  obtain ⟨hk1, hw⟩ := hw
  obtain ⟨x2, ex2, hw⟩ := hw
  refine mx_getr (C := RX0) (F := TX0) (N := 7) (ci := 2) X M 1 rfl in_X0 (by decide) rfl (by decide) kw_204 dX0_make_1 hk1 ?_
  rw [ex2]
  refine lv_aload_n X.1 X.2.1 dX0_make_4 rfl (lv_at hl 2 rfl) ?_
  obtain ⟨hk3, hw⟩ := hw
  obtain ⟨x4, ex4, hw⟩ := hw
  refine mx_getr (C := RX3) (F := TX3) (N := 7) (ci := 5) X M 5 rfl in_X3 (by decide) rfl (by decide) kw_420 dX0_make_5 hk3 ?_
  rw [ex4]
  obtain ⟨hia, hw⟩ := hw
  refine mx_len X M dX0_make_8 hia ?_
  obtain ⟨hk8, hw⟩ := hw
  have hw6 := hw
  clear hw
  refine mx_ci M (mx_runV (n := 1) (As := [.int (nI (al μ x4))]) (rest := []) X M (c_X2_hasRoom l T B μ x2 (nI (al μ x4)) _ hw6) (mx_recv (C := RX2) (F := TX2) (N := 4) (ci := 4) X M rfl (by decide) hk8) kw_647 kw_648 kw_649 kw_72 kw_650 (by decide +kernel) rfl rfl ⟨Nat.le_of_ble_eq_true rfl, Nat.le_of_ble_eq_true rfl⟩ rfl hl.1 (Nat.le_of_ble_eq_true rfl) dX0_make_9 ⟨(show 0 + 0 ≤ c by omega), (show 0 + 0 ≤ z by omega)⟩) (fun r7 μ5 H locs ⟨hw, hKM5⟩ M => ?_)
  replace hw := hw hKM5
  have hKM5_ := hKM.tr hKM5
  have hk9 := hKM5.at hk1
  have hk10 := hKM5.at hk3
  have hk11 := hKM5.at hk8
  have hc : (0 + 0) + (c) ≤ c := by omega
  have hz : (0 + 0) + (z) ≤ z := by omega
  obtain ⟨hwf, hwt⟩ := hw
  refine lv_if_ne (tgt := 17) X.1 X.2.1 dX0_make_12 (by decide) (fun hq => ?_) (fun hq => ?_)
  · have hw := hwt hq
    refine lv_aload_n X.1 X.2.1 dX0_make_17 rfl (lv_at hl 0 rfl) ?_
    obtain ⟨x12, ex12, hw⟩ := hw
    refine mx_getr (C := RX0) (F := TX0) (N := 7) (ci := 2) X M 1 rfl in_X0 (by decide) rfl (by decide) kw_204 dX0_make_18 hk9 ?_
    rw [ex12]
    refine lv_aload_n X.1 X.2.1 dX0_make_21 rfl (lv_at hl 2 rfl) ?_
    refine mx_geti (C := RX3) (F := TX3) (N := 7) (ci := 5) X M 2 rfl in_X3 (by decide) rfl (by decide) kw_411 dX0_make_22 hk10 ?_
    refine lv_aload_n X.1 X.2.1 dX0_make_25 rfl (lv_at hl 2 rfl) ?_
    obtain ⟨x13, ex13, hw⟩ := hw
    refine mx_getr (C := RX3) (F := TX3) (N := 7) (ci := 5) X M 5 rfl in_X3 (by decide) rfl (by decide) kw_420 dX0_make_26 hk10 ?_
    rw [ex13]
    obtain ⟨hia, hw⟩ := hw
    refine mx_len X M dX0_make_29 hia ?_
    obtain ⟨hk19, hw⟩ := hw
    obtain ⟨c15, z16, hc15, hz16, hw⟩ := hw
    have hw17 := hw
    clear hw
    refine mx_cl M (mx_runV (n := 2) (As := [.int (fi μ5 5 2 a2), .int (nI (al μ5 x13))]) (rest := []) X M (c_X2_open l T B c15 z16 μ5 x12 (fi μ5 5 2 a2) (nI (al μ5 x13)) _ hw17) (mx_recv (C := RX2) (F := TX2) (N := 4) (ci := 4) X M rfl (by decide) hk19) kw_652 kw_653 kw_654 kw_72 kw_655 (by decide +kernel) rfl rfl ⟨Nat.le_of_ble_eq_true rfl, Nat.le_of_ble_eq_true rfl⟩ rfl hl.1 (Nat.le_of_ble_eq_true rfl) dX0_make_30 ⟨(show (0 + 0) + c15 ≤ c by omega), (show (0 + 0) + z16 ≤ z by omega)⟩) (fun r18 μ14 H locs ⟨hw, hKM14⟩ M => ?_)
    replace hw := hw hKM14
    have hKM14_ := hKM5_.tr hKM14
    have hk20 := hKM14.at hk9
    have hk21 := hKM14.at hk10
    have hk22 := hKM14.at hk19
    have hc : ((0 + 0) + c15) + (c - c15) ≤ c := by omega
    have hz : ((0 + 0) + z16) + (z - z16) ≤ z := by omega
    refine lv_lstore_n (lv' := [(3, .long r18), (0, .ref o), (1, .ref a1), (2, .ref a2)]) X.1 X.2.1 dX0_make_33 rfl hl (by decide) rfl (fun ls hl => ?_)
    refine lv_aload_n X.1 X.2.1 dX0_make_34 rfl (lv_at hl 3 rfl) ?_
    obtain ⟨x23, ex23, hw⟩ := hw
    refine mx_getr (C := RX3) (F := TX3) (N := 7) (ci := 5) X M 5 rfl in_X3 (by decide) rfl (by decide) kw_420 dX0_make_35 hk21 ?_
    rw [ex23]
    refine lv_astore (lv' := [(5, .ref x23), (3, .long r18), (0, .ref o), (1, .ref a1), (2, .ref a2)]) X.1 X.2.1 dX0_make_38 hl (by decide) rfl (fun ls hl => ?_)
    refine lv_aload X.1 X.2.1 dX0_make_40 (lv_at hl 0 rfl) ?_
    obtain ⟨hia, hw⟩ := hw
    refine mx_len X M dX0_make_42 hia ?_
    refine lv_topi (fun v24 ev24 => ?_)
    replace hw := hw v24 ev24
    refine lv_istore (lv' := [(6, .int v24), (5, .ref x23), (3, .long r18), (0, .ref o), (1, .ref a1), (2, .ref a2)]) X.1 X.2.1 dX0_make_43 hl (by decide) rfl (fun ls hl => ?_)
    refine lv_iconst (v := 0) X.1 X.2.1 dX0_make_45 (by decide) ?_
    refine lv_istore (lv' := [(7, .int 0), (6, .int v24), (5, .ref x23), (3, .long r18), (0, .ref o), (1, .ref a1), (2, .ref a2)]) X.1 X.2.1 dX0_make_46 hl (by decide) rfl (fun ls hl => ?_)
    obtain ⟨n55, hw⟩ := hw
    exact b_X0_make_48 X hr hk n55 _ _ _ _ μ14 a1 a2 r18 x23 v24 0 _ _ _ (by omega) (by omega) hKM14_ hw M (lv_sub hl [4, 5, 6, 3, 2, 1, 0] rfl)
  · have hw := hwf hq
    refine lv_iconst (v := 5) X.1 X.2.1 dX0_make_15 (by decide) ?_
    exact mx_iret X hr hk M dX0_make_16 (by omega) (by omega) ⟨hw, hKM5_⟩

abbrev rm_X0_take (c z : Nat) : Room := { frames := 5, cells := c, slots := z, locals := 111 }
def wp_X0_take_42 (o : Nat) (post : Int32 → Mem → Prop) : Nat → Nat → Nat → Mem → Nat → Nat → Int64 → Int32 → Prop
  | 0, _, _, _, _, _, _, _ => False
  | n + 1, c, z, μ, x1, x2, x3, x5 =>
    kd μ x2 = 6 ∧
    ∃ x23, fr μ 5 5 x2 = some x23 ∧
    isArr (kd μ x23) ∧
    ((nI (al μ x23)) ≤ x5 →
     post 0 μ) ∧ (¬ (nI (al μ x23)) ≤ x5 →
     kd μ o = 3 ∧
     ∃ x25, fr μ 2 0 o = some x25 ∧
     ∃ x26, fr μ 5 5 x2 = some x26 ∧
     kd μ x26 = 102 ∧
     vp_in x5 (al μ x26) ∧
     ∃ x28, fr μ 2 1 o = some x28 ∧
     kd μ x28 = 5 ∧
     wp_X2_field μ x28 x3 x5 (fun (r31 : Int64) (μ29 : Mem) =>
     KM μ μ29 →
     kd μ29 x25 = 10 ∧
     ∃ c37 z38, c37 ≤ c ∧ z38 ≤ z ∧
     wp_X7_write c37 z38 μ29 x25 x1 (ai μ x26 (Int32.toNatClampNeg x5)) r31 (fun (μ36 : Mem) =>
     KM μ29 μ36 →
     ∀ v44 : Int32, v44 = x5 + 1 →
     wp_X0_take_42 o post n (c - c37) (z - z38) μ36 x1 x2 x3 v44)))
def wp_X0_take (c z : Nat) (μ : Mem) (o : Nat) (a1 : Nat) (a2 : Nat) (post : Int32 → Mem → Prop) : Prop :=
  kd μ o = 3 ∧
  ∃ x2, fr μ 2 0 o = some x2 ∧
  kd μ a2 = 6 ∧
  kd μ x2 = 10 ∧
  wp_X7_read μ x2 a1 (fi μ 5 1 a2) (fun (r6 : Int64) (μ4 : Mem) =>
  KM μ μ4 →
  wp_X9_hasTag μ4 r6 (fi μ4 5 2 a2) (fun (r13 : Int32) (μ11 : Mem) =>
  KM μ4 μ11 →
  (r13 = 0 →
   post 7 μ11) ∧ (¬ r13 = 0 →
   wp_X9_fields μ11 r6 (fun (r18 : Int32) (μ16 : Mem) =>
   KM μ11 μ16 →
   ∃ x21, fr μ16 5 5 a2 = some x21 ∧
   isArr (kd μ16 x21) ∧
   (r18 = (nI (al μ16 x21)) →
    ∃ n45, wp_X0_take_42 o post n45 c z μ16 a1 a2 r6 0) ∧ (¬ r18 = (nI (al μ16 x21)) →
    post 7 μ16)))))
set_option maxRecDepth 100000 in
set_option maxHeartbeats 4000000 in
theorem b_X0_take_42 {T : Tb} {B : Nat} {p : Program} {l : Launch} {e : Env} {s : State} {m : MethodId} {args : Array Value} {below : List Frame} {meth : Method} {c0 : Code} {post : Int32 → Mem → Prop} {μ0 : Mem} {o : Nat} {cT zT : Nat} (X : CX T B p m c0 cX0_take 6 s args RX0) (hr : meth.sig.returnType = (some .int)) (hk : meth.locks = false) : ∀ (n : Nat) (c z cells slots : Nat) (μ : Mem) (x1 : Nat) (x2 : Nat) (x3 : Int64) (x5 : Int32) (H : Heap) (locs : List Loc) (ls : Array Slot), cells + c ≤ cT → slots + z ≤ zT → KM μ0 μ → wp_X0_take_42 o post n c z μ x1 x2 x3 x5 → MG (Rl T B) B s μ H locs → lv_has ls 6 [(0, .ref o), (1, .ref x1), (2, .ref x2), (3, .long x3), (5, .int x5)] → W p l e (rm_X0_take cT zT) s m args below meth c0 H locs cells slots (MQ below (va_Qi (fun r9 μ9 => post r9 μ9 ∧ KM μ0 μ9) (Bm (Rl T B)) (Ai B)) args s cT zT (Ai B)) (F0 m 42 ls []) := by
  intro n
  induction n with
  | zero =>
    intro c z cells slots μ x1 x2 x3 x5 H locs ls hc hz hKM hw
    exact hw.elim
  | succ n ih =>
    intro c z cells slots μ x1 x2 x3 x5 H locs ls hc hz hKM hw M hl
    rw [wp_X0_take_42] at hw
    refine lv_iload X.1 X.2.1 dX0_take_42 (lv_at hl 4 rfl) ?_
    refine lv_aload_n X.1 X.2.1 dX0_take_44 rfl (lv_at hl 2 rfl) ?_
    obtain ⟨hk22, hw⟩ := hw
    obtain ⟨x23, ex23, hw⟩ := hw
    refine mx_getr (C := RX3) (F := TX3) (N := 7) (ci := 5) X M 5 rfl in_X3 (by decide) rfl (by decide) kw_420 dX0_take_45 hk22 ?_
    rw [ex23]
    obtain ⟨hia, hw⟩ := hw
    refine mx_len X M dX0_take_48 hia ?_
    obtain ⟨hwt, hwf⟩ := hw
    refine lv_icmp_ge (tgt := 83) X.1 X.2.1 dX0_take_49 (by decide) (fun hq => ?_) (fun hq => ?_)
    · have hw := hwt hq
      refine lv_iconst (v := 0) X.1 X.2.1 dX0_take_83 (by decide) ?_
      exact mx_iret X hr hk M dX0_take_84 (by omega) (by omega) ⟨hw, hKM⟩
    · have hw := hwf hq
      refine lv_aload_n X.1 X.2.1 dX0_take_52 rfl (lv_at hl 0 rfl) ?_
      obtain ⟨hk24, hw⟩ := hw
      obtain ⟨x25, ex25, hw⟩ := hw
      refine mx_getr (C := RX0) (F := TX0) (N := 7) (ci := 2) X M 0 rfl in_X0 (by decide) rfl (by decide) kw_203 dX0_take_53 hk24 ?_
      rw [ex25]
      refine lv_aload_n X.1 X.2.1 dX0_take_56 rfl (lv_at hl 1 rfl) ?_
      refine lv_aload_n X.1 X.2.1 dX0_take_57 rfl (lv_at hl 2 rfl) ?_
      obtain ⟨x26, ex26, hw⟩ := hw
      refine mx_getr (C := RX3) (F := TX3) (N := 7) (ci := 5) X M 5 rfl in_X3 (by decide) rfl (by decide) kw_420 dX0_take_58 hk22 ?_
      rw [ex26]
      refine lv_iload X.1 X.2.1 dX0_take_61 (lv_at hl 4 rfl) ?_
      obtain ⟨hk27, hw⟩ := hw
      obtain ⟨hi, hw⟩ := hw
      refine mx_ald X M dX0_take_63 hk27 hi ?_
      refine lv_aload_n X.1 X.2.1 dX0_take_64 rfl (lv_at hl 0 rfl) ?_
      obtain ⟨x28, ex28, hw⟩ := hw
      refine mx_getr (C := RX0) (F := TX0) (N := 7) (ci := 2) X M 1 rfl in_X0 (by decide) rfl (by decide) kw_204 dX0_take_65 hk24 ?_
      rw [ex28]
      refine lv_lload_n X.1 X.2.1 dX0_take_68 rfl (lv_at hl 3 rfl) ?_
      refine lv_iload X.1 X.2.1 dX0_take_69 (lv_at hl 4 rfl) ?_
      obtain ⟨hk32, hw⟩ := hw
      have hw30 := hw
      clear hw
      refine mx_cl M (mx_runV (n := 2) (As := [.long x3, .int x5]) (rest := [.int (ai μ x26 (Int32.toNatClampNeg x5)), .ref x1, .ref x25]) X M (c_X2_field l T B μ x28 x3 x5 _ hw30) (mx_recv (C := RX2) (F := TX2) (N := 4) (ci := 4) X M rfl (by decide) hk32) kw_684 kw_685 kw_686 kw_72 kw_687 (by decide +kernel) rfl rfl ⟨Nat.le_of_ble_eq_true rfl, Nat.le_of_ble_eq_true rfl⟩ rfl hl.1 (Nat.le_of_ble_eq_true rfl) dX0_take_71 ⟨(show cells + 0 ≤ cT by omega), (show slots + 0 ≤ zT by omega)⟩) (fun r31 μ29 H locs ⟨hw, hKM29⟩ M => ?_)
      replace hw := hw hKM29
      have hKM29_ := hKM.tr hKM29
      have hk33 := hKM29.at hk22
      have hk34 := hKM29.at hk24
      have hk35 := hKM29.at hk32
      have hc : (cells + 0) + (c) ≤ cT := by omega
      have hz : (slots + 0) + (z) ≤ zT := by omega
      obtain ⟨hk40, hw⟩ := hw
      obtain ⟨c37, z38, hc37, hz38, hw⟩ := hw
      have hw39 := hw
      clear hw
      refine mx_cv M (mx_runV (n := 3) (As := [.ref x1, .int (ai μ x26 (Int32.toNatClampNeg x5)), .long r31]) (rest := []) X M (c_X7_write l T B c37 z38 μ29 x25 x1 (ai μ x26 (Int32.toNatClampNeg x5)) r31 _ hw39) (mx_recv (C := RX7) (F := TX7) (N := 8) (ci := 9) X M rfl (by decide) hk40) kw_573 kw_574 kw_575 kw_70 kw_576 (by decide +kernel) rfl rfl ⟨Nat.le_of_ble_eq_true rfl, Nat.le_of_ble_eq_true rfl⟩ rfl hl.1 (Nat.le_of_ble_eq_true rfl) dX0_take_74 ⟨(show (cells + 0) + c37 ≤ cT by omega), (show (slots + 0) + z38 ≤ zT by omega)⟩) (fun μ36 H locs ⟨hw, hKM36⟩ M => ?_)
      replace hw := hw hKM36
      have hKM36_ := hKM29_.tr hKM36
      have hk41 := hKM36.at hk33
      have hk42 := hKM36.at hk34
      have hk43 := hKM36.at hk40
      have hc : ((cells + 0) + c37) + (c - c37) ≤ cT := by omega
      have hz : ((slots + 0) + z38) + (z - z38) ≤ zT := by omega
      obtain ⟨v44, ev44⟩ : ∃ y : Int32, y = x5 + 1 := ⟨_, rfl⟩
      replace hw := hw v44 ev44
      refine lv_iinc (v := v44) (lv' := [(5, .int v44), (0, .ref o), (1, .ref x1), (2, .ref x2), (3, .long x3)]) X.1 X.2.1 dX0_take_77 hl (k := 4) rfl (by rw [ev44]; rfl) (by decide) rfl (fun ls hl => ?_)
      refine lv_goto (tgt := 42) X.1 X.2.1 dX0_take_80 (by decide) ?_
      exact ih _ _ _ _ μ36 x1 x2 x3 v44 _ _ _ (by omega) (by omega) hKM36_ hw M (lv_sub hl [1, 2, 3, 4, 0] rfl)
set_option maxRecDepth 100000 in
set_option maxHeartbeats 4000000 in
theorem c_X0_take (l : Launch) (T : Tb) (B : Nat) (c z : Nat) (μ : Mem) (o : Nat) (a1 : Nat) (a2 : Nat) (post : Int32 → Mem → Prop) (hw : wp_X0_take c z μ o a1 a2 post) : Met l yX0_take (.code yX0_take cX0_take 6 (some .int) :: G) (rm_X0_take c z) (Pm (Rl T B) T B μ [.ref o, .ref a1, .ref a2]) (va_Qi (fun r9 μ9 => post r9 μ9 ∧ KM μ μ9) (Bm (Rl T B)) (Ai B)) c z (Ai B) := by
  refine mx_of RX0 rfl (by decide) (Nat.le_of_ble_eq_true rfl) ?_
  intro p e s m below meth c0 X hr hk hnm M ls hl
  have hl : lv_has ls 6 [(0, .ref o), (1, .ref a1), (2, .ref a2)] := hl
  unfold wp_X0_take at hw
  have hKM : KM μ μ := KM.rf μ
  have hc : 0 + c ≤ c := by omega
  have hz : 0 + z ≤ z := by omega
  refine lv_aload_n X.1 X.2.1 dX0_take_0 rfl (lv_at hl 0 rfl) ?_
  obtain ⟨hk1, hw⟩ := hw
  obtain ⟨x2, ex2, hw⟩ := hw
  refine mx_getr (C := RX0) (F := TX0) (N := 7) (ci := 2) X M 0 rfl in_X0 (by decide) rfl (by decide) kw_203 dX0_take_1 hk1 ?_
  rw [ex2]
  refine lv_aload_n X.1 X.2.1 dX0_take_4 rfl (lv_at hl 1 rfl) ?_
  refine lv_aload_n X.1 X.2.1 dX0_take_5 rfl (lv_at hl 2 rfl) ?_
  obtain ⟨hk3, hw⟩ := hw
  refine mx_geti (C := RX3) (F := TX3) (N := 7) (ci := 5) X M 1 rfl in_X3 (by decide) rfl (by decide) kw_408 dX0_take_6 hk3 ?_
  obtain ⟨hk7, hw⟩ := hw
  have hw5 := hw
  clear hw
  refine mx_cl M (mx_runV (n := 2) (As := [.ref a1, .int (fi μ 5 1 a2)]) (rest := []) X M (c_X7_read l T B μ x2 a1 (fi μ 5 1 a2) _ hw5) (mx_recv (C := RX7) (F := TX7) (N := 8) (ci := 9) X M rfl (by decide) hk7) kw_639 kw_640 kw_641 kw_70 kw_642 (by decide +kernel) rfl rfl ⟨Nat.le_of_ble_eq_true rfl, Nat.le_of_ble_eq_true rfl⟩ rfl hl.1 (Nat.le_of_ble_eq_true rfl) dX0_take_9 ⟨(show 0 + 0 ≤ c by omega), (show 0 + 0 ≤ z by omega)⟩) (fun r6 μ4 H locs ⟨hw, hKM4⟩ M => ?_)
  replace hw := hw hKM4
  have hKM4_ := hKM.tr hKM4
  have hk8 := hKM4.at hk1
  have hk9 := hKM4.at hk3
  have hk10 := hKM4.at hk7
  have hc : (0 + 0) + (c) ≤ c := by omega
  have hz : (0 + 0) + (z) ≤ z := by omega
  refine lv_lstore_n (lv' := [(3, .long r6), (0, .ref o), (1, .ref a1), (2, .ref a2)]) X.1 X.2.1 dX0_take_12 rfl hl (by decide) rfl (fun ls hl => ?_)
  refine lv_lload_n X.1 X.2.1 dX0_take_13 rfl (lv_at hl 0 rfl) ?_
  refine lv_aload_n X.1 X.2.1 dX0_take_14 rfl (lv_at hl 3 rfl) ?_
  refine mx_geti (C := RX3) (F := TX3) (N := 7) (ci := 5) X M 2 rfl in_X3 (by decide) rfl (by decide) kw_411 dX0_take_15 hk9 ?_
  have hw12 := hw
  clear hw
  refine mx_ci M (mx_runS (n := 2) (As := [.long r6, .int (fi μ4 5 2 a2)]) (rest := []) X M (c_X9_hasTag l T B μ4 r6 (fi μ4 5 2 a2) _ hw12) kw_670 kw_671 kw_84 kw_672 (by decide +kernel) rfl rfl ⟨Nat.le_of_ble_eq_true rfl, Nat.le_of_ble_eq_true rfl⟩ rfl hl.1 (Nat.le_of_ble_eq_true rfl) dX0_take_18 ⟨(show (0 + 0) + 0 ≤ c by omega), (show (0 + 0) + 0 ≤ z by omega)⟩) (fun r13 μ11 H locs ⟨hw, hKM11⟩ M => ?_)
  replace hw := hw hKM11
  have hKM11_ := hKM4_.tr hKM11
  have hk14 := hKM11.at hk8
  have hk15 := hKM11.at hk9
  have hc : ((0 + 0) + 0) + (c) ≤ c := by omega
  have hz : ((0 + 0) + 0) + (z) ≤ z := by omega
  obtain ⟨hwt, hwf⟩ := hw
  refine lv_if_eq (tgt := 36) X.1 X.2.1 dX0_take_21 (by decide) (fun hq => ?_) (fun hq => ?_)
  · have hw := hwt hq
    refine lv_bipush (v := 7) X.1 X.2.1 dX0_take_36 (by decide) ?_
    exact mx_iret X hr hk M dX0_take_38 (by omega) (by omega) ⟨hw, hKM11_⟩
  · have hw := hwf hq
    refine lv_lload_n X.1 X.2.1 dX0_take_24 rfl (lv_at hl 0 rfl) ?_
    have hw17 := hw
    clear hw
    refine mx_ci M (mx_runS (n := 1) (As := [.long r6]) (rest := []) X M (c_X9_fields l T B μ11 r6 _ hw17) kw_680 kw_681 kw_84 kw_682 (by decide +kernel) rfl rfl ⟨Nat.le_of_ble_eq_true rfl, Nat.le_of_ble_eq_true rfl⟩ rfl hl.1 (Nat.le_of_ble_eq_true rfl) dX0_take_25 ⟨(show ((0 + 0) + 0) + 0 ≤ c by omega), (show ((0 + 0) + 0) + 0 ≤ z by omega)⟩) (fun r18 μ16 H locs ⟨hw, hKM16⟩ M => ?_)
    replace hw := hw hKM16
    have hKM16_ := hKM11_.tr hKM16
    have hk19 := hKM16.at hk14
    have hk20 := hKM16.at hk15
    have hc : (((0 + 0) + 0) + 0) + (c) ≤ c := by omega
    have hz : (((0 + 0) + 0) + 0) + (z) ≤ z := by omega
    refine lv_aload_n X.1 X.2.1 dX0_take_28 rfl (lv_at hl 3 rfl) ?_
    obtain ⟨x21, ex21, hw⟩ := hw
    refine mx_getr (C := RX3) (F := TX3) (N := 7) (ci := 5) X M 5 rfl in_X3 (by decide) rfl (by decide) kw_420 dX0_take_29 hk20 ?_
    rw [ex21]
    obtain ⟨hia, hw⟩ := hw
    refine mx_len X M dX0_take_32 hia ?_
    obtain ⟨hwt, hwf⟩ := hw
    refine lv_icmp_eq (tgt := 39) X.1 X.2.1 dX0_take_33 (by decide) (fun hq => ?_) (fun hq => ?_)
    · have hw := hwt hq
      refine lv_iconst (v := 0) X.1 X.2.1 dX0_take_39 (by decide) ?_
      refine lv_istore (lv' := [(5, .int 0), (3, .long r6), (0, .ref o), (1, .ref a1), (2, .ref a2)]) X.1 X.2.1 dX0_take_40 hl (by decide) rfl (fun ls hl => ?_)
      obtain ⟨n45, hw⟩ := hw
      exact b_X0_take_42 X hr hk n45 _ _ _ _ μ16 a1 a2 r6 0 _ _ _ (by omega) (by omega) hKM16_ hw M (lv_sub hl [2, 3, 4, 1, 0] rfl)
    · have hw := hwf hq
      refine lv_bipush (v := 7) X.1 X.2.1 dX0_take_36 (by decide) ?_
      exact mx_iret X hr hk M dX0_take_38 (by omega) (by omega) ⟨hw, hKM16_⟩

abbrev rm_X0_result : Room := { frames := 0, cells := 0, slots := 0, locals := 0 }
def wp_X0_result (μ : Mem) (a1 : Int32) (a2 : Int32) (a3 : Int32) (post : Int32 → Mem → Prop) : Prop :=
  (a1 = 0 →
   post (a2 + a3) μ) ∧
  (a1 = 1 →
   post (a2 - a3) μ) ∧
  (a1 = 2 →
   post (a2 * a3) μ) ∧
  (a1 = 3 →
   (a3 = 0 →
    post 0 μ) ∧ (¬ a3 = 0 →
    ¬ a3 = 0 ∧
    post (a2 / a3) μ)) ∧
  (¬ a1 = 0 → ¬ a1 = 1 → ¬ a1 = 2 → ¬ a1 = 3 → 
   (a3 = 0 →
    post 0 μ) ∧ (¬ a3 = 0 →
    ¬ a3 = 0 ∧
    post (a2 - a2 / a3 * a3) μ))
set_option maxRecDepth 100000 in
set_option maxHeartbeats 4000000 in
theorem c_X0_result (l : Launch) (T : Tb) (B : Nat) (μ : Mem) (a1 : Int32) (a2 : Int32) (a3 : Int32) (post : Int32 → Mem → Prop) (hw : wp_X0_result μ a1 a2 a3 post) : Met l yX0_result (.code yX0_result cX0_result 3 (some .int) :: G) rm_X0_result (Pm (Rl T B) T B μ [.int a1, .int a2, .int a3]) (va_Qi (fun r9 μ9 => post r9 μ9 ∧ KM μ μ9) (Bm (Rl T B)) (Ai B)) 0 0 (Ai B) := by
  refine mx_of RX0 rfl (by decide) (Nat.le_of_ble_eq_true rfl) ?_
  intro p e s m below meth c0 X hr hk hnm M ls hl
  have hl : lv_has ls 3 [(0, .int a1), (1, .int a2), (2, .int a3)] := hl
  unfold wp_X0_result at hw
  have hKM : KM μ μ := KM.rf μ
  refine lv_iload_n X.1 X.2.1 dX0_result_0 rfl (lv_at hl 0 rfl) ?_
  obtain ⟨hw_0, hw_1, hw_2, hw_3, hw_d⟩ := hw
  by_cases q_0 : a1 = 0
  · have hw := hw_0 q_0
    refine lv_tableIn (off := 31) (tgt := 32) X.1 X.2.1 dX0_result_1 (by rw [q_0]; decide) (by rw [q_0]; decide) (by rw [q_0]; rfl) (by decide) ?_
    refine lv_iload_n X.1 X.2.1 dX0_result_32 rfl (lv_at hl 1 rfl) ?_
    refine lv_iload_n X.1 X.2.1 dX0_result_33 rfl (lv_at hl 2 rfl) ?_
    refine lv_iadd X.1 X.2.1 dX0_result_34 ?_
    exact mx_iret X hr hk M dX0_result_35 (by decide) (by decide) ⟨hw, hKM⟩
  by_cases q_1 : a1 = 1
  · have hw := hw_1 q_1
    refine lv_tableIn (off := 35) (tgt := 36) X.1 X.2.1 dX0_result_1 (by rw [q_1]; decide) (by rw [q_1]; decide) (by rw [q_1]; rfl) (by decide) ?_
    refine lv_iload_n X.1 X.2.1 dX0_result_36 rfl (lv_at hl 1 rfl) ?_
    refine lv_iload_n X.1 X.2.1 dX0_result_37 rfl (lv_at hl 2 rfl) ?_
    refine lv_isub X.1 X.2.1 dX0_result_38 ?_
    exact mx_iret X hr hk M dX0_result_39 (by decide) (by decide) ⟨hw, hKM⟩
  by_cases q_2 : a1 = 2
  · have hw := hw_2 q_2
    refine lv_tableIn (off := 39) (tgt := 40) X.1 X.2.1 dX0_result_1 (by rw [q_2]; decide) (by rw [q_2]; decide) (by rw [q_2]; rfl) (by decide) ?_
    refine lv_iload_n X.1 X.2.1 dX0_result_40 rfl (lv_at hl 1 rfl) ?_
    refine lv_iload_n X.1 X.2.1 dX0_result_41 rfl (lv_at hl 2 rfl) ?_
    refine lv_imul X.1 X.2.1 dX0_result_42 ?_
    exact mx_iret X hr hk M dX0_result_43 (by decide) (by decide) ⟨hw, hKM⟩
  by_cases q_3 : a1 = 3
  · have hw := hw_3 q_3
    refine lv_tableIn (off := 43) (tgt := 44) X.1 X.2.1 dX0_result_1 (by rw [q_3]; decide) (by rw [q_3]; decide) (by rw [q_3]; rfl) (by decide) ?_
    refine lv_iload_n X.1 X.2.1 dX0_result_44 rfl (lv_at hl 2 rfl) ?_
    obtain ⟨hwf, hwt⟩ := hw
    refine lv_if_ne (tgt := 52) X.1 X.2.1 dX0_result_45 (by decide) (fun hq => ?_) (fun hq => ?_)
    · have hw := hwt hq
      refine lv_iload_n X.1 X.2.1 dX0_result_52 rfl (lv_at hl 1 rfl) ?_
      refine lv_iload_n X.1 X.2.1 dX0_result_53 rfl (lv_at hl 2 rfl) ?_
      obtain ⟨hne, hw⟩ := hw
      refine lv_idiv X.1 X.2.1 dX0_result_54 hne ?_
      exact mx_iret X hr hk M dX0_result_55 (by decide) (by decide) ⟨hw, hKM⟩
    · have hw := hwf hq
      refine lv_iconst (v := 0) X.1 X.2.1 dX0_result_48 (by decide) ?_
      refine lv_goto (tgt := 55) X.1 X.2.1 dX0_result_49 (by decide) ?_
      exact mx_iret X hr hk M dX0_result_55 (by decide) (by decide) ⟨hw, hKM⟩
  have hw := hw_d q_0 q_1 q_2 q_3
  have g_0 := lv_neT q_0 (by decide : (0 : Int32).toInt = 0)
  have g_1 := lv_neT q_1 (by decide : (1 : Int32).toInt = 1)
  have g_2 := lv_neT q_2 (by decide : (2 : Int32).toInt = 2)
  have g_3 := lv_neT q_3 (by decide : (3 : Int32).toInt = 3)
  refine lv_tableOut (tgt := 56) X.1 X.2.1 dX0_result_1 (by omega) (by decide) ?_
  refine lv_iload_n X.1 X.2.1 dX0_result_56 rfl (lv_at hl 2 rfl) ?_
  obtain ⟨hwf, hwt⟩ := hw
  refine lv_if_ne (tgt := 64) X.1 X.2.1 dX0_result_57 (by decide) (fun hq => ?_) (fun hq => ?_)
  · have hw := hwt hq
    refine lv_iload_n X.1 X.2.1 dX0_result_64 rfl (lv_at hl 1 rfl) ?_
    refine lv_iload_n X.1 X.2.1 dX0_result_65 rfl (lv_at hl 2 rfl) ?_
    obtain ⟨hne, hw⟩ := hw
    refine lv_irem X.1 X.2.1 dX0_result_66 hne ?_
    exact mx_iret X hr hk M dX0_result_67 (by decide) (by decide) ⟨hw, hKM⟩
  · have hw := hwf hq
    refine lv_iconst (v := 0) X.1 X.2.1 dX0_result_60 (by decide) ?_
    refine lv_goto (tgt := 67) X.1 X.2.1 dX0_result_61 (by decide) ?_
    exact mx_iret X hr hk M dX0_result_67 (by decide) (by decide) ⟨hw, hKM⟩

abbrev rm_X0_sum (c z : Nat) : Room := { frames := 6, cells := c, slots := z, locals := 135 }
def wp_X0_sum (c z : Nat) (μ : Mem) (o : Nat) (a1 : Nat) (a2 : Nat) (post : Int32 → Mem → Prop) : Prop :=
  kd μ o = 3 ∧
  ∃ x2, fr μ 2 0 o = some x2 ∧
  kd μ a2 = 6 ∧
  kd μ x2 = 10 ∧
  wp_X7_read μ x2 a1 (fi μ 5 2 a2) (fun (r6 : Int64) (μ4 : Mem) =>
  KM μ μ4 →
  ∃ x11, fr μ4 2 0 o = some x11 ∧
  kd μ4 x11 = 10 ∧
  wp_X7_read μ4 x11 a1 (fi μ4 5 3 a2) (fun (r14 : Int64) (μ12 : Mem) =>
  KM μ4 μ12 →
  wp_X9_isCell μ12 r6 (fun (r21 : Int32) (μ19 : Mem) =>
  KM μ12 μ19 →
  (r21 = 0 →
   wp_X9_isCell μ19 r14 (fun (r26 : Int32) (μ24 : Mem) =>
   KM μ19 μ24 →
   (r26 = 0 →
    ((lg_cmp r14 0) = 0 →
     ((fi μ24 5 4 a2) = 3 →
      post 7 μ24) ∧ (¬ (fi μ24 5 4 a2) = 3 →
      ((fi μ24 5 4 a2) = 4 →
       post 7 μ24) ∧ (¬ (fi μ24 5 4 a2) = 4 →
       wp_X0_result μ24 (fi μ24 5 4 a2) (Int64.toInt32 r6) (Int64.toInt32 r14) (fun (r43 : Int32) (μ41 : Mem) =>
       KM μ24 μ41 →
       ∃ c47 z48, c47 ≤ c ∧ z48 ≤ z ∧
       wp_X0_become c47 z48 μ41 o a1 (fi μ24 5 1 a2) (Int32.toInt64 r43) (fun (r50 : Int32) (μ46 : Mem) =>
       KM μ41 μ46 →
       post r50 μ46))))) ∧ (¬ (lg_cmp r14 0) = 0 →
     wp_X0_result μ24 (fi μ24 5 4 a2) (Int64.toInt32 r6) (Int64.toInt32 r14) (fun (r31 : Int32) (μ29 : Mem) =>
     KM μ24 μ29 →
     ∃ c35 z36, c35 ≤ c ∧ z36 ≤ z ∧
     wp_X0_become c35 z36 μ29 o a1 (fi μ24 5 1 a2) (Int32.toInt64 r31) (fun (r38 : Int32) (μ34 : Mem) =>
     KM μ29 μ34 →
     post r38 μ34)))) ∧ (¬ r26 = 0 →
    post 6 μ24))) ∧ (¬ r21 = 0 →
   post 6 μ19))))
set_option maxRecDepth 100000 in
set_option maxHeartbeats 4000000 in
theorem c_X0_sum (l : Launch) (T : Tb) (B : Nat) (c z : Nat) (μ : Mem) (o : Nat) (a1 : Nat) (a2 : Nat) (post : Int32 → Mem → Prop) (hw : wp_X0_sum c z μ o a1 a2 post) : Met l yX0_sum (.code yX0_sum cX0_sum 7 (some .int) :: G) (rm_X0_sum c z) (Pm (Rl T B) T B μ [.ref o, .ref a1, .ref a2]) (va_Qi (fun r9 μ9 => post r9 μ9 ∧ KM μ μ9) (Bm (Rl T B)) (Ai B)) c z (Ai B) := by
  refine mx_of RX0 rfl (by decide) (Nat.le_of_ble_eq_true rfl) ?_
  intro p e s m below meth c0 X hr hk hnm M ls hl
  have hl : lv_has ls 7 [(0, .ref o), (1, .ref a1), (2, .ref a2)] := hl
  unfold wp_X0_sum at hw
  have hKM : KM μ μ := KM.rf μ
  have hc : 0 + c ≤ c := by omega
  have hz : 0 + z ≤ z := by omega
  refine lv_aload_n X.1 X.2.1 dX0_sum_0 rfl (lv_at hl 0 rfl) ?_
  obtain ⟨hk1, hw⟩ := hw
  obtain ⟨x2, ex2, hw⟩ := hw
  refine mx_getr (C := RX0) (F := TX0) (N := 7) (ci := 2) X M 0 rfl in_X0 (by decide) rfl (by decide) kw_203 dX0_sum_1 hk1 ?_
  rw [ex2]
  refine lv_aload_n X.1 X.2.1 dX0_sum_4 rfl (lv_at hl 1 rfl) ?_
  refine lv_aload_n X.1 X.2.1 dX0_sum_5 rfl (lv_at hl 2 rfl) ?_
  obtain ⟨hk3, hw⟩ := hw
  refine mx_geti (C := RX3) (F := TX3) (N := 7) (ci := 5) X M 2 rfl in_X3 (by decide) rfl (by decide) kw_411 dX0_sum_6 hk3 ?_
  obtain ⟨hk7, hw⟩ := hw
  have hw5 := hw
  clear hw
  refine mx_cl M (mx_runV (n := 2) (As := [.ref a1, .int (fi μ 5 2 a2)]) (rest := []) X M (c_X7_read l T B μ x2 a1 (fi μ 5 2 a2) _ hw5) (mx_recv (C := RX7) (F := TX7) (N := 8) (ci := 9) X M rfl (by decide) hk7) kw_639 kw_640 kw_641 kw_70 kw_642 (by decide +kernel) rfl rfl ⟨Nat.le_of_ble_eq_true rfl, Nat.le_of_ble_eq_true rfl⟩ rfl hl.1 (Nat.le_of_ble_eq_true rfl) dX0_sum_9 ⟨(show 0 + 0 ≤ c by omega), (show 0 + 0 ≤ z by omega)⟩) (fun r6 μ4 H locs ⟨hw, hKM4⟩ M => ?_)
  replace hw := hw hKM4
  have hKM4_ := hKM.tr hKM4
  have hk8 := hKM4.at hk1
  have hk9 := hKM4.at hk3
  have hk10 := hKM4.at hk7
  have hc : (0 + 0) + (c) ≤ c := by omega
  have hz : (0 + 0) + (z) ≤ z := by omega
  refine lv_lstore_n (lv' := [(3, .long r6), (0, .ref o), (1, .ref a1), (2, .ref a2)]) X.1 X.2.1 dX0_sum_12 rfl hl (by decide) rfl (fun ls hl => ?_)
  refine lv_aload_n X.1 X.2.1 dX0_sum_13 rfl (lv_at hl 1 rfl) ?_
  obtain ⟨x11, ex11, hw⟩ := hw
  refine mx_getr (C := RX0) (F := TX0) (N := 7) (ci := 2) X M 0 rfl in_X0 (by decide) rfl (by decide) kw_203 dX0_sum_14 hk8 ?_
  rw [ex11]
  refine lv_aload_n X.1 X.2.1 dX0_sum_17 rfl (lv_at hl 2 rfl) ?_
  refine lv_aload_n X.1 X.2.1 dX0_sum_18 rfl (lv_at hl 3 rfl) ?_
  refine mx_geti (C := RX3) (F := TX3) (N := 7) (ci := 5) X M 3 rfl in_X3 (by decide) rfl (by decide) kw_414 dX0_sum_19 hk9 ?_
  obtain ⟨hk15, hw⟩ := hw
  have hw13 := hw
  clear hw
  refine mx_cl M (mx_runV (n := 2) (As := [.ref a1, .int (fi μ4 5 3 a2)]) (rest := []) X M (c_X7_read l T B μ4 x11 a1 (fi μ4 5 3 a2) _ hw13) (mx_recv (C := RX7) (F := TX7) (N := 8) (ci := 9) X M rfl (by decide) hk15) kw_639 kw_640 kw_641 kw_70 kw_642 (by decide +kernel) rfl rfl ⟨Nat.le_of_ble_eq_true rfl, Nat.le_of_ble_eq_true rfl⟩ rfl hl.1 (Nat.le_of_ble_eq_true rfl) dX0_sum_22 ⟨(show (0 + 0) + 0 ≤ c by omega), (show (0 + 0) + 0 ≤ z by omega)⟩) (fun r14 μ12 H locs ⟨hw, hKM12⟩ M => ?_)
  replace hw := hw hKM12
  have hKM12_ := hKM4_.tr hKM12
  have hk16 := hKM12.at hk8
  have hk17 := hKM12.at hk9
  have hk18 := hKM12.at hk15
  have hc : ((0 + 0) + 0) + (c) ≤ c := by omega
  have hz : ((0 + 0) + 0) + (z) ≤ z := by omega
  refine lv_lstore (lv' := [(5, .long r14), (3, .long r6), (0, .ref o), (1, .ref a1), (2, .ref a2)]) X.1 X.2.1 dX0_sum_25 hl (by decide) rfl (fun ls hl => ?_)
  refine lv_lload_n X.1 X.2.1 dX0_sum_27 rfl (lv_at hl 1 rfl) ?_
  have hw20 := hw
  clear hw
  refine mx_ci M (mx_runS (n := 1) (As := [.long r6]) (rest := []) X M (c_X9_isCell l T B μ12 r6 _ hw20) kw_713 kw_674 kw_84 kw_675 (by decide +kernel) rfl rfl ⟨Nat.le_of_ble_eq_true rfl, Nat.le_of_ble_eq_true rfl⟩ rfl hl.1 (Nat.le_of_ble_eq_true rfl) dX0_sum_28 ⟨(show ((0 + 0) + 0) + 0 ≤ c by omega), (show ((0 + 0) + 0) + 0 ≤ z by omega)⟩) (fun r21 μ19 H locs ⟨hw, hKM19⟩ M => ?_)
  replace hw := hw hKM19
  have hKM19_ := hKM12_.tr hKM19
  have hk22 := hKM19.at hk16
  have hk23 := hKM19.at hk17
  have hc : (((0 + 0) + 0) + 0) + (c) ≤ c := by omega
  have hz : (((0 + 0) + 0) + 0) + (z) ≤ z := by omega
  obtain ⟨hwf, hwt⟩ := hw
  refine lv_if_ne (tgt := 42) X.1 X.2.1 dX0_sum_31 (by decide) (fun hq => ?_) (fun hq => ?_)
  · have hw := hwt hq
    refine lv_bipush (v := 6) X.1 X.2.1 dX0_sum_42 (by decide) ?_
    exact mx_iret X hr hk M dX0_sum_44 (by omega) (by omega) ⟨hw, hKM19_⟩
  · have hw := hwf hq
    refine lv_lload X.1 X.2.1 dX0_sum_34 (lv_at hl 0 rfl) ?_
    have hw25 := hw
    clear hw
    refine mx_ci M (mx_runS (n := 1) (As := [.long r14]) (rest := []) X M (c_X9_isCell l T B μ19 r14 _ hw25) kw_713 kw_674 kw_84 kw_675 (by decide +kernel) rfl rfl ⟨Nat.le_of_ble_eq_true rfl, Nat.le_of_ble_eq_true rfl⟩ rfl hl.1 (Nat.le_of_ble_eq_true rfl) dX0_sum_36 ⟨(show (((0 + 0) + 0) + 0) + 0 ≤ c by omega), (show (((0 + 0) + 0) + 0) + 0 ≤ z by omega)⟩) (fun r26 μ24 H locs ⟨hw, hKM24⟩ M => ?_)
    replace hw := hw hKM24
    have hKM24_ := hKM19_.tr hKM24
    have hk27 := hKM24.at hk22
    have hk28 := hKM24.at hk23
    have hc : ((((0 + 0) + 0) + 0) + 0) + (c) ≤ c := by omega
    have hz : ((((0 + 0) + 0) + 0) + 0) + (z) ≤ z := by omega
    obtain ⟨hwt, hwf⟩ := hw
    refine lv_if_eq (tgt := 45) X.1 X.2.1 dX0_sum_39 (by decide) (fun hq => ?_) (fun hq => ?_)
    · have hw := hwt hq
      refine lv_lload X.1 X.2.1 dX0_sum_45 (lv_at hl 0 rfl) ?_
      refine lv_lconst (v := 0) X.1 X.2.1 dX0_sum_47 (by decide) ?_
      refine W.lcmp X.1 X.2.1 dX0_sum_48 ?_
      obtain ⟨hwf, hwt⟩ := hw
      refine lv_if_ne (tgt := 71) X.1 X.2.1 dX0_sum_49 (by decide) (fun hq => ?_) (fun hq => ?_)
      · have hw := hwt hq
        refine lv_aload_n X.1 X.2.1 dX0_sum_71 rfl (lv_at hl 2 rfl) ?_
        refine lv_aload_n X.1 X.2.1 dX0_sum_72 rfl (lv_at hl 3 rfl) ?_
        refine lv_aload_n X.1 X.2.1 dX0_sum_73 rfl (lv_at hl 4 rfl) ?_
        refine mx_geti (C := RX3) (F := TX3) (N := 7) (ci := 5) X M 1 rfl in_X3 (by decide) rfl (by decide) kw_408 dX0_sum_74 hk28 ?_
        refine lv_aload_n X.1 X.2.1 dX0_sum_77 rfl (lv_at hl 4 rfl) ?_
        refine mx_geti (C := RX3) (F := TX3) (N := 7) (ci := 5) X M 4 rfl in_X3 (by decide) rfl (by decide) kw_417 dX0_sum_78 hk28 ?_
        refine lv_lload_n X.1 X.2.1 dX0_sum_81 rfl (lv_at hl 1 rfl) ?_
        refine lv_l2i X.1 X.2.1 dX0_sum_82 rfl ?_
        refine lv_lload X.1 X.2.1 dX0_sum_83 (lv_at hl 0 rfl) ?_
        refine lv_l2i X.1 X.2.1 dX0_sum_85 rfl ?_
        have hw30 := hw
        clear hw
        refine mx_ci M (mx_runS (n := 3) (As := [.int (fi μ24 5 4 a2), .int (Int64.toInt32 r6), .int (Int64.toInt32 r14)]) (rest := [.int (fi μ24 5 1 a2), .ref a1, .ref o]) X M (c_X0_result l T B μ24 (fi μ24 5 4 a2) (Int64.toInt32 r6) (Int64.toInt32 r14) _ hw30) kw_714 kw_715 kw_69 kw_716 (by decide +kernel) rfl rfl ⟨Nat.le_of_ble_eq_true rfl, Nat.le_of_ble_eq_true rfl⟩ rfl hl.1 (Nat.le_of_ble_eq_true rfl) dX0_sum_86 ⟨(show ((((0 + 0) + 0) + 0) + 0) + 0 ≤ c by omega), (show ((((0 + 0) + 0) + 0) + 0) + 0 ≤ z by omega)⟩) (fun r31 μ29 H locs ⟨hw, hKM29⟩ M => ?_)
        replace hw := hw hKM29
        have hKM29_ := hKM24_.tr hKM29
        have hk32 := hKM29.at hk27
        have hk33 := hKM29.at hk28
        have hc : (((((0 + 0) + 0) + 0) + 0) + 0) + (c) ≤ c := by omega
        have hz : (((((0 + 0) + 0) + 0) + 0) + 0) + (z) ≤ z := by omega
        refine lv_i2l X.1 X.2.1 dX0_sum_89 rfl ?_
        obtain ⟨c35, z36, hc35, hz36, hw⟩ := hw
        have hw37 := hw
        clear hw
        refine mx_ci M (mx_runV (n := 3) (As := [.ref a1, .int (fi μ24 5 1 a2), .long (Int32.toInt64 r31)]) (rest := []) X M (c_X0_become l T B c35 z36 μ29 o a1 (fi μ24 5 1 a2) (Int32.toInt64 r31) _ hw37) (mx_recv (C := RX0) (F := TX0) (N := 7) (ci := 2) X M rfl (by decide) hk32) kw_635 kw_637 kw_12 kw_69 kw_638 (by decide +kernel) rfl rfl ⟨Nat.le_of_ble_eq_true rfl, Nat.le_of_ble_eq_true rfl⟩ rfl hl.1 (Nat.le_of_ble_eq_true rfl) dX0_sum_90 ⟨(show (((((0 + 0) + 0) + 0) + 0) + 0) + c35 ≤ c by omega), (show (((((0 + 0) + 0) + 0) + 0) + 0) + z36 ≤ z by omega)⟩) (fun r38 μ34 H locs ⟨hw, hKM34⟩ M => ?_)
        replace hw := hw hKM34
        have hKM34_ := hKM29_.tr hKM34
        have hk39 := hKM34.at hk32
        have hk40 := hKM34.at hk33
        have hc : ((((((0 + 0) + 0) + 0) + 0) + 0) + c35) + (c - c35) ≤ c := by omega
        have hz : ((((((0 + 0) + 0) + 0) + 0) + 0) + z36) + (z - z36) ≤ z := by omega
        exact mx_iret X hr hk M dX0_sum_93 (by omega) (by omega) ⟨hw, hKM34_⟩
      · have hw := hwf hq
        refine lv_aload_n X.1 X.2.1 dX0_sum_52 rfl (lv_at hl 4 rfl) ?_
        refine mx_geti (C := RX3) (F := TX3) (N := 7) (ci := 5) X M 4 rfl in_X3 (by decide) rfl (by decide) kw_417 dX0_sum_53 hk28 ?_
        refine lv_iconst (v := 3) X.1 X.2.1 dX0_sum_56 (by decide) ?_
        obtain ⟨hwt, hwf⟩ := hw
        refine lv_icmp_eq (tgt := 68) X.1 X.2.1 dX0_sum_57 (by decide) (fun hq => ?_) (fun hq => ?_)
        · have hw := hwt hq
          refine lv_bipush (v := 7) X.1 X.2.1 dX0_sum_68 (by decide) ?_
          exact mx_iret X hr hk M dX0_sum_70 (by omega) (by omega) ⟨hw, hKM24_⟩
        · have hw := hwf hq
          refine lv_aload_n X.1 X.2.1 dX0_sum_60 rfl (lv_at hl 4 rfl) ?_
          refine mx_geti (C := RX3) (F := TX3) (N := 7) (ci := 5) X M 4 rfl in_X3 (by decide) rfl (by decide) kw_417 dX0_sum_61 hk28 ?_
          refine lv_iconst (v := 4) X.1 X.2.1 dX0_sum_64 (by decide) ?_
          obtain ⟨hwf, hwt⟩ := hw
          refine lv_icmp_ne (tgt := 71) X.1 X.2.1 dX0_sum_65 (by decide) (fun hq => ?_) (fun hq => ?_)
          · have hw := hwt hq
            refine lv_aload_n X.1 X.2.1 dX0_sum_71 rfl (lv_at hl 2 rfl) ?_
            refine lv_aload_n X.1 X.2.1 dX0_sum_72 rfl (lv_at hl 3 rfl) ?_
            refine lv_aload_n X.1 X.2.1 dX0_sum_73 rfl (lv_at hl 4 rfl) ?_
            refine mx_geti (C := RX3) (F := TX3) (N := 7) (ci := 5) X M 1 rfl in_X3 (by decide) rfl (by decide) kw_408 dX0_sum_74 hk28 ?_
            refine lv_aload_n X.1 X.2.1 dX0_sum_77 rfl (lv_at hl 4 rfl) ?_
            refine mx_geti (C := RX3) (F := TX3) (N := 7) (ci := 5) X M 4 rfl in_X3 (by decide) rfl (by decide) kw_417 dX0_sum_78 hk28 ?_
            refine lv_lload_n X.1 X.2.1 dX0_sum_81 rfl (lv_at hl 1 rfl) ?_
            refine lv_l2i X.1 X.2.1 dX0_sum_82 rfl ?_
            refine lv_lload X.1 X.2.1 dX0_sum_83 (lv_at hl 0 rfl) ?_
            refine lv_l2i X.1 X.2.1 dX0_sum_85 rfl ?_
            have hw42 := hw
            clear hw
            refine mx_ci M (mx_runS (n := 3) (As := [.int (fi μ24 5 4 a2), .int (Int64.toInt32 r6), .int (Int64.toInt32 r14)]) (rest := [.int (fi μ24 5 1 a2), .ref a1, .ref o]) X M (c_X0_result l T B μ24 (fi μ24 5 4 a2) (Int64.toInt32 r6) (Int64.toInt32 r14) _ hw42) kw_714 kw_715 kw_69 kw_716 (by decide +kernel) rfl rfl ⟨Nat.le_of_ble_eq_true rfl, Nat.le_of_ble_eq_true rfl⟩ rfl hl.1 (Nat.le_of_ble_eq_true rfl) dX0_sum_86 ⟨(show ((((0 + 0) + 0) + 0) + 0) + 0 ≤ c by omega), (show ((((0 + 0) + 0) + 0) + 0) + 0 ≤ z by omega)⟩) (fun r43 μ41 H locs ⟨hw, hKM41⟩ M => ?_)
            replace hw := hw hKM41
            have hKM41_ := hKM24_.tr hKM41
            have hk44 := hKM41.at hk27
            have hk45 := hKM41.at hk28
            have hc : (((((0 + 0) + 0) + 0) + 0) + 0) + (c) ≤ c := by omega
            have hz : (((((0 + 0) + 0) + 0) + 0) + 0) + (z) ≤ z := by omega
            refine lv_i2l X.1 X.2.1 dX0_sum_89 rfl ?_
            obtain ⟨c47, z48, hc47, hz48, hw⟩ := hw
            have hw49 := hw
            clear hw
            refine mx_ci M (mx_runV (n := 3) (As := [.ref a1, .int (fi μ24 5 1 a2), .long (Int32.toInt64 r43)]) (rest := []) X M (c_X0_become l T B c47 z48 μ41 o a1 (fi μ24 5 1 a2) (Int32.toInt64 r43) _ hw49) (mx_recv (C := RX0) (F := TX0) (N := 7) (ci := 2) X M rfl (by decide) hk44) kw_635 kw_637 kw_12 kw_69 kw_638 (by decide +kernel) rfl rfl ⟨Nat.le_of_ble_eq_true rfl, Nat.le_of_ble_eq_true rfl⟩ rfl hl.1 (Nat.le_of_ble_eq_true rfl) dX0_sum_90 ⟨(show (((((0 + 0) + 0) + 0) + 0) + 0) + c47 ≤ c by omega), (show (((((0 + 0) + 0) + 0) + 0) + 0) + z48 ≤ z by omega)⟩) (fun r50 μ46 H locs ⟨hw, hKM46⟩ M => ?_)
            replace hw := hw hKM46
            have hKM46_ := hKM41_.tr hKM46
            have hk51 := hKM46.at hk44
            have hk52 := hKM46.at hk45
            have hc : ((((((0 + 0) + 0) + 0) + 0) + 0) + c47) + (c - c47) ≤ c := by omega
            have hz : ((((((0 + 0) + 0) + 0) + 0) + 0) + z48) + (z - z48) ≤ z := by omega
            exact mx_iret X hr hk M dX0_sum_93 (by omega) (by omega) ⟨hw, hKM46_⟩
          · have hw := hwf hq
            refine lv_bipush (v := 7) X.1 X.2.1 dX0_sum_68 (by decide) ?_
            exact mx_iret X hr hk M dX0_sum_70 (by omega) (by omega) ⟨hw, hKM24_⟩
    · have hw := hwf hq
      refine lv_bipush (v := 6) X.1 X.2.1 dX0_sum_42 (by decide) ?_
      exact mx_iret X hr hk M dX0_sum_44 (by omega) (by omega) ⟨hw, hKM24_⟩
