abbrev rm_X0_exit (c z : Nat) : Room := { frames := 5, cells := c, slots := z, locals := 111 }
def wp_X0_exit_59 (o : Nat) (post : Int32 → Mem → Prop) : Nat → Nat → Nat → Mem → Nat → Nat → Nat → Nat → Int32 → Prop
  | 0, _, _, _, _, _, _, _, _ => False
  | n + 1, c, z, μ, x1, x2, x3, x4, x5 =>
    kd μ x2 = 8 ∧
    ∃ x20, fr μ 7 3 x2 = some x20 ∧
    isArr (kd μ x20) ∧
    ((nI (al μ x20)) ≤ x5 →
     kd μ o = 3 ∧
     ∃ x22, fr μ 2 0 o = some x22 ∧
     kd μ x22 = 10 ∧
     wp_X7_leave μ x22 x1 (fun (μ23 : Mem) =>
     KM μ μ23 →
     ∀ μ29 : Mem, μ29 = sfr μ23 2 5 o (some x3) →
     kd μ29 x1 = 4 ∧
     wp_X0_go μ29 o (fi μ29 3 5 x1) (fun (r37 : Int32) (μ35 : Mem) =>
     KM μ29 μ35 →
     post r37 μ35))) ∧ (¬ (nI (al μ x20)) ≤ x5 →
     kd μ x4 = 6 ∧
     ∃ x43, fr μ 5 5 x4 = some x43 ∧
     isArr (kd μ x43) ∧
     ((nI (al μ x43)) ≤ ((fi μ 7 2 x2) + x5) →
      kd μ o = 3 ∧
      ∃ x45, fr μ 2 0 o = some x45 ∧
      kd μ x45 = 10 ∧
      wp_X7_leave μ x45 x1 (fun (μ46 : Mem) =>
      KM μ μ46 →
      ∀ μ53 : Mem, μ53 = sfr μ46 2 5 o (some x3) →
      kd μ53 x1 = 4 ∧
      wp_X0_go μ53 o (fi μ53 3 5 x1) (fun (r62 : Int32) (μ60 : Mem) =>
      KM μ53 μ60 →
      post r62 μ60))) ∧ (¬ (nI (al μ x43)) ≤ ((fi μ 7 2 x2) + x5) →
      kd μ o = 3 ∧
      ∃ x69, fr μ 2 0 o = some x69 ∧
      ∃ x70, fr μ 5 5 x4 = some x70 ∧
      kd μ x70 = 102 ∧
      vp_in ((fi μ 7 2 x2) + x5) (al μ x70) ∧
      ∃ x72, fr μ 2 0 o = some x72 ∧
      ∃ x73, fr μ 7 3 x2 = some x73 ∧
      kd μ x73 = 102 ∧
      vp_in x5 (al μ x73) ∧
      kd μ x72 = 10 ∧
      wp_X7_read μ x72 x1 (ai μ x73 (Int32.toNatClampNeg x5)) (fun (r77 : Int64) (μ75 : Mem) =>
      KM μ μ75 →
      kd μ75 x69 = 10 ∧
      ∃ c86 z87, c86 ≤ c ∧ z87 ≤ z ∧
      wp_X7_write c86 z87 μ75 x69 x3 (ai μ x70 (Int32.toNatClampNeg ((fi μ 7 2 x2) + x5))) r77 (fun (μ85 : Mem) =>
      KM μ75 μ85 →
      ∀ v97 : Int32, v97 = x5 + 1 →
      wp_X0_exit_59 o post n (c - c86) (z - z87) μ85 x1 x2 x3 x4 v97))))
def wp_X0_exit_24 (o : Nat) (post : Int32 → Mem → Prop) (c z : Nat) (μ : Mem) (x1 : Nat) (x2 : Nat) : Prop :=
  kd μ x1 = 4 ∧
  ∀ r5, r5 = fr μ 3 3 x1 →
  ∀ r6, r6 = fr μ 3 4 x1 →
  (r5 = none →
   kd μ o = 3 ∧
   ∀ μ9 : Mem, μ9 = sfi μ 2 4 o ((fi μ 2 4 o) + 1) →
   post 1 μ9) ∧ (∀ x7, r5 = some x7 →
   (r6 = none →
    kd μ o = 3 ∧
    ∀ μ15 : Mem, μ15 = sfi μ 2 4 o ((fi μ 2 4 o) + 1) →
    post 1 μ15) ∧ (∀ x13, r6 = some x13 →
    ∃ n98, wp_X0_exit_59 o post n98 c z μ x1 x2 x7 x13 0))
def wp_X0_exit (c z : Nat) (μ : Mem) (o : Nat) (a1 : Nat) (post : Int32 → Mem → Prop) : Prop :=
  kd μ a1 = 4 ∧
  ∃ x2, fr μ 3 1 a1 = some x2 ∧
  kd μ x2 = 8 ∧
  ((fi μ 7 0 x2) = 0 →
   kd μ o = 3 ∧
   ∃ x100, fr μ 2 0 o = some x100 ∧
   kd μ x100 = 10 ∧
   wp_X7_cutTo μ x100 (fi μ 3 6 a1) a1 (fun (μ101 : Mem) =>
   KM μ μ101 →
   wp_X0_exit_24 o post c z μ101 a1 x2)) ∧ (¬ (fi μ 7 0 x2) = 0 →
   wp_X0_exit_24 o post c z μ a1 x2)
set_option maxRecDepth 100000 in
set_option maxHeartbeats 4000000 in
theorem b_X0_exit_59 {T : Tb} {B : Nat} {p : Program} {l : Launch} {e : Env} {s : State} {m : MethodId} {args : Array Value} {below : List Frame} {meth : Method} {c0 : Code} {post : Int32 → Mem → Prop} {μ0 : Mem} {o : Nat} {cT zT : Nat} (X : CX T B p m c0 cX0_exit 6 s args RX0) (hr : meth.sig.returnType = (some .int)) (hk : meth.locks = false) : ∀ (n : Nat) (c z cells slots : Nat) (μ : Mem) (x1 : Nat) (x2 : Nat) (x3 : Nat) (x4 : Nat) (x5 : Int32) (H : Heap) (locs : List Loc) (ls : Array Slot), cells + c ≤ cT → slots + z ≤ zT → KM μ0 μ → wp_X0_exit_59 o post n c z μ x1 x2 x3 x4 x5 → MG (Rl T B) B s μ H locs → lv_has ls 6 [(0, .ref o), (1, .ref x1), (2, .ref x2), (3, .ref x3), (4, .ref x4), (5, .int x5)] → W p l e (rm_X0_exit cT zT) s m args below meth c0 H locs cells slots (MQ below (va_Qi (fun r9 μ9 => post r9 μ9 ∧ KM μ0 μ9) (Bm (Rl T B)) (Ai B)) args s cT zT (Ai B)) (F0 m 59 ls []) := by
  intro n
  induction n with
  | zero =>
    intro c z cells slots μ x1 x2 x3 x4 x5 H locs ls hc hz hKM hw
    exact hw.elim
  | succ n ih =>
    intro c z cells slots μ x1 x2 x3 x4 x5 H locs ls hc hz hKM hw M hl
    rw [wp_X0_exit_59] at hw
    refine lv_iload X.1 X.2.1 dX0_exit_59 (lv_at hl 5 rfl) ?_
    refine lv_aload_n X.1 X.2.1 dX0_exit_61 rfl (lv_at hl 2 rfl) ?_
    obtain ⟨hk19, hw⟩ := hw
    obtain ⟨x20, ex20, hw⟩ := hw
    refine mx_getr (C := RX5) (F := TX5) (N := 5) (ci := 7) X M 3 rfl in_X5 (by decide) rfl (by decide) kw_357 dX0_exit_62 hk19 ?_
    rw [ex20]
    obtain ⟨hia, hw⟩ := hw
    refine mx_len X M dX0_exit_65 hia ?_
    obtain ⟨hwt, hwf⟩ := hw
    refine lv_icmp_ge (tgt := 127) X.1 X.2.1 dX0_exit_66 (by decide) (fun hq => ?_) (fun hq => ?_)
    · have hw := hwt hq
      refine lv_aload_n X.1 X.2.1 dX0_exit_127 rfl (lv_at hl 0 rfl) ?_
      obtain ⟨hk21, hw⟩ := hw
      obtain ⟨x22, ex22, hw⟩ := hw
      refine mx_getr (C := RX0) (F := TX0) (N := 7) (ci := 2) X M 0 rfl in_X0 (by decide) rfl (by decide) kw_207 dX0_exit_128 hk21 ?_
      rw [ex22]
      refine lv_aload_n X.1 X.2.1 dX0_exit_131 rfl (lv_at hl 1 rfl) ?_
      obtain ⟨hk25, hw⟩ := hw
      have hw24 := hw
      clear hw
      refine mx_cv M (mx_runV (n := 1) (As := [.ref x1]) (rest := []) X M (c_X7_leave l T B μ x22 x1 _ hw24) (mx_recv (C := RX7) (F := TX7) (N := 8) (ci := 9) X M rfl (by decide) hk25) kw_832 kw_833 kw_834 kw_68 kw_835 (by decide +kernel) rfl rfl ⟨Nat.le_of_ble_eq_true rfl, Nat.le_of_ble_eq_true rfl⟩ rfl hl.1 (Nat.le_of_ble_eq_true rfl) dX0_exit_132 ⟨(show cells + 0 ≤ cT by omega), (show slots + 0 ≤ zT by omega)⟩) (fun μ23 H locs ⟨hw, hKM23⟩ M => ?_)
      replace hw := hw hKM23
      have hKM23_ := hKM.tr hKM23
      have hk26 := hKM23.at hk19
      have hk27 := hKM23.at hk21
      have hk28 := hKM23.at hk25
      have hc : (cells + 0) + (c) ≤ cT := by omega
      have hz : (slots + 0) + (z) ≤ zT := by omega
      refine lv_aload_n X.1 X.2.1 dX0_exit_135 rfl (lv_at hl 0 rfl) ?_
      refine lv_aload_n X.1 X.2.1 dX0_exit_136 rfl (lv_at hl 3 rfl) ?_
      refine my_putr (C := RX0) (F := TX0) (N := 7) (ci := 2) X M 5 rfl in_X0 tyX0 tyX0_ok nmX0 (by decide) rfl (by decide) kw_213 (Or.inl rfl) dX0_exit_137 hk27 (some x3) (mq_no _ _) (mq_fo _ _) (fun μ29 H locs eμ29 M => ?_)
      replace hw := hw μ29 eμ29
      have hKM30 : KM μ0 μ29 := by rw [eμ29]; exact hKM23_
      have hk31 : kd μ29 x2 = 8 := by rw [eμ29]; exact hk26
      have hk32 : kd μ29 o = 3 := by rw [eμ29]; exact hk27
      have hk33 : kd μ29 x22 = 10 := by rw [eμ29]; exact hk28
      refine lv_aload_n X.1 X.2.1 dX0_exit_140 rfl (lv_at hl 0 rfl) ?_
      refine lv_aload_n X.1 X.2.1 dX0_exit_141 rfl (lv_at hl 1 rfl) ?_
      obtain ⟨hk34, hw⟩ := hw
      refine mx_geti (C := RX1) (F := TX1) (N := 7) (ci := 3) X M 5 rfl in_X1 (by decide) rfl (by decide) kw_558 dX0_exit_142 hk34 ?_
      have hw36 := hw
      clear hw
      refine mx_ci M (mx_runV (n := 1) (As := [.int (fi μ29 3 5 x1)]) (rest := []) X M (c_X0_go l T B μ29 o (fi μ29 3 5 x1) _ hw36) (mx_recv (C := RX0) (F := TX0) (N := 7) (ci := 2) X M rfl (by decide) hk32) kw_754 kw_756 kw_18 kw_67 kw_757 (by decide +kernel) rfl rfl ⟨Nat.le_of_ble_eq_true rfl, Nat.le_of_ble_eq_true rfl⟩ rfl hl.1 (Nat.le_of_ble_eq_true rfl) dX0_exit_145 ⟨(show (cells + 0) + 0 ≤ cT by omega), (show (slots + 0) + 0 ≤ zT by omega)⟩) (fun r37 μ35 H locs ⟨hw, hKM35⟩ M => ?_)
      replace hw := hw hKM35
      have hKM35_ := hKM30.tr hKM35
      have hk38 := hKM35.at hk31
      have hk39 := hKM35.at hk32
      have hk40 := hKM35.at hk33
      have hk41 := hKM35.at hk34
      have hc : ((cells + 0) + 0) + (c) ≤ cT := by omega
      have hz : ((slots + 0) + 0) + (z) ≤ zT := by omega
      exact mx_iret X hr hk M dX0_exit_148 (by omega) (by omega) ⟨hw, hKM35_⟩
    · have hw := hwf hq
      refine lv_aload_n X.1 X.2.1 dX0_exit_69 rfl (lv_at hl 2 rfl) ?_
      refine mx_geti (C := RX5) (F := TX5) (N := 5) (ci := 7) X M 2 rfl in_X5 (by decide) rfl (by decide) kw_355 dX0_exit_70 hk19 ?_
      refine lv_iload X.1 X.2.1 dX0_exit_73 (lv_at hl 5 rfl) ?_
      refine lv_iadd X.1 X.2.1 dX0_exit_75 ?_
      refine lv_aload X.1 X.2.1 dX0_exit_76 (lv_at hl 4 rfl) ?_
      obtain ⟨hk42, hw⟩ := hw
      obtain ⟨x43, ex43, hw⟩ := hw
      refine mx_getr (C := RX3) (F := TX3) (N := 7) (ci := 5) X M 5 rfl in_X3 (by decide) rfl (by decide) kw_450 dX0_exit_78 hk42 ?_
      rw [ex43]
      obtain ⟨hia, hw⟩ := hw
      refine mx_len X M dX0_exit_81 hia ?_
      obtain ⟨hwt, hwf⟩ := hw
      refine lv_icmp_ge (tgt := 127) X.1 X.2.1 dX0_exit_82 (by decide) (fun hq => ?_) (fun hq => ?_)
      · have hw := hwt hq
        refine lv_aload_n X.1 X.2.1 dX0_exit_127 rfl (lv_at hl 0 rfl) ?_
        obtain ⟨hk44, hw⟩ := hw
        obtain ⟨x45, ex45, hw⟩ := hw
        refine mx_getr (C := RX0) (F := TX0) (N := 7) (ci := 2) X M 0 rfl in_X0 (by decide) rfl (by decide) kw_207 dX0_exit_128 hk44 ?_
        rw [ex45]
        refine lv_aload_n X.1 X.2.1 dX0_exit_131 rfl (lv_at hl 1 rfl) ?_
        obtain ⟨hk48, hw⟩ := hw
        have hw47 := hw
        clear hw
        refine mx_cv M (mx_runV (n := 1) (As := [.ref x1]) (rest := []) X M (c_X7_leave l T B μ x45 x1 _ hw47) (mx_recv (C := RX7) (F := TX7) (N := 8) (ci := 9) X M rfl (by decide) hk48) kw_832 kw_833 kw_834 kw_68 kw_835 (by decide +kernel) rfl rfl ⟨Nat.le_of_ble_eq_true rfl, Nat.le_of_ble_eq_true rfl⟩ rfl hl.1 (Nat.le_of_ble_eq_true rfl) dX0_exit_132 ⟨(show cells + 0 ≤ cT by omega), (show slots + 0 ≤ zT by omega)⟩) (fun μ46 H locs ⟨hw, hKM46⟩ M => ?_)
        replace hw := hw hKM46
        have hKM46_ := hKM.tr hKM46
        have hk49 := hKM46.at hk19
        have hk50 := hKM46.at hk42
        have hk51 := hKM46.at hk44
        have hk52 := hKM46.at hk48
        have hc : (cells + 0) + (c) ≤ cT := by omega
        have hz : (slots + 0) + (z) ≤ zT := by omega
        refine lv_aload_n X.1 X.2.1 dX0_exit_135 rfl (lv_at hl 0 rfl) ?_
        refine lv_aload_n X.1 X.2.1 dX0_exit_136 rfl (lv_at hl 3 rfl) ?_
        refine my_putr (C := RX0) (F := TX0) (N := 7) (ci := 2) X M 5 rfl in_X0 tyX0 tyX0_ok nmX0 (by decide) rfl (by decide) kw_213 (Or.inl rfl) dX0_exit_137 hk51 (some x3) (mq_no _ _) (mq_fo _ _) (fun μ53 H locs eμ53 M => ?_)
        replace hw := hw μ53 eμ53
        have hKM54 : KM μ0 μ53 := by rw [eμ53]; exact hKM46_
        have hk55 : kd μ53 x2 = 8 := by rw [eμ53]; exact hk49
        have hk56 : kd μ53 x4 = 6 := by rw [eμ53]; exact hk50
        have hk57 : kd μ53 o = 3 := by rw [eμ53]; exact hk51
        have hk58 : kd μ53 x45 = 10 := by rw [eμ53]; exact hk52
        refine lv_aload_n X.1 X.2.1 dX0_exit_140 rfl (lv_at hl 0 rfl) ?_
        refine lv_aload_n X.1 X.2.1 dX0_exit_141 rfl (lv_at hl 1 rfl) ?_
        obtain ⟨hk59, hw⟩ := hw
        refine mx_geti (C := RX1) (F := TX1) (N := 7) (ci := 3) X M 5 rfl in_X1 (by decide) rfl (by decide) kw_558 dX0_exit_142 hk59 ?_
        have hw61 := hw
        clear hw
        refine mx_ci M (mx_runV (n := 1) (As := [.int (fi μ53 3 5 x1)]) (rest := []) X M (c_X0_go l T B μ53 o (fi μ53 3 5 x1) _ hw61) (mx_recv (C := RX0) (F := TX0) (N := 7) (ci := 2) X M rfl (by decide) hk57) kw_754 kw_756 kw_18 kw_67 kw_757 (by decide +kernel) rfl rfl ⟨Nat.le_of_ble_eq_true rfl, Nat.le_of_ble_eq_true rfl⟩ rfl hl.1 (Nat.le_of_ble_eq_true rfl) dX0_exit_145 ⟨(show (cells + 0) + 0 ≤ cT by omega), (show (slots + 0) + 0 ≤ zT by omega)⟩) (fun r62 μ60 H locs ⟨hw, hKM60⟩ M => ?_)
        replace hw := hw hKM60
        have hKM60_ := hKM54.tr hKM60
        have hk63 := hKM60.at hk55
        have hk64 := hKM60.at hk56
        have hk65 := hKM60.at hk57
        have hk66 := hKM60.at hk58
        have hk67 := hKM60.at hk59
        have hc : ((cells + 0) + 0) + (c) ≤ cT := by omega
        have hz : ((slots + 0) + 0) + (z) ≤ zT := by omega
        exact mx_iret X hr hk M dX0_exit_148 (by omega) (by omega) ⟨hw, hKM60_⟩
      · have hw := hwf hq
        refine lv_aload_n X.1 X.2.1 dX0_exit_85 rfl (lv_at hl 0 rfl) ?_
        obtain ⟨hk68, hw⟩ := hw
        obtain ⟨x69, ex69, hw⟩ := hw
        refine mx_getr (C := RX0) (F := TX0) (N := 7) (ci := 2) X M 0 rfl in_X0 (by decide) rfl (by decide) kw_207 dX0_exit_86 hk68 ?_
        rw [ex69]
        refine lv_aload_n X.1 X.2.1 dX0_exit_89 rfl (lv_at hl 3 rfl) ?_
        refine lv_aload X.1 X.2.1 dX0_exit_90 (lv_at hl 4 rfl) ?_
        obtain ⟨x70, ex70, hw⟩ := hw
        refine mx_getr (C := RX3) (F := TX3) (N := 7) (ci := 5) X M 5 rfl in_X3 (by decide) rfl (by decide) kw_450 dX0_exit_92 hk42 ?_
        rw [ex70]
        refine lv_aload_n X.1 X.2.1 dX0_exit_95 rfl (lv_at hl 2 rfl) ?_
        refine mx_geti (C := RX5) (F := TX5) (N := 5) (ci := 7) X M 2 rfl in_X5 (by decide) rfl (by decide) kw_355 dX0_exit_96 hk19 ?_
        refine lv_iload X.1 X.2.1 dX0_exit_99 (lv_at hl 5 rfl) ?_
        refine lv_iadd X.1 X.2.1 dX0_exit_101 ?_
        obtain ⟨hk71, hw⟩ := hw
        obtain ⟨hi, hw⟩ := hw
        refine mx_ald X M dX0_exit_102 hk71 hi ?_
        refine lv_aload_n X.1 X.2.1 dX0_exit_103 rfl (lv_at hl 0 rfl) ?_
        obtain ⟨x72, ex72, hw⟩ := hw
        refine mx_getr (C := RX0) (F := TX0) (N := 7) (ci := 2) X M 0 rfl in_X0 (by decide) rfl (by decide) kw_207 dX0_exit_104 hk68 ?_
        rw [ex72]
        refine lv_aload_n X.1 X.2.1 dX0_exit_107 rfl (lv_at hl 1 rfl) ?_
        refine lv_aload_n X.1 X.2.1 dX0_exit_108 rfl (lv_at hl 2 rfl) ?_
        obtain ⟨x73, ex73, hw⟩ := hw
        refine mx_getr (C := RX5) (F := TX5) (N := 5) (ci := 7) X M 3 rfl in_X5 (by decide) rfl (by decide) kw_357 dX0_exit_109 hk19 ?_
        rw [ex73]
        refine lv_iload X.1 X.2.1 dX0_exit_112 (lv_at hl 5 rfl) ?_
        obtain ⟨hk74, hw⟩ := hw
        obtain ⟨hi, hw⟩ := hw
        refine mx_ald X M dX0_exit_114 hk74 hi ?_
        obtain ⟨hk78, hw⟩ := hw
        have hw76 := hw
        clear hw
        refine mx_cl M (mx_runV (n := 2) (As := [.ref x1, .int (ai μ x73 (Int32.toNatClampNeg x5))]) (rest := [.int (ai μ x70 (Int32.toNatClampNeg ((fi μ 7 2 x2) + x5))), .ref x3, .ref x69]) X M (c_X7_read l T B μ x72 x1 (ai μ x73 (Int32.toNatClampNeg x5)) _ hw76) (mx_recv (C := RX7) (F := TX7) (N := 8) (ci := 9) X M rfl (by decide) hk78) kw_669 kw_670 kw_671 kw_68 kw_672 (by decide +kernel) rfl rfl ⟨Nat.le_of_ble_eq_true rfl, Nat.le_of_ble_eq_true rfl⟩ rfl hl.1 (Nat.le_of_ble_eq_true rfl) dX0_exit_115 ⟨(show cells + 0 ≤ cT by omega), (show slots + 0 ≤ zT by omega)⟩) (fun r77 μ75 H locs ⟨hw, hKM75⟩ M => ?_)
        replace hw := hw hKM75
        have hKM75_ := hKM.tr hKM75
        have hk79 := hKM75.at hk19
        have hk80 := hKM75.at hk42
        have hk81 := hKM75.at hk68
        have hk82 := hKM75.at hk71
        have hk83 := hKM75.at hk74
        have hk84 := hKM75.at hk78
        have hc : (cells + 0) + (c) ≤ cT := by omega
        have hz : (slots + 0) + (z) ≤ zT := by omega
        obtain ⟨hk89, hw⟩ := hw
        obtain ⟨c86, z87, hc86, hz87, hw⟩ := hw
        have hw88 := hw
        clear hw
        refine mx_cv M (mx_runV (n := 3) (As := [.ref x3, .int (ai μ x70 (Int32.toNatClampNeg ((fi μ 7 2 x2) + x5))), .long r77]) (rest := []) X M (c_X7_write l T B c86 z87 μ75 x69 x3 (ai μ x70 (Int32.toNatClampNeg ((fi μ 7 2 x2) + x5))) r77 _ hw88) (mx_recv (C := RX7) (F := TX7) (N := 8) (ci := 9) X M rfl (by decide) hk89) kw_603 kw_604 kw_605 kw_68 kw_606 (by decide +kernel) rfl rfl ⟨Nat.le_of_ble_eq_true rfl, Nat.le_of_ble_eq_true rfl⟩ rfl hl.1 (Nat.le_of_ble_eq_true rfl) dX0_exit_118 ⟨(show (cells + 0) + c86 ≤ cT by omega), (show (slots + 0) + z87 ≤ zT by omega)⟩) (fun μ85 H locs ⟨hw, hKM85⟩ M => ?_)
        replace hw := hw hKM85
        have hKM85_ := hKM75_.tr hKM85
        have hk90 := hKM85.at hk79
        have hk91 := hKM85.at hk80
        have hk92 := hKM85.at hk81
        have hk93 := hKM85.at hk82
        have hk94 := hKM85.at hk83
        have hk95 := hKM85.at hk84
        have hk96 := hKM85.at hk89
        have hc : ((cells + 0) + c86) + (c - c86) ≤ cT := by omega
        have hz : ((slots + 0) + z87) + (z - z87) ≤ zT := by omega
        obtain ⟨v97, ev97⟩ : ∃ y : Int32, y = x5 + 1 := ⟨_, rfl⟩
        replace hw := hw v97 ev97
        refine lv_iinc (v := v97) (lv' := [(5, .int v97), (0, .ref o), (1, .ref x1), (2, .ref x2), (3, .ref x3), (4, .ref x4)]) X.1 X.2.1 dX0_exit_121 hl (k := 5) rfl (by rw [ev97]; rfl) (by decide) rfl (fun ls hl => ?_)
        refine lv_goto (tgt := 59) X.1 X.2.1 dX0_exit_124 (by decide) ?_
        exact ih _ _ _ _ μ85 x1 x2 x3 x4 v97 _ _ _ (by omega) (by omega) hKM85_ hw M (lv_sub hl [1, 2, 3, 4, 5, 0] rfl)
set_option maxRecDepth 100000 in
set_option maxHeartbeats 4000000 in
theorem b_X0_exit_24 {T : Tb} {B : Nat} {p : Program} {l : Launch} {e : Env} {s : State} {m : MethodId} {args : Array Value} {below : List Frame} {meth : Method} {c0 : Code} {post : Int32 → Mem → Prop} {μ0 : Mem} {o : Nat} {cT zT : Nat} (X : CX T B p m c0 cX0_exit 6 s args RX0) (hr : meth.sig.returnType = (some .int)) (hk : meth.locks = false) : ∀ (c z cells slots : Nat) (μ : Mem) (x1 : Nat) (x2 : Nat) (H : Heap) (locs : List Loc) (ls : Array Slot), cells + c ≤ cT → slots + z ≤ zT → KM μ0 μ → wp_X0_exit_24 o post c z μ x1 x2 → MG (Rl T B) B s μ H locs → lv_has ls 6 [(0, .ref o), (1, .ref x1), (2, .ref x2)] → W p l e (rm_X0_exit cT zT) s m args below meth c0 H locs cells slots (MQ below (va_Qi (fun r9 μ9 => post r9 μ9 ∧ KM μ0 μ9) (Bm (Rl T B)) (Ai B)) args s cT zT (Ai B)) (F0 m 24 ls []) := by
  intro c z cells slots μ x1 x2 H locs ls hc hz hKM hw M hl
  unfold wp_X0_exit_24 at hw
  refine lv_aload_n X.1 X.2.1 dX0_exit_24 rfl (lv_at hl 1 rfl) ?_
  obtain ⟨hk4, hw⟩ := hw
  refine mx_getr (C := RX1) (F := TX1) (N := 7) (ci := 3) X M 3 rfl in_X1 (by decide) rfl (by decide) kw_555 dX0_exit_25 hk4 ?_
  obtain ⟨r5, er5⟩ : ∃ y, y = fr μ 3 3 x1 := ⟨_, rfl⟩
  replace hw := hw r5 er5
  rw [← er5]
  refine mq_astore_n (lv' := [(3, va_rf r5), (0, .ref o), (1, .ref x1), (2, .ref x2)]) X.1 X.2.1 dX0_exit_28 rfl hl (by decide) rfl (fun ls hl => ?_)
  refine lv_aload_n X.1 X.2.1 dX0_exit_29 rfl (lv_at hl 2 rfl) ?_
  refine mx_getr (C := RX1) (F := TX1) (N := 7) (ci := 3) X M 4 rfl in_X1 (by decide) rfl (by decide) kw_557 dX0_exit_30 hk4 ?_
  obtain ⟨r6, er6⟩ : ∃ y, y = fr μ 3 4 x1 := ⟨_, rfl⟩
  replace hw := hw r6 er6
  rw [← er6]
  refine mq_astore (lv' := [(4, va_rf r6), (3, va_rf r5), (0, .ref o), (1, .ref x1), (2, .ref x2)]) X.1 X.2.1 dX0_exit_33 hl (by decide) (by simp [mq_cat]) (fun ls hl => ?_)
  refine mq_aload_n X.1 X.2.1 dX0_exit_35 rfl (lv_at hl 1 rfl) ?_
  obtain ⟨hwn, hws⟩ := hw
  rcases r5 with _ | x7
  · have hw := hwn rfl
    have hl : lv_has ls 6 [(4, va_rf r6), (3, .null), (0, .ref o), (1, .ref x1), (2, .ref x2)] := hl
    refine lv_ifnullN (tgt := 44) X.1 X.2.1 dX0_exit_36 (by decide) ?_
    refine lv_aload_n X.1 X.2.1 dX0_exit_44 rfl (lv_at hl 2 rfl) ?_
    refine lv_dup X.1 X.2.1 dX0_exit_45 rfl ?_
    obtain ⟨hk8, hw⟩ := hw
    refine mx_geti (C := RX0) (F := TX0) (N := 7) (ci := 2) X M 4 rfl in_X0 (by decide) rfl (by decide) kw_212 dX0_exit_46 hk8 ?_
    refine lv_iconst (v := 1) X.1 X.2.1 dX0_exit_49 (by decide) ?_
    refine lv_iadd X.1 X.2.1 dX0_exit_50 ?_
    refine my_puti (C := RX0) (F := TX0) (N := 7) (ci := 2) X M 4 rfl in_X0 tyX0 tyX0_ok nmX0 (by decide) rfl (by decide) kw_212 (Or.inl rfl) dX0_exit_51 hk8 rfl rfl (fun μ9 H locs eμ9 M => ?_)
    replace hw := hw μ9 eμ9
    have hKM10 : KM μ0 μ9 := by rw [eμ9]; exact hKM
    have hk11 : kd μ9 x1 = 4 := by rw [eμ9]; exact hk4
    have hk12 : kd μ9 o = 3 := by rw [eμ9]; exact hk8
    refine lv_iconst (v := 1) X.1 X.2.1 dX0_exit_54 (by decide) ?_
    exact mx_iret X hr hk M dX0_exit_55 (by omega) (by omega) ⟨hw, hKM10⟩
  · have hw := hws x7 rfl
    have hl : lv_has ls 6 [(4, va_rf r6), (3, .ref x7), (0, .ref o), (1, .ref x1), (2, .ref x2)] := hl
    refine lv_ifnull X.1 X.2.1 dX0_exit_36 ?_
    refine mq_aload X.1 X.2.1 dX0_exit_39 (lv_at hl 0 rfl) ?_
    obtain ⟨hwn, hws⟩ := hw
    rcases r6 with _ | x13
    · have hw := hwn rfl
      have hl : lv_has ls 6 [(4, .null), (3, .ref x7), (0, .ref o), (1, .ref x1), (2, .ref x2)] := hl
      refine lv_ifnonnullN X.1 X.2.1 dX0_exit_41 ?_
      refine lv_aload_n X.1 X.2.1 dX0_exit_44 rfl (lv_at hl 2 rfl) ?_
      refine lv_dup X.1 X.2.1 dX0_exit_45 rfl ?_
      obtain ⟨hk14, hw⟩ := hw
      refine mx_geti (C := RX0) (F := TX0) (N := 7) (ci := 2) X M 4 rfl in_X0 (by decide) rfl (by decide) kw_212 dX0_exit_46 hk14 ?_
      refine lv_iconst (v := 1) X.1 X.2.1 dX0_exit_49 (by decide) ?_
      refine lv_iadd X.1 X.2.1 dX0_exit_50 ?_
      refine my_puti (C := RX0) (F := TX0) (N := 7) (ci := 2) X M 4 rfl in_X0 tyX0 tyX0_ok nmX0 (by decide) rfl (by decide) kw_212 (Or.inl rfl) dX0_exit_51 hk14 rfl rfl (fun μ15 H locs eμ15 M => ?_)
      replace hw := hw μ15 eμ15
      have hKM16 : KM μ0 μ15 := by rw [eμ15]; exact hKM
      have hk17 : kd μ15 x1 = 4 := by rw [eμ15]; exact hk4
      have hk18 : kd μ15 o = 3 := by rw [eμ15]; exact hk14
      refine lv_iconst (v := 1) X.1 X.2.1 dX0_exit_54 (by decide) ?_
      exact mx_iret X hr hk M dX0_exit_55 (by omega) (by omega) ⟨hw, hKM16⟩
    · have hw := hws x13 rfl
      have hl : lv_has ls 6 [(4, .ref x13), (3, .ref x7), (0, .ref o), (1, .ref x1), (2, .ref x2)] := hl
      refine lv_ifnonnull (tgt := 56) X.1 X.2.1 dX0_exit_41 (by decide) ?_
      refine lv_iconst (v := 0) X.1 X.2.1 dX0_exit_56 (by decide) ?_
      refine lv_istore (lv' := [(5, .int 0), (4, .ref x13), (3, .ref x7), (0, .ref o), (1, .ref x1), (2, .ref x2)]) X.1 X.2.1 dX0_exit_57 hl (by decide) rfl (fun ls hl => ?_)
      obtain ⟨n98, hw⟩ := hw
      exact b_X0_exit_59 X hr hk n98 _ _ _ _ μ x1 x2 x7 x13 0 _ _ _ (by omega) (by omega) hKM hw M (lv_sub hl [3, 4, 5, 2, 1, 0] rfl)
set_option maxRecDepth 100000 in
set_option maxHeartbeats 4000000 in
theorem c_X0_exit (l : Launch) (T : Tb) (B : Nat) (c z : Nat) (μ : Mem) (o : Nat) (a1 : Nat) (post : Int32 → Mem → Prop) (hw : wp_X0_exit c z μ o a1 post) : Met l yX0_exit (.code yX0_exit cX0_exit 6 (some .int) :: G) (rm_X0_exit c z) (Pm (Rl T B) T B μ [.ref o, .ref a1]) (va_Qi (fun r9 μ9 => post r9 μ9 ∧ KM μ μ9) (Bm (Rl T B)) (Ai B)) c z (Ai B) := by
  refine mx_of RX0 rfl (by decide) (Nat.le_of_ble_eq_true rfl) ?_
  intro p e s m below meth c0 X hr hk hnm M ls hl
  have hl : lv_has ls 6 [(0, .ref o), (1, .ref a1)] := hl
  unfold wp_X0_exit at hw
  have hKM : KM μ μ := KM.rf μ
  have hc : 0 + c ≤ c := by omega
  have hz : 0 + z ≤ z := by omega
  refine lv_aload_n X.1 X.2.1 dX0_exit_0 rfl (lv_at hl 1 rfl) ?_
  obtain ⟨hk1, hw⟩ := hw
  obtain ⟨x2, ex2, hw⟩ := hw
  refine mx_getr (C := RX1) (F := TX1) (N := 7) (ci := 3) X M 1 rfl in_X1 (by decide) rfl (by decide) kw_551 dX0_exit_1 hk1 ?_
  rw [ex2]
  refine lv_astore_n (lv' := [(2, .ref x2), (0, .ref o), (1, .ref a1)]) X.1 X.2.1 dX0_exit_4 rfl hl (by decide) rfl (fun ls hl => ?_)
  refine lv_aload_n X.1 X.2.1 dX0_exit_5 rfl (lv_at hl 0 rfl) ?_
  obtain ⟨hk3, hw⟩ := hw
  refine mx_geti (C := RX5) (F := TX5) (N := 5) (ci := 7) X M 0 rfl in_X5 (by decide) rfl (by decide) kw_349 dX0_exit_6 hk3 ?_
  obtain ⟨hwf, hwt⟩ := hw
  refine lv_if_ne (tgt := 24) X.1 X.2.1 dX0_exit_9 (by decide) (fun hq => ?_) (fun hq => ?_)
  · have hw := hwt hq
    exact b_X0_exit_24 X hr hk _ _ _ _ μ a1 x2 _ _ _ (by omega) (by omega) hKM hw M (lv_sub hl [1, 2, 0] rfl)
  · have hw := hwf hq
    refine lv_aload_n X.1 X.2.1 dX0_exit_12 rfl (lv_at hl 1 rfl) ?_
    obtain ⟨hk99, hw⟩ := hw
    obtain ⟨x100, ex100, hw⟩ := hw
    refine mx_getr (C := RX0) (F := TX0) (N := 7) (ci := 2) X M 0 rfl in_X0 (by decide) rfl (by decide) kw_207 dX0_exit_13 hk99 ?_
    rw [ex100]
    refine lv_aload_n X.1 X.2.1 dX0_exit_16 rfl (lv_at hl 2 rfl) ?_
    refine mx_geti (C := RX1) (F := TX1) (N := 7) (ci := 3) X M 6 rfl in_X1 (by decide) rfl (by decide) kw_560 dX0_exit_17 hk1 ?_
    refine lv_aload_n X.1 X.2.1 dX0_exit_20 rfl (lv_at hl 2 rfl) ?_
    obtain ⟨hk103, hw⟩ := hw
    have hw102 := hw
    clear hw
    refine mx_cv M (mx_runV (n := 2) (As := [.int (fi μ 3 6 a1), .ref a1]) (rest := []) X M (c_X7_cutTo l T B μ x100 (fi μ 3 6 a1) a1 _ hw102) (mx_recv (C := RX7) (F := TX7) (N := 8) (ci := 9) X M rfl (by decide) hk103) kw_815 kw_816 kw_817 kw_68 kw_818 (by decide +kernel) rfl rfl ⟨Nat.le_of_ble_eq_true rfl, Nat.le_of_ble_eq_true rfl⟩ rfl hl.1 (Nat.le_of_ble_eq_true rfl) dX0_exit_21 ⟨(show 0 + 0 ≤ c by omega), (show 0 + 0 ≤ z by omega)⟩) (fun μ101 H locs ⟨hw, hKM101⟩ M => ?_)
    replace hw := hw hKM101
    have hKM101_ := hKM.tr hKM101
    have hk104 := hKM101.at hk1
    have hk105 := hKM101.at hk3
    have hk106 := hKM101.at hk99
    have hk107 := hKM101.at hk103
    have hc : (0 + 0) + (c) ≤ c := by omega
    have hz : (0 + 0) + (z) ≤ z := by omega
    exact b_X0_exit_24 X hr hk _ _ _ _ μ101 a1 x2 _ _ _ (by omega) (by omega) hKM101_ hw M (lv_sub hl [1, 2, 0] rfl)

abbrev rm_X0_fail : Room := { frames := 5, cells := 0, slots := 0, locals := 106 }
def wp_X0_fail_8 (o : Nat) (post : Mem → Prop) : Nat → Mem → Int32 → Prop
  | 0, _, _ => False
  | n + 1, μ, x1 =>
    (x1 ≤ 0 →
     kd μ o = 3 ∧
     ∀ μ6 : Mem, μ6 = sfi μ 2 2 o 2 →
     post μ6) ∧ (¬ x1 ≤ 0 →
     kd μ o = 3 ∧
     ∃ x10, fr μ 2 0 o = some x10 ∧
     kd μ x10 = 10 ∧
     wp_X7_popRedo μ x10 (fun (r13 : Option Nat) (μ11 : Mem) =>
     KM μ μ11 →
     (r13 = none →
      ∀ v18 : Int32, v18 = x1 + (-1) →
      wp_X0_fail_8 o post n μ11 v18) ∧ (∀ x17, r13 = some x17 →
      kd μ11 x17 = 9 ∧
      ((fi μ11 8 2 x17) = 0 →
       ∃ x21, fr μ11 2 0 o = some x21 ∧
       kd μ11 x21 = 10 ∧
       wp_X7_goBackTo μ11 x21 x17 (fun (μ22 : Mem) =>
       KM μ11 μ22 →
       ∃ x29, fr μ22 2 1 o = some x29 ∧
       kd μ22 x29 = 5 ∧
       wp_X2_goBackTo μ22 x29 (fi μ22 8 6 x17) (fun (μ30 : Mem) =>
       KM μ22 μ30 →
       ∃ x38, fr μ30 8 0 x17 = some x38 ∧
       ∀ μ39 : Mem, μ39 = sfr μ30 2 5 o (some x38) →
       ∀ μ46 : Mem, μ46 = sfi μ39 2 6 o (fi μ39 8 1 x17) →
       ∀ μ53 : Mem, μ53 = sfi μ46 2 2 o 0 →
       post μ53))) ∧ (¬ (fi μ11 8 2 x17) = 0 →
       ∀ v20 : Int32, v20 = x1 + (-1) →
       wp_X0_fail_8 o post n μ11 v20))))
def wp_X0_fail (μ : Mem) (o : Nat) (post : Mem → Prop) : Prop :=
  kd μ o = 3 ∧
  ∃ x2, fr μ 2 0 o = some x2 ∧
  kd μ x2 = 10 ∧
  ∀ v4 : Int32, v4 = fi μ 9 3 x2 →
  ∃ n60, wp_X0_fail_8 o post n60 μ v4
set_option maxRecDepth 100000 in
set_option maxHeartbeats 4000000 in
theorem b_X0_fail_8 {T : Tb} {B : Nat} {p : Program} {l : Launch} {e : Env} {s : State} {m : MethodId} {args : Array Value} {below : List Frame} {meth : Method} {c0 : Code} {post : Mem → Prop} {μ0 : Mem} {o : Nat} (X : CX T B p m c0 cX0_fail 3 s args RX0) (hr : meth.sig.returnType = none) (hk : meth.locks = false) : ∀ (n : Nat) (μ : Mem) (x1 : Int32) (H : Heap) (locs : List Loc) (ls : Array Slot), KM μ0 μ → wp_X0_fail_8 o post n μ x1 → MG (Rl T B) B s μ H locs → lv_has ls 3 [(0, .ref o), (1, .int x1)] → W p l e rm_X0_fail s m args below meth c0 H locs 0 0 (MQ below (va_Qv (fun μ9 => post μ9 ∧ KM μ0 μ9) (Bm (Rl T B)) (Ai B)) args s 0 0 (Ai B)) (F0 m 8 ls []) := by
  intro n
  induction n with
  | zero =>
    intro μ x1 H locs ls hKM hw
    exact hw.elim
  | succ n ih =>
    intro μ x1 H locs ls hKM hw M hl
    rw [wp_X0_fail_8] at hw
    refine lv_iload_n X.1 X.2.1 dX0_fail_8 rfl (lv_at hl 1 rfl) ?_
    obtain ⟨hwt, hwf⟩ := hw
    refine lv_if_le (tgt := 78) X.1 X.2.1 dX0_fail_9 (by decide) (fun hq => ?_) (fun hq => ?_)
    · have hw := hwt hq
      refine lv_aload_n X.1 X.2.1 dX0_fail_78 rfl (lv_at hl 0 rfl) ?_
      refine lv_iconst (v := 2) X.1 X.2.1 dX0_fail_79 (by decide) ?_
      obtain ⟨hk5, hw⟩ := hw
      refine my_puti (C := RX0) (F := TX0) (N := 7) (ci := 2) X M 2 rfl in_X0 tyX0 tyX0_ok nmX0 (by decide) rfl (by decide) kw_210 (Or.inl rfl) dX0_fail_80 hk5 rfl rfl (fun μ6 H locs eμ6 M => ?_)
      replace hw := hw μ6 eμ6
      have hKM7 : KM μ0 μ6 := by rw [eμ6]; exact hKM
      have hk8 : kd μ6 o = 3 := by rw [eμ6]; exact hk5
      exact mx_vret X hr hk M dX0_fail_83 (by decide) (by decide) ⟨hw, hKM7⟩
    · have hw := hwf hq
      refine lv_aload_n X.1 X.2.1 dX0_fail_12 rfl (lv_at hl 0 rfl) ?_
      obtain ⟨hk9, hw⟩ := hw
      obtain ⟨x10, ex10, hw⟩ := hw
      refine mx_getr (C := RX0) (F := TX0) (N := 7) (ci := 2) X M 0 rfl in_X0 (by decide) rfl (by decide) kw_207 dX0_fail_13 hk9 ?_
      rw [ex10]
      obtain ⟨hk14, hw⟩ := hw
      have hw12 := hw
      clear hw
      refine mx_cq M (mx_runV (n := 0) (As := []) (rest := []) X M (c_X7_popRedo l T B μ x10 _ hw12) (mx_recv (C := RX7) (F := TX7) (N := 8) (ci := 9) X M rfl (by decide) hk14) kw_632 kw_633 kw_634 kw_68 kw_635 (by decide +kernel) rfl rfl ⟨Nat.le_of_ble_eq_true rfl, Nat.le_of_ble_eq_true rfl⟩ rfl hl.1 (Nat.le_of_ble_eq_true rfl) dX0_fail_16 ⟨by decide, by decide⟩) (fun r13 μ11 H locs ⟨hw, hKM11⟩ M => ?_)
      replace hw := hw hKM11
      have hKM11_ := hKM.tr hKM11
      have hk15 := hKM11.at hk9
      have hk16 := hKM11.at hk14
      refine mq_astore_n (lv' := [(2, va_rf r13), (0, .ref o), (1, .int x1)]) X.1 X.2.1 dX0_fail_19 rfl hl (by decide) rfl (fun ls hl => ?_)
      refine mq_aload_n X.1 X.2.1 dX0_fail_20 rfl (lv_at hl 0 rfl) ?_
      obtain ⟨hwn, hws⟩ := hw
      rcases r13 with _ | x17
      · have hw := hwn rfl
        have hl : lv_has ls 3 [(2, .null), (0, .ref o), (1, .int x1)] := hl
        refine lv_ifnullN (tgt := 72) X.1 X.2.1 dX0_fail_21 (by decide) ?_
        obtain ⟨v18, ev18⟩ : ∃ y : Int32, y = x1 + (-1) := ⟨_, rfl⟩
        replace hw := hw v18 ev18
        refine lv_iinc (v := v18) (lv' := [(1, .int v18), (2, .null), (0, .ref o)]) X.1 X.2.1 dX0_fail_72 hl (k := 2) rfl (by rw [ev18]; rfl) (by decide) rfl (fun ls hl => ?_)
        refine lv_goto (tgt := 8) X.1 X.2.1 dX0_fail_75 (by decide) ?_
        exact ih μ11 v18 _ _ _ hKM11_ hw M (lv_sub hl [2, 0] rfl)
      · have hw := hws x17 rfl
        have hl : lv_has ls 3 [(2, .ref x17), (0, .ref o), (1, .int x1)] := hl
        refine lv_ifnull X.1 X.2.1 dX0_fail_21 ?_
        refine lv_aload_n X.1 X.2.1 dX0_fail_24 rfl (lv_at hl 0 rfl) ?_
        obtain ⟨hk19, hw⟩ := hw
        refine mx_geti (C := RX6) (F := TX6) (N := 7) (ci := 8) X M 2 rfl in_X6 (by decide) rfl (by decide) kw_785 dX0_fail_25 hk19 ?_
        obtain ⟨hwf, hwt⟩ := hw
        refine lv_if_ne (tgt := 72) X.1 X.2.1 dX0_fail_28 (by decide) (fun hq => ?_) (fun hq => ?_)
        · have hw := hwt hq
          obtain ⟨v20, ev20⟩ : ∃ y : Int32, y = x1 + (-1) := ⟨_, rfl⟩
          replace hw := hw v20 ev20
          refine lv_iinc (v := v20) (lv' := [(1, .int v20), (2, .ref x17), (0, .ref o)]) X.1 X.2.1 dX0_fail_72 hl (k := 2) rfl (by rw [ev20]; rfl) (by decide) rfl (fun ls hl => ?_)
          refine lv_goto (tgt := 8) X.1 X.2.1 dX0_fail_75 (by decide) ?_
          exact ih μ11 v20 _ _ _ hKM11_ hw M (lv_sub hl [2, 0] rfl)
        · have hw := hwf hq
          refine lv_aload_n X.1 X.2.1 dX0_fail_31 rfl (lv_at hl 1 rfl) ?_
          obtain ⟨x21, ex21, hw⟩ := hw
          refine mx_getr (C := RX0) (F := TX0) (N := 7) (ci := 2) X M 0 rfl in_X0 (by decide) rfl (by decide) kw_207 dX0_fail_32 hk15 ?_
          rw [ex21]
          refine lv_aload_n X.1 X.2.1 dX0_fail_35 rfl (lv_at hl 0 rfl) ?_
          obtain ⟨hk24, hw⟩ := hw
          have hw23 := hw
          clear hw
          refine mx_cv M (mx_runV (n := 1) (As := [.ref x17]) (rest := []) X M (c_X7_goBackTo l T B μ11 x21 x17 _ hw23) (mx_recv (C := RX7) (F := TX7) (N := 8) (ci := 9) X M rfl (by decide) hk24) kw_640 kw_641 kw_642 kw_68 kw_643 (by decide +kernel) rfl rfl ⟨Nat.le_of_ble_eq_true rfl, Nat.le_of_ble_eq_true rfl⟩ rfl hl.1 (Nat.le_of_ble_eq_true rfl) dX0_fail_36 ⟨by decide, by decide⟩) (fun μ22 H locs ⟨hw, hKM22⟩ M => ?_)
          replace hw := hw hKM22
          have hKM22_ := hKM11_.tr hKM22
          have hk25 := hKM22.at hk15
          have hk26 := hKM22.at hk16
          have hk27 := hKM22.at hk19
          have hk28 := hKM22.at hk24
          refine lv_aload_n X.1 X.2.1 dX0_fail_39 rfl (lv_at hl 1 rfl) ?_
          obtain ⟨x29, ex29, hw⟩ := hw
          refine mx_getr (C := RX0) (F := TX0) (N := 7) (ci := 2) X M 1 rfl in_X0 (by decide) rfl (by decide) kw_208 dX0_fail_40 hk25 ?_
          rw [ex29]
          refine lv_aload_n X.1 X.2.1 dX0_fail_43 rfl (lv_at hl 0 rfl) ?_
          refine mx_geti (C := RX6) (F := TX6) (N := 7) (ci := 8) X M 6 rfl in_X6 (by decide) rfl (by decide) kw_790 dX0_fail_44 hk27 ?_
          obtain ⟨hk32, hw⟩ := hw
          have hw31 := hw
          clear hw
          refine mx_cv M (mx_runV (n := 1) (As := [.int (fi μ22 8 6 x17)]) (rest := []) X M (c_X2_goBackTo l T B μ22 x29 (fi μ22 8 6 x17) _ hw31) (mx_recv (C := RX2) (F := TX2) (N := 4) (ci := 4) X M rfl (by decide) hk32) kw_651 kw_652 kw_653 kw_70 kw_654 (by decide +kernel) rfl rfl ⟨Nat.le_of_ble_eq_true rfl, Nat.le_of_ble_eq_true rfl⟩ rfl hl.1 (Nat.le_of_ble_eq_true rfl) dX0_fail_47 ⟨by decide, by decide⟩) (fun μ30 H locs ⟨hw, hKM30⟩ M => ?_)
          replace hw := hw hKM30
          have hKM30_ := hKM22_.tr hKM30
          have hk33 := hKM30.at hk25
          have hk34 := hKM30.at hk26
          have hk35 := hKM30.at hk27
          have hk36 := hKM30.at hk28
          have hk37 := hKM30.at hk32
          refine lv_aload_n X.1 X.2.1 dX0_fail_50 rfl (lv_at hl 1 rfl) ?_
          refine lv_aload_n X.1 X.2.1 dX0_fail_51 rfl (lv_at hl 0 rfl) ?_
          obtain ⟨x38, ex38, hw⟩ := hw
          refine mx_getr (C := RX6) (F := TX6) (N := 7) (ci := 8) X M 0 rfl in_X6 (by decide) rfl (by decide) kw_781 dX0_fail_52 hk35 ?_
          rw [ex38]
          refine my_putr (C := RX0) (F := TX0) (N := 7) (ci := 2) X M 5 rfl in_X0 tyX0 tyX0_ok nmX0 (by decide) rfl (by decide) kw_213 (Or.inl rfl) dX0_fail_55 hk33 (some x38) (mq_no _ _) (mq_fo _ _) (fun μ39 H locs eμ39 M => ?_)
          replace hw := hw μ39 eμ39
          have hKM40 : KM μ0 μ39 := by rw [eμ39]; exact hKM30_
          have hk41 : kd μ39 o = 3 := by rw [eμ39]; exact hk33
          have hk42 : kd μ39 x10 = 10 := by rw [eμ39]; exact hk34
          have hk43 : kd μ39 x17 = 9 := by rw [eμ39]; exact hk35
          have hk44 : kd μ39 x21 = 10 := by rw [eμ39]; exact hk36
          have hk45 : kd μ39 x29 = 5 := by rw [eμ39]; exact hk37
          refine lv_aload_n X.1 X.2.1 dX0_fail_58 rfl (lv_at hl 1 rfl) ?_
          refine lv_aload_n X.1 X.2.1 dX0_fail_59 rfl (lv_at hl 0 rfl) ?_
          refine mx_geti (C := RX6) (F := TX6) (N := 7) (ci := 8) X M 1 rfl in_X6 (by decide) rfl (by decide) kw_783 dX0_fail_60 hk43 ?_
          refine my_puti (C := RX0) (F := TX0) (N := 7) (ci := 2) X M 6 rfl in_X0 tyX0 tyX0_ok nmX0 (by decide) rfl (by decide) kw_214 (Or.inl rfl) dX0_fail_63 hk41 rfl rfl (fun μ46 H locs eμ46 M => ?_)
          replace hw := hw μ46 eμ46
          have hKM47 : KM μ0 μ46 := by rw [eμ46]; exact hKM40
          have hk48 : kd μ46 o = 3 := by rw [eμ46]; exact hk41
          have hk49 : kd μ46 x10 = 10 := by rw [eμ46]; exact hk42
          have hk50 : kd μ46 x17 = 9 := by rw [eμ46]; exact hk43
          have hk51 : kd μ46 x21 = 10 := by rw [eμ46]; exact hk44
          have hk52 : kd μ46 x29 = 5 := by rw [eμ46]; exact hk45
          refine lv_aload_n X.1 X.2.1 dX0_fail_66 rfl (lv_at hl 1 rfl) ?_
          refine lv_iconst (v := 0) X.1 X.2.1 dX0_fail_67 (by decide) ?_
          refine my_puti (C := RX0) (F := TX0) (N := 7) (ci := 2) X M 2 rfl in_X0 tyX0 tyX0_ok nmX0 (by decide) rfl (by decide) kw_210 (Or.inl rfl) dX0_fail_68 hk48 rfl rfl (fun μ53 H locs eμ53 M => ?_)
          replace hw := hw μ53 eμ53
          have hKM54 : KM μ0 μ53 := by rw [eμ53]; exact hKM47
          have hk55 : kd μ53 o = 3 := by rw [eμ53]; exact hk48
          have hk56 : kd μ53 x10 = 10 := by rw [eμ53]; exact hk49
          have hk57 : kd μ53 x17 = 9 := by rw [eμ53]; exact hk50
          have hk58 : kd μ53 x21 = 10 := by rw [eμ53]; exact hk51
          have hk59 : kd μ53 x29 = 5 := by rw [eμ53]; exact hk52
          exact mx_vret X hr hk M dX0_fail_71 (by decide) (by decide) ⟨hw, hKM54⟩
set_option maxRecDepth 100000 in
set_option maxHeartbeats 4000000 in
theorem c_X0_fail (l : Launch) (T : Tb) (B : Nat) (μ : Mem) (o : Nat) (post : Mem → Prop) (hw : wp_X0_fail μ o post) : Met l yX0_fail (.code yX0_fail cX0_fail 3 none :: G) rm_X0_fail (Pm (Rl T B) T B μ [.ref o]) (va_Qv (fun μ9 => post μ9 ∧ KM μ μ9) (Bm (Rl T B)) (Ai B)) 0 0 (Ai B) := by
  refine mx_of RX0 rfl (by decide) (Nat.le_of_ble_eq_true rfl) ?_
  intro p e s m below meth c0 X hr hk hnm M ls hl
  have hl : lv_has ls 3 [(0, .ref o)] := hl
  unfold wp_X0_fail at hw
  have hKM : KM μ μ := KM.rf μ
  refine lv_aload_n X.1 X.2.1 dX0_fail_0 rfl (lv_at hl 0 rfl) ?_
  obtain ⟨hk1, hw⟩ := hw
  obtain ⟨x2, ex2, hw⟩ := hw
  refine mx_getr (C := RX0) (F := TX0) (N := 7) (ci := 2) X M 0 rfl in_X0 (by decide) rfl (by decide) kw_207 dX0_fail_1 hk1 ?_
  rw [ex2]
  obtain ⟨hk3, hw⟩ := hw
  refine mx_geti (C := RX7) (F := TX7) (N := 8) (ci := 9) X M 3 rfl in_X7 (by decide) rfl (by decide) kw_162 dX0_fail_4 hk3 ?_
  refine lv_topi (fun v4 ev4 => ?_)
  replace hw := hw v4 ev4
  refine lv_istore_n (lv' := [(1, .int v4), (0, .ref o)]) X.1 X.2.1 dX0_fail_7 rfl hl (by decide) rfl (fun ls hl => ?_)
  obtain ⟨n60, hw⟩ := hw
  exact b_X0_fail_8 X hr hk n60 μ v4 _ _ _ hKM hw M (lv_sub hl [1, 0] rfl)

abbrev rm_X0_settle : Room := { frames := 6, cells := 0, slots := 0, locals := 128 }
def wp_X0_settle (μ : Mem) (o : Nat) (a1 : Int32) (post : Mem → Prop) : Prop :=
  (a1 = 7 →
   kd μ o = 3 ∧
   wp_X0_fail μ o (fun (μ5 : Mem) =>
   KM μ μ5 →
   post μ5)) ∧ (¬ a1 = 7 →
   kd μ o = 3 ∧
   ∀ μ2 : Mem, μ2 = sfi μ 2 2 o a1 →
   post μ2)
set_option maxRecDepth 100000 in
set_option maxHeartbeats 4000000 in
theorem c_X0_settle (l : Launch) (T : Tb) (B : Nat) (μ : Mem) (o : Nat) (a1 : Int32) (post : Mem → Prop) (hw : wp_X0_settle μ o a1 post) : Met l yX0_settle (.code yX0_settle cX0_settle 2 none :: G) rm_X0_settle (Pm (Rl T B) T B μ [.ref o, .int a1]) (va_Qv (fun μ9 => post μ9 ∧ KM μ μ9) (Bm (Rl T B)) (Ai B)) 0 0 (Ai B) := by
  refine mx_of RX0 rfl (by decide) (Nat.le_of_ble_eq_true rfl) ?_
  intro p e s m below meth c0 X hr hk hnm M ls hl
  have hl : lv_has ls 2 [(0, .ref o), (1, .int a1)] := hl
  unfold wp_X0_settle at hw
  have hKM : KM μ μ := KM.rf μ
  refine lv_iload_n X.1 X.2.1 dX0_settle_0 rfl (lv_at hl 1 rfl) ?_
  refine lv_bipush (v := 7) X.1 X.2.1 dX0_settle_1 (by decide) ?_
  obtain ⟨hwf, hwt⟩ := hw
  refine lv_icmp_ne (tgt := 13) X.1 X.2.1 dX0_settle_3 (by decide) (fun hq => ?_) (fun hq => ?_)
  · have hw := hwt hq
    refine lv_aload_n X.1 X.2.1 dX0_settle_13 rfl (lv_at hl 0 rfl) ?_
    refine lv_iload_n X.1 X.2.1 dX0_settle_14 rfl (lv_at hl 1 rfl) ?_
    obtain ⟨hk1, hw⟩ := hw
    refine my_puti (C := RX0) (F := TX0) (N := 7) (ci := 2) X M 2 rfl in_X0 tyX0 tyX0_ok nmX0 (by decide) rfl (by decide) kw_210 (Or.inl rfl) dX0_settle_15 hk1 rfl rfl (fun μ2 H locs eμ2 M => ?_)
    replace hw := hw μ2 eμ2
    have hKM3 : KM μ μ2 := by rw [eμ2]; exact hKM
    have hk4 : kd μ2 o = 3 := by rw [eμ2]; exact hk1
    exact mx_vret X hr hk M dX0_settle_18 (by decide) (by decide) ⟨hw, hKM3⟩
  · have hw := hwf hq
    refine lv_aload_n X.1 X.2.1 dX0_settle_6 rfl (lv_at hl 0 rfl) ?_
    obtain ⟨hk7, hw⟩ := hw
    have hw6 := hw
    clear hw
    refine mx_cv M (mx_runV (n := 0) (As := []) (rest := []) X M (c_X0_fail l T B μ o _ hw6) (mx_recv (C := RX0) (F := TX0) (N := 7) (ci := 2) X M rfl (by decide) hk7) kw_628 kw_630 kw_9 kw_67 kw_631 (by decide +kernel) rfl rfl ⟨Nat.le_of_ble_eq_true rfl, Nat.le_of_ble_eq_true rfl⟩ rfl hl.1 (Nat.le_of_ble_eq_true rfl) dX0_settle_7 ⟨by decide, by decide⟩) (fun μ5 H locs ⟨hw, hKM5⟩ M => ?_)
    replace hw := hw hKM5
    have hKM5_ := hKM.tr hKM5
    have hk8 := hKM5.at hk7
    refine lv_goto (tgt := 18) X.1 X.2.1 dX0_settle_10 (by decide) ?_
    exact mx_vret X hr hk M dX0_settle_18 (by decide) (by decide) ⟨hw, hKM5_⟩

abbrev rm_X0_step (c z : Nat) : Room := { frames := 9, cells := c, slots := z, locals := 219 }
def wp_X0_step (c z : Nat) (μ : Mem) (o : Nat) (a1 : Nat) (post : Int32 → Mem → Prop) : Prop :=
  kd μ a1 = 4 ∧
  ∃ x2, fr μ 3 1 a1 = some x2 ∧
  kd μ o = 3 ∧
  kd μ x2 = 8 ∧
  wp_X5_instructionAt μ x2 (fi μ 2 6 o) (fun (r6 : Option Nat) (μ4 : Mem) =>
  KM μ μ4 →
  (r6 = none →
   post 7 μ4) ∧ (∀ x11, r6 = some x11 →
   ∀ μ12 : Mem, μ12 = sfi μ4 2 6 o ((fi μ4 2 6 o) + 1) →
   kd μ12 x11 = 6 ∧
   ((fi μ12 5 0 x11) = 0 →
    ∃ c19 z20, c19 ≤ c ∧ z20 ≤ z ∧
    wp_X0_become c19 z20 μ12 o a1 (fi μ12 5 1 x11) (Int32.toInt64 (fi μ12 5 2 x11)) (fun (r22 : Int32) (μ18 : Mem) =>
    KM μ12 μ18 →
    post r22 μ18)) ∧
   ((fi μ12 5 0 x11) = 1 →
    ∃ x27, fr μ12 2 0 o = some x27 ∧
    kd μ12 x27 = 10 ∧
    wp_X7_read μ12 x27 a1 (fi μ12 5 2 x11) (fun (r30 : Int64) (μ28 : Mem) =>
    KM μ12 μ28 →
    ∃ c38 z39, c38 ≤ c ∧ z39 ≤ z ∧
    wp_X0_become c38 z39 μ28 o a1 (fi μ12 5 1 x11) r30 (fun (r41 : Int32) (μ37 : Mem) =>
    KM μ28 μ37 →
    post r41 μ37))) ∧
   ((fi μ12 5 0 x11) = 2 →
    ∃ c48 z49, c48 ≤ c ∧ z49 ≤ z ∧
    wp_X0_make c48 z49 μ12 o a1 x11 (fun (r51 : Int32) (μ47 : Mem) =>
    KM μ12 μ47 →
    post r51 μ47)) ∧
   ((fi μ12 5 0 x11) = 3 →
    ∃ c57 z58, c57 ≤ c ∧ z58 ≤ z ∧
    wp_X0_take c57 z58 μ12 o a1 x11 (fun (r60 : Int32) (μ56 : Mem) =>
    KM μ12 μ56 →
    post r60 μ56)) ∧
   ((fi μ12 5 0 x11) = 4 →
    ∃ x65, fr μ12 2 1 o = some x65 ∧
    ∃ x66, fr μ12 2 0 o = some x66 ∧
    kd μ12 x66 = 10 ∧
    wp_X7_read μ12 x66 a1 (fi μ12 5 1 x11) (fun (r69 : Int64) (μ67 : Mem) =>
    KM μ12 μ67 →
    ∃ x76, fr μ67 2 0 o = some x76 ∧
    kd μ67 x76 = 10 ∧
    wp_X7_read μ67 x76 a1 (fi μ67 5 2 x11) (fun (r79 : Int64) (μ77 : Mem) =>
    KM μ67 μ77 →
    kd μ77 x65 = 5 ∧
    ∃ c88 z89, c88 ≤ c ∧ z89 ≤ z ∧
    wp_X2_compare c88 z89 μ77 x65 r69 r79 (fun (r91 : Int32) (μ87 : Mem) =>
    KM μ77 μ87 →
    post r91 μ87)))) ∧
   ((fi μ12 5 0 x11) = 5 →
    ∃ c101 z102, c101 ≤ c ∧ z102 ≤ z ∧
    wp_X0_sum c101 z102 μ12 o a1 x11 (fun (r104 : Int32) (μ100 : Mem) =>
    KM μ12 μ100 →
    post r104 μ100)) ∧
   ((fi μ12 5 0 x11) = 6 →
    wp_X0_compare μ12 o a1 x11 (fun (r111 : Int32) (μ109 : Mem) =>
    KM μ12 μ109 →
    post r111 μ109)) ∧
   ((fi μ12 5 0 x11) = 7 →
    wp_X0_go μ12 o (fi μ12 5 1 x11) (fun (r118 : Int32) (μ116 : Mem) =>
    KM μ12 μ116 →
    post r118 μ116)) ∧
   ((fi μ12 5 0 x11) = 8 →
    ∃ x123, fr μ12 2 0 o = some x123 ∧
    kd μ12 x123 = 10 ∧
    wp_X7_read μ12 x123 a1 (fi μ12 5 1 x11) (fun (r126 : Int64) (μ124 : Mem) =>
    KM μ12 μ124 →
    wp_X9_hasTag μ124 r126 (fi μ124 5 2 x11) (fun (r135 : Int32) (μ133 : Mem) =>
    KM μ124 μ133 →
    (r135 = 0 →
     wp_X0_go μ133 o (fi μ133 5 3 x11) (fun (r143 : Int32) (μ141 : Mem) =>
     KM μ133 μ141 →
     post r143 μ141)) ∧ (¬ r135 = 0 →
     post 0 μ133)))) ∧
   ((fi μ12 5 0 x11) = 9 →
    ∃ c150 z151, c150 ≤ c ∧ z151 ≤ z ∧
    wp_X0_leaveRedo c150 z151 μ12 o a1 (fi μ12 5 1 x11) (fun (r153 : Int32) (μ149 : Mem) =>
    KM μ12 μ149 →
    post r153 μ149)) ∧
   ((fi μ12 5 0 x11) = 10 →
    ∃ c159 z160, c159 ≤ c ∧ z160 ≤ z ∧
    wp_X0_call c159 z160 μ12 o a1 x11 (fun (r162 : Int32) (μ158 : Mem) =>
    KM μ12 μ158 →
    post r162 μ158)) ∧
   ((fi μ12 5 0 x11) = 11 →
    ∃ x167, fr μ12 2 0 o = some x167 ∧
    kd μ12 x167 = 10 ∧
    ∃ c170 z171, c170 ≤ c ∧ z171 ≤ z ∧
    wp_X0_become c170 z171 μ12 o a1 (fi μ12 5 1 x11) (Int32.toInt64 (fi μ12 9 3 x167)) (fun (r173 : Int32) (μ169 : Mem) =>
    KM μ12 μ169 →
    post r173 μ169)) ∧
   ((fi μ12 5 0 x11) = 12 →
    ∃ x179, fr μ12 2 0 o = some x179 ∧
    kd μ12 x179 = 10 ∧
    wp_X7_read μ12 x179 a1 (fi μ12 5 1 x11) (fun (r182 : Int64) (μ180 : Mem) =>
    KM μ12 μ180 →
    wp_X0_cut μ180 o a1 r182 (fun (r191 : Int32) (μ189 : Mem) =>
    KM μ180 μ189 →
    post r191 μ189))) ∧
   ((fi μ12 5 0 x11) = 13 →
    ∃ x197, fr μ12 2 0 o = some x197 ∧
    kd μ12 x197 = 10 ∧
    wp_X7_read μ12 x197 a1 (fi μ12 5 1 x11) (fun (r200 : Int64) (μ198 : Mem) =>
    KM μ12 μ198 →
    wp_X0_drop μ198 o r200 (fun (r209 : Int32) (μ207 : Mem) =>
    KM μ198 μ207 →
    post r209 μ207))) ∧
   ((fi μ12 5 0 x11) = 14 →
    ∃ c216 z217, c216 ≤ c ∧ z217 ≤ z ∧
    wp_X0_exit c216 z217 μ12 o a1 (fun (r219 : Int32) (μ215 : Mem) =>
    KM μ12 μ215 →
    post r219 μ215)) ∧
   (¬ (fi μ12 5 0 x11) = 0 → ¬ (fi μ12 5 0 x11) = 1 → ¬ (fi μ12 5 0 x11) = 2 → ¬ (fi μ12 5 0 x11) = 3 → ¬ (fi μ12 5 0 x11) = 4 → ¬ (fi μ12 5 0 x11) = 5 → ¬ (fi μ12 5 0 x11) = 6 → ¬ (fi μ12 5 0 x11) = 7 → ¬ (fi μ12 5 0 x11) = 8 → ¬ (fi μ12 5 0 x11) = 9 → ¬ (fi μ12 5 0 x11) = 10 → ¬ (fi μ12 5 0 x11) = 11 → ¬ (fi μ12 5 0 x11) = 12 → ¬ (fi μ12 5 0 x11) = 13 → ¬ (fi μ12 5 0 x11) = 14 → 
    post 7 μ12)))
set_option maxRecDepth 100000 in
set_option maxHeartbeats 4000000 in
theorem c_X0_step (l : Launch) (T : Tb) (B : Nat) (c z : Nat) (μ : Mem) (o : Nat) (a1 : Nat) (post : Int32 → Mem → Prop) (hw : wp_X0_step c z μ o a1 post) : Met l yX0_step (.code yX0_step cX0_step 3 (some .int) :: G) (rm_X0_step c z) (Pm (Rl T B) T B μ [.ref o, .ref a1]) (va_Qi (fun r9 μ9 => post r9 μ9 ∧ KM μ μ9) (Bm (Rl T B)) (Ai B)) c z (Ai B) := by
  refine mx_of RX0 rfl (by decide) (Nat.le_of_ble_eq_true rfl) ?_
  intro p e s m below meth c0 X hr hk hnm M ls hl
  have hl : lv_has ls 3 [(0, .ref o), (1, .ref a1)] := hl
  unfold wp_X0_step at hw
  have hKM : KM μ μ := KM.rf μ
  have hc : 0 + c ≤ c := by omega
  have hz : 0 + z ≤ z := by omega
  refine lv_aload_n X.1 X.2.1 dX0_step_0 rfl (lv_at hl 1 rfl) ?_
  obtain ⟨hk1, hw⟩ := hw
  obtain ⟨x2, ex2, hw⟩ := hw
  refine mx_getr (C := RX1) (F := TX1) (N := 7) (ci := 3) X M 1 rfl in_X1 (by decide) rfl (by decide) kw_551 dX0_step_1 hk1 ?_
  rw [ex2]
  refine lv_aload_n X.1 X.2.1 dX0_step_4 rfl (lv_at hl 0 rfl) ?_
  obtain ⟨hk3, hw⟩ := hw
  refine mx_geti (C := RX0) (F := TX0) (N := 7) (ci := 2) X M 6 rfl in_X0 (by decide) rfl (by decide) kw_214 dX0_step_5 hk3 ?_
  obtain ⟨hk7, hw⟩ := hw
  have hw5 := hw
  clear hw
  refine mx_cq M (mx_runV (n := 1) (As := [.int (fi μ 2 6 o)]) (rest := []) X M (c_X5_instructionAt l T B μ x2 (fi μ 2 6 o) _ hw5) (mx_recv (C := RX5) (F := TX5) (N := 5) (ci := 7) X M rfl (by decide) hk7) kw_659 kw_660 kw_661 kw_80 kw_662 (by decide +kernel) rfl rfl ⟨Nat.le_of_ble_eq_true rfl, Nat.le_of_ble_eq_true rfl⟩ rfl hl.1 (Nat.le_of_ble_eq_true rfl) dX0_step_8 ⟨(show 0 + 0 ≤ c by omega), (show 0 + 0 ≤ z by omega)⟩) (fun r6 μ4 H locs ⟨hw, hKM4⟩ M => ?_)
  replace hw := hw hKM4
  have hKM4_ := hKM.tr hKM4
  have hk8 := hKM4.at hk1
  have hk9 := hKM4.at hk3
  have hk10 := hKM4.at hk7
  have hc : (0 + 0) + (c) ≤ c := by omega
  have hz : (0 + 0) + (z) ≤ z := by omega
  refine mq_astore_n (lv' := [(2, va_rf r6), (0, .ref o), (1, .ref a1)]) X.1 X.2.1 dX0_step_11 rfl hl (by decide) rfl (fun ls hl => ?_)
  refine mq_aload_n X.1 X.2.1 dX0_step_12 rfl (lv_at hl 0 rfl) ?_
  obtain ⟨hwn, hws⟩ := hw
  rcases r6 with _ | x11
  · have hw := hwn rfl
    have hl : lv_has ls 3 [(2, .null), (0, .ref o), (1, .ref a1)] := hl
    refine lv_ifnonnullN X.1 X.2.1 dX0_step_13 ?_
    refine lv_bipush (v := 7) X.1 X.2.1 dX0_step_16 (by decide) ?_
    exact mx_iret X hr hk M dX0_step_18 (by omega) (by omega) ⟨hw, hKM4_⟩
  · have hw := hws x11 rfl
    have hl : lv_has ls 3 [(2, .ref x11), (0, .ref o), (1, .ref a1)] := hl
    refine lv_ifnonnull (tgt := 19) X.1 X.2.1 dX0_step_13 (by decide) ?_
    refine lv_aload_n X.1 X.2.1 dX0_step_19 rfl (lv_at hl 1 rfl) ?_
    refine lv_dup X.1 X.2.1 dX0_step_20 rfl ?_
    refine mx_geti (C := RX0) (F := TX0) (N := 7) (ci := 2) X M 6 rfl in_X0 (by decide) rfl (by decide) kw_214 dX0_step_21 hk9 ?_
    refine lv_iconst (v := 1) X.1 X.2.1 dX0_step_24 (by decide) ?_
    refine lv_iadd X.1 X.2.1 dX0_step_25 ?_
    refine my_puti (C := RX0) (F := TX0) (N := 7) (ci := 2) X M 6 rfl in_X0 tyX0 tyX0_ok nmX0 (by decide) rfl (by decide) kw_214 (Or.inl rfl) dX0_step_26 hk9 rfl rfl (fun μ12 H locs eμ12 M => ?_)
    replace hw := hw μ12 eμ12
    have hKM13 : KM μ μ12 := by rw [eμ12]; exact hKM4_
    have hk14 : kd μ12 a1 = 4 := by rw [eμ12]; exact hk8
    have hk15 : kd μ12 o = 3 := by rw [eμ12]; exact hk9
    have hk16 : kd μ12 x2 = 8 := by rw [eμ12]; exact hk10
    refine lv_aload_n X.1 X.2.1 dX0_step_29 rfl (lv_at hl 0 rfl) ?_
    obtain ⟨hk17, hw⟩ := hw
    refine mx_geti (C := RX3) (F := TX3) (N := 7) (ci := 5) X M 0 rfl in_X3 (by decide) rfl (by decide) kw_435 dX0_step_30 hk17 ?_
    obtain ⟨hw_0, hw_1, hw_2, hw_3, hw_4, hw_5, hw_6, hw_7, hw_8, hw_9, hw_10, hw_11, hw_12, hw_13, hw_14, hw_d⟩ := hw
    by_cases q_0 : (fi μ12 5 0 x11) = 0
    · have hw := hw_0 q_0
      refine lv_tableIn (off := 75) (tgt := 108) X.1 X.2.1 dX0_step_33 (by rw [q_0]; decide) (by rw [q_0]; decide) (by rw [q_0]; rfl) (by decide) ?_
      refine lv_aload_n X.1 X.2.1 dX0_step_108 rfl (lv_at hl 1 rfl) ?_
      refine lv_aload_n X.1 X.2.1 dX0_step_109 rfl (lv_at hl 2 rfl) ?_
      refine lv_aload_n X.1 X.2.1 dX0_step_110 rfl (lv_at hl 0 rfl) ?_
      refine mx_geti (C := RX3) (F := TX3) (N := 7) (ci := 5) X M 1 rfl in_X3 (by decide) rfl (by decide) kw_438 dX0_step_111 hk17 ?_
      refine lv_aload_n X.1 X.2.1 dX0_step_114 rfl (lv_at hl 0 rfl) ?_
      refine mx_geti (C := RX3) (F := TX3) (N := 7) (ci := 5) X M 2 rfl in_X3 (by decide) rfl (by decide) kw_441 dX0_step_115 hk17 ?_
      refine lv_i2l X.1 X.2.1 dX0_step_118 rfl ?_
      obtain ⟨c19, z20, hc19, hz20, hw⟩ := hw
      have hw21 := hw
      clear hw
      refine mx_ci M (mx_runV (n := 3) (As := [.ref a1, .int (fi μ12 5 1 x11), .long (Int32.toInt64 (fi μ12 5 2 x11))]) (rest := []) X M (c_X0_become l T B c19 z20 μ12 o a1 (fi μ12 5 1 x11) (Int32.toInt64 (fi μ12 5 2 x11)) _ hw21) (mx_recv (C := RX0) (F := TX0) (N := 7) (ci := 2) X M rfl (by decide) hk15) kw_665 kw_667 kw_12 kw_67 kw_668 (by decide +kernel) rfl rfl ⟨Nat.le_of_ble_eq_true rfl, Nat.le_of_ble_eq_true rfl⟩ rfl hl.1 (Nat.le_of_ble_eq_true rfl) dX0_step_119 ⟨(show (0 + 0) + c19 ≤ c by omega), (show (0 + 0) + z20 ≤ z by omega)⟩) (fun r22 μ18 H locs ⟨hw, hKM18⟩ M => ?_)
      replace hw := hw hKM18
      have hKM18_ := hKM13.tr hKM18
      have hk23 := hKM18.at hk14
      have hk24 := hKM18.at hk15
      have hk25 := hKM18.at hk16
      have hk26 := hKM18.at hk17
      have hc : ((0 + 0) + c19) + (c - c19) ≤ c := by omega
      have hz : ((0 + 0) + z20) + (z - z20) ≤ z := by omega
      exact mx_iret X hr hk M dX0_step_122 (by omega) (by omega) ⟨hw, hKM18_⟩
    by_cases q_1 : (fi μ12 5 0 x11) = 1
    · have hw := hw_1 q_1
      refine lv_tableIn (off := 90) (tgt := 123) X.1 X.2.1 dX0_step_33 (by rw [q_1]; decide) (by rw [q_1]; decide) (by rw [q_1]; rfl) (by decide) ?_
      refine lv_aload_n X.1 X.2.1 dX0_step_123 rfl (lv_at hl 1 rfl) ?_
      refine lv_aload_n X.1 X.2.1 dX0_step_124 rfl (lv_at hl 2 rfl) ?_
      refine lv_aload_n X.1 X.2.1 dX0_step_125 rfl (lv_at hl 0 rfl) ?_
      refine mx_geti (C := RX3) (F := TX3) (N := 7) (ci := 5) X M 1 rfl in_X3 (by decide) rfl (by decide) kw_438 dX0_step_126 hk17 ?_
      refine lv_aload_n X.1 X.2.1 dX0_step_129 rfl (lv_at hl 1 rfl) ?_
      obtain ⟨x27, ex27, hw⟩ := hw
      refine mx_getr (C := RX0) (F := TX0) (N := 7) (ci := 2) X M 0 rfl in_X0 (by decide) rfl (by decide) kw_207 dX0_step_130 hk15 ?_
      rw [ex27]
      refine lv_aload_n X.1 X.2.1 dX0_step_133 rfl (lv_at hl 2 rfl) ?_
      refine lv_aload_n X.1 X.2.1 dX0_step_134 rfl (lv_at hl 0 rfl) ?_
      refine mx_geti (C := RX3) (F := TX3) (N := 7) (ci := 5) X M 2 rfl in_X3 (by decide) rfl (by decide) kw_441 dX0_step_135 hk17 ?_
      obtain ⟨hk31, hw⟩ := hw
      have hw29 := hw
      clear hw
      refine mx_cl M (mx_runV (n := 2) (As := [.ref a1, .int (fi μ12 5 2 x11)]) (rest := [.int (fi μ12 5 1 x11), .ref a1, .ref o]) X M (c_X7_read l T B μ12 x27 a1 (fi μ12 5 2 x11) _ hw29) (mx_recv (C := RX7) (F := TX7) (N := 8) (ci := 9) X M rfl (by decide) hk31) kw_669 kw_670 kw_671 kw_68 kw_672 (by decide +kernel) rfl rfl ⟨Nat.le_of_ble_eq_true rfl, Nat.le_of_ble_eq_true rfl⟩ rfl hl.1 (Nat.le_of_ble_eq_true rfl) dX0_step_138 ⟨(show (0 + 0) + 0 ≤ c by omega), (show (0 + 0) + 0 ≤ z by omega)⟩) (fun r30 μ28 H locs ⟨hw, hKM28⟩ M => ?_)
      replace hw := hw hKM28
      have hKM28_ := hKM13.tr hKM28
      have hk32 := hKM28.at hk14
      have hk33 := hKM28.at hk15
      have hk34 := hKM28.at hk16
      have hk35 := hKM28.at hk17
      have hk36 := hKM28.at hk31
      have hc : ((0 + 0) + 0) + (c) ≤ c := by omega
      have hz : ((0 + 0) + 0) + (z) ≤ z := by omega
      obtain ⟨c38, z39, hc38, hz39, hw⟩ := hw
      have hw40 := hw
      clear hw
      refine mx_ci M (mx_runV (n := 3) (As := [.ref a1, .int (fi μ12 5 1 x11), .long r30]) (rest := []) X M (c_X0_become l T B c38 z39 μ28 o a1 (fi μ12 5 1 x11) r30 _ hw40) (mx_recv (C := RX0) (F := TX0) (N := 7) (ci := 2) X M rfl (by decide) hk33) kw_665 kw_667 kw_12 kw_67 kw_668 (by decide +kernel) rfl rfl ⟨Nat.le_of_ble_eq_true rfl, Nat.le_of_ble_eq_true rfl⟩ rfl hl.1 (Nat.le_of_ble_eq_true rfl) dX0_step_141 ⟨(show ((0 + 0) + 0) + c38 ≤ c by omega), (show ((0 + 0) + 0) + z39 ≤ z by omega)⟩) (fun r41 μ37 H locs ⟨hw, hKM37⟩ M => ?_)
      replace hw := hw hKM37
      have hKM37_ := hKM28_.tr hKM37
      have hk42 := hKM37.at hk32
      have hk43 := hKM37.at hk33
      have hk44 := hKM37.at hk34
      have hk45 := hKM37.at hk35
      have hk46 := hKM37.at hk36
      have hc : (((0 + 0) + 0) + c38) + (c - c38) ≤ c := by omega
      have hz : (((0 + 0) + 0) + z39) + (z - z39) ≤ z := by omega
      exact mx_iret X hr hk M dX0_step_144 (by omega) (by omega) ⟨hw, hKM37_⟩
    by_cases q_2 : (fi μ12 5 0 x11) = 2
    · have hw := hw_2 q_2
      refine lv_tableIn (off := 112) (tgt := 145) X.1 X.2.1 dX0_step_33 (by rw [q_2]; decide) (by rw [q_2]; decide) (by rw [q_2]; rfl) (by decide) ?_
      refine lv_aload_n X.1 X.2.1 dX0_step_145 rfl (lv_at hl 1 rfl) ?_
      refine lv_aload_n X.1 X.2.1 dX0_step_146 rfl (lv_at hl 2 rfl) ?_
      refine lv_aload_n X.1 X.2.1 dX0_step_147 rfl (lv_at hl 0 rfl) ?_
      obtain ⟨c48, z49, hc48, hz49, hw⟩ := hw
      have hw50 := hw
      clear hw
      refine mx_ci M (mx_runV (n := 2) (As := [.ref a1, .ref x11]) (rest := []) X M (c_X0_make l T B c48 z49 μ12 o a1 x11 _ hw50) (mx_recv (C := RX0) (F := TX0) (N := 7) (ci := 2) X M rfl (by decide) hk15) kw_673 kw_675 kw_13 kw_67 kw_676 (by decide +kernel) rfl rfl ⟨Nat.le_of_ble_eq_true rfl, Nat.le_of_ble_eq_true rfl⟩ rfl hl.1 (Nat.le_of_ble_eq_true rfl) dX0_step_148 ⟨(show (0 + 0) + c48 ≤ c by omega), (show (0 + 0) + z49 ≤ z by omega)⟩) (fun r51 μ47 H locs ⟨hw, hKM47⟩ M => ?_)
      replace hw := hw hKM47
      have hKM47_ := hKM13.tr hKM47
      have hk52 := hKM47.at hk14
      have hk53 := hKM47.at hk15
      have hk54 := hKM47.at hk16
      have hk55 := hKM47.at hk17
      have hc : ((0 + 0) + c48) + (c - c48) ≤ c := by omega
      have hz : ((0 + 0) + z49) + (z - z49) ≤ z := by omega
      exact mx_iret X hr hk M dX0_step_151 (by omega) (by omega) ⟨hw, hKM47_⟩
    by_cases q_3 : (fi μ12 5 0 x11) = 3
    · have hw := hw_3 q_3
      refine lv_tableIn (off := 119) (tgt := 152) X.1 X.2.1 dX0_step_33 (by rw [q_3]; decide) (by rw [q_3]; decide) (by rw [q_3]; rfl) (by decide) ?_
      refine lv_aload_n X.1 X.2.1 dX0_step_152 rfl (lv_at hl 1 rfl) ?_
      refine lv_aload_n X.1 X.2.1 dX0_step_153 rfl (lv_at hl 2 rfl) ?_
      refine lv_aload_n X.1 X.2.1 dX0_step_154 rfl (lv_at hl 0 rfl) ?_
      obtain ⟨c57, z58, hc57, hz58, hw⟩ := hw
      have hw59 := hw
      clear hw
      refine mx_ci M (mx_runV (n := 2) (As := [.ref a1, .ref x11]) (rest := []) X M (c_X0_take l T B c57 z58 μ12 o a1 x11 _ hw59) (mx_recv (C := RX0) (F := TX0) (N := 7) (ci := 2) X M rfl (by decide) hk15) kw_696 kw_698 kw_14 kw_67 kw_699 (by decide +kernel) rfl rfl ⟨Nat.le_of_ble_eq_true rfl, Nat.le_of_ble_eq_true rfl⟩ rfl hl.1 (Nat.le_of_ble_eq_true rfl) dX0_step_155 ⟨(show (0 + 0) + c57 ≤ c by omega), (show (0 + 0) + z58 ≤ z by omega)⟩) (fun r60 μ56 H locs ⟨hw, hKM56⟩ M => ?_)
      replace hw := hw hKM56
      have hKM56_ := hKM13.tr hKM56
      have hk61 := hKM56.at hk14
      have hk62 := hKM56.at hk15
      have hk63 := hKM56.at hk16
      have hk64 := hKM56.at hk17
      have hc : ((0 + 0) + c57) + (c - c57) ≤ c := by omega
      have hz : ((0 + 0) + z58) + (z - z58) ≤ z := by omega
      exact mx_iret X hr hk M dX0_step_158 (by omega) (by omega) ⟨hw, hKM56_⟩
    by_cases q_4 : (fi μ12 5 0 x11) = 4
    · have hw := hw_4 q_4
      refine lv_tableIn (off := 126) (tgt := 159) X.1 X.2.1 dX0_step_33 (by rw [q_4]; decide) (by rw [q_4]; decide) (by rw [q_4]; rfl) (by decide) ?_
      refine lv_aload_n X.1 X.2.1 dX0_step_159 rfl (lv_at hl 1 rfl) ?_
      obtain ⟨x65, ex65, hw⟩ := hw
      refine mx_getr (C := RX0) (F := TX0) (N := 7) (ci := 2) X M 1 rfl in_X0 (by decide) rfl (by decide) kw_208 dX0_step_160 hk15 ?_
      rw [ex65]
      refine lv_aload_n X.1 X.2.1 dX0_step_163 rfl (lv_at hl 1 rfl) ?_
      obtain ⟨x66, ex66, hw⟩ := hw
      refine mx_getr (C := RX0) (F := TX0) (N := 7) (ci := 2) X M 0 rfl in_X0 (by decide) rfl (by decide) kw_207 dX0_step_164 hk15 ?_
      rw [ex66]
      refine lv_aload_n X.1 X.2.1 dX0_step_167 rfl (lv_at hl 2 rfl) ?_
      refine lv_aload_n X.1 X.2.1 dX0_step_168 rfl (lv_at hl 0 rfl) ?_
      refine mx_geti (C := RX3) (F := TX3) (N := 7) (ci := 5) X M 1 rfl in_X3 (by decide) rfl (by decide) kw_438 dX0_step_169 hk17 ?_
      obtain ⟨hk70, hw⟩ := hw
      have hw68 := hw
      clear hw
      refine mx_cl M (mx_runV (n := 2) (As := [.ref a1, .int (fi μ12 5 1 x11)]) (rest := [.ref x65]) X M (c_X7_read l T B μ12 x66 a1 (fi μ12 5 1 x11) _ hw68) (mx_recv (C := RX7) (F := TX7) (N := 8) (ci := 9) X M rfl (by decide) hk70) kw_669 kw_670 kw_671 kw_68 kw_672 (by decide +kernel) rfl rfl ⟨Nat.le_of_ble_eq_true rfl, Nat.le_of_ble_eq_true rfl⟩ rfl hl.1 (Nat.le_of_ble_eq_true rfl) dX0_step_172 ⟨(show (0 + 0) + 0 ≤ c by omega), (show (0 + 0) + 0 ≤ z by omega)⟩) (fun r69 μ67 H locs ⟨hw, hKM67⟩ M => ?_)
      replace hw := hw hKM67
      have hKM67_ := hKM13.tr hKM67
      have hk71 := hKM67.at hk14
      have hk72 := hKM67.at hk15
      have hk73 := hKM67.at hk16
      have hk74 := hKM67.at hk17
      have hk75 := hKM67.at hk70
      have hc : ((0 + 0) + 0) + (c) ≤ c := by omega
      have hz : ((0 + 0) + 0) + (z) ≤ z := by omega
      refine lv_aload_n X.1 X.2.1 dX0_step_175 rfl (lv_at hl 1 rfl) ?_
      obtain ⟨x76, ex76, hw⟩ := hw
      refine mx_getr (C := RX0) (F := TX0) (N := 7) (ci := 2) X M 0 rfl in_X0 (by decide) rfl (by decide) kw_207 dX0_step_176 hk72 ?_
      rw [ex76]
      refine lv_aload_n X.1 X.2.1 dX0_step_179 rfl (lv_at hl 2 rfl) ?_
      refine lv_aload_n X.1 X.2.1 dX0_step_180 rfl (lv_at hl 0 rfl) ?_
      refine mx_geti (C := RX3) (F := TX3) (N := 7) (ci := 5) X M 2 rfl in_X3 (by decide) rfl (by decide) kw_441 dX0_step_181 hk74 ?_
      obtain ⟨hk80, hw⟩ := hw
      have hw78 := hw
      clear hw
      refine mx_cl M (mx_runV (n := 2) (As := [.ref a1, .int (fi μ67 5 2 x11)]) (rest := [.long r69, .ref x65]) X M (c_X7_read l T B μ67 x76 a1 (fi μ67 5 2 x11) _ hw78) (mx_recv (C := RX7) (F := TX7) (N := 8) (ci := 9) X M rfl (by decide) hk80) kw_669 kw_670 kw_671 kw_68 kw_672 (by decide +kernel) rfl rfl ⟨Nat.le_of_ble_eq_true rfl, Nat.le_of_ble_eq_true rfl⟩ rfl hl.1 (Nat.le_of_ble_eq_true rfl) dX0_step_184 ⟨(show ((0 + 0) + 0) + 0 ≤ c by omega), (show ((0 + 0) + 0) + 0 ≤ z by omega)⟩) (fun r79 μ77 H locs ⟨hw, hKM77⟩ M => ?_)
      replace hw := hw hKM77
      have hKM77_ := hKM67_.tr hKM77
      have hk81 := hKM77.at hk71
      have hk82 := hKM77.at hk72
      have hk83 := hKM77.at hk73
      have hk84 := hKM77.at hk74
      have hk85 := hKM77.at hk75
      have hk86 := hKM77.at hk80
      have hc : (((0 + 0) + 0) + 0) + (c) ≤ c := by omega
      have hz : (((0 + 0) + 0) + 0) + (z) ≤ z := by omega
      obtain ⟨hk92, hw⟩ := hw
      obtain ⟨c88, z89, hc88, hz89, hw⟩ := hw
      have hw90 := hw
      clear hw
      refine mx_ci M (mx_runV (n := 2) (As := [.long r69, .long r79]) (rest := []) X M (c_X2_compare l T B c88 z89 μ77 x65 r69 r79 _ hw90) (mx_recv (C := RX2) (F := TX2) (N := 4) (ci := 4) X M rfl (by decide) hk92) kw_723 kw_724 kw_725 kw_70 kw_726 (by decide +kernel) rfl rfl ⟨Nat.le_of_ble_eq_true rfl, Nat.le_of_ble_eq_true rfl⟩ rfl hl.1 (Nat.le_of_ble_eq_true rfl) dX0_step_187 ⟨(show (((0 + 0) + 0) + 0) + c88 ≤ c by omega), (show (((0 + 0) + 0) + 0) + z89 ≤ z by omega)⟩) (fun r91 μ87 H locs ⟨hw, hKM87⟩ M => ?_)
      replace hw := hw hKM87
      have hKM87_ := hKM77_.tr hKM87
      have hk93 := hKM87.at hk81
      have hk94 := hKM87.at hk82
      have hk95 := hKM87.at hk83
      have hk96 := hKM87.at hk84
      have hk97 := hKM87.at hk85
      have hk98 := hKM87.at hk86
      have hk99 := hKM87.at hk92
      have hc : ((((0 + 0) + 0) + 0) + c88) + (c - c88) ≤ c := by omega
      have hz : ((((0 + 0) + 0) + 0) + z89) + (z - z89) ≤ z := by omega
      exact mx_iret X hr hk M dX0_step_190 (by omega) (by omega) ⟨hw, hKM87_⟩
    by_cases q_5 : (fi μ12 5 0 x11) = 5
    · have hw := hw_5 q_5
      refine lv_tableIn (off := 158) (tgt := 191) X.1 X.2.1 dX0_step_33 (by rw [q_5]; decide) (by rw [q_5]; decide) (by rw [q_5]; rfl) (by decide) ?_
      refine lv_aload_n X.1 X.2.1 dX0_step_191 rfl (lv_at hl 1 rfl) ?_
      refine lv_aload_n X.1 X.2.1 dX0_step_192 rfl (lv_at hl 2 rfl) ?_
      refine lv_aload_n X.1 X.2.1 dX0_step_193 rfl (lv_at hl 0 rfl) ?_
      obtain ⟨c101, z102, hc101, hz102, hw⟩ := hw
      have hw103 := hw
      clear hw
      refine mx_ci M (mx_runV (n := 2) (As := [.ref a1, .ref x11]) (rest := []) X M (c_X0_sum l T B c101 z102 μ12 o a1 x11 _ hw103) (mx_recv (C := RX0) (F := TX0) (N := 7) (ci := 2) X M rfl (by decide) hk15) kw_739 kw_741 kw_16 kw_67 kw_742 (by decide +kernel) rfl rfl ⟨Nat.le_of_ble_eq_true rfl, Nat.le_of_ble_eq_true rfl⟩ rfl hl.1 (Nat.le_of_ble_eq_true rfl) dX0_step_194 ⟨(show (0 + 0) + c101 ≤ c by omega), (show (0 + 0) + z102 ≤ z by omega)⟩) (fun r104 μ100 H locs ⟨hw, hKM100⟩ M => ?_)
      replace hw := hw hKM100
      have hKM100_ := hKM13.tr hKM100
      have hk105 := hKM100.at hk14
      have hk106 := hKM100.at hk15
      have hk107 := hKM100.at hk16
      have hk108 := hKM100.at hk17
      have hc : ((0 + 0) + c101) + (c - c101) ≤ c := by omega
      have hz : ((0 + 0) + z102) + (z - z102) ≤ z := by omega
      exact mx_iret X hr hk M dX0_step_197 (by omega) (by omega) ⟨hw, hKM100_⟩
    by_cases q_6 : (fi μ12 5 0 x11) = 6
    · have hw := hw_6 q_6
      refine lv_tableIn (off := 165) (tgt := 198) X.1 X.2.1 dX0_step_33 (by rw [q_6]; decide) (by rw [q_6]; decide) (by rw [q_6]; rfl) (by decide) ?_
      refine lv_aload_n X.1 X.2.1 dX0_step_198 rfl (lv_at hl 1 rfl) ?_
      refine lv_aload_n X.1 X.2.1 dX0_step_199 rfl (lv_at hl 2 rfl) ?_
      refine lv_aload_n X.1 X.2.1 dX0_step_200 rfl (lv_at hl 0 rfl) ?_
      have hw110 := hw
      clear hw
      refine mx_ci M (mx_runV (n := 2) (As := [.ref a1, .ref x11]) (rest := []) X M (c_X0_compare l T B μ12 o a1 x11 _ hw110) (mx_recv (C := RX0) (F := TX0) (N := 7) (ci := 2) X M rfl (by decide) hk15) kw_747 kw_749 kw_17 kw_67 kw_750 (by decide +kernel) rfl rfl ⟨Nat.le_of_ble_eq_true rfl, Nat.le_of_ble_eq_true rfl⟩ rfl hl.1 (Nat.le_of_ble_eq_true rfl) dX0_step_201 ⟨(show (0 + 0) + 0 ≤ c by omega), (show (0 + 0) + 0 ≤ z by omega)⟩) (fun r111 μ109 H locs ⟨hw, hKM109⟩ M => ?_)
      replace hw := hw hKM109
      have hKM109_ := hKM13.tr hKM109
      have hk112 := hKM109.at hk14
      have hk113 := hKM109.at hk15
      have hk114 := hKM109.at hk16
      have hk115 := hKM109.at hk17
      have hc : ((0 + 0) + 0) + (c) ≤ c := by omega
      have hz : ((0 + 0) + 0) + (z) ≤ z := by omega
      exact mx_iret X hr hk M dX0_step_204 (by omega) (by omega) ⟨hw, hKM109_⟩
    by_cases q_7 : (fi μ12 5 0 x11) = 7
    · have hw := hw_7 q_7
      refine lv_tableIn (off := 172) (tgt := 205) X.1 X.2.1 dX0_step_33 (by rw [q_7]; decide) (by rw [q_7]; decide) (by rw [q_7]; rfl) (by decide) ?_
      refine lv_aload_n X.1 X.2.1 dX0_step_205 rfl (lv_at hl 1 rfl) ?_
      refine lv_aload_n X.1 X.2.1 dX0_step_206 rfl (lv_at hl 0 rfl) ?_
      refine mx_geti (C := RX3) (F := TX3) (N := 7) (ci := 5) X M 1 rfl in_X3 (by decide) rfl (by decide) kw_438 dX0_step_207 hk17 ?_
      have hw117 := hw
      clear hw
      refine mx_ci M (mx_runV (n := 1) (As := [.int (fi μ12 5 1 x11)]) (rest := []) X M (c_X0_go l T B μ12 o (fi μ12 5 1 x11) _ hw117) (mx_recv (C := RX0) (F := TX0) (N := 7) (ci := 2) X M rfl (by decide) hk15) kw_754 kw_756 kw_18 kw_67 kw_757 (by decide +kernel) rfl rfl ⟨Nat.le_of_ble_eq_true rfl, Nat.le_of_ble_eq_true rfl⟩ rfl hl.1 (Nat.le_of_ble_eq_true rfl) dX0_step_210 ⟨(show (0 + 0) + 0 ≤ c by omega), (show (0 + 0) + 0 ≤ z by omega)⟩) (fun r118 μ116 H locs ⟨hw, hKM116⟩ M => ?_)
      replace hw := hw hKM116
      have hKM116_ := hKM13.tr hKM116
      have hk119 := hKM116.at hk14
      have hk120 := hKM116.at hk15
      have hk121 := hKM116.at hk16
      have hk122 := hKM116.at hk17
      have hc : ((0 + 0) + 0) + (c) ≤ c := by omega
      have hz : ((0 + 0) + 0) + (z) ≤ z := by omega
      exact mx_iret X hr hk M dX0_step_213 (by omega) (by omega) ⟨hw, hKM116_⟩
    by_cases q_8 : (fi μ12 5 0 x11) = 8
    · have hw := hw_8 q_8
      refine lv_tableIn (off := 181) (tgt := 214) X.1 X.2.1 dX0_step_33 (by rw [q_8]; decide) (by rw [q_8]; decide) (by rw [q_8]; rfl) (by decide) ?_
      refine lv_aload_n X.1 X.2.1 dX0_step_214 rfl (lv_at hl 1 rfl) ?_
      obtain ⟨x123, ex123, hw⟩ := hw
      refine mx_getr (C := RX0) (F := TX0) (N := 7) (ci := 2) X M 0 rfl in_X0 (by decide) rfl (by decide) kw_207 dX0_step_215 hk15 ?_
      rw [ex123]
      refine lv_aload_n X.1 X.2.1 dX0_step_218 rfl (lv_at hl 2 rfl) ?_
      refine lv_aload_n X.1 X.2.1 dX0_step_219 rfl (lv_at hl 0 rfl) ?_
      refine mx_geti (C := RX3) (F := TX3) (N := 7) (ci := 5) X M 1 rfl in_X3 (by decide) rfl (by decide) kw_438 dX0_step_220 hk17 ?_
      obtain ⟨hk127, hw⟩ := hw
      have hw125 := hw
      clear hw
      refine mx_cl M (mx_runV (n := 2) (As := [.ref a1, .int (fi μ12 5 1 x11)]) (rest := []) X M (c_X7_read l T B μ12 x123 a1 (fi μ12 5 1 x11) _ hw125) (mx_recv (C := RX7) (F := TX7) (N := 8) (ci := 9) X M rfl (by decide) hk127) kw_669 kw_670 kw_671 kw_68 kw_672 (by decide +kernel) rfl rfl ⟨Nat.le_of_ble_eq_true rfl, Nat.le_of_ble_eq_true rfl⟩ rfl hl.1 (Nat.le_of_ble_eq_true rfl) dX0_step_223 ⟨(show (0 + 0) + 0 ≤ c by omega), (show (0 + 0) + 0 ≤ z by omega)⟩) (fun r126 μ124 H locs ⟨hw, hKM124⟩ M => ?_)
      replace hw := hw hKM124
      have hKM124_ := hKM13.tr hKM124
      have hk128 := hKM124.at hk14
      have hk129 := hKM124.at hk15
      have hk130 := hKM124.at hk16
      have hk131 := hKM124.at hk17
      have hk132 := hKM124.at hk127
      have hc : ((0 + 0) + 0) + (c) ≤ c := by omega
      have hz : ((0 + 0) + 0) + (z) ≤ z := by omega
      refine lv_aload_n X.1 X.2.1 dX0_step_226 rfl (lv_at hl 0 rfl) ?_
      refine mx_geti (C := RX3) (F := TX3) (N := 7) (ci := 5) X M 2 rfl in_X3 (by decide) rfl (by decide) kw_441 dX0_step_227 hk131 ?_
      have hw134 := hw
      clear hw
      refine mx_ci M (mx_runS (n := 2) (As := [.long r126, .int (fi μ124 5 2 x11)]) (rest := []) X M (c_X9_hasTag l T B μ124 r126 (fi μ124 5 2 x11) _ hw134) kw_700 kw_701 kw_86 kw_702 (by decide +kernel) rfl rfl ⟨Nat.le_of_ble_eq_true rfl, Nat.le_of_ble_eq_true rfl⟩ rfl hl.1 (Nat.le_of_ble_eq_true rfl) dX0_step_230 ⟨(show ((0 + 0) + 0) + 0 ≤ c by omega), (show ((0 + 0) + 0) + 0 ≤ z by omega)⟩) (fun r135 μ133 H locs ⟨hw, hKM133⟩ M => ?_)
      replace hw := hw hKM133
      have hKM133_ := hKM124_.tr hKM133
      have hk136 := hKM133.at hk128
      have hk137 := hKM133.at hk129
      have hk138 := hKM133.at hk130
      have hk139 := hKM133.at hk131
      have hk140 := hKM133.at hk132
      have hc : (((0 + 0) + 0) + 0) + (c) ≤ c := by omega
      have hz : (((0 + 0) + 0) + 0) + (z) ≤ z := by omega
      obtain ⟨hwt, hwf⟩ := hw
      refine lv_if_eq (tgt := 240) X.1 X.2.1 dX0_step_233 (by decide) (fun hq => ?_) (fun hq => ?_)
      · have hw := hwt hq
        refine lv_aload_n X.1 X.2.1 dX0_step_240 rfl (lv_at hl 1 rfl) ?_
        refine lv_aload_n X.1 X.2.1 dX0_step_241 rfl (lv_at hl 0 rfl) ?_
        refine mx_geti (C := RX3) (F := TX3) (N := 7) (ci := 5) X M 3 rfl in_X3 (by decide) rfl (by decide) kw_444 dX0_step_242 hk139 ?_
        have hw142 := hw
        clear hw
        refine mx_ci M (mx_runV (n := 1) (As := [.int (fi μ133 5 3 x11)]) (rest := []) X M (c_X0_go l T B μ133 o (fi μ133 5 3 x11) _ hw142) (mx_recv (C := RX0) (F := TX0) (N := 7) (ci := 2) X M rfl (by decide) hk137) kw_754 kw_756 kw_18 kw_67 kw_757 (by decide +kernel) rfl rfl ⟨Nat.le_of_ble_eq_true rfl, Nat.le_of_ble_eq_true rfl⟩ rfl hl.1 (Nat.le_of_ble_eq_true rfl) dX0_step_245 ⟨(show (((0 + 0) + 0) + 0) + 0 ≤ c by omega), (show (((0 + 0) + 0) + 0) + 0 ≤ z by omega)⟩) (fun r143 μ141 H locs ⟨hw, hKM141⟩ M => ?_)
        replace hw := hw hKM141
        have hKM141_ := hKM133_.tr hKM141
        have hk144 := hKM141.at hk136
        have hk145 := hKM141.at hk137
        have hk146 := hKM141.at hk138
        have hk147 := hKM141.at hk139
        have hk148 := hKM141.at hk140
        have hc : ((((0 + 0) + 0) + 0) + 0) + (c) ≤ c := by omega
        have hz : ((((0 + 0) + 0) + 0) + 0) + (z) ≤ z := by omega
        exact mx_iret X hr hk M dX0_step_248 (by omega) (by omega) ⟨hw, hKM141_⟩
      · have hw := hwf hq
        refine lv_iconst (v := 0) X.1 X.2.1 dX0_step_236 (by decide) ?_
        refine lv_goto (tgt := 248) X.1 X.2.1 dX0_step_237 (by decide) ?_
        exact mx_iret X hr hk M dX0_step_248 (by omega) (by omega) ⟨hw, hKM133_⟩
    by_cases q_9 : (fi μ12 5 0 x11) = 9
    · have hw := hw_9 q_9
      refine lv_tableIn (off := 216) (tgt := 249) X.1 X.2.1 dX0_step_33 (by rw [q_9]; decide) (by rw [q_9]; decide) (by rw [q_9]; rfl) (by decide) ?_
      refine lv_aload_n X.1 X.2.1 dX0_step_249 rfl (lv_at hl 1 rfl) ?_
      refine lv_aload_n X.1 X.2.1 dX0_step_250 rfl (lv_at hl 2 rfl) ?_
      refine lv_aload_n X.1 X.2.1 dX0_step_251 rfl (lv_at hl 0 rfl) ?_
      refine mx_geti (C := RX3) (F := TX3) (N := 7) (ci := 5) X M 1 rfl in_X3 (by decide) rfl (by decide) kw_438 dX0_step_252 hk17 ?_
      obtain ⟨c150, z151, hc150, hz151, hw⟩ := hw
      have hw152 := hw
      clear hw
      refine mx_ci M (mx_runV (n := 2) (As := [.ref a1, .int (fi μ12 5 1 x11)]) (rest := []) X M (c_X0_leaveRedo l T B c150 z151 μ12 o a1 (fi μ12 5 1 x11) _ hw152) (mx_recv (C := RX0) (F := TX0) (N := 7) (ci := 2) X M rfl (by decide) hk15) kw_758 kw_760 kw_19 kw_67 kw_761 (by decide +kernel) rfl rfl ⟨Nat.le_of_ble_eq_true rfl, Nat.le_of_ble_eq_true rfl⟩ rfl hl.1 (Nat.le_of_ble_eq_true rfl) dX0_step_255 ⟨(show (0 + 0) + c150 ≤ c by omega), (show (0 + 0) + z151 ≤ z by omega)⟩) (fun r153 μ149 H locs ⟨hw, hKM149⟩ M => ?_)
      replace hw := hw hKM149
      have hKM149_ := hKM13.tr hKM149
      have hk154 := hKM149.at hk14
      have hk155 := hKM149.at hk15
      have hk156 := hKM149.at hk16
      have hk157 := hKM149.at hk17
      have hc : ((0 + 0) + c150) + (c - c150) ≤ c := by omega
      have hz : ((0 + 0) + z151) + (z - z151) ≤ z := by omega
      exact mx_iret X hr hk M dX0_step_258 (by omega) (by omega) ⟨hw, hKM149_⟩
    by_cases q_10 : (fi μ12 5 0 x11) = 10
    · have hw := hw_10 q_10
      refine lv_tableIn (off := 226) (tgt := 259) X.1 X.2.1 dX0_step_33 (by rw [q_10]; decide) (by rw [q_10]; decide) (by rw [q_10]; rfl) (by decide) ?_
      refine lv_aload_n X.1 X.2.1 dX0_step_259 rfl (lv_at hl 1 rfl) ?_
      refine lv_aload_n X.1 X.2.1 dX0_step_260 rfl (lv_at hl 2 rfl) ?_
      refine lv_aload_n X.1 X.2.1 dX0_step_261 rfl (lv_at hl 0 rfl) ?_
      obtain ⟨c159, z160, hc159, hz160, hw⟩ := hw
      have hw161 := hw
      clear hw
      refine mx_ci M (mx_runV (n := 2) (As := [.ref a1, .ref x11]) (rest := []) X M (c_X0_call l T B c159 z160 μ12 o a1 x11 _ hw161) (mx_recv (C := RX0) (F := TX0) (N := 7) (ci := 2) X M rfl (by decide) hk15) kw_806 kw_808 kw_20 kw_67 kw_809 (by decide +kernel) rfl rfl ⟨Nat.le_of_ble_eq_true rfl, Nat.le_of_ble_eq_true rfl⟩ rfl hl.1 (Nat.le_of_ble_eq_true rfl) dX0_step_262 ⟨(show (0 + 0) + c159 ≤ c by omega), (show (0 + 0) + z160 ≤ z by omega)⟩) (fun r162 μ158 H locs ⟨hw, hKM158⟩ M => ?_)
      replace hw := hw hKM158
      have hKM158_ := hKM13.tr hKM158
      have hk163 := hKM158.at hk14
      have hk164 := hKM158.at hk15
      have hk165 := hKM158.at hk16
      have hk166 := hKM158.at hk17
      have hc : ((0 + 0) + c159) + (c - c159) ≤ c := by omega
      have hz : ((0 + 0) + z160) + (z - z160) ≤ z := by omega
      exact mx_iret X hr hk M dX0_step_265 (by omega) (by omega) ⟨hw, hKM158_⟩
    by_cases q_11 : (fi μ12 5 0 x11) = 11
    · have hw := hw_11 q_11
      refine lv_tableIn (off := 233) (tgt := 266) X.1 X.2.1 dX0_step_33 (by rw [q_11]; decide) (by rw [q_11]; decide) (by rw [q_11]; rfl) (by decide) ?_
      refine lv_aload_n X.1 X.2.1 dX0_step_266 rfl (lv_at hl 1 rfl) ?_
      refine lv_aload_n X.1 X.2.1 dX0_step_267 rfl (lv_at hl 2 rfl) ?_
      refine lv_aload_n X.1 X.2.1 dX0_step_268 rfl (lv_at hl 0 rfl) ?_
      refine mx_geti (C := RX3) (F := TX3) (N := 7) (ci := 5) X M 1 rfl in_X3 (by decide) rfl (by decide) kw_438 dX0_step_269 hk17 ?_
      refine lv_aload_n X.1 X.2.1 dX0_step_272 rfl (lv_at hl 1 rfl) ?_
      obtain ⟨x167, ex167, hw⟩ := hw
      refine mx_getr (C := RX0) (F := TX0) (N := 7) (ci := 2) X M 0 rfl in_X0 (by decide) rfl (by decide) kw_207 dX0_step_273 hk15 ?_
      rw [ex167]
      obtain ⟨hk168, hw⟩ := hw
      refine mx_geti (C := RX7) (F := TX7) (N := 8) (ci := 9) X M 3 rfl in_X7 (by decide) rfl (by decide) kw_162 dX0_step_276 hk168 ?_
      refine lv_i2l X.1 X.2.1 dX0_step_279 rfl ?_
      obtain ⟨c170, z171, hc170, hz171, hw⟩ := hw
      have hw172 := hw
      clear hw
      refine mx_ci M (mx_runV (n := 3) (As := [.ref a1, .int (fi μ12 5 1 x11), .long (Int32.toInt64 (fi μ12 9 3 x167))]) (rest := []) X M (c_X0_become l T B c170 z171 μ12 o a1 (fi μ12 5 1 x11) (Int32.toInt64 (fi μ12 9 3 x167)) _ hw172) (mx_recv (C := RX0) (F := TX0) (N := 7) (ci := 2) X M rfl (by decide) hk15) kw_665 kw_667 kw_12 kw_67 kw_668 (by decide +kernel) rfl rfl ⟨Nat.le_of_ble_eq_true rfl, Nat.le_of_ble_eq_true rfl⟩ rfl hl.1 (Nat.le_of_ble_eq_true rfl) dX0_step_280 ⟨(show (0 + 0) + c170 ≤ c by omega), (show (0 + 0) + z171 ≤ z by omega)⟩) (fun r173 μ169 H locs ⟨hw, hKM169⟩ M => ?_)
      replace hw := hw hKM169
      have hKM169_ := hKM13.tr hKM169
      have hk174 := hKM169.at hk14
      have hk175 := hKM169.at hk15
      have hk176 := hKM169.at hk16
      have hk177 := hKM169.at hk17
      have hk178 := hKM169.at hk168
      have hc : ((0 + 0) + c170) + (c - c170) ≤ c := by omega
      have hz : ((0 + 0) + z171) + (z - z171) ≤ z := by omega
      exact mx_iret X hr hk M dX0_step_283 (by omega) (by omega) ⟨hw, hKM169_⟩
    by_cases q_12 : (fi μ12 5 0 x11) = 12
    · have hw := hw_12 q_12
      refine lv_tableIn (off := 251) (tgt := 284) X.1 X.2.1 dX0_step_33 (by rw [q_12]; decide) (by rw [q_12]; decide) (by rw [q_12]; rfl) (by decide) ?_
      refine lv_aload_n X.1 X.2.1 dX0_step_284 rfl (lv_at hl 1 rfl) ?_
      refine lv_aload_n X.1 X.2.1 dX0_step_285 rfl (lv_at hl 2 rfl) ?_
      refine lv_aload_n X.1 X.2.1 dX0_step_286 rfl (lv_at hl 1 rfl) ?_
      obtain ⟨x179, ex179, hw⟩ := hw
      refine mx_getr (C := RX0) (F := TX0) (N := 7) (ci := 2) X M 0 rfl in_X0 (by decide) rfl (by decide) kw_207 dX0_step_287 hk15 ?_
      rw [ex179]
      refine lv_aload_n X.1 X.2.1 dX0_step_290 rfl (lv_at hl 2 rfl) ?_
      refine lv_aload_n X.1 X.2.1 dX0_step_291 rfl (lv_at hl 0 rfl) ?_
      refine mx_geti (C := RX3) (F := TX3) (N := 7) (ci := 5) X M 1 rfl in_X3 (by decide) rfl (by decide) kw_438 dX0_step_292 hk17 ?_
      obtain ⟨hk183, hw⟩ := hw
      have hw181 := hw
      clear hw
      refine mx_cl M (mx_runV (n := 2) (As := [.ref a1, .int (fi μ12 5 1 x11)]) (rest := [.ref a1, .ref o]) X M (c_X7_read l T B μ12 x179 a1 (fi μ12 5 1 x11) _ hw181) (mx_recv (C := RX7) (F := TX7) (N := 8) (ci := 9) X M rfl (by decide) hk183) kw_669 kw_670 kw_671 kw_68 kw_672 (by decide +kernel) rfl rfl ⟨Nat.le_of_ble_eq_true rfl, Nat.le_of_ble_eq_true rfl⟩ rfl hl.1 (Nat.le_of_ble_eq_true rfl) dX0_step_295 ⟨(show (0 + 0) + 0 ≤ c by omega), (show (0 + 0) + 0 ≤ z by omega)⟩) (fun r182 μ180 H locs ⟨hw, hKM180⟩ M => ?_)
      replace hw := hw hKM180
      have hKM180_ := hKM13.tr hKM180
      have hk184 := hKM180.at hk14
      have hk185 := hKM180.at hk15
      have hk186 := hKM180.at hk16
      have hk187 := hKM180.at hk17
      have hk188 := hKM180.at hk183
      have hc : ((0 + 0) + 0) + (c) ≤ c := by omega
      have hz : ((0 + 0) + 0) + (z) ≤ z := by omega
      have hw190 := hw
      clear hw
      refine mx_ci M (mx_runV (n := 2) (As := [.ref a1, .long r182]) (rest := []) X M (c_X0_cut l T B μ180 o a1 r182 _ hw190) (mx_recv (C := RX0) (F := TX0) (N := 7) (ci := 2) X M rfl (by decide) hk185) kw_811 kw_813 kw_21 kw_67 kw_814 (by decide +kernel) rfl rfl ⟨Nat.le_of_ble_eq_true rfl, Nat.le_of_ble_eq_true rfl⟩ rfl hl.1 (Nat.le_of_ble_eq_true rfl) dX0_step_298 ⟨(show ((0 + 0) + 0) + 0 ≤ c by omega), (show ((0 + 0) + 0) + 0 ≤ z by omega)⟩) (fun r191 μ189 H locs ⟨hw, hKM189⟩ M => ?_)
      replace hw := hw hKM189
      have hKM189_ := hKM180_.tr hKM189
      have hk192 := hKM189.at hk184
      have hk193 := hKM189.at hk185
      have hk194 := hKM189.at hk186
      have hk195 := hKM189.at hk187
      have hk196 := hKM189.at hk188
      have hc : (((0 + 0) + 0) + 0) + (c) ≤ c := by omega
      have hz : (((0 + 0) + 0) + 0) + (z) ≤ z := by omega
      exact mx_iret X hr hk M dX0_step_301 (by omega) (by omega) ⟨hw, hKM189_⟩
    by_cases q_13 : (fi μ12 5 0 x11) = 13
    · have hw := hw_13 q_13
      refine lv_tableIn (off := 269) (tgt := 302) X.1 X.2.1 dX0_step_33 (by rw [q_13]; decide) (by rw [q_13]; decide) (by rw [q_13]; rfl) (by decide) ?_
      refine lv_aload_n X.1 X.2.1 dX0_step_302 rfl (lv_at hl 1 rfl) ?_
      refine lv_aload_n X.1 X.2.1 dX0_step_303 rfl (lv_at hl 1 rfl) ?_
      obtain ⟨x197, ex197, hw⟩ := hw
      refine mx_getr (C := RX0) (F := TX0) (N := 7) (ci := 2) X M 0 rfl in_X0 (by decide) rfl (by decide) kw_207 dX0_step_304 hk15 ?_
      rw [ex197]
      refine lv_aload_n X.1 X.2.1 dX0_step_307 rfl (lv_at hl 2 rfl) ?_
      refine lv_aload_n X.1 X.2.1 dX0_step_308 rfl (lv_at hl 0 rfl) ?_
      refine mx_geti (C := RX3) (F := TX3) (N := 7) (ci := 5) X M 1 rfl in_X3 (by decide) rfl (by decide) kw_438 dX0_step_309 hk17 ?_
      obtain ⟨hk201, hw⟩ := hw
      have hw199 := hw
      clear hw
      refine mx_cl M (mx_runV (n := 2) (As := [.ref a1, .int (fi μ12 5 1 x11)]) (rest := [.ref o]) X M (c_X7_read l T B μ12 x197 a1 (fi μ12 5 1 x11) _ hw199) (mx_recv (C := RX7) (F := TX7) (N := 8) (ci := 9) X M rfl (by decide) hk201) kw_669 kw_670 kw_671 kw_68 kw_672 (by decide +kernel) rfl rfl ⟨Nat.le_of_ble_eq_true rfl, Nat.le_of_ble_eq_true rfl⟩ rfl hl.1 (Nat.le_of_ble_eq_true rfl) dX0_step_312 ⟨(show (0 + 0) + 0 ≤ c by omega), (show (0 + 0) + 0 ≤ z by omega)⟩) (fun r200 μ198 H locs ⟨hw, hKM198⟩ M => ?_)
      replace hw := hw hKM198
      have hKM198_ := hKM13.tr hKM198
      have hk202 := hKM198.at hk14
      have hk203 := hKM198.at hk15
      have hk204 := hKM198.at hk16
      have hk205 := hKM198.at hk17
      have hk206 := hKM198.at hk201
      have hc : ((0 + 0) + 0) + (c) ≤ c := by omega
      have hz : ((0 + 0) + 0) + (z) ≤ z := by omega
      have hw208 := hw
      clear hw
      refine mx_ci M (mx_runV (n := 1) (As := [.long r200]) (rest := []) X M (c_X0_drop l T B μ198 o r200 _ hw208) (mx_recv (C := RX0) (F := TX0) (N := 7) (ci := 2) X M rfl (by decide) hk203) kw_820 kw_822 kw_22 kw_67 kw_823 (by decide +kernel) rfl rfl ⟨Nat.le_of_ble_eq_true rfl, Nat.le_of_ble_eq_true rfl⟩ rfl hl.1 (Nat.le_of_ble_eq_true rfl) dX0_step_315 ⟨(show ((0 + 0) + 0) + 0 ≤ c by omega), (show ((0 + 0) + 0) + 0 ≤ z by omega)⟩) (fun r209 μ207 H locs ⟨hw, hKM207⟩ M => ?_)
      replace hw := hw hKM207
      have hKM207_ := hKM198_.tr hKM207
      have hk210 := hKM207.at hk202
      have hk211 := hKM207.at hk203
      have hk212 := hKM207.at hk204
      have hk213 := hKM207.at hk205
      have hk214 := hKM207.at hk206
      have hc : (((0 + 0) + 0) + 0) + (c) ≤ c := by omega
      have hz : (((0 + 0) + 0) + 0) + (z) ≤ z := by omega
      exact mx_iret X hr hk M dX0_step_318 (by omega) (by omega) ⟨hw, hKM207_⟩
    by_cases q_14 : (fi μ12 5 0 x11) = 14
    · have hw := hw_14 q_14
      refine lv_tableIn (off := 286) (tgt := 319) X.1 X.2.1 dX0_step_33 (by rw [q_14]; decide) (by rw [q_14]; decide) (by rw [q_14]; rfl) (by decide) ?_
      refine lv_aload_n X.1 X.2.1 dX0_step_319 rfl (lv_at hl 1 rfl) ?_
      refine lv_aload_n X.1 X.2.1 dX0_step_320 rfl (lv_at hl 2 rfl) ?_
      obtain ⟨c216, z217, hc216, hz217, hw⟩ := hw
      have hw218 := hw
      clear hw
      refine mx_ci M (mx_runV (n := 1) (As := [.ref a1]) (rest := []) X M (c_X0_exit l T B c216 z217 μ12 o a1 _ hw218) (mx_recv (C := RX0) (F := TX0) (N := 7) (ci := 2) X M rfl (by decide) hk15) kw_828 kw_830 kw_23 kw_67 kw_831 (by decide +kernel) rfl rfl ⟨Nat.le_of_ble_eq_true rfl, Nat.le_of_ble_eq_true rfl⟩ rfl hl.1 (Nat.le_of_ble_eq_true rfl) dX0_step_321 ⟨(show (0 + 0) + c216 ≤ c by omega), (show (0 + 0) + z217 ≤ z by omega)⟩) (fun r219 μ215 H locs ⟨hw, hKM215⟩ M => ?_)
      replace hw := hw hKM215
      have hKM215_ := hKM13.tr hKM215
      have hk220 := hKM215.at hk14
      have hk221 := hKM215.at hk15
      have hk222 := hKM215.at hk16
      have hk223 := hKM215.at hk17
      have hc : ((0 + 0) + c216) + (c - c216) ≤ c := by omega
      have hz : ((0 + 0) + z217) + (z - z217) ≤ z := by omega
      exact mx_iret X hr hk M dX0_step_324 (by omega) (by omega) ⟨hw, hKM215_⟩
    have hw := hw_d q_0 q_1 q_2 q_3 q_4 q_5 q_6 q_7 q_8 q_9 q_10 q_11 q_12 q_13 q_14
    have g_0 := lv_neT q_0 (by decide : (0 : Int32).toInt = 0)
    have g_1 := lv_neT q_1 (by decide : (1 : Int32).toInt = 1)
    have g_2 := lv_neT q_2 (by decide : (2 : Int32).toInt = 2)
    have g_3 := lv_neT q_3 (by decide : (3 : Int32).toInt = 3)
    have g_4 := lv_neT q_4 (by decide : (4 : Int32).toInt = 4)
    have g_5 := lv_neT q_5 (by decide : (5 : Int32).toInt = 5)
    have g_6 := lv_neT q_6 (by decide : (6 : Int32).toInt = 6)
    have g_7 := lv_neT q_7 (by decide : (7 : Int32).toInt = 7)
    have g_8 := lv_neT q_8 (by decide : (8 : Int32).toInt = 8)
    have g_9 := lv_neT q_9 (by decide : (9 : Int32).toInt = 9)
    have g_10 := lv_neT q_10 (by decide : (10 : Int32).toInt = 10)
    have g_11 := lv_neT q_11 (by decide : (11 : Int32).toInt = 11)
    have g_12 := lv_neT q_12 (by decide : (12 : Int32).toInt = 12)
    have g_13 := lv_neT q_13 (by decide : (13 : Int32).toInt = 13)
    have g_14 := lv_neT q_14 (by decide : (14 : Int32).toInt = 14)
    refine lv_tableOut (tgt := 325) X.1 X.2.1 dX0_step_33 (by omega) (by decide) ?_
    refine lv_bipush (v := 7) X.1 X.2.1 dX0_step_325 (by decide) ?_
    exact mx_iret X hr hk M dX0_step_327 (by omega) (by omega) ⟨hw, hKM13⟩
