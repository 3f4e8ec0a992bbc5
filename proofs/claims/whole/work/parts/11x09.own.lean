abbrev rm_J6_stringSize_0f7a4 : Room := { frames := 0, cells := 0, slots := 0, locals := 0 }
def wp_J6_stringSize_0f7a4_16 (post : Int32 → Mem → Prop) : Nat → Mem → Int32 → Int32 → Int32 → Int32 → Prop
  | 0, _, _, _, _, _ => False
  | n + 1, μ, x0, x1, x2, x3 =>
    (10 ≤ x3 →
     post ((10 : Int32) + x1) μ) ∧ (¬ 10 ≤ x3 →
     (x0 ≤ x2 →
      ∀ v1 : Int32, v1 = ((10 : Int32) * x2) →
      ∀ v2 : Int32, v2 = x3 + 1 →
      wp_J6_stringSize_0f7a4_16 post n μ x0 x1 v1 v2) ∧ (¬ x0 ≤ x2 →
      post (x3 + x1) μ))
def wp_J6_stringSize_0f7a4 (μ : Mem) (a1 : Int32) (post : Int32 → Mem → Prop) : Prop :=
  (a1 < 0 →
   ∃ n3, wp_J6_stringSize_0f7a4_16 post n3 μ a1 1 (-10) 1) ∧ (¬ a1 < 0 →
   ∀ v4 : Int32, v4 = (-a1) →
   ∃ n5, wp_J6_stringSize_0f7a4_16 post n5 μ v4 0 (-10) 1)
set_option maxRecDepth 100000 in
set_option maxHeartbeats 4000000 in
theorem b_J6_stringSize_0f7a4_16 {T : Tb} {B : Nat} {p : Program} {l : Launch} {e : Env} {s : State} {m : MethodId} {args : Array Value} {below : List Frame} {meth : Method} {c0 : Code} {post : Int32 → Mem → Prop} {μ0 : Mem} (X : CX T B p m c0 cJ6_stringSize_0f7a4 4 s args RJ6) (hr : meth.sig.returnType = (some .int)) (hk : meth.locks = false) : ∀ (n : Nat) (μ : Mem) (x0 : Int32) (x1 : Int32) (x2 : Int32) (x3 : Int32) (H : Heap) (locs : List Loc) (ls : Array Slot), KM μ0 μ → wp_J6_stringSize_0f7a4_16 post n μ x0 x1 x2 x3 → MG (Rl T B) B s μ H locs → lv_has ls 4 [(0, .int x0), (1, .int x1), (2, .int x2), (3, .int x3)] → W p l e rm_J6_stringSize_0f7a4 s m args below meth c0 H locs 0 0 (MQ below (va_Qi (fun r9 μ9 => post r9 μ9 ∧ KM μ0 μ9) (Bm (Rl T B)) (Ai B)) args s 0 0 (Ai B)) (F0 m 16 ls []) := by
  intro n
  induction n with
  | zero =>
    intro μ x0 x1 x2 x3 H locs ls hKM hw
    exact hw.elim
  | succ n ih =>
    intro μ x0 x1 x2 x3 H locs ls hKM hw M hl
    rw [wp_J6_stringSize_0f7a4_16] at hw
    refine lv_iload_n X.1 X.2.1 dJ6_stringSize_0f7a4_16 rfl (lv_at hl 3 rfl) ?_
    refine lv_bipush (v := 10) X.1 X.2.1 dJ6_stringSize_0f7a4_17 (by decide) ?_
    obtain ⟨hwt, hwf⟩ := hw
    refine lv_icmp_ge (tgt := 42) X.1 X.2.1 dJ6_stringSize_0f7a4_19 (by decide) (fun hq => ?_) (fun hq => ?_)
    · have hw := hwt hq
      refine lv_bipush (v := 10) X.1 X.2.1 dJ6_stringSize_0f7a4_42 (by decide) ?_
      refine lv_iload_n X.1 X.2.1 dJ6_stringSize_0f7a4_44 rfl (lv_at hl 1 rfl) ?_
      refine lv_iadd X.1 X.2.1 dJ6_stringSize_0f7a4_45 ?_
      exact mx_iret X hr hk M dJ6_stringSize_0f7a4_46 (by decide) (by decide) ⟨hw, hKM⟩
    · have hw := hwf hq
      refine lv_iload_n X.1 X.2.1 dJ6_stringSize_0f7a4_22 rfl (lv_at hl 0 rfl) ?_
      refine lv_iload_n X.1 X.2.1 dJ6_stringSize_0f7a4_23 rfl (lv_at hl 2 rfl) ?_
      obtain ⟨hwt, hwf⟩ := hw
      refine lv_icmp_le (tgt := 31) X.1 X.2.1 dJ6_stringSize_0f7a4_24 (by decide) (fun hq => ?_) (fun hq => ?_)
      · have hw := hwt hq
        refine lv_bipush (v := 10) X.1 X.2.1 dJ6_stringSize_0f7a4_31 (by decide) ?_
        refine lv_iload_n X.1 X.2.1 dJ6_stringSize_0f7a4_33 rfl (lv_at hl 2 rfl) ?_
        refine lv_imul X.1 X.2.1 dJ6_stringSize_0f7a4_34 ?_
        refine lv_topi (fun v1 ev1 => ?_)
        replace hw := hw v1 ev1
        refine lv_istore_n (lv' := [(2, .int v1), (0, .int x0), (1, .int x1), (3, .int x3)]) X.1 X.2.1 dJ6_stringSize_0f7a4_35 rfl hl (by decide) rfl (fun ls hl => ?_)
        obtain ⟨v2, ev2⟩ : ∃ y : Int32, y = x3 + 1 := ⟨_, rfl⟩
        replace hw := hw v2 ev2
        refine lv_iinc (v := v2) (lv' := [(3, .int v2), (2, .int v1), (0, .int x0), (1, .int x1)]) X.1 X.2.1 dJ6_stringSize_0f7a4_36 hl (k := 3) rfl (by rw [ev2]; rfl) (by decide) rfl (fun ls hl => ?_)
        refine lv_goto (tgt := 16) X.1 X.2.1 dJ6_stringSize_0f7a4_39 (by decide) ?_
        exact ih μ x0 x1 v1 v2 _ _ _ hKM hw M (lv_sub hl [2, 3, 1, 0] rfl)
      · have hw := hwf hq
        refine lv_iload_n X.1 X.2.1 dJ6_stringSize_0f7a4_27 rfl (lv_at hl 3 rfl) ?_
        refine lv_iload_n X.1 X.2.1 dJ6_stringSize_0f7a4_28 rfl (lv_at hl 1 rfl) ?_
        refine lv_iadd X.1 X.2.1 dJ6_stringSize_0f7a4_29 ?_
        exact mx_iret X hr hk M dJ6_stringSize_0f7a4_30 (by decide) (by decide) ⟨hw, hKM⟩
set_option maxRecDepth 100000 in
set_option maxHeartbeats 4000000 in
theorem c_J6_stringSize_0f7a4 (l : Launch) (T : Tb) (B : Nat) (μ : Mem) (a1 : Int32) (post : Int32 → Mem → Prop) (hw : wp_J6_stringSize_0f7a4 μ a1 post) : Met l yJ6_stringSize_0f7a4 (.code yJ6_stringSize_0f7a4 cJ6_stringSize_0f7a4 4 (some .int) :: G) rm_J6_stringSize_0f7a4 (Pm (Rl T B) T B μ [.int a1]) (va_Qi (fun r9 μ9 => post r9 μ9 ∧ KM μ μ9) (Bm (Rl T B)) (Ai B)) 0 0 (Ai B) := by
  refine mx_of RJ6 rfl (by decide) (Nat.le_of_ble_eq_true rfl) ?_
  intro p e s m below meth c0 X hr hk hnm M ls hl
  have hl : lv_has ls 4 [(0, .int a1)] := hl
  unfold wp_J6_stringSize_0f7a4 at hw
  have hKM : KM μ μ := KM.rf μ
  refine lv_iconst (v := 1) X.1 X.2.1 dJ6_stringSize_0f7a4_0 (by decide) ?_
  refine lv_istore_n (lv' := [(1, .int 1), (0, .int a1)]) X.1 X.2.1 dJ6_stringSize_0f7a4_1 rfl hl (by decide) rfl (fun ls hl => ?_)
  refine lv_iload_n X.1 X.2.1 dJ6_stringSize_0f7a4_2 rfl (lv_at hl 1 rfl) ?_
  obtain ⟨hwt, hwf⟩ := hw
  refine lv_if_lt (tgt := 11) X.1 X.2.1 dJ6_stringSize_0f7a4_3 (by decide) (fun hq => ?_) (fun hq => ?_)
  · have hw := hwt hq
    refine lv_bipush (v := (-10)) X.1 X.2.1 dJ6_stringSize_0f7a4_11 (by decide) ?_
    refine lv_istore_n (lv' := [(2, .int (-10)), (1, .int 1), (0, .int a1)]) X.1 X.2.1 dJ6_stringSize_0f7a4_13 rfl hl (by decide) rfl (fun ls hl => ?_)
    refine lv_iconst (v := 1) X.1 X.2.1 dJ6_stringSize_0f7a4_14 (by decide) ?_
    refine lv_istore_n (lv' := [(3, .int 1), (2, .int (-10)), (1, .int 1), (0, .int a1)]) X.1 X.2.1 dJ6_stringSize_0f7a4_15 rfl hl (by decide) rfl (fun ls hl => ?_)
    obtain ⟨n3, hw⟩ := hw
    exact b_J6_stringSize_0f7a4_16 X hr hk n3 μ a1 1 (-10) 1 _ _ _ hKM hw M (lv_sub hl [3, 2, 1, 0] rfl)
  · have hw := hwf hq
    refine lv_iconst (v := 0) X.1 X.2.1 dJ6_stringSize_0f7a4_6 (by decide) ?_
    refine lv_istore_n (lv' := [(1, .int 0), (0, .int a1)]) X.1 X.2.1 dJ6_stringSize_0f7a4_7 rfl hl (by decide) rfl (fun ls hl => ?_)
    refine lv_iload_n X.1 X.2.1 dJ6_stringSize_0f7a4_8 rfl (lv_at hl 1 rfl) ?_
    refine lv_ineg X.1 X.2.1 dJ6_stringSize_0f7a4_9 ?_
    refine lv_topi (fun v4 ev4 => ?_)
    replace hw := hw v4 ev4
    refine lv_istore_n (lv' := [(0, .int v4), (1, .int 0)]) X.1 X.2.1 dJ6_stringSize_0f7a4_10 rfl hl (by decide) rfl (fun ls hl => ?_)
    refine lv_bipush (v := (-10)) X.1 X.2.1 dJ6_stringSize_0f7a4_11 (by decide) ?_
    refine lv_istore_n (lv' := [(2, .int (-10)), (0, .int v4), (1, .int 0)]) X.1 X.2.1 dJ6_stringSize_0f7a4_13 rfl hl (by decide) rfl (fun ls hl => ?_)
    refine lv_iconst (v := 1) X.1 X.2.1 dJ6_stringSize_0f7a4_14 (by decide) ?_
    refine lv_istore_n (lv' := [(3, .int 1), (2, .int (-10)), (0, .int v4), (1, .int 0)]) X.1 X.2.1 dJ6_stringSize_0f7a4_15 rfl hl (by decide) rfl (fun ls hl => ?_)
    obtain ⟨n5, hw⟩ := hw
    exact b_J6_stringSize_0f7a4_16 X hr hk n5 μ v4 0 (-10) 1 _ _ _ hKM hw M (lv_sub hl [2, 3, 1, 0] rfl)

abbrev rm_J6_getChars_ba4f3 : Room := { frames := 0, cells := 0, slots := 0, locals := 0 }
def wp_J6_getChars_ba4f3_22 (post : Int32 → Mem → Prop) : Nat → Mem → Int32 → Nat → Int32 → Int32 → Prop
  | 0, _, _, _, _, _ => False
  | n + 1, μ, x0, x2, x5, x6 =>
    ((-100) < x0 →
     ∀ v1 : Int32, v1 = x5 + (-1) →
     ∀ q2, kd μ q2 = 108 →
     vp_in (-x0) 100 ∧
     kd μ x2 = 101 ∧
     vp_in v1 (al μ x2) ∧
     ∀ μ5 : Mem, μ5 = sai μ x2 (Int32.toNatClampNeg v1) (vp_nar .byte (dOnes (Int32.toNatClampNeg (-x0)))) →
     ((-9) ≤ x0 →
      (x6 = 0 →
       post v1 μ5) ∧ (¬ x6 = 0 →
       ∀ v8 : Int32, v8 = v1 + (-1) →
       vp_in v8 (al μ5 x2) ∧
       ∀ μ9 : Mem, μ9 = sai μ5 x2 (Int32.toNatClampNeg v8) (vp_nar .byte 45) →
       post v8 μ9)) ∧ (¬ (-9) ≤ x0 →
      ∀ v12 : Int32, v12 = v1 + (-1) →
      ∀ q13, kd μ5 q13 = 107 →
      vp_in (-x0) 100 ∧
      vp_in v12 (al μ5 x2) ∧
      ∀ μ15 : Mem, μ15 = sai μ5 x2 (Int32.toNatClampNeg v12) (vp_nar .byte (dTens (Int32.toNatClampNeg (-x0)))) →
      (x6 = 0 →
       post v12 μ15) ∧ (¬ x6 = 0 →
       ∀ v18 : Int32, v18 = v12 + (-1) →
       vp_in v18 (al μ15 x2) ∧
       ∀ μ19 : Mem, μ19 = sai μ15 x2 (Int32.toNatClampNeg v18) (vp_nar .byte 45) →
       post v18 μ19))) ∧ (¬ (-100) < x0 →
     ¬ (100 : Int32) = 0 ∧
     ∀ v22 : Int32, v22 = (x0 / (100 : Int32)) →
     ∀ v23 : Int32, v23 = ((v22 * 100) - x0) →
     ∀ v24 : Int32, v24 = x5 + (-1) →
     ∀ q25, kd μ q25 = 108 →
     vp_in v23 100 ∧
     kd μ x2 = 101 ∧
     vp_in v24 (al μ x2) ∧
     ∀ μ28 : Mem, μ28 = sai μ x2 (Int32.toNatClampNeg v24) (vp_nar .byte (dOnes (Int32.toNatClampNeg v23))) →
     ∀ v31 : Int32, v31 = v24 + (-1) →
     ∀ q32, kd μ28 q32 = 107 →
     vp_in v23 100 ∧
     vp_in v31 (al μ28 x2) ∧
     ∀ μ34 : Mem, μ34 = sai μ28 x2 (Int32.toNatClampNeg v31) (vp_nar .byte (dTens (Int32.toNatClampNeg v23))) →
     wp_J6_getChars_ba4f3_22 post n μ34 v22 x2 v31 x6)
def wp_J6_getChars_ba4f3 (μ : Mem) (a1 : Int32) (a2 : Int32) (a3 : Nat) (post : Int32 → Mem → Prop) : Prop :=
  (0 ≤ a1 →
   ((0 : Int32) = 0 →
    ∀ v38 : Int32, v38 = (-a1) →
    ∃ n39, wp_J6_getChars_ba4f3_22 post n39 μ v38 a3 a2 0) ∧ (¬ (0 : Int32) = 0 →
    ∃ n37, wp_J6_getChars_ba4f3_22 post n37 μ a1 a3 a2 0)) ∧ (¬ 0 ≤ a1 →
   ((1 : Int32) = 0 →
    ∀ v41 : Int32, v41 = (-a1) →
    ∃ n42, wp_J6_getChars_ba4f3_22 post n42 μ v41 a3 a2 1) ∧ (¬ (1 : Int32) = 0 →
    ∃ n40, wp_J6_getChars_ba4f3_22 post n40 μ a1 a3 a2 1))
set_option maxRecDepth 100000 in
set_option maxHeartbeats 4000000 in
theorem b_J6_getChars_ba4f3_22 {T : Tb} {B : Nat} {p : Program} {l : Launch} {e : Env} {s : State} {m : MethodId} {args : Array Value} {below : List Frame} {meth : Method} {c0 : Code} {post : Int32 → Mem → Prop} {μ0 : Mem} (X : CX T B p m c0 cJ6_getChars_ba4f3 7 s args RJ6) (hr : meth.sig.returnType = (some .int)) (hk : meth.locks = false) : ∀ (n : Nat) (μ : Mem) (x0 : Int32) (x2 : Nat) (x5 : Int32) (x6 : Int32) (H : Heap) (locs : List Loc) (ls : Array Slot), KM μ0 μ → wp_J6_getChars_ba4f3_22 post n μ x0 x2 x5 x6 → MG (Rl T B) B s μ H locs → lv_has ls 7 [(0, .int x0), (2, .ref x2), (5, .int x5), (6, .int x6)] → W p l e rm_J6_getChars_ba4f3 s m args below meth c0 H locs 0 0 (MQ below (va_Qi (fun r9 μ9 => post r9 μ9 ∧ KM μ0 μ9) (Bm (Rl T B)) (Ai B)) args s 0 0 (Ai B)) (F0 m 22 ls []) := by
  intro n
  induction n with
  | zero =>
    intro μ x0 x2 x5 x6 H locs ls hKM hw
    exact hw.elim
  | succ n ih =>
    intro μ x0 x2 x5 x6 H locs ls hKM hw M hl
    rw [wp_J6_getChars_ba4f3_22] at hw
    refine lv_iload_n X.1 X.2.1 dJ6_getChars_ba4f3_22 rfl (lv_at hl 0 rfl) ?_
    refine lv_bipush (v := (-100)) X.1 X.2.1 dJ6_getChars_ba4f3_23 (by decide) ?_
    obtain ⟨hwt, hwf⟩ := hw
    refine lv_icmp_gt (tgt := 72) X.1 X.2.1 dJ6_getChars_ba4f3_25 (by decide) (fun hq => ?_) (fun hq => ?_)
    · have hw := hwt hq
      refine lv_aload_n X.1 X.2.1 dJ6_getChars_ba4f3_72 rfl (lv_at hl 1 rfl) ?_
      obtain ⟨v1, ev1⟩ : ∃ y : Int32, y = x5 + (-1) := ⟨_, rfl⟩
      replace hw := hw v1 ev1
      refine lv_iinc (v := v1) (lv' := [(5, .int v1), (0, .int x0), (2, .ref x2), (6, .int x6)]) X.1 X.2.1 dJ6_getChars_ba4f3_73 hl (k := 2) rfl (by rw [ev1]; rfl) (by decide) rfl (fun ls hl => ?_)
      refine lv_iload X.1 X.2.1 dJ6_getChars_ba4f3_76 (lv_at hl 0 rfl) ?_
      refine my_stO X M kw_1052 dJ6_getChars_ba4f3_78 (fun q2 hk3 => ?_)
      replace hw := hw q2 hk3
      refine lv_iload_n X.1 X.2.1 dJ6_getChars_ba4f3_81 rfl (lv_at hl 1 rfl) ?_
      refine lv_ineg X.1 X.2.1 dJ6_getChars_ba4f3_82 ?_
      obtain ⟨hi, hw⟩ := hw
      refine my_tlO X M dJ6_getChars_ba4f3_83 hk3 hi ?_
      obtain ⟨hk4, hw⟩ := hw
      obtain ⟨hi, hw⟩ := hw
      refine my_bst X M dJ6_getChars_ba4f3_84 hk4 hi (fun μ5 H locs eμ5 M => ?_)
      replace hw := hw μ5 eμ5
      have hKM6 : KM μ0 μ5 := by rw [eμ5]; exact hKM
      have hk7 : kd μ5 x2 = 101 := by rw [eμ5]; exact hk4
      refine lv_iload_n X.1 X.2.1 dJ6_getChars_ba4f3_85 rfl (lv_at hl 1 rfl) ?_
      refine lv_bipush (v := (-9)) X.1 X.2.1 dJ6_getChars_ba4f3_86 (by decide) ?_
      obtain ⟨hwt, hwf⟩ := hw
      refine lv_icmp_ge (tgt := 104) X.1 X.2.1 dJ6_getChars_ba4f3_88 (by decide) (fun hq => ?_) (fun hq => ?_)
      · have hw := hwt hq
        refine lv_iload X.1 X.2.1 dJ6_getChars_ba4f3_104 (lv_at hl 3 rfl) ?_
        obtain ⟨hwt, hwf⟩ := hw
        refine lv_if_eq (tgt := 118) X.1 X.2.1 dJ6_getChars_ba4f3_106 (by decide) (fun hq => ?_) (fun hq => ?_)
        · have hw := hwt hq
          refine lv_iload X.1 X.2.1 dJ6_getChars_ba4f3_118 (lv_at hl 0 rfl) ?_
          exact mx_iret X hr hk M dJ6_getChars_ba4f3_120 (by decide) (by decide) ⟨hw, hKM6⟩
        · have hw := hwf hq
          refine lv_aload_n X.1 X.2.1 dJ6_getChars_ba4f3_109 rfl (lv_at hl 2 rfl) ?_
          obtain ⟨v8, ev8⟩ : ∃ y : Int32, y = v1 + (-1) := ⟨_, rfl⟩
          replace hw := hw v8 ev8
          refine lv_iinc (v := v8) (lv' := [(5, .int v8), (0, .int x0), (2, .ref x2), (6, .int x6)]) X.1 X.2.1 dJ6_getChars_ba4f3_110 hl (k := 0) rfl (by rw [ev8]; rfl) (by decide) rfl (fun ls hl => ?_)
          refine lv_iload X.1 X.2.1 dJ6_getChars_ba4f3_113 (lv_at hl 0 rfl) ?_
          refine lv_bipush (v := 45) X.1 X.2.1 dJ6_getChars_ba4f3_115 (by decide) ?_
          obtain ⟨hi, hw⟩ := hw
          refine my_bst X M dJ6_getChars_ba4f3_117 hk7 hi (fun μ9 H locs eμ9 M => ?_)
          replace hw := hw μ9 eμ9
          have hKM10 : KM μ0 μ9 := by rw [eμ9]; exact hKM6
          have hk11 : kd μ9 x2 = 101 := by rw [eμ9]; exact hk7
          refine lv_iload X.1 X.2.1 dJ6_getChars_ba4f3_118 (lv_at hl 0 rfl) ?_
          exact mx_iret X hr hk M dJ6_getChars_ba4f3_120 (by decide) (by decide) ⟨hw, hKM10⟩
      · have hw := hwf hq
        refine lv_aload_n X.1 X.2.1 dJ6_getChars_ba4f3_91 rfl (lv_at hl 2 rfl) ?_
        obtain ⟨v12, ev12⟩ : ∃ y : Int32, y = v1 + (-1) := ⟨_, rfl⟩
        replace hw := hw v12 ev12
        refine lv_iinc (v := v12) (lv' := [(5, .int v12), (0, .int x0), (2, .ref x2), (6, .int x6)]) X.1 X.2.1 dJ6_getChars_ba4f3_92 hl (k := 0) rfl (by rw [ev12]; rfl) (by decide) rfl (fun ls hl => ?_)
        refine lv_iload X.1 X.2.1 dJ6_getChars_ba4f3_95 (lv_at hl 0 rfl) ?_
        refine my_stT X M kw_1054 dJ6_getChars_ba4f3_97 (fun q13 hk14 => ?_)
        replace hw := hw q13 hk14
        refine lv_iload_n X.1 X.2.1 dJ6_getChars_ba4f3_100 rfl (lv_at hl 1 rfl) ?_
        refine lv_ineg X.1 X.2.1 dJ6_getChars_ba4f3_101 ?_
        obtain ⟨hi, hw⟩ := hw
        refine my_tlT X M dJ6_getChars_ba4f3_102 hk14 hi ?_
        obtain ⟨hi, hw⟩ := hw
        refine my_bst X M dJ6_getChars_ba4f3_103 hk7 hi (fun μ15 H locs eμ15 M => ?_)
        replace hw := hw μ15 eμ15
        have hKM16 : KM μ0 μ15 := by rw [eμ15]; exact hKM6
        have hk17 : kd μ15 x2 = 101 := by rw [eμ15]; exact hk7
        refine lv_iload X.1 X.2.1 dJ6_getChars_ba4f3_104 (lv_at hl 3 rfl) ?_
        obtain ⟨hwt, hwf⟩ := hw
        refine lv_if_eq (tgt := 118) X.1 X.2.1 dJ6_getChars_ba4f3_106 (by decide) (fun hq => ?_) (fun hq => ?_)
        · have hw := hwt hq
          refine lv_iload X.1 X.2.1 dJ6_getChars_ba4f3_118 (lv_at hl 0 rfl) ?_
          exact mx_iret X hr hk M dJ6_getChars_ba4f3_120 (by decide) (by decide) ⟨hw, hKM16⟩
        · have hw := hwf hq
          refine lv_aload_n X.1 X.2.1 dJ6_getChars_ba4f3_109 rfl (lv_at hl 2 rfl) ?_
          obtain ⟨v18, ev18⟩ : ∃ y : Int32, y = v12 + (-1) := ⟨_, rfl⟩
          replace hw := hw v18 ev18
          refine lv_iinc (v := v18) (lv' := [(5, .int v18), (0, .int x0), (2, .ref x2), (6, .int x6)]) X.1 X.2.1 dJ6_getChars_ba4f3_110 hl (k := 0) rfl (by rw [ev18]; rfl) (by decide) rfl (fun ls hl => ?_)
          refine lv_iload X.1 X.2.1 dJ6_getChars_ba4f3_113 (lv_at hl 0 rfl) ?_
          refine lv_bipush (v := 45) X.1 X.2.1 dJ6_getChars_ba4f3_115 (by decide) ?_
          obtain ⟨hi, hw⟩ := hw
          refine my_bst X M dJ6_getChars_ba4f3_117 hk17 hi (fun μ19 H locs eμ19 M => ?_)
          replace hw := hw μ19 eμ19
          have hKM20 : KM μ0 μ19 := by rw [eμ19]; exact hKM16
          have hk21 : kd μ19 x2 = 101 := by rw [eμ19]; exact hk17
          refine lv_iload X.1 X.2.1 dJ6_getChars_ba4f3_118 (lv_at hl 0 rfl) ?_
          exact mx_iret X hr hk M dJ6_getChars_ba4f3_120 (by decide) (by decide) ⟨hw, hKM20⟩
    · have hw := hwf hq
      refine lv_iload_n X.1 X.2.1 dJ6_getChars_ba4f3_28 rfl (lv_at hl 0 rfl) ?_
      refine lv_bipush (v := 100) X.1 X.2.1 dJ6_getChars_ba4f3_29 (by decide) ?_
      obtain ⟨hne, hw⟩ := hw
      refine lv_idiv X.1 X.2.1 dJ6_getChars_ba4f3_31 hne ?_
      refine lv_topi (fun v22 ev22 => ?_)
      replace hw := hw v22 ev22
      refine lv_istore_n (lv' := [(3, .int v22), (0, .int x0), (2, .ref x2), (5, .int x5), (6, .int x6)]) X.1 X.2.1 dJ6_getChars_ba4f3_32 rfl hl (by decide) rfl (fun ls hl => ?_)
      refine lv_iload_n X.1 X.2.1 dJ6_getChars_ba4f3_33 rfl (lv_at hl 0 rfl) ?_
      refine lv_bipush (v := 100) X.1 X.2.1 dJ6_getChars_ba4f3_34 (by decide) ?_
      refine lv_imul X.1 X.2.1 dJ6_getChars_ba4f3_36 ?_
      refine lv_iload_n X.1 X.2.1 dJ6_getChars_ba4f3_37 rfl (lv_at hl 1 rfl) ?_
      refine lv_isub X.1 X.2.1 dJ6_getChars_ba4f3_38 ?_
      refine lv_topi (fun v23 ev23 => ?_)
      replace hw := hw v23 ev23
      refine lv_istore (lv' := [(4, .int v23), (3, .int v22), (0, .int x0), (2, .ref x2), (5, .int x5), (6, .int x6)]) X.1 X.2.1 dJ6_getChars_ba4f3_39 hl (by decide) rfl (fun ls hl => ?_)
      refine lv_iload_n X.1 X.2.1 dJ6_getChars_ba4f3_41 rfl (lv_at hl 1 rfl) ?_
      refine lv_istore_n (lv' := [(0, .int v22), (4, .int v23), (3, .int v22), (2, .ref x2), (5, .int x5), (6, .int x6)]) X.1 X.2.1 dJ6_getChars_ba4f3_42 rfl hl (by decide) rfl (fun ls hl => ?_)
      refine lv_aload_n X.1 X.2.1 dJ6_getChars_ba4f3_43 rfl (lv_at hl 3 rfl) ?_
      obtain ⟨v24, ev24⟩ : ∃ y : Int32, y = x5 + (-1) := ⟨_, rfl⟩
      replace hw := hw v24 ev24
      refine lv_iinc (v := v24) (lv' := [(5, .int v24), (0, .int v22), (4, .int v23), (3, .int v22), (2, .ref x2), (6, .int x6)]) X.1 X.2.1 dJ6_getChars_ba4f3_44 hl (k := 4) rfl (by rw [ev24]; rfl) (by decide) rfl (fun ls hl => ?_)
      refine lv_iload X.1 X.2.1 dJ6_getChars_ba4f3_47 (lv_at hl 0 rfl) ?_
      refine my_stO X M kw_1052 dJ6_getChars_ba4f3_49 (fun q25 hk26 => ?_)
      replace hw := hw q25 hk26
      refine lv_iload X.1 X.2.1 dJ6_getChars_ba4f3_52 (lv_at hl 2 rfl) ?_
      obtain ⟨hi, hw⟩ := hw
      refine my_tlO X M dJ6_getChars_ba4f3_54 hk26 hi ?_
      obtain ⟨hk27, hw⟩ := hw
      obtain ⟨hi, hw⟩ := hw
      refine my_bst X M dJ6_getChars_ba4f3_55 hk27 hi (fun μ28 H locs eμ28 M => ?_)
      replace hw := hw μ28 eμ28
      have hKM29 : KM μ0 μ28 := by rw [eμ28]; exact hKM
      have hk30 : kd μ28 x2 = 101 := by rw [eμ28]; exact hk27
      refine lv_aload_n X.1 X.2.1 dJ6_getChars_ba4f3_56 rfl (lv_at hl 4 rfl) ?_
      obtain ⟨v31, ev31⟩ : ∃ y : Int32, y = v24 + (-1) := ⟨_, rfl⟩
      replace hw := hw v31 ev31
      refine lv_iinc (v := v31) (lv' := [(5, .int v31), (0, .int v22), (4, .int v23), (3, .int v22), (2, .ref x2), (6, .int x6)]) X.1 X.2.1 dJ6_getChars_ba4f3_57 hl (k := 0) rfl (by rw [ev31]; rfl) (by decide) rfl (fun ls hl => ?_)
      refine lv_iload X.1 X.2.1 dJ6_getChars_ba4f3_60 (lv_at hl 0 rfl) ?_
      refine my_stT X M kw_1054 dJ6_getChars_ba4f3_62 (fun q32 hk33 => ?_)
      replace hw := hw q32 hk33
      refine lv_iload X.1 X.2.1 dJ6_getChars_ba4f3_65 (lv_at hl 2 rfl) ?_
      obtain ⟨hi, hw⟩ := hw
      refine my_tlT X M dJ6_getChars_ba4f3_67 hk33 hi ?_
      obtain ⟨hi, hw⟩ := hw
      refine my_bst X M dJ6_getChars_ba4f3_68 hk30 hi (fun μ34 H locs eμ34 M => ?_)
      replace hw := hw μ34 eμ34
      have hKM35 : KM μ0 μ34 := by rw [eμ34]; exact hKM29
      have hk36 : kd μ34 x2 = 101 := by rw [eμ34]; exact hk30
      refine lv_goto (tgt := 22) X.1 X.2.1 dJ6_getChars_ba4f3_69 (by decide) ?_
      exact ih μ34 v22 x2 v31 x6 _ _ _ hKM35 hw M (lv_sub hl [1, 4, 0, 5] rfl)
set_option maxRecDepth 100000 in
set_option maxHeartbeats 4000000 in
theorem c_J6_getChars_ba4f3 (l : Launch) (T : Tb) (B : Nat) (μ : Mem) (a1 : Int32) (a2 : Int32) (a3 : Nat) (post : Int32 → Mem → Prop) (hw : wp_J6_getChars_ba4f3 μ a1 a2 a3 post) : Met l yJ6_getChars_ba4f3 (.code yJ6_getChars_ba4f3 cJ6_getChars_ba4f3 7 (some .int) :: G) rm_J6_getChars_ba4f3 (Pm (Rl T B) T B μ [.int a1, .int a2, .ref a3]) (va_Qi (fun r9 μ9 => post r9 μ9 ∧ KM μ μ9) (Bm (Rl T B)) (Ai B)) 0 0 (Ai B) := by
  refine mx_of RJ6 rfl (by decide) (Nat.le_of_ble_eq_true rfl) ?_
  intro p e s m below meth c0 X hr hk hnm M ls hl
  have hl : lv_has ls 7 [(0, .int a1), (1, .int a2), (2, .ref a3)] := hl
  unfold wp_J6_getChars_ba4f3 at hw
  have hKM : KM μ μ := KM.rf μ
  refine lv_iload_n X.1 X.2.1 dJ6_getChars_ba4f3_0 rfl (lv_at hl 1 rfl) ?_
  refine lv_istore (lv' := [(5, .int a2), (0, .int a1), (1, .int a2), (2, .ref a3)]) X.1 X.2.1 dJ6_getChars_ba4f3_1 hl (by decide) rfl (fun ls hl => ?_)
  refine lv_iload_n X.1 X.2.1 dJ6_getChars_ba4f3_3 rfl (lv_at hl 1 rfl) ?_
  obtain ⟨hwt, hwf⟩ := hw
  refine lv_if_ge (tgt := 11) X.1 X.2.1 dJ6_getChars_ba4f3_4 (by decide) (fun hq => ?_) (fun hq => ?_)
  · have hw := hwt hq
    refine lv_iconst (v := 0) X.1 X.2.1 dJ6_getChars_ba4f3_11 (by decide) ?_
    refine lv_istore (lv' := [(6, .int 0), (5, .int a2), (0, .int a1), (1, .int a2), (2, .ref a3)]) X.1 X.2.1 dJ6_getChars_ba4f3_12 hl (by decide) rfl (fun ls hl => ?_)
    refine lv_iload X.1 X.2.1 dJ6_getChars_ba4f3_14 (lv_at hl 0 rfl) ?_
    obtain ⟨hwf, hwt⟩ := hw
    refine lv_if_ne (tgt := 22) X.1 X.2.1 dJ6_getChars_ba4f3_16 (by decide) (fun hq => ?_) (fun hq => ?_)
    · have hw := hwt hq
      obtain ⟨n37, hw⟩ := hw
      exact b_J6_getChars_ba4f3_22 X hr hk n37 μ a1 a3 a2 0 _ _ _ hKM hw M (lv_sub hl [2, 4, 1, 0] rfl)
    · have hw := hwf hq
      refine lv_iload_n X.1 X.2.1 dJ6_getChars_ba4f3_19 rfl (lv_at hl 2 rfl) ?_
      refine lv_ineg X.1 X.2.1 dJ6_getChars_ba4f3_20 ?_
      refine lv_topi (fun v38 ev38 => ?_)
      replace hw := hw v38 ev38
      refine lv_istore_n (lv' := [(0, .int v38), (6, .int 0), (5, .int a2), (1, .int a2), (2, .ref a3)]) X.1 X.2.1 dJ6_getChars_ba4f3_21 rfl hl (by decide) rfl (fun ls hl => ?_)
      obtain ⟨n39, hw⟩ := hw
      exact b_J6_getChars_ba4f3_22 X hr hk n39 μ v38 a3 a2 0 _ _ _ hKM hw M (lv_sub hl [0, 4, 2, 1] rfl)
  · have hw := hwf hq
    refine lv_iconst (v := 1) X.1 X.2.1 dJ6_getChars_ba4f3_7 (by decide) ?_
    refine lv_goto (tgt := 12) X.1 X.2.1 dJ6_getChars_ba4f3_8 (by decide) ?_
    refine lv_istore (lv' := [(6, .int 1), (5, .int a2), (0, .int a1), (1, .int a2), (2, .ref a3)]) X.1 X.2.1 dJ6_getChars_ba4f3_12 hl (by decide) rfl (fun ls hl => ?_)
    refine lv_iload X.1 X.2.1 dJ6_getChars_ba4f3_14 (lv_at hl 0 rfl) ?_
    obtain ⟨hwf, hwt⟩ := hw
    refine lv_if_ne (tgt := 22) X.1 X.2.1 dJ6_getChars_ba4f3_16 (by decide) (fun hq => ?_) (fun hq => ?_)
    · have hw := hwt hq
      obtain ⟨n40, hw⟩ := hw
      exact b_J6_getChars_ba4f3_22 X hr hk n40 μ a1 a3 a2 1 _ _ _ hKM hw M (lv_sub hl [2, 4, 1, 0] rfl)
    · have hw := hwf hq
      refine lv_iload_n X.1 X.2.1 dJ6_getChars_ba4f3_19 rfl (lv_at hl 2 rfl) ?_
      refine lv_ineg X.1 X.2.1 dJ6_getChars_ba4f3_20 ?_
      refine lv_topi (fun v41 ev41 => ?_)
      replace hw := hw v41 ev41
      refine lv_istore_n (lv' := [(0, .int v41), (6, .int 1), (5, .int a2), (1, .int a2), (2, .ref a3)]) X.1 X.2.1 dJ6_getChars_ba4f3_21 rfl hl (by decide) rfl (fun ls hl => ?_)
      obtain ⟨n42, hw⟩ := hw
      exact b_J6_getChars_ba4f3_22 X hr hk n42 μ v41 a3 a2 1 _ _ _ hKM hw M (lv_sub hl [0, 4, 2, 1] rfl)

abbrev rm_J5_init_d00df (c z : Nat) : Room := { frames := 1, cells := c, slots := z, locals := 20 }
def wp_J5_init_d00df (c z : Nat) (μ : Mem) (o : Nat) (a1 : Int32) (post : Mem → Prop) : Prop :=
  ((1 : Int32) = 0 →
   False) ∧ (¬ (1 : Int32) = 0 →
   ¬ a1 < 0 ∧ (Int32.toNatClampNeg a1) ≤ 1048576 ∧ 1 ≤ c ∧ (Int32.toNatClampNeg a1) ≤ z ∧ ∀ (q1 : Nat) (μ2 : Mem), kd μ q1 = 0 → μ2 = nar μ 101 q1 (Int32.toNatClampNeg a1) →
   kd μ2 o = 1 ∧
   ∀ μ6 : Mem, μ6 = sfr μ2 0 0 o (some q1) →
   ∀ μ10 : Mem, μ10 = sfi μ6 0 1 o 0 →
   post μ10)
set_option maxRecDepth 100000 in
set_option maxHeartbeats 4000000 in
theorem c_J5_init_d00df (l : Launch) (T : Tb) (B : Nat) (c z : Nat) (μ : Mem) (o : Nat) (a1 : Int32) (post : Mem → Prop) (hw : wp_J5_init_d00df c z μ o a1 post) : Met l yJ5_init_d00df (.code yJ5_init_d00df cJ5_init_d00df 2 none :: G) (rm_J5_init_d00df c z) (Pm (Rl T B) T B μ [.ref o, .int a1]) (va_Qv (fun μ9 => post μ9 ∧ KM μ μ9) (Bm (Rl T B)) (Ai B)) c z (Ai B) := by
  refine mx_of RJ5 rfl (by decide) (Nat.le_of_ble_eq_true rfl) ?_
  intro p e s m below meth c0 X hr hk hnm M ls hl
  have hl : lv_has ls 2 [(0, .ref o), (1, .int a1)] := hl
  unfold wp_J5_init_d00df at hw
  have hKM : KM μ μ := KM.rf μ
  have hc : 0 + c ≤ c := by omega
  have hz : 0 + z ≤ z := by omega
  refine lv_aload_n X.1 X.2.1 dJ5_init_d00df_0 rfl (lv_at hl 0 rfl) ?_
  refine my_obj X kw_244 kw_100 kw_101 hl.1 (Nat.le_of_ble_eq_true rfl) (Nat.le_of_ble_eq_true rfl) (Nat.le_of_ble_eq_true rfl) dJ5_init_d00df_1 ?_
  refine my_stC X M kw_245 dJ5_init_d00df_4 ?_
  obtain ⟨hwt, hwf⟩ := hw
  refine lv_if_eq (tgt := 25) X.1 X.2.1 dJ5_init_d00df_7 (by decide) (fun hq => ?_) (fun hq => ?_)
  · have hw := hwt hq
    refine lv_aload_n X.1 X.2.1 dJ5_init_d00df_25 rfl (lv_at hl 0 rfl) ?_
    refine lv_iload_n X.1 X.2.1 dJ5_init_d00df_26 rfl (lv_at hl 1 rfl) ?_
    exact hw.elim
  · have hw := hwf hq
    refine lv_aload_n X.1 X.2.1 dJ5_init_d00df_10 rfl (lv_at hl 0 rfl) ?_
    refine lv_iload_n X.1 X.2.1 dJ5_init_d00df_11 rfl (lv_at hl 1 rfl) ?_
    obtain ⟨hb0, hb3, hb1, hb2, hw⟩ := hw
    refine my_newB X M kw_267 dJ5_init_d00df_12 hb0 hb3 (show 0 + 1 ≤ c by omega) (show 0 + (Int32.toNatClampNeg a1) ≤ z by omega) (fun q1 μ2 H hq1 eμ2 M => ?_)
    replace hw := hw q1 μ2 hq1 eμ2
    have hKM3 : KM μ μ2 := by rw [eμ2]; exact hKM.tr (KM_nar hq1)
    have hk4 : kd μ2 q1 = 101 := by rw [eμ2]; exact kd_nar
    have hc : (0 + 1) + (c - 1) ≤ c := by omega
    have hz : (0 + (Int32.toNatClampNeg a1)) + (z - (Int32.toNatClampNeg a1)) ≤ z := by omega
    obtain ⟨hk5, hw⟩ := hw
    refine my_putr (C := RJ4) (F := TJ4) (N := 4) (ci := 0) X M 0 rfl in_J4 tyJ4 tyJ4_ok nmJ4 (by decide) rfl (by decide) kw_254 (Or.inl rfl) dJ5_init_d00df_14 hk5 (some q1) (mq_na _ _) (mq_fa _ _) (fun μ6 H locs eμ6 M => ?_)
    replace hw := hw μ6 eμ6
    have hKM7 : KM μ μ6 := by rw [eμ6]; exact hKM3
    have hk8 : kd μ6 q1 = 101 := by rw [eμ6]; exact hk4
    have hk9 : kd μ6 o = 1 := by rw [eμ6]; exact hk5
    refine lv_aload_n X.1 X.2.1 dJ5_init_d00df_17 rfl (lv_at hl 0 rfl) ?_
    refine lv_iconst (v := 0) X.1 X.2.1 dJ5_init_d00df_18 (by decide) ?_
    refine my_puti (C := RJ4) (F := TJ4) (N := 4) (ci := 0) X M 1 rfl in_J4 tyJ4 tyJ4_ok nmJ4 (by decide) rfl (by decide) kw_255 (Or.inl rfl) dJ5_init_d00df_19 hk9 (by decide) (by decide) (fun μ10 H locs eμ10 M => ?_)
    replace hw := hw μ10 eμ10
    have hKM11 : KM μ μ10 := by rw [eμ10]; exact hKM7
    have hk12 : kd μ10 o = 1 := by rw [eμ10]; exact hk9
    refine lv_goto (tgt := 38) X.1 X.2.1 dJ5_init_d00df_22 (by decide) ?_
    exact mx_vret X hr hk M dJ5_init_d00df_38 (by omega) (by omega) ⟨hw, hKM11⟩

abbrev rm_J5_length_8abf5 : Room := { frames := 0, cells := 0, slots := 0, locals := 0 }
def wp_J5_length_8abf5 (μ : Mem) (o : Nat) (post : Int32 → Mem → Prop) : Prop :=
  kd μ o = 1 ∧
  post (fi μ 0 3 o) μ
set_option maxRecDepth 100000 in
set_option maxHeartbeats 4000000 in
theorem c_J5_length_8abf5 (l : Launch) (T : Tb) (B : Nat) (μ : Mem) (o : Nat) (post : Int32 → Mem → Prop) (hw : wp_J5_length_8abf5 μ o post) : Met l yJ5_length_8abf5 (.code yJ5_length_8abf5 cJ5_length_8abf5 1 (some .int) :: G) rm_J5_length_8abf5 (Pm (Rl T B) T B μ [.ref o]) (va_Qi (fun r9 μ9 => post r9 μ9 ∧ KM μ μ9) (Bm (Rl T B)) (Ai B)) 0 0 (Ai B) := by
  refine mx_of RJ5 rfl (by decide) (Nat.le_of_ble_eq_true rfl) ?_
  intro p e s m below meth c0 X hr hk hnm M ls hl
  have hl : lv_has ls 1 [(0, .ref o)] := hl
  unfold wp_J5_length_8abf5 at hw
  have hKM : KM μ μ := KM.rf μ
  refine lv_aload_n X.1 X.2.1 dJ5_length_8abf5_0 rfl (lv_at hl 0 rfl) ?_
  obtain ⟨hk1, hw⟩ := hw
  refine mx_geti (C := RJ4) (F := TJ4) (N := 4) (ci := 0) X M 3 rfl in_J4 (by decide) rfl (by decide) kw_257 dJ5_length_8abf5_1 hk1 ?_
  exact mx_iret X hr hk M dJ5_length_8abf5_4 (by decide) (by decide) ⟨hw, hKM⟩

abbrev rm_J5_isLatin1_aae02 : Room := { frames := 0, cells := 0, slots := 0, locals := 0 }
def wp_J5_isLatin1_aae02 (μ : Mem) (o : Nat) (post : Int32 → Mem → Prop) : Prop :=
  ((1 : Int32) = 0 →
   post 0 μ) ∧ (¬ (1 : Int32) = 0 →
   kd μ o = 1 ∧
   ((fi μ 0 1 o) = 0 →
    post 1 μ) ∧ (¬ (fi μ 0 1 o) = 0 →
    post 0 μ))
set_option maxRecDepth 100000 in
set_option maxHeartbeats 4000000 in
theorem c_J5_isLatin1_aae02 (l : Launch) (T : Tb) (B : Nat) (μ : Mem) (o : Nat) (post : Int32 → Mem → Prop) (hw : wp_J5_isLatin1_aae02 μ o post) : Met l yJ5_isLatin1_aae02 (.code yJ5_isLatin1_aae02 cJ5_isLatin1_aae02 1 (some .boolean) :: G) rm_J5_isLatin1_aae02 (Pm (Rl T B) T B μ [.ref o]) (va_Qi (fun r9 μ9 => post r9 μ9 ∧ KM μ μ9) (Bm (Rl T B)) (Ai B)) 0 0 (Ai B) := by
  refine mx_of RJ5 rfl (by decide) (Nat.le_of_ble_eq_true rfl) ?_
  intro p e s m below meth c0 X hr hk hnm M ls hl
  have hl : lv_has ls 1 [(0, .ref o)] := hl
  unfold wp_J5_isLatin1_aae02 at hw
  have hKM : KM μ μ := KM.rf μ
  refine my_stC X M kw_245 dJ5_isLatin1_aae02_0 ?_
  obtain ⟨hwt, hwf⟩ := hw
  refine lv_if_eq (tgt := 17) X.1 X.2.1 dJ5_isLatin1_aae02_3 (by decide) (fun hq => ?_) (fun hq => ?_)
  · have hw := hwt hq
    refine lv_iconst (v := 0) X.1 X.2.1 dJ5_isLatin1_aae02_17 (by decide) ?_
    exact mx_zret X hr hk M dJ5_isLatin1_aae02_18 (by decide) (by decide) (by decide) ⟨hw, hKM⟩
  · have hw := hwf hq
    refine lv_aload_n X.1 X.2.1 dJ5_isLatin1_aae02_6 rfl (lv_at hl 0 rfl) ?_
    obtain ⟨hk1, hw⟩ := hw
    refine mx_geti (C := RJ4) (F := TJ4) (N := 4) (ci := 0) X M 1 rfl in_J4 (by decide) rfl (by decide) kw_255 dJ5_isLatin1_aae02_7 hk1 ?_
    obtain ⟨hwf, hwt⟩ := hw
    refine lv_if_ne (tgt := 17) X.1 X.2.1 dJ5_isLatin1_aae02_10 (by decide) (fun hq => ?_) (fun hq => ?_)
    · have hw := hwt hq
      refine lv_iconst (v := 0) X.1 X.2.1 dJ5_isLatin1_aae02_17 (by decide) ?_
      exact mx_zret X hr hk M dJ5_isLatin1_aae02_18 (by decide) (by decide) (by decide) ⟨hw, hKM⟩
    · have hw := hwf hq
      refine lv_iconst (v := 1) X.1 X.2.1 dJ5_isLatin1_aae02_13 (by decide) ?_
      refine lv_goto (tgt := 18) X.1 X.2.1 dJ5_isLatin1_aae02_14 (by decide) ?_
      exact mx_zret X hr hk M dJ5_isLatin1_aae02_18 (by decide) (by decide) (by decide) ⟨hw, hKM⟩

abbrev rm_J1_canEncode_fc78d : Room := { frames := 0, cells := 0, slots := 0, locals := 0 }
def wp_J1_canEncode_fc78d (μ : Mem) (a1 : Int32) (post : Int32 → Mem → Prop) : Prop :=
  (255 < a1 →
   post 0 μ) ∧ (¬ 255 < a1 →
   post 1 μ)
set_option maxRecDepth 100000 in
set_option maxHeartbeats 4000000 in
theorem c_J1_canEncode_fc78d (l : Launch) (T : Tb) (B : Nat) (μ : Mem) (a1 : Int32) (post : Int32 → Mem → Prop) (hw : wp_J1_canEncode_fc78d μ a1 post) : Met l yJ1_canEncode_fc78d (.code yJ1_canEncode_fc78d cJ1_canEncode_fc78d 1 (some .boolean) :: G) rm_J1_canEncode_fc78d (Pm (Rl T B) T B μ [.int a1]) (va_Qi (fun r9 μ9 => post r9 μ9 ∧ KM μ μ9) (Bm (Rl T B)) (Ai B)) 0 0 (Ai B) := by
  refine mx_of RJ1 rfl (by decide) (Nat.le_of_ble_eq_true rfl) ?_
  intro p e s m below meth c0 X hr hk hnm M ls hl
  have hl : lv_has ls 1 [(0, .int a1)] := hl
  unfold wp_J1_canEncode_fc78d at hw
  have hKM : KM μ μ := KM.rf μ
  refine lv_iload_n X.1 X.2.1 dJ1_canEncode_fc78d_0 rfl (lv_at hl 0 rfl) ?_
  refine lv_sipush (v := 255) X.1 X.2.1 dJ1_canEncode_fc78d_1 (by decide) ?_
  obtain ⟨hwt, hwf⟩ := hw
  refine lv_icmp_gt (tgt := 11) X.1 X.2.1 dJ1_canEncode_fc78d_4 (by decide) (fun hq => ?_) (fun hq => ?_)
  · have hw := hwt hq
    refine lv_iconst (v := 0) X.1 X.2.1 dJ1_canEncode_fc78d_11 (by decide) ?_
    exact mx_zret X hr hk M dJ1_canEncode_fc78d_12 (by decide) (by decide) (by decide) ⟨hw, hKM⟩
  · have hw := hwf hq
    refine lv_iconst (v := 1) X.1 X.2.1 dJ1_canEncode_fc78d_7 (by decide) ?_
    refine lv_goto (tgt := 12) X.1 X.2.1 dJ1_canEncode_fc78d_8 (by decide) ?_
    exact mx_zret X hr hk M dJ1_canEncode_fc78d_12 (by decide) (by decide) (by decide) ⟨hw, hKM⟩

abbrev rm_J5_newCapacity_0f7a4 : Room := { frames := 2, cells := 0, slots := 0, locals := 37 }
def wp_J5_newCapacity_0f7a4 (μ : Mem) (o : Nat) (a1 : Int32) (post : Int32 → Mem → Prop) : Prop :=
  kd μ o = 1 ∧
  ∃ x2, fr μ 0 0 o = some x2 ∧
  isArr (kd μ x2) ∧
  ∀ v3 : Int32, v3 = (nI (al μ x2)) →
  ∀ v4 : Int32, v4 = (a1 <<< ((fi μ 0 1 o) &&& 31)) →
  ∀ v5 : Int32, v5 = (v4 - v3) →
  wp_J8_newLength_cabcc μ v3 v5 (v3 + ((2 : Int32) <<< ((fi μ 0 1 o) &&& 31))) (fun (r8 : Int32) (μ6 : Mem) =>
  KM μ μ6 →
  (r8 = 2147483647 →
   False) ∧ (¬ r8 = 2147483647 →
   post (r8 >>> ((fi μ6 0 1 o) &&& 31)) μ6))
set_option maxRecDepth 100000 in
set_option maxHeartbeats 4000000 in
theorem c_J5_newCapacity_0f7a4 (l : Launch) (T : Tb) (B : Nat) (μ : Mem) (o : Nat) (a1 : Int32) (post : Int32 → Mem → Prop) (hw : wp_J5_newCapacity_0f7a4 μ o a1 post) : Met l yJ5_newCapacity_0f7a4 (.code yJ5_newCapacity_0f7a4 cJ5_newCapacity_0f7a4 6 (some .int) :: G) rm_J5_newCapacity_0f7a4 (Pm (Rl T B) T B μ [.ref o, .int a1]) (va_Qi (fun r9 μ9 => post r9 μ9 ∧ KM μ μ9) (Bm (Rl T B)) (Ai B)) 0 0 (Ai B) := by
  refine mx_of RJ5 rfl (by decide) (Nat.le_of_ble_eq_true rfl) ?_
  intro p e s m below meth c0 X hr hk hnm M ls hl
  have hl : lv_has ls 6 [(0, .ref o), (1, .int a1)] := hl
  unfold wp_J5_newCapacity_0f7a4 at hw
  have hKM : KM μ μ := KM.rf μ
  refine lv_aload_n X.1 X.2.1 dJ5_newCapacity_0f7a4_0 rfl (lv_at hl 0 rfl) ?_
  obtain ⟨hk1, hw⟩ := hw
  obtain ⟨x2, ex2, hw⟩ := hw
  refine mx_getr (C := RJ4) (F := TJ4) (N := 4) (ci := 0) X M 0 rfl in_J4 (by decide) rfl (by decide) kw_254 dJ5_newCapacity_0f7a4_1 hk1 ?_
  rw [ex2]
  obtain ⟨hia, hw⟩ := hw
  refine mx_len X M dJ5_newCapacity_0f7a4_4 hia ?_
  refine lv_topi (fun v3 ev3 => ?_)
  replace hw := hw v3 ev3
  refine lv_istore_n (lv' := [(2, .int v3), (0, .ref o), (1, .int a1)]) X.1 X.2.1 dJ5_newCapacity_0f7a4_5 rfl hl (by decide) rfl (fun ls hl => ?_)
  refine lv_iload_n X.1 X.2.1 dJ5_newCapacity_0f7a4_6 rfl (lv_at hl 2 rfl) ?_
  refine lv_aload_n X.1 X.2.1 dJ5_newCapacity_0f7a4_7 rfl (lv_at hl 1 rfl) ?_
  refine mx_geti (C := RJ4) (F := TJ4) (N := 4) (ci := 0) X M 1 rfl in_J4 (by decide) rfl (by decide) kw_255 dJ5_newCapacity_0f7a4_8 hk1 ?_
  refine lv_ishl X.1 X.2.1 dJ5_newCapacity_0f7a4_11 ?_
  refine lv_topi (fun v4 ev4 => ?_)
  replace hw := hw v4 ev4
  refine lv_istore_n (lv' := [(3, .int v4), (2, .int v3), (0, .ref o), (1, .int a1)]) X.1 X.2.1 dJ5_newCapacity_0f7a4_12 rfl hl (by decide) rfl (fun ls hl => ?_)
  refine lv_iload_n X.1 X.2.1 dJ5_newCapacity_0f7a4_13 rfl (lv_at hl 0 rfl) ?_
  refine lv_iload_n X.1 X.2.1 dJ5_newCapacity_0f7a4_14 rfl (lv_at hl 1 rfl) ?_
  refine lv_isub X.1 X.2.1 dJ5_newCapacity_0f7a4_15 ?_
  refine lv_topi (fun v5 ev5 => ?_)
  replace hw := hw v5 ev5
  refine lv_istore (lv' := [(4, .int v5), (3, .int v4), (2, .int v3), (0, .ref o), (1, .int a1)]) X.1 X.2.1 dJ5_newCapacity_0f7a4_16 hl (by decide) rfl (fun ls hl => ?_)
  refine lv_iload_n X.1 X.2.1 dJ5_newCapacity_0f7a4_18 rfl (lv_at hl 2 rfl) ?_
  refine lv_iload X.1 X.2.1 dJ5_newCapacity_0f7a4_19 (lv_at hl 0 rfl) ?_
  refine lv_iload_n X.1 X.2.1 dJ5_newCapacity_0f7a4_21 rfl (lv_at hl 2 rfl) ?_
  refine lv_iconst (v := 2) X.1 X.2.1 dJ5_newCapacity_0f7a4_22 (by decide) ?_
  refine lv_aload_n X.1 X.2.1 dJ5_newCapacity_0f7a4_23 rfl (lv_at hl 3 rfl) ?_
  refine mx_geti (C := RJ4) (F := TJ4) (N := 4) (ci := 0) X M 1 rfl in_J4 (by decide) rfl (by decide) kw_255 dJ5_newCapacity_0f7a4_24 hk1 ?_
  refine lv_ishl X.1 X.2.1 dJ5_newCapacity_0f7a4_27 ?_
  refine lv_iadd X.1 X.2.1 dJ5_newCapacity_0f7a4_28 ?_
  have hw7 := hw
  clear hw
  refine mx_ci M (mx_runS (n := 3) (As := [.int v3, .int v5, .int (v3 + ((2 : Int32) <<< ((fi μ 0 1 o) &&& 31)))]) (rest := []) X M (c_J8_newLength_cabcc l T B μ v3 v5 (v3 + ((2 : Int32) <<< ((fi μ 0 1 o) &&& 31))) _ hw7) kw_1005 kw_387 kw_81 kw_388 (by decide +kernel) rfl rfl ⟨Nat.le_of_ble_eq_true rfl, Nat.le_of_ble_eq_true rfl⟩ rfl hl.1 (Nat.le_of_ble_eq_true rfl) dJ5_newCapacity_0f7a4_29 ⟨by decide, by decide⟩) (fun r8 μ6 H locs ⟨hw, hKM6⟩ M => ?_)
  replace hw := hw hKM6
  have hKM6_ := hKM.tr hKM6
  have hk9 := hKM6.at hk1
  refine lv_istore (lv' := [(5, .int r8), (4, .int v5), (3, .int v4), (2, .int v3), (0, .ref o), (1, .int a1)]) X.1 X.2.1 dJ5_newCapacity_0f7a4_32 hl (by decide) rfl (fun ls hl => ?_)
  refine lv_iload X.1 X.2.1 dJ5_newCapacity_0f7a4_34 (lv_at hl 0 rfl) ?_
  refine lv_ldc (v := 2147483647) X.1 X.2.1 X.2.2.2.1 (X.2.2.2.2.1 _ kw_1006) dJ5_newCapacity_0f7a4_36 ?_
  obtain ⟨hwf, hwt⟩ := hw
  refine lv_icmp_ne (tgt := 51) X.1 X.2.1 dJ5_newCapacity_0f7a4_38 (by decide) (fun hq => ?_) (fun hq => ?_)
  · have hw := hwt hq
    refine lv_iload X.1 X.2.1 dJ5_newCapacity_0f7a4_51 (lv_at hl 0 rfl) ?_
    refine lv_aload_n X.1 X.2.1 dJ5_newCapacity_0f7a4_53 rfl (lv_at hl 4 rfl) ?_
    refine mx_geti (C := RJ4) (F := TJ4) (N := 4) (ci := 0) X M 1 rfl in_J4 (by decide) rfl (by decide) kw_255 dJ5_newCapacity_0f7a4_54 hk9 ?_
    refine lv_ishr X.1 X.2.1 dJ5_newCapacity_0f7a4_57 ?_
    exact mx_iret X hr hk M dJ5_newCapacity_0f7a4_58 (by decide) (by decide) ⟨hw, hKM6_⟩
  · have hw := hwf hq
    exact hw.elim

abbrev rm_J5_ensureCapacityInternal_d00df (c z : Nat) : Room := { frames := 3, cells := c, slots := z, locals := 62 }
def wp_J5_ensureCapacityInternal_d00df (c z : Nat) (μ : Mem) (o : Nat) (a1 : Int32) (post : Mem → Prop) : Prop :=
  kd μ o = 1 ∧
  ∃ x2, fr μ 0 0 o = some x2 ∧
  isArr (kd μ x2) ∧
  ∀ v3 : Int32, v3 = ((nI (al μ x2)) >>> ((fi μ 0 1 o) &&& 31)) →
  ((a1 - v3) ≤ 0 →
   post μ) ∧ (¬ (a1 - v3) ≤ 0 →
   ∃ x4, fr μ 0 0 o = some x4 ∧
   wp_J5_newCapacity_0f7a4 μ o a1 (fun (r7 : Int32) (μ5 : Mem) =>
   KM μ μ5 →
   ∃ c10 z11, c10 ≤ c ∧ z11 ≤ z ∧
   wp_J7_copyOf_9075b c10 z11 μ5 x4 (r7 <<< ((fi μ5 0 1 o) &&& 31)) (fun (r13 : Option Nat) (μ9 : Mem) =>
   KM μ5 μ9 →
   ∀ μ15 : Mem, μ15 = sfr μ9 0 0 o r13 →
   post μ15)))
set_option maxRecDepth 100000 in
set_option maxHeartbeats 4000000 in
theorem c_J5_ensureCapacityInternal_d00df (l : Launch) (T : Tb) (B : Nat) (c z : Nat) (μ : Mem) (o : Nat) (a1 : Int32) (post : Mem → Prop) (hw : wp_J5_ensureCapacityInternal_d00df c z μ o a1 post) : Met l yJ5_ensureCapacityInternal_d00df (.code yJ5_ensureCapacityInternal_d00df cJ5_ensureCapacityInternal_d00df 3 none :: G) (rm_J5_ensureCapacityInternal_d00df c z) (Pm (Rl T B) T B μ [.ref o, .int a1]) (va_Qv (fun μ9 => post μ9 ∧ KM μ μ9) (Bm (Rl T B)) (Ai B)) c z (Ai B) := by
  refine mx_of RJ5 rfl (by decide) (Nat.le_of_ble_eq_true rfl) ?_
  intro p e s m below meth c0 X hr hk hnm M ls hl
  have hl : lv_has ls 3 [(0, .ref o), (1, .int a1)] := hl
  unfold wp_J5_ensureCapacityInternal_d00df at hw
  have hKM : KM μ μ := KM.rf μ
  have hc : 0 + c ≤ c := by omega
  have hz : 0 + z ≤ z := by omega
  refine lv_aload_n X.1 X.2.1 dJ5_ensureCapacityInternal_d00df_0 rfl (lv_at hl 0 rfl) ?_
  obtain ⟨hk1, hw⟩ := hw
  obtain ⟨x2, ex2, hw⟩ := hw
  refine mx_getr (C := RJ4) (F := TJ4) (N := 4) (ci := 0) X M 0 rfl in_J4 (by decide) rfl (by decide) kw_254 dJ5_ensureCapacityInternal_d00df_1 hk1 ?_
  rw [ex2]
  obtain ⟨hia, hw⟩ := hw
  refine mx_len X M dJ5_ensureCapacityInternal_d00df_4 hia ?_
  refine lv_aload_n X.1 X.2.1 dJ5_ensureCapacityInternal_d00df_5 rfl (lv_at hl 0 rfl) ?_
  refine mx_geti (C := RJ4) (F := TJ4) (N := 4) (ci := 0) X M 1 rfl in_J4 (by decide) rfl (by decide) kw_255 dJ5_ensureCapacityInternal_d00df_6 hk1 ?_
  refine lv_ishr X.1 X.2.1 dJ5_ensureCapacityInternal_d00df_9 ?_
  refine lv_topi (fun v3 ev3 => ?_)
  replace hw := hw v3 ev3
  refine lv_istore_n (lv' := [(2, .int v3), (0, .ref o), (1, .int a1)]) X.1 X.2.1 dJ5_ensureCapacityInternal_d00df_10 rfl hl (by decide) rfl (fun ls hl => ?_)
  refine lv_iload_n X.1 X.2.1 dJ5_ensureCapacityInternal_d00df_11 rfl (lv_at hl 2 rfl) ?_
  refine lv_iload_n X.1 X.2.1 dJ5_ensureCapacityInternal_d00df_12 rfl (lv_at hl 0 rfl) ?_
  refine lv_isub X.1 X.2.1 dJ5_ensureCapacityInternal_d00df_13 ?_
  obtain ⟨hwt, hwf⟩ := hw
  refine lv_if_le (tgt := 38) X.1 X.2.1 dJ5_ensureCapacityInternal_d00df_14 (by decide) (fun hq => ?_) (fun hq => ?_)
  · have hw := hwt hq
    exact mx_vret X hr hk M dJ5_ensureCapacityInternal_d00df_38 (by omega) (by omega) ⟨hw, hKM⟩
  · have hw := hwf hq
    refine lv_aload_n X.1 X.2.1 dJ5_ensureCapacityInternal_d00df_17 rfl (lv_at hl 1 rfl) ?_
    refine lv_aload_n X.1 X.2.1 dJ5_ensureCapacityInternal_d00df_18 rfl (lv_at hl 1 rfl) ?_
    obtain ⟨x4, ex4, hw⟩ := hw
    refine mx_getr (C := RJ4) (F := TJ4) (N := 4) (ci := 0) X M 0 rfl in_J4 (by decide) rfl (by decide) kw_254 dJ5_ensureCapacityInternal_d00df_19 hk1 ?_
    rw [ex4]
    refine lv_aload_n X.1 X.2.1 dJ5_ensureCapacityInternal_d00df_22 rfl (lv_at hl 1 rfl) ?_
    refine lv_iload_n X.1 X.2.1 dJ5_ensureCapacityInternal_d00df_23 rfl (lv_at hl 2 rfl) ?_
    have hw6 := hw
    clear hw
    refine mx_ci M (mx_runV (n := 1) (As := [.int a1]) (rest := [.ref x4, .ref o]) X M (c_J5_newCapacity_0f7a4 l T B μ o a1 _ hw6) (mx_recv (C := RJ4) (F := TJ4) (N := 4) (ci := 0) X M rfl (by decide) hk1) kw_1001 kw_1003 kx_1 kw_72 kw_1004 (by decide +kernel) rfl rfl ⟨Nat.le_of_ble_eq_true rfl, Nat.le_of_ble_eq_true rfl⟩ rfl hl.1 (Nat.le_of_ble_eq_true rfl) dJ5_ensureCapacityInternal_d00df_24 ⟨(show 0 + 0 ≤ c by omega), (show 0 + 0 ≤ z by omega)⟩) (fun r7 μ5 H locs ⟨hw, hKM5⟩ M => ?_)
    replace hw := hw hKM5
    have hKM5_ := hKM.tr hKM5
    have hk8 := hKM5.at hk1
    have hc : (0 + 0) + (c) ≤ c := by omega
    have hz : (0 + 0) + (z) ≤ z := by omega
    refine lv_aload_n X.1 X.2.1 dJ5_ensureCapacityInternal_d00df_27 rfl (lv_at hl 1 rfl) ?_
    refine mx_geti (C := RJ4) (F := TJ4) (N := 4) (ci := 0) X M 1 rfl in_J4 (by decide) rfl (by decide) kw_255 dJ5_ensureCapacityInternal_d00df_28 hk8 ?_
    refine lv_ishl X.1 X.2.1 dJ5_ensureCapacityInternal_d00df_31 ?_
    obtain ⟨c10, z11, hc10, hz11, hw⟩ := hw
    have hw12 := hw
    clear hw
    refine mx_cq M (mx_runS (n := 2) (As := [.ref x4, .int (r7 <<< ((fi μ5 0 1 o) &&& 31))]) (rest := [.ref o]) X M (c_J7_copyOf_9075b l T B c10 z11 μ5 x4 (r7 <<< ((fi μ5 0 1 o) &&& 31)) _ hw12) kw_1007 kw_1008 kw_78 kw_1009 (by decide +kernel) rfl rfl ⟨Nat.le_of_ble_eq_true rfl, Nat.le_of_ble_eq_true rfl⟩ rfl hl.1 (Nat.le_of_ble_eq_true rfl) dJ5_ensureCapacityInternal_d00df_32 ⟨(show (0 + 0) + c10 ≤ c by omega), (show (0 + 0) + z11 ≤ z by omega)⟩) (fun r13 μ9 H locs ⟨hw, hKM9⟩ M => ?_)
    replace hw := hw hKM9
    have hKM9_ := hKM5_.tr hKM9
    have hk14 := hKM9.at hk8
    have hc : ((0 + 0) + c10) + (c - c10) ≤ c := by omega
    have hz : ((0 + 0) + z11) + (z - z11) ≤ z := by omega
    refine my_putr (C := RJ4) (F := TJ4) (N := 4) (ci := 0) X M 0 rfl in_J4 tyJ4 tyJ4_ok nmJ4 (by decide) rfl (by decide) kw_254 (Or.inl rfl) dJ5_ensureCapacityInternal_d00df_35 hk14 r13 (mq_na _ _) (mq_fa _ _) (fun μ15 H locs eμ15 M => ?_)
    replace hw := hw μ15 eμ15
    have hKM16 : KM μ μ15 := by rw [eμ15]; exact hKM9_
    have hk17 : kd μ15 o = 1 := by rw [eμ15]; exact hk14
    exact mx_vret X hr hk M dJ5_ensureCapacityInternal_d00df_38 (by omega) (by omega) ⟨hw, hKM16⟩

abbrev rm_J5_setLength_d00df (c z : Nat) : Room := { frames := 4, cells := c, slots := z, locals := 84 }
def wp_J5_setLength_d00df (c z : Nat) (μ : Mem) (o : Nat) (a1 : Int32) (post : Mem → Prop) : Prop :=
  (0 ≤ a1 →
   kd μ o = 1 ∧
   ∃ c2 z3, c2 ≤ c ∧ z3 ≤ z ∧
   wp_J5_ensureCapacityInternal_d00df c2 z3 μ o a1 (fun (μ1 : Mem) =>
   KM μ μ1 →
   (a1 ≤ (fi μ1 0 3 o) →
    ((fi μ1 0 3 o) ≤ a1 →
     ∀ μ7 : Mem, μ7 = sfi μ1 0 3 o a1 →
     post μ7) ∧ (¬ (fi μ1 0 3 o) ≤ a1 →
     ∀ μ10 : Mem, μ10 = sfi μ1 0 2 o 1 →
     ∀ μ13 : Mem, μ13 = sfi μ10 0 3 o a1 →
     post μ13)) ∧ (¬ a1 ≤ (fi μ1 0 3 o) →
    wp_J5_isLatin1_aae02 μ1 o (fun (r18 : Int32) (μ16 : Mem) =>
    KM μ1 μ16 →
    (r18 = 0 →
     ∃ x20, fr μ16 0 0 o = some x20 ∧
     False) ∧ (¬ r18 = 0 →
     ∃ x21, fr μ16 0 0 o = some x21 ∧
     False))))) ∧ (¬ 0 ≤ a1 →
   False)
set_option maxRecDepth 100000 in
set_option maxHeartbeats 4000000 in
theorem c_J5_setLength_d00df (l : Launch) (T : Tb) (B : Nat) (c z : Nat) (μ : Mem) (o : Nat) (a1 : Int32) (post : Mem → Prop) (hw : wp_J5_setLength_d00df c z μ o a1 post) : Met l yJ5_setLength_d00df (.code yJ5_setLength_d00df cJ5_setLength_d00df 2 none :: G) (rm_J5_setLength_d00df c z) (Pm (Rl T B) T B μ [.ref o, .int a1]) (va_Qv (fun μ9 => post μ9 ∧ KM μ μ9) (Bm (Rl T B)) (Ai B)) c z (Ai B) := by
  refine mx_of RJ5 rfl (by decide) (Nat.le_of_ble_eq_true rfl) ?_
  intro p e s m below meth c0 X hr hk hnm M ls hl
  have hl : lv_has ls 2 [(0, .ref o), (1, .int a1)] := hl
  unfold wp_J5_setLength_d00df at hw
  have hKM : KM μ μ := KM.rf μ
  have hc : 0 + c ≤ c := by omega
  have hz : 0 + z ≤ z := by omega
  refine lv_iload_n X.1 X.2.1 dJ5_setLength_d00df_0 rfl (lv_at hl 1 rfl) ?_
  obtain ⟨hwt, hwf⟩ := hw
  refine lv_if_ge (tgt := 13) X.1 X.2.1 dJ5_setLength_d00df_1 (by decide) (fun hq => ?_) (fun hq => ?_)
  · have hw := hwt hq
    refine lv_aload_n X.1 X.2.1 dJ5_setLength_d00df_13 rfl (lv_at hl 0 rfl) ?_
    refine lv_iload_n X.1 X.2.1 dJ5_setLength_d00df_14 rfl (lv_at hl 1 rfl) ?_
    obtain ⟨hk5, hw⟩ := hw
    obtain ⟨c2, z3, hc2, hz3, hw⟩ := hw
    have hw4 := hw
    clear hw
    refine mx_cv M (mx_runV (n := 1) (As := [.int a1]) (rest := []) X M (c_J5_ensureCapacityInternal_d00df l T B c2 z3 μ o a1 _ hw4) (mx_recv (C := RJ4) (F := TJ4) (N := 4) (ci := 0) X M rfl (by decide) hk5) kw_997 kw_999 kx_0 kw_72 kw_1000 (by decide +kernel) rfl rfl ⟨Nat.le_of_ble_eq_true rfl, Nat.le_of_ble_eq_true rfl⟩ rfl hl.1 (Nat.le_of_ble_eq_true rfl) dJ5_setLength_d00df_15 ⟨(show 0 + c2 ≤ c by omega), (show 0 + z3 ≤ z by omega)⟩) (fun μ1 H locs ⟨hw, hKM1⟩ M => ?_)
    replace hw := hw hKM1
    have hKM1_ := hKM.tr hKM1
    have hk6 := hKM1.at hk5
    have hc : (0 + c2) + (c - c2) ≤ c := by omega
    have hz : (0 + z3) + (z - z3) ≤ z := by omega
    refine lv_aload_n X.1 X.2.1 dJ5_setLength_d00df_18 rfl (lv_at hl 0 rfl) ?_
    refine mx_geti (C := RJ4) (F := TJ4) (N := 4) (ci := 0) X M 3 rfl in_J4 (by decide) rfl (by decide) kw_257 dJ5_setLength_d00df_19 hk6 ?_
    refine lv_iload_n X.1 X.2.1 dJ5_setLength_d00df_22 rfl (lv_at hl 1 rfl) ?_
    obtain ⟨hwt, hwf⟩ := hw
    refine lv_icmp_ge (tgt := 63) X.1 X.2.1 dJ5_setLength_d00df_23 (by decide) (fun hq => ?_) (fun hq => ?_)
    · have hw := hwt hq
      refine lv_aload_n X.1 X.2.1 dJ5_setLength_d00df_63 rfl (lv_at hl 0 rfl) ?_
      refine mx_geti (C := RJ4) (F := TJ4) (N := 4) (ci := 0) X M 3 rfl in_J4 (by decide) rfl (by decide) kw_257 dJ5_setLength_d00df_64 hk6 ?_
      refine lv_iload_n X.1 X.2.1 dJ5_setLength_d00df_67 rfl (lv_at hl 1 rfl) ?_
      obtain ⟨hwt, hwf⟩ := hw
      refine lv_icmp_le (tgt := 76) X.1 X.2.1 dJ5_setLength_d00df_68 (by decide) (fun hq => ?_) (fun hq => ?_)
      · have hw := hwt hq
        refine lv_aload_n X.1 X.2.1 dJ5_setLength_d00df_76 rfl (lv_at hl 0 rfl) ?_
        refine lv_iload_n X.1 X.2.1 dJ5_setLength_d00df_77 rfl (lv_at hl 1 rfl) ?_
        refine my_puti (C := RJ4) (F := TJ4) (N := 4) (ci := 0) X M 3 rfl in_J4 tyJ4 tyJ4_ok nmJ4 (by decide) rfl (by decide) kw_257 (Or.inl rfl) dJ5_setLength_d00df_78 hk6 rfl rfl (fun μ7 H locs eμ7 M => ?_)
        replace hw := hw μ7 eμ7
        have hKM8 : KM μ μ7 := by rw [eμ7]; exact hKM1_
        have hk9 : kd μ7 o = 1 := by rw [eμ7]; exact hk6
        exact mx_vret X hr hk M dJ5_setLength_d00df_81 (by omega) (by omega) ⟨hw, hKM8⟩
      · have hw := hwf hq
        refine lv_aload_n X.1 X.2.1 dJ5_setLength_d00df_71 rfl (lv_at hl 0 rfl) ?_
        refine lv_iconst (v := 1) X.1 X.2.1 dJ5_setLength_d00df_72 (by decide) ?_
        refine my_puti (C := RJ4) (F := TJ4) (N := 4) (ci := 0) X M 2 rfl in_J4 tyJ4 tyJ4_ok nmJ4 (by decide) rfl (by decide) kw_256 (Or.inl rfl) dJ5_setLength_d00df_73 hk6 (by decide) (by decide) (fun μ10 H locs eμ10 M => ?_)
        replace hw := hw μ10 eμ10
        have hKM11 : KM μ μ10 := by rw [eμ10]; exact hKM1_
        have hk12 : kd μ10 o = 1 := by rw [eμ10]; exact hk6
        refine lv_aload_n X.1 X.2.1 dJ5_setLength_d00df_76 rfl (lv_at hl 0 rfl) ?_
        refine lv_iload_n X.1 X.2.1 dJ5_setLength_d00df_77 rfl (lv_at hl 1 rfl) ?_
        refine my_puti (C := RJ4) (F := TJ4) (N := 4) (ci := 0) X M 3 rfl in_J4 tyJ4 tyJ4_ok nmJ4 (by decide) rfl (by decide) kw_257 (Or.inl rfl) dJ5_setLength_d00df_78 hk12 rfl rfl (fun μ13 H locs eμ13 M => ?_)
        replace hw := hw μ13 eμ13
        have hKM14 : KM μ μ13 := by rw [eμ13]; exact hKM11
        have hk15 : kd μ13 o = 1 := by rw [eμ13]; exact hk12
        exact mx_vret X hr hk M dJ5_setLength_d00df_81 (by omega) (by omega) ⟨hw, hKM14⟩
    · have hw := hwf hq
      refine lv_aload_n X.1 X.2.1 dJ5_setLength_d00df_26 rfl (lv_at hl 0 rfl) ?_
      have hw17 := hw
      clear hw
      refine mx_ci M (mx_runV (n := 0) (As := []) (rest := []) X M (c_J5_isLatin1_aae02 l T B μ1 o _ hw17) (mx_recv (C := RJ4) (F := TJ4) (N := 4) (ci := 0) X M rfl (by decide) hk6) kw_1015 kw_1016 kw_1018 kw_72 kw_1019 (by decide +kernel) rfl rfl ⟨Nat.le_of_ble_eq_true rfl, Nat.le_of_ble_eq_true rfl⟩ rfl hl.1 (Nat.le_of_ble_eq_true rfl) dJ5_setLength_d00df_27 ⟨(show (0 + c2) + 0 ≤ c by omega), (show (0 + z3) + 0 ≤ z by omega)⟩) (fun r18 μ16 H locs ⟨hw, hKM16⟩ M => ?_)
      replace hw := hw hKM16
      have hKM16_ := hKM1_.tr hKM16
      have hk19 := hKM16.at hk6
      have hc : ((0 + c2) + 0) + (c - c2) ≤ c := by omega
      have hz : ((0 + z3) + 0) + (z - z3) ≤ z := by omega
      obtain ⟨hwt, hwf⟩ := hw
      refine lv_if_eq (tgt := 48) X.1 X.2.1 dJ5_setLength_d00df_30 (by decide) (fun hq => ?_) (fun hq => ?_)
      · have hw := hwt hq
        refine lv_aload_n X.1 X.2.1 dJ5_setLength_d00df_48 rfl (lv_at hl 0 rfl) ?_
        obtain ⟨x20, ex20, hw⟩ := hw
        refine mx_getr (C := RJ4) (F := TJ4) (N := 4) (ci := 0) X M 0 rfl in_J4 (by decide) rfl (by decide) kw_254 dJ5_setLength_d00df_49 hk19 ?_
        rw [ex20]
        refine lv_aload_n X.1 X.2.1 dJ5_setLength_d00df_52 rfl (lv_at hl 0 rfl) ?_
        refine mx_geti (C := RJ4) (F := TJ4) (N := 4) (ci := 0) X M 3 rfl in_J4 (by decide) rfl (by decide) kw_257 dJ5_setLength_d00df_53 hk19 ?_
        refine lv_iload_n X.1 X.2.1 dJ5_setLength_d00df_56 rfl (lv_at hl 1 rfl) ?_
        exact hw.elim
      · have hw := hwf hq
        refine lv_aload_n X.1 X.2.1 dJ5_setLength_d00df_33 rfl (lv_at hl 0 rfl) ?_
        obtain ⟨x21, ex21, hw⟩ := hw
        refine mx_getr (C := RJ4) (F := TJ4) (N := 4) (ci := 0) X M 0 rfl in_J4 (by decide) rfl (by decide) kw_254 dJ5_setLength_d00df_34 hk19 ?_
        rw [ex21]
        refine lv_aload_n X.1 X.2.1 dJ5_setLength_d00df_37 rfl (lv_at hl 0 rfl) ?_
        refine mx_geti (C := RJ4) (F := TJ4) (N := 4) (ci := 0) X M 3 rfl in_J4 (by decide) rfl (by decide) kw_257 dJ5_setLength_d00df_38 hk19 ?_
        refine lv_iload_n X.1 X.2.1 dJ5_setLength_d00df_41 rfl (lv_at hl 1 rfl) ?_
        exact hw.elim
  · have hw := hwf hq
    exact hw.elim

abbrev rm_J0_checkIndex_df160 : Room := { frames := 1, cells := 0, slots := 0, locals := 22 }
def wp_J0_checkIndex_df160 (μ : Mem) (a1 : Int32) (a2 : Int32) (post : Mem → Prop) : Prop :=
  ∀ r1 : Option Nat,
  wp_J3_checkIndex_8e157 μ a1 a2 r1 (fun (r4 : Int32) (μ2 : Mem) =>
  KM μ μ2 →
  post μ2)
set_option maxRecDepth 100000 in
set_option maxHeartbeats 4000000 in
theorem c_J0_checkIndex_df160 (l : Launch) (T : Tb) (B : Nat) (μ : Mem) (a1 : Int32) (a2 : Int32) (post : Mem → Prop) (hw : wp_J0_checkIndex_df160 μ a1 a2 post) : Met l yJ0_checkIndex_df160 (.code yJ0_checkIndex_df160 cJ0_checkIndex_df160 2 none :: G) rm_J0_checkIndex_df160 (Pm (Rl T B) T B μ [.int a1, .int a2]) (va_Qv (fun μ9 => post μ9 ∧ KM μ μ9) (Bm (Rl T B)) (Ai B)) 0 0 (Ai B) := by
  refine mx_of RJ0 rfl (by decide) (Nat.le_of_ble_eq_true rfl) ?_
  intro p e s m below meth c0 X hr hk hnm M ls hl
  have hl : lv_has ls 2 [(0, .int a1), (1, .int a2)] := hl
  unfold wp_J0_checkIndex_df160 at hw
  have hKM : KM μ μ := KM.rf μ
  refine lv_iload_n X.1 X.2.1 dJ0_checkIndex_df160_0 rfl (lv_at hl 0 rfl) ?_
  refine lv_iload_n X.1 X.2.1 dJ0_checkIndex_df160_1 rfl (lv_at hl 1 rfl) ?_
  refine my_stF X M kw_876 dJ0_checkIndex_df160_2 (fun r1 => ?_)
  replace hw := hw r1
  have hw3 := hw
  clear hw
  refine mx_ci M (mx_runS (n := 3) (As := [.int a1, .int a2, va_rf r1]) (rest := []) X M (c_J3_checkIndex_8e157 l T B μ a1 a2 r1 _ hw3) kw_878 kw_482 kw_84 kw_483 (by decide +kernel) rfl rfl ⟨Nat.le_of_ble_eq_true rfl, Nat.le_of_ble_eq_true rfl⟩ rfl hl.1 (Nat.le_of_ble_eq_true rfl) dJ0_checkIndex_df160_5 ⟨by decide, by decide⟩) (fun r4 μ2 H locs ⟨hw, hKM2⟩ M => ?_)
  replace hw := hw hKM2
  have hKM2_ := hKM.tr hKM2
  refine lv_pop X.1 X.2.1 dJ0_checkIndex_df160_8 rfl ?_
  exact mx_vret X hr hk M dJ0_checkIndex_df160_9 (by decide) (by decide) ⟨hw, hKM2_⟩

abbrev rm_J5_charAt_5068e : Room := { frames := 2, cells := 0, slots := 0, locals := 43 }
def wp_J5_charAt_5068e (μ : Mem) (o : Nat) (a1 : Int32) (post : Int32 → Mem → Prop) : Prop :=
  kd μ o = 1 ∧
  ∀ v2 : Int32, v2 = (fi μ 0 1 o) →
  ∃ x3, fr μ 0 0 o = some x3 ∧
  isArr (kd μ x3) ∧
  ∀ v4 : Int32, v4 = (if ((nI (al μ x3)) >>> (v2 &&& 31)) < (fi μ 0 3 o) then ((nI (al μ x3)) >>> (v2 &&& 31)) else (fi μ 0 3 o)) →
  wp_J0_checkIndex_df160 μ a1 v4 (fun (μ5 : Mem) =>
  KM μ μ5 →
  (v2 = 0 →
   kd μ5 x3 = 101 ∧
   vp_in a1 (al μ5 x3) ∧
   narrow .char (.int (UInt32.toInt32 (Int32.toUInt32 ((ai μ5 x3 (Int32.toNatClampNeg a1)) &&& 255) % 65536))) = .int (UInt32.toInt32 (Int32.toUInt32 ((ai μ5 x3 (Int32.toNatClampNeg a1)) &&& 255) % 65536)) ∧ post (UInt32.toInt32 (Int32.toUInt32 ((ai μ5 x3 (Int32.toNatClampNeg a1)) &&& 255) % 65536)) μ5) ∧ (¬ v2 = 0 →
   False))
set_option maxRecDepth 100000 in
set_option maxHeartbeats 4000000 in
theorem c_J5_charAt_5068e (l : Launch) (T : Tb) (B : Nat) (μ : Mem) (o : Nat) (a1 : Int32) (post : Int32 → Mem → Prop) (hw : wp_J5_charAt_5068e μ o a1 post) : Met l yJ5_charAt_5068e (.code yJ5_charAt_5068e cJ5_charAt_5068e 5 (some .char) :: G) rm_J5_charAt_5068e (Pm (Rl T B) T B μ [.ref o, .int a1]) (va_Qi (fun r9 μ9 => post r9 μ9 ∧ KM μ μ9) (Bm (Rl T B)) (Ai B)) 0 0 (Ai B) := by
  refine mx_of RJ5 rfl (by decide) (Nat.le_of_ble_eq_true rfl) ?_
  intro p e s m below meth c0 X hr hk hnm M ls hl
  have hl : lv_has ls 5 [(0, .ref o), (1, .int a1)] := hl
  unfold wp_J5_charAt_5068e at hw
  have hKM : KM μ μ := KM.rf μ
  refine lv_aload_n X.1 X.2.1 dJ5_charAt_5068e_0 rfl (lv_at hl 0 rfl) ?_
  obtain ⟨hk1, hw⟩ := hw
  refine mx_geti (C := RJ4) (F := TJ4) (N := 4) (ci := 0) X M 1 rfl in_J4 (by decide) rfl (by decide) kw_255 dJ5_charAt_5068e_1 hk1 ?_
  refine lv_topi (fun v2 ev2 => ?_)
  replace hw := hw v2 ev2
  refine lv_istore_n (lv' := [(2, .int v2), (0, .ref o), (1, .int a1)]) X.1 X.2.1 dJ5_charAt_5068e_4 rfl hl (by decide) rfl (fun ls hl => ?_)
  refine lv_aload_n X.1 X.2.1 dJ5_charAt_5068e_5 rfl (lv_at hl 1 rfl) ?_
  obtain ⟨x3, ex3, hw⟩ := hw
  refine mx_getr (C := RJ4) (F := TJ4) (N := 4) (ci := 0) X M 0 rfl in_J4 (by decide) rfl (by decide) kw_254 dJ5_charAt_5068e_6 hk1 ?_
  rw [ex3]
  refine lv_astore_n (lv' := [(3, .ref x3), (2, .int v2), (0, .ref o), (1, .int a1)]) X.1 X.2.1 dJ5_charAt_5068e_9 rfl hl (by decide) rfl (fun ls hl => ?_)
  refine lv_aload_n X.1 X.2.1 dJ5_charAt_5068e_10 rfl (lv_at hl 2 rfl) ?_
  refine mx_geti (C := RJ4) (F := TJ4) (N := 4) (ci := 0) X M 3 rfl in_J4 (by decide) rfl (by decide) kw_257 dJ5_charAt_5068e_11 hk1 ?_
  refine lv_aload_n X.1 X.2.1 dJ5_charAt_5068e_14 rfl (lv_at hl 0 rfl) ?_
  obtain ⟨hia, hw⟩ := hw
  refine mx_len X M dJ5_charAt_5068e_15 hia ?_
  refine lv_iload_n X.1 X.2.1 dJ5_charAt_5068e_16 rfl (lv_at hl 1 rfl) ?_
  refine lv_ishr X.1 X.2.1 dJ5_charAt_5068e_17 ?_
  refine my_min X kw_872 kw_322 kw_77 kw_323 hl.1 (Nat.le_of_ble_eq_true rfl) (Nat.le_of_ble_eq_true rfl) (by decide) (by decide) dJ5_charAt_5068e_18 ?_
  refine lv_topi (fun v4 ev4 => ?_)
  replace hw := hw v4 ev4
  refine lv_istore (lv' := [(4, .int v4), (3, .ref x3), (2, .int v2), (0, .ref o), (1, .int a1)]) X.1 X.2.1 dJ5_charAt_5068e_21 hl (by decide) rfl (fun ls hl => ?_)
  refine lv_iload_n X.1 X.2.1 dJ5_charAt_5068e_23 rfl (lv_at hl 4 rfl) ?_
  refine lv_iload X.1 X.2.1 dJ5_charAt_5068e_24 (lv_at hl 0 rfl) ?_
  have hw6 := hw
  clear hw
  refine mx_cv M (mx_runS (n := 2) (As := [.int a1, .int v4]) (rest := []) X M (c_J0_checkIndex_df160 l T B μ a1 v4 _ hw6) kw_873 kw_874 kw_74 kw_875 (by decide +kernel) rfl rfl ⟨Nat.le_of_ble_eq_true rfl, Nat.le_of_ble_eq_true rfl⟩ rfl hl.1 (Nat.le_of_ble_eq_true rfl) dJ5_charAt_5068e_26 ⟨by decide, by decide⟩) (fun μ5 H locs ⟨hw, hKM5⟩ M => ?_)
  replace hw := hw hKM5
  have hKM5_ := hKM.tr hKM5
  have hk7 := hKM5.at hk1
  refine lv_iload_n X.1 X.2.1 dJ5_charAt_5068e_29 rfl (lv_at hl 2 rfl) ?_
  obtain ⟨hwf, hwt⟩ := hw
  refine lv_if_ne (tgt := 42) X.1 X.2.1 dJ5_charAt_5068e_30 (by decide) (fun hq => ?_) (fun hq => ?_)
  · have hw := hwt hq
    refine lv_aload_n X.1 X.2.1 dJ5_charAt_5068e_42 rfl (lv_at hl 1 rfl) ?_
    refine lv_iload_n X.1 X.2.1 dJ5_charAt_5068e_43 rfl (lv_at hl 4 rfl) ?_
    exact hw.elim
  · have hw := hwf hq
    refine lv_aload_n X.1 X.2.1 dJ5_charAt_5068e_33 rfl (lv_at hl 1 rfl) ?_
    refine lv_iload_n X.1 X.2.1 dJ5_charAt_5068e_34 rfl (lv_at hl 4 rfl) ?_
    obtain ⟨hk8, hw⟩ := hw
    obtain ⟨hi, hw⟩ := hw
    refine mx_bld X M dJ5_charAt_5068e_35 hk8 hi ?_
    refine lv_sipush (v := 255) X.1 X.2.1 dJ5_charAt_5068e_36 (by decide) ?_
    refine lv_iand X.1 X.2.1 dJ5_charAt_5068e_39 ?_
    refine lv_i2c X.1 X.2.1 dJ5_charAt_5068e_40 rfl ?_
    exact mx_zret X hr hk M dJ5_charAt_5068e_41 (by decide) (by decide) hw.1 ⟨hw.2, hKM5_⟩

abbrev rm_J5_append_3fe6f (c z : Nat) : Room := { frames := 4, cells := c, slots := z, locals := 84 }
def wp_J5_append_3fe6f_45 (o : Nat) (post : Option Nat → Mem → Prop) (c z : Nat) (μ : Mem) (x1 : Int32) : Prop :=
  kd μ o = 1 ∧
  wp_J5_isLatin1_aae02 μ o (fun (r13 : Int32) (μ11 : Mem) =>
  KM μ μ11 →
  (r13 = 0 →
   ∃ x16, fr μ11 0 0 o = some x16 ∧
   ∀ μ17 : Mem, μ17 = sfi μ11 0 3 o ((fi μ11 0 3 o) + 1) →
   False) ∧ (¬ r13 = 0 →
   False))
def wp_J5_append_3fe6f (c z : Nat) (μ : Mem) (o : Nat) (a1 : Int32) (post : Option Nat → Mem → Prop) : Prop :=
  kd μ o = 1 ∧
  ∃ c3 z4, c3 ≤ c ∧ z4 ≤ z ∧
  wp_J5_ensureCapacityInternal_d00df c3 z4 μ o ((fi μ 0 3 o) + 1) (fun (μ2 : Mem) =>
  KM μ μ2 →
  wp_J5_isLatin1_aae02 μ2 o (fun (r9 : Int32) (μ7 : Mem) =>
  KM μ2 μ7 →
  (r9 = 0 →
   wp_J5_append_3fe6f_45 o post (c - c3) (z - z4) μ7 a1) ∧ (¬ r9 = 0 →
   wp_J1_canEncode_fc78d μ7 a1 (fun (r22 : Int32) (μ20 : Mem) =>
   KM μ7 μ20 →
   (r22 = 0 →
    wp_J5_append_3fe6f_45 o post (c - c3) (z - z4) μ20 a1) ∧ (¬ r22 = 0 →
    ∃ x24, fr μ20 0 0 o = some x24 ∧
    ∀ μ25 : Mem, μ25 = sfi μ20 0 3 o ((fi μ20 0 3 o) + 1) →
    kd μ25 x24 = 101 ∧
    vp_in (fi μ20 0 3 o) (al μ25 x24) ∧
    ∀ μ29 : Mem, μ29 = sai μ25 x24 (Int32.toNatClampNeg (fi μ20 0 3 o)) (vp_nar .byte (Int8.toInt32 (Int32.toInt8 a1))) →
    post (some o) μ29)))))
set_option maxRecDepth 100000 in
set_option maxHeartbeats 4000000 in
theorem b_J5_append_3fe6f_45 {T : Tb} {B : Nat} {p : Program} {l : Launch} {e : Env} {s : State} {m : MethodId} {args : Array Value} {below : List Frame} {meth : Method} {c0 : Code} {post : Option Nat → Mem → Prop} {μ0 : Mem} {o : Nat} {cT zT : Nat} (X : CX T B p m c0 cJ5_append_3fe6f 2 s args RJ5) (hr : meth.sig.returnType = (some (.object "java/lang/AbstractStringBuilder"))) (hk : meth.locks = false) : ∀ (c z cells slots : Nat) (μ : Mem) (x1 : Int32) (H : Heap) (locs : List Loc) (ls : Array Slot), cells + c ≤ cT → slots + z ≤ zT → KM μ0 μ → wp_J5_append_3fe6f_45 o post c z μ x1 → MG (Rl T B) B s μ H locs → lv_has ls 2 [(0, .ref o), (1, .int x1)] → W p l e (rm_J5_append_3fe6f cT zT) s m args below meth c0 H locs cells slots (MQ below (va_Qq (fun r9 μ9 => post r9 μ9 ∧ KM μ0 μ9) (Bm (Rl T B)) (Ai B)) args s cT zT (Ai B)) (F0 m 45 ls []) := by
  intro c z cells slots μ x1 H locs ls hc hz hKM hw M hl
  unfold wp_J5_append_3fe6f_45 at hw
  refine lv_aload_n X.1 X.2.1 dJ5_append_3fe6f_45 rfl (lv_at hl 0 rfl) ?_
  obtain ⟨hk14, hw⟩ := hw
  have hw12 := hw
  clear hw
  refine mx_ci M (mx_runV (n := 0) (As := []) (rest := []) X M (c_J5_isLatin1_aae02 l T B μ o _ hw12) (mx_recv (C := RJ4) (F := TJ4) (N := 4) (ci := 0) X M rfl (by decide) hk14) kw_1015 kw_1016 kw_1018 kw_72 kw_1019 (by decide +kernel) rfl rfl ⟨Nat.le_of_ble_eq_true rfl, Nat.le_of_ble_eq_true rfl⟩ rfl hl.1 (Nat.le_of_ble_eq_true rfl) dJ5_append_3fe6f_46 ⟨(show cells + 0 ≤ cT by omega), (show slots + 0 ≤ zT by omega)⟩) (fun r13 μ11 H locs ⟨hw, hKM11⟩ M => ?_)
  replace hw := hw hKM11
  have hKM11_ := hKM.tr hKM11
  have hk15 := hKM11.at hk14
  have hc : (cells + 0) + (c) ≤ cT := by omega
  have hz : (slots + 0) + (z) ≤ zT := by omega
  obtain ⟨hwt, hwf⟩ := hw
  refine lv_if_eq (tgt := 56) X.1 X.2.1 dJ5_append_3fe6f_49 (by decide) (fun hq => ?_) (fun hq => ?_)
  · have hw := hwt hq
    refine lv_aload_n X.1 X.2.1 dJ5_append_3fe6f_56 rfl (lv_at hl 0 rfl) ?_
    obtain ⟨x16, ex16, hw⟩ := hw
    refine mx_getr (C := RJ4) (F := TJ4) (N := 4) (ci := 0) X M 0 rfl in_J4 (by decide) rfl (by decide) kw_254 dJ5_append_3fe6f_57 hk15 ?_
    rw [ex16]
    refine lv_aload_n X.1 X.2.1 dJ5_append_3fe6f_60 rfl (lv_at hl 0 rfl) ?_
    refine lv_dup X.1 X.2.1 dJ5_append_3fe6f_61 rfl ?_
    refine mx_geti (C := RJ4) (F := TJ4) (N := 4) (ci := 0) X M 3 rfl in_J4 (by decide) rfl (by decide) kw_257 dJ5_append_3fe6f_62 hk15 ?_
    refine lv_dup_x1 X.1 X.2.1 dJ5_append_3fe6f_65 rfl rfl ?_
    refine lv_iconst (v := 1) X.1 X.2.1 dJ5_append_3fe6f_66 (by decide) ?_
    refine lv_iadd X.1 X.2.1 dJ5_append_3fe6f_67 ?_
    refine my_puti (C := RJ4) (F := TJ4) (N := 4) (ci := 0) X M 3 rfl in_J4 tyJ4 tyJ4_ok nmJ4 (by decide) rfl (by decide) kw_257 (Or.inl rfl) dJ5_append_3fe6f_68 hk15 rfl rfl (fun μ17 H locs eμ17 M => ?_)
    replace hw := hw μ17 eμ17
    have hKM18 : KM μ0 μ17 := by rw [eμ17]; exact hKM11_
    have hk19 : kd μ17 o = 1 := by rw [eμ17]; exact hk15
    refine lv_iload_n X.1 X.2.1 dJ5_append_3fe6f_71 rfl (lv_at hl 1 rfl) ?_
    exact hw.elim
  · have hw := hwf hq
    refine lv_aload_n X.1 X.2.1 dJ5_append_3fe6f_52 rfl (lv_at hl 0 rfl) ?_
    exact hw.elim
set_option maxRecDepth 100000 in
set_option maxHeartbeats 4000000 in
theorem c_J5_append_3fe6f (l : Launch) (T : Tb) (B : Nat) (c z : Nat) (μ : Mem) (o : Nat) (a1 : Int32) (post : Option Nat → Mem → Prop) (hw : wp_J5_append_3fe6f c z μ o a1 post) : Met l yJ5_append_3fe6f (.code yJ5_append_3fe6f cJ5_append_3fe6f 2 (some (.object "java/lang/AbstractStringBuilder")) :: G) (rm_J5_append_3fe6f c z) (Pm (Rl T B) T B μ [.ref o, .int a1]) (va_Qq (fun r9 μ9 => post r9 μ9 ∧ KM μ μ9) (Bm (Rl T B)) (Ai B)) c z (Ai B) := by
  refine mx_of RJ5 rfl (by decide) (Nat.le_of_ble_eq_true rfl) ?_
  intro p e s m below meth c0 X hr hk hnm M ls hl
  have hl : lv_has ls 2 [(0, .ref o), (1, .int a1)] := hl
  unfold wp_J5_append_3fe6f at hw
  have hKM : KM μ μ := KM.rf μ
  have hc : 0 + c ≤ c := by omega
  have hz : 0 + z ≤ z := by omega
  refine lv_aload_n X.1 X.2.1 dJ5_append_3fe6f_0 rfl (lv_at hl 0 rfl) ?_
  refine lv_aload_n X.1 X.2.1 dJ5_append_3fe6f_1 rfl (lv_at hl 0 rfl) ?_
  obtain ⟨hk1, hw⟩ := hw
  refine mx_geti (C := RJ4) (F := TJ4) (N := 4) (ci := 0) X M 3 rfl in_J4 (by decide) rfl (by decide) kw_257 dJ5_append_3fe6f_2 hk1 ?_
  refine lv_iconst (v := 1) X.1 X.2.1 dJ5_append_3fe6f_5 (by decide) ?_
  refine lv_iadd X.1 X.2.1 dJ5_append_3fe6f_6 ?_
  obtain ⟨c3, z4, hc3, hz4, hw⟩ := hw
  have hw5 := hw
  clear hw
  refine mx_cv M (mx_runV (n := 1) (As := [.int ((fi μ 0 3 o) + 1)]) (rest := []) X M (c_J5_ensureCapacityInternal_d00df l T B c3 z4 μ o ((fi μ 0 3 o) + 1) _ hw5) (mx_recv (C := RJ4) (F := TJ4) (N := 4) (ci := 0) X M rfl (by decide) hk1) kw_997 kw_999 kx_0 kw_72 kw_1000 (by decide +kernel) rfl rfl ⟨Nat.le_of_ble_eq_true rfl, Nat.le_of_ble_eq_true rfl⟩ rfl hl.1 (Nat.le_of_ble_eq_true rfl) dJ5_append_3fe6f_7 ⟨(show 0 + c3 ≤ c by omega), (show 0 + z4 ≤ z by omega)⟩) (fun μ2 H locs ⟨hw, hKM2⟩ M => ?_)
  replace hw := hw hKM2
  have hKM2_ := hKM.tr hKM2
  have hk6 := hKM2.at hk1
  have hc : (0 + c3) + (c - c3) ≤ c := by omega
  have hz : (0 + z4) + (z - z4) ≤ z := by omega
  refine lv_aload_n X.1 X.2.1 dJ5_append_3fe6f_10 rfl (lv_at hl 0 rfl) ?_
  have hw8 := hw
  clear hw
  refine mx_ci M (mx_runV (n := 0) (As := []) (rest := []) X M (c_J5_isLatin1_aae02 l T B μ2 o _ hw8) (mx_recv (C := RJ4) (F := TJ4) (N := 4) (ci := 0) X M rfl (by decide) hk6) kw_1015 kw_1016 kw_1018 kw_72 kw_1019 (by decide +kernel) rfl rfl ⟨Nat.le_of_ble_eq_true rfl, Nat.le_of_ble_eq_true rfl⟩ rfl hl.1 (Nat.le_of_ble_eq_true rfl) dJ5_append_3fe6f_11 ⟨(show (0 + c3) + 0 ≤ c by omega), (show (0 + z4) + 0 ≤ z by omega)⟩) (fun r9 μ7 H locs ⟨hw, hKM7⟩ M => ?_)
  replace hw := hw hKM7
  have hKM7_ := hKM2_.tr hKM7
  have hk10 := hKM7.at hk6
  have hc : ((0 + c3) + 0) + (c - c3) ≤ c := by omega
  have hz : ((0 + z4) + 0) + (z - z4) ≤ z := by omega
  obtain ⟨hwt, hwf⟩ := hw
  refine lv_if_eq (tgt := 45) X.1 X.2.1 dJ5_append_3fe6f_14 (by decide) (fun hq => ?_) (fun hq => ?_)
  · have hw := hwt hq
    exact b_J5_append_3fe6f_45 X hr hk _ _ _ _ μ7 a1 _ _ _ (by omega) (by omega) hKM7_ hw M (lv_sub hl [0, 1] rfl)
  · have hw := hwf hq
    refine lv_iload_n X.1 X.2.1 dJ5_append_3fe6f_17 rfl (lv_at hl 1 rfl) ?_
    have hw21 := hw
    clear hw
    refine mx_ci M (mx_runS (n := 1) (As := [.int a1]) (rest := []) X M (c_J1_canEncode_fc78d l T B μ7 a1 _ hw21) kw_1083 kw_1084 kw_92 kw_1085 (by decide +kernel) rfl rfl ⟨Nat.le_of_ble_eq_true rfl, Nat.le_of_ble_eq_true rfl⟩ rfl hl.1 (Nat.le_of_ble_eq_true rfl) dJ5_append_3fe6f_18 ⟨(show ((0 + c3) + 0) + 0 ≤ c by omega), (show ((0 + z4) + 0) + 0 ≤ z by omega)⟩) (fun r22 μ20 H locs ⟨hw, hKM20⟩ M => ?_)
    replace hw := hw hKM20
    have hKM20_ := hKM7_.tr hKM20
    have hk23 := hKM20.at hk10
    have hc : (((0 + c3) + 0) + 0) + (c - c3) ≤ c := by omega
    have hz : (((0 + z4) + 0) + 0) + (z - z4) ≤ z := by omega
    obtain ⟨hwt, hwf⟩ := hw
    refine lv_if_eq (tgt := 45) X.1 X.2.1 dJ5_append_3fe6f_21 (by decide) (fun hq => ?_) (fun hq => ?_)
    · have hw := hwt hq
      exact b_J5_append_3fe6f_45 X hr hk _ _ _ _ μ20 a1 _ _ _ (by omega) (by omega) hKM20_ hw M (lv_sub hl [0, 1] rfl)
    · have hw := hwf hq
      refine lv_aload_n X.1 X.2.1 dJ5_append_3fe6f_24 rfl (lv_at hl 0 rfl) ?_
      obtain ⟨x24, ex24, hw⟩ := hw
      refine mx_getr (C := RJ4) (F := TJ4) (N := 4) (ci := 0) X M 0 rfl in_J4 (by decide) rfl (by decide) kw_254 dJ5_append_3fe6f_25 hk23 ?_
      rw [ex24]
      refine lv_aload_n X.1 X.2.1 dJ5_append_3fe6f_28 rfl (lv_at hl 0 rfl) ?_
      refine lv_dup X.1 X.2.1 dJ5_append_3fe6f_29 rfl ?_
      refine mx_geti (C := RJ4) (F := TJ4) (N := 4) (ci := 0) X M 3 rfl in_J4 (by decide) rfl (by decide) kw_257 dJ5_append_3fe6f_30 hk23 ?_
      refine lv_dup_x1 X.1 X.2.1 dJ5_append_3fe6f_33 rfl rfl ?_
      refine lv_iconst (v := 1) X.1 X.2.1 dJ5_append_3fe6f_34 (by decide) ?_
      refine lv_iadd X.1 X.2.1 dJ5_append_3fe6f_35 ?_
      refine my_puti (C := RJ4) (F := TJ4) (N := 4) (ci := 0) X M 3 rfl in_J4 tyJ4 tyJ4_ok nmJ4 (by decide) rfl (by decide) kw_257 (Or.inl rfl) dJ5_append_3fe6f_36 hk23 rfl rfl (fun μ25 H locs eμ25 M => ?_)
      replace hw := hw μ25 eμ25
      have hKM26 : KM μ μ25 := by rw [eμ25]; exact hKM20_
      have hk27 : kd μ25 o = 1 := by rw [eμ25]; exact hk23
      refine lv_iload_n X.1 X.2.1 dJ5_append_3fe6f_39 rfl (lv_at hl 1 rfl) ?_
      refine lv_i2b X.1 X.2.1 dJ5_append_3fe6f_40 rfl ?_
      obtain ⟨hk28, hw⟩ := hw
      obtain ⟨hi, hw⟩ := hw
      refine my_bst X M dJ5_append_3fe6f_41 hk28 hi (fun μ29 H locs eμ29 M => ?_)
      replace hw := hw μ29 eμ29
      have hKM30 : KM μ μ29 := by rw [eμ29]; exact hKM26
      have hk31 : kd μ29 o = 1 := by rw [eμ29]; exact hk27
      have hk32 : kd μ29 x24 = 101 := by rw [eμ29]; exact hk28
      refine lv_goto (tgt := 75) X.1 X.2.1 dJ5_append_3fe6f_42 (by decide) ?_
      refine lv_aload_n X.1 X.2.1 dJ5_append_3fe6f_75 rfl (lv_at hl 0 rfl) ?_
      exact mx_aret (r := (some o)) X hr (Or.inl ⟨_, rfl⟩) hk M dJ5_append_3fe6f_76 (by omega) (by omega) ⟨hw, hKM30⟩
