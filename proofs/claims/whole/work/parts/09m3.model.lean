abbrev rm_X11_fail : Room := { frames := 2, cells := 0, slots := 0, locals := 42 }
def wp_X11_fail_49 (post : MSt → Prop) : Nat → MSt → Int32 → Int32 → Int32 → Prop
  | 0, _, _, _, _ => False
  | n + 1, σ, x1, x3, x4 =>
    vp_in x1 7000 ∧
    ((mi σ 41) ≤ (ma σ 38 (Int32.toNatClampNeg x1)) →
     vp_in x1 7000 ∧
     ∀ σ7 : MSt, σ7 = smi σ 25 (ma σ 35 (Int32.toNatClampNeg x1)) →
     vp_in x1 7000 ∧
     ∀ σ8 : MSt, σ8 = smi σ7 19 (ma σ7 36 (Int32.toNatClampNeg x1)) →
     vp_in x1 7000 ∧
     ∀ σ9 : MSt, σ9 = smi σ8 24 (ma σ8 37 (Int32.toNatClampNeg x1)) →
     ∀ σ10 : MSt, σ10 = smi σ9 45 x3 →
     vp_in x3 7000 ∧ ∀ σ11 : MSt, σ11 = sma σ10 30 (Int32.toNatClampNeg x3) x4 →
     post σ11) ∧ (¬ (mi σ 41) ≤ (ma σ 38 (Int32.toNatClampNeg x1)) →
     ∀ σ12 : MSt, σ12 = smi σ 41 ((mi σ 41) - 1) →
     vp_in (mi σ12 41) 200000 ∧
     vp_in (mi σ12 41) 200000 ∧
     vp_in (ma σ12 42 (Int32.toNatClampNeg (mi σ12 41))) 20100 ∧ ∀ σ13 : MSt, σ13 = sml σ12 39 (Int32.toNatClampNeg (ma σ12 42 (Int32.toNatClampNeg (mi σ12 41)))) (ml σ12 43 (Int32.toNatClampNeg (mi σ12 41))) →
     wp_X11_fail_49 post n σ13 x1 x3 x4)
def wp_X11_fail_0 (post : MSt → Prop) : Nat → MSt → Prop
  | 0, _ => False
  | n + 1, σ =>
    wp_X11_lastRedo σ (fun (r2 : Int32) (σ1 : MSt) =>
    (0 ≤ r2 →
     vp_in r2 7000 ∧
     ∀ v3 : Int32, v3 = (ma σ1 34 (Int32.toNatClampNeg r2)) →
     vp_in r2 7000 ∧
     ∀ v4 : Int32, v4 = (ma σ1 31 (Int32.toNatClampNeg r2)) →
     vp_in r2 7000 ∧
     ∀ v5 : Int32, v5 = (ma σ1 30 (Int32.toNatClampNeg r2)) →
     wp_X11_dropFrom σ1 r2 (fun (σ6 : MSt) =>
     (v3 = 0 →
      ∃ n14, wp_X11_fail_49 post n14 σ6 r2 v4 v5) ∧ (¬ v3 = 0 →
      wp_X11_fail_0 post n σ6 ))) ∧ (¬ 0 ≤ r2 →
     ∀ σ15 : MSt, σ15 = smi σ1 44 2 →
     post σ15))
def wp_X11_fail (σ : MSt) (post : MSt → Prop) : Prop :=
  ∃ n16, wp_X11_fail_0 post n16 σ 
set_option maxRecDepth 100000 in
set_option maxHeartbeats 4000000 in
theorem b_X11_fail_49 {T : Tb} {B : Nat} {p : Program} {l : Launch} {e : Env} {s : State} {m : MethodId} {args : Array Value} {below : List Frame} {meth : Method} {c0 : Code} {post : MSt → Prop} {μ0 : Mem} {o : Nat} {A : Nat → Nat} (X : CX T B p m c0 cX11_fail 5 s args RX11) (hr : meth.sig.returnType = none) (hk : meth.locks = false) : ∀ (n : Nat) (σ : MSt) (x1 : Int32) (x3 : Int32) (x4 : Int32) (H : Heap) (locs : List Loc) (ls : Array Slot), wp_X11_fail_49 post n σ x1 x3 x4 → MG (WM T B μ0 o A) B s σ H locs → lv_has ls 5 [(0, .ref o), (1, .int x1), (3, .int x3), (4, .int x4)] → W p l e rm_X11_fail s m args below meth c0 H locs 0 0 (MQ below (va_Qv post (Bm (WM T B μ0 o A)) (Ai B)) args s 0 0 (Ai B)) (F0 m 49 ls []) := by
  intro n
  induction n with
  | zero =>
    intro σ x1 x3 x4 H locs ls hw
    exact hw.elim
  | succ n ih =>
    intro σ x1 x3 x4 H locs ls hw M hl
    rw [wp_X11_fail_49] at hw
    refine lv_aload_n X.1 X.2.1 dX11_fail_49 rfl (lv_at hl 0 rfl) ?_
    refine mm_geti X M 41 (by decide) rfl kw_1006 dX11_fail_50 ?_
    refine lv_aload_n X.1 X.2.1 dX11_fail_53 rfl (lv_at hl 0 rfl) ?_
    refine mm_geta X M 38 (by decide) rfl (by decide) kw_1003 dX11_fail_54 ?_
    refine lv_iload_n X.1 X.2.1 dX11_fail_57 rfl (lv_at hl 1 rfl) ?_
    obtain ⟨hi, hw⟩ := hw
    refine mm_ald X M 38 rfl dX11_fail_58 hi ?_
    obtain ⟨hwt, hwf⟩ := hw
    refine lv_icmp_le (tgt := 98) X.1 X.2.1 dX11_fail_59 (by decide) (fun hq => ?_) (fun hq => ?_)
    · have hw := hwt hq
      refine lv_aload_n X.1 X.2.1 dX11_fail_98 rfl (lv_at hl 0 rfl) ?_
      refine lv_aload_n X.1 X.2.1 dX11_fail_99 rfl (lv_at hl 0 rfl) ?_
      refine mm_geta X M 35 (by decide) rfl (by decide) kw_1000 dX11_fail_100 ?_
      refine lv_iload_n X.1 X.2.1 dX11_fail_103 rfl (lv_at hl 1 rfl) ?_
      obtain ⟨hi, hw⟩ := hw
      refine mm_ald X M 35 rfl dX11_fail_104 hi ?_
      refine mm_puti X M 25 (by decide) rfl kw_990 rfl dX11_fail_105 rfl rfl (fun σ7 H locs eσ7 M => ?_)
      replace hw := hw σ7 eσ7
      refine lv_aload_n X.1 X.2.1 dX11_fail_108 rfl (lv_at hl 0 rfl) ?_
      refine lv_aload_n X.1 X.2.1 dX11_fail_109 rfl (lv_at hl 0 rfl) ?_
      refine mm_geta X M 36 (by decide) rfl (by decide) kw_1001 dX11_fail_110 ?_
      refine lv_iload_n X.1 X.2.1 dX11_fail_113 rfl (lv_at hl 1 rfl) ?_
      obtain ⟨hi, hw⟩ := hw
      refine mm_ald X M 36 rfl dX11_fail_114 hi ?_
      refine mm_puti X M 19 (by decide) rfl kw_984 rfl dX11_fail_115 rfl rfl (fun σ8 H locs eσ8 M => ?_)
      replace hw := hw σ8 eσ8
      refine lv_aload_n X.1 X.2.1 dX11_fail_118 rfl (lv_at hl 0 rfl) ?_
      refine lv_aload_n X.1 X.2.1 dX11_fail_119 rfl (lv_at hl 0 rfl) ?_
      refine mm_geta X M 37 (by decide) rfl (by decide) kw_1002 dX11_fail_120 ?_
      refine lv_iload_n X.1 X.2.1 dX11_fail_123 rfl (lv_at hl 1 rfl) ?_
      obtain ⟨hi, hw⟩ := hw
      refine mm_ald X M 37 rfl dX11_fail_124 hi ?_
      refine mm_puti X M 24 (by decide) rfl kw_989 rfl dX11_fail_125 rfl rfl (fun σ9 H locs eσ9 M => ?_)
      replace hw := hw σ9 eσ9
      refine lv_aload_n X.1 X.2.1 dX11_fail_128 rfl (lv_at hl 0 rfl) ?_
      refine lv_iload_n X.1 X.2.1 dX11_fail_129 rfl (lv_at hl 2 rfl) ?_
      refine mm_puti X M 45 (by decide) rfl kw_1010 rfl dX11_fail_130 rfl rfl (fun σ10 H locs eσ10 M => ?_)
      replace hw := hw σ10 eσ10
      refine lv_aload_n X.1 X.2.1 dX11_fail_133 rfl (lv_at hl 0 rfl) ?_
      refine mm_geta X M 30 (by decide) rfl (by decide) kw_995 dX11_fail_134 ?_
      refine lv_iload_n X.1 X.2.1 dX11_fail_137 rfl (lv_at hl 2 rfl) ?_
      refine lv_iload X.1 X.2.1 dX11_fail_138 (lv_at hl 3 rfl) ?_
      obtain ⟨hi, hw⟩ := hw
      refine mm_ast X M 30 rfl dX11_fail_140 hi (fun σ11 H locs eσ11 M => ?_)
      replace hw := hw σ11 eσ11
      exact mx_vret X hr hk M dX11_fail_141 (by decide) (by decide) hw
    · have hw := hwf hq
      refine lv_aload_n X.1 X.2.1 dX11_fail_62 rfl (lv_at hl 0 rfl) ?_
      refine lv_dup X.1 X.2.1 dX11_fail_63 rfl ?_
      refine mm_geti X M 41 (by decide) rfl kw_1006 dX11_fail_64 ?_
      refine lv_iconst (v := 1) X.1 X.2.1 dX11_fail_67 (by decide) ?_
      refine lv_isub X.1 X.2.1 dX11_fail_68 ?_
      refine mm_puti X M 41 (by decide) rfl kw_1006 rfl dX11_fail_69 rfl rfl (fun σ12 H locs eσ12 M => ?_)
      replace hw := hw σ12 eσ12
      refine lv_aload_n X.1 X.2.1 dX11_fail_72 rfl (lv_at hl 0 rfl) ?_
      refine mm_geta X M 39 (by decide) rfl (by decide) kw_1004 dX11_fail_73 ?_
      refine lv_aload_n X.1 X.2.1 dX11_fail_76 rfl (lv_at hl 0 rfl) ?_
      refine mm_geta X M 42 (by decide) rfl (by decide) kw_1007 dX11_fail_77 ?_
      refine lv_aload_n X.1 X.2.1 dX11_fail_80 rfl (lv_at hl 0 rfl) ?_
      refine mm_geti X M 41 (by decide) rfl kw_1006 dX11_fail_81 ?_
      obtain ⟨hi, hw⟩ := hw
      refine mm_ald X M 42 rfl dX11_fail_84 hi ?_
      refine lv_aload_n X.1 X.2.1 dX11_fail_85 rfl (lv_at hl 0 rfl) ?_
      refine mm_geta X M 43 (by decide) rfl (by decide) kw_1008 dX11_fail_86 ?_
      refine lv_aload_n X.1 X.2.1 dX11_fail_89 rfl (lv_at hl 0 rfl) ?_
      refine mm_geti X M 41 (by decide) rfl kw_1006 dX11_fail_90 ?_
      obtain ⟨hi, hw⟩ := hw
      refine mm_jld X M 43 rfl dX11_fail_93 hi ?_
      obtain ⟨hi, hw⟩ := hw
      refine mm_jst X M 39 rfl dX11_fail_94 hi (fun σ13 H locs eσ13 M => ?_)
      replace hw := hw σ13 eσ13
      refine lv_goto (tgt := 49) X.1 X.2.1 dX11_fail_95 (by decide) ?_
      exact ih σ13 x1 x3 x4 _ _ _ hw M (lv_sub hl [0, 1, 2, 3] rfl)
set_option maxRecDepth 100000 in
set_option maxHeartbeats 4000000 in
theorem b_X11_fail_0 {T : Tb} {B : Nat} {p : Program} {l : Launch} {e : Env} {s : State} {m : MethodId} {args : Array Value} {below : List Frame} {meth : Method} {c0 : Code} {post : MSt → Prop} {μ0 : Mem} {o : Nat} {A : Nat → Nat} (X : CX T B p m c0 cX11_fail 5 s args RX11) (hr : meth.sig.returnType = none) (hk : meth.locks = false) : ∀ (n : Nat) (σ : MSt) (H : Heap) (locs : List Loc) (ls : Array Slot), wp_X11_fail_0 post n σ  → MG (WM T B μ0 o A) B s σ H locs → lv_has ls 5 [(0, .ref o)] → W p l e rm_X11_fail s m args below meth c0 H locs 0 0 (MQ below (va_Qv post (Bm (WM T B μ0 o A)) (Ai B)) args s 0 0 (Ai B)) (F0 m 0 ls []) := by
  intro n
  induction n with
  | zero =>
    intro σ  H locs ls hw
    exact hw.elim
  | succ n ih =>
    intro σ  H locs ls hw M hl
    rw [wp_X11_fail_0] at hw
    refine lv_aload_n X.1 X.2.1 dX11_fail_0 rfl (lv_at hl 0 rfl) ?_
    refine mx_ci M (mx_runV (n := 0) (As := []) (rest := []) X M (c_X11_lastRedo l T B μ0 o A σ _ hw) (mm_recv X M) kw_1206 kw_1208 kw_38 kw_74 kw_1209 (by decide +kernel) rfl rfl ⟨Nat.le_of_ble_eq_true rfl, Nat.le_of_ble_eq_true rfl⟩ rfl hl.1 (Nat.le_of_ble_eq_true rfl) dX11_fail_1 ⟨by decide, by decide⟩) (fun r2 σ1 H locs hw M => ?_)
    refine lv_istore_n (lv' := [(1, .int r2), (0, .ref o)]) X.1 X.2.1 dX11_fail_4 rfl hl (by decide) rfl (fun ls hl => ?_)
    refine lv_iload_n X.1 X.2.1 dX11_fail_5 rfl (lv_at hl 0 rfl) ?_
    obtain ⟨hwt, hwf⟩ := hw
    refine lv_if_ge (tgt := 15) X.1 X.2.1 dX11_fail_6 (by decide) (fun hq => ?_) (fun hq => ?_)
    · have hw := hwt hq
      refine lv_aload_n X.1 X.2.1 dX11_fail_15 rfl (lv_at hl 1 rfl) ?_
      refine mm_geta X M 34 (by decide) rfl (by decide) kw_999 dX11_fail_16 ?_
      refine lv_iload_n X.1 X.2.1 dX11_fail_19 rfl (lv_at hl 0 rfl) ?_
      obtain ⟨hi, hw⟩ := hw
      refine mm_zld X M 34 rfl dX11_fail_20 hi ?_
      refine lv_topi (fun v3 ev3 => ?_)
      replace hw := hw v3 ev3
      refine lv_istore_n (lv' := [(2, .int v3), (1, .int r2), (0, .ref o)]) X.1 X.2.1 dX11_fail_21 rfl hl (by decide) rfl (fun ls hl => ?_)
      refine lv_aload_n X.1 X.2.1 dX11_fail_22 rfl (lv_at hl 2 rfl) ?_
      refine mm_geta X M 31 (by decide) rfl (by decide) kw_996 dX11_fail_23 ?_
      refine lv_iload_n X.1 X.2.1 dX11_fail_26 rfl (lv_at hl 1 rfl) ?_
      obtain ⟨hi, hw⟩ := hw
      refine mm_ald X M 31 rfl dX11_fail_27 hi ?_
      refine lv_topi (fun v4 ev4 => ?_)
      replace hw := hw v4 ev4
      refine lv_istore_n (lv' := [(3, .int v4), (2, .int v3), (1, .int r2), (0, .ref o)]) X.1 X.2.1 dX11_fail_28 rfl hl (by decide) rfl (fun ls hl => ?_)
      refine lv_aload_n X.1 X.2.1 dX11_fail_29 rfl (lv_at hl 3 rfl) ?_
      refine mm_geta X M 30 (by decide) rfl (by decide) kw_995 dX11_fail_30 ?_
      refine lv_iload_n X.1 X.2.1 dX11_fail_33 rfl (lv_at hl 2 rfl) ?_
      obtain ⟨hi, hw⟩ := hw
      refine mm_ald X M 30 rfl dX11_fail_34 hi ?_
      refine lv_topi (fun v5 ev5 => ?_)
      replace hw := hw v5 ev5
      refine lv_istore (lv' := [(4, .int v5), (3, .int v4), (2, .int v3), (1, .int r2), (0, .ref o)]) X.1 X.2.1 dX11_fail_35 hl (by decide) rfl (fun ls hl => ?_)
      refine lv_aload_n X.1 X.2.1 dX11_fail_37 rfl (lv_at hl 4 rfl) ?_
      refine lv_iload_n X.1 X.2.1 dX11_fail_38 rfl (lv_at hl 3 rfl) ?_
      refine mx_cv M (mx_runV (n := 1) (As := [.int r2]) (rest := []) X M (c_X11_dropFrom l T B μ0 o A σ1 r2 _ hw) (mm_recv X M) kw_1210 kw_1212 kw_39 kw_74 kw_1213 (by decide +kernel) rfl rfl ⟨Nat.le_of_ble_eq_true rfl, Nat.le_of_ble_eq_true rfl⟩ rfl hl.1 (Nat.le_of_ble_eq_true rfl) dX11_fail_39 ⟨by decide, by decide⟩) (fun σ6 H locs hw M => ?_)
      refine lv_iload_n X.1 X.2.1 dX11_fail_42 rfl (lv_at hl 2 rfl) ?_
      obtain ⟨hwt, hwf⟩ := hw
      refine lv_if_eq (tgt := 49) X.1 X.2.1 dX11_fail_43 (by decide) (fun hq => ?_) (fun hq => ?_)
      · have hw := hwt hq
        obtain ⟨n14, hw⟩ := hw
        exact b_X11_fail_49 X hr hk n14 σ6 r2 v4 v5 _ _ _ hw M (lv_sub hl [4, 3, 1, 0] rfl)
      · have hw := hwf hq
        refine lv_goto (tgt := 0) X.1 X.2.1 dX11_fail_46 (by decide) ?_
        exact ih σ6  _ _ _ hw M (lv_sub hl [4] rfl)
    · have hw := hwf hq
      refine lv_aload_n X.1 X.2.1 dX11_fail_9 rfl (lv_at hl 1 rfl) ?_
      refine lv_iconst (v := 2) X.1 X.2.1 dX11_fail_10 (by decide) ?_
      refine mm_puti X M 44 (by decide) rfl kw_1009 rfl dX11_fail_11 rfl rfl (fun σ15 H locs eσ15 M => ?_)
      replace hw := hw σ15 eσ15
      exact mx_vret X hr hk M dX11_fail_14 (by decide) (by decide) hw
set_option maxRecDepth 100000 in
set_option maxHeartbeats 4000000 in
theorem c_X11_fail (l : Launch) (T : Tb) (B : Nat) (μ0 : Mem) (o : Nat) (A : Nat → Nat) (σ : MSt) (post : MSt → Prop) (hw : wp_X11_fail σ  post) : Met l yX11_fail (.code yX11_fail cX11_fail 5 none :: G) rm_X11_fail (Pm (WM T B μ0 o A) T B σ [.ref o]) (va_Qv post (Bm (WM T B μ0 o A)) (Ai B)) 0 0 (Ai B) := by
  refine mx_of RX11 rfl (by decide) (Nat.le_of_ble_eq_true rfl) ?_
  intro p e s m below meth c0 X hr hk hnm M ls hl
  have hl : lv_has ls 5 [(0, .ref o)] := hl
  unfold wp_X11_fail at hw
  obtain ⟨n16, hw⟩ := hw
  exact b_X11_fail_0 X hr hk n16 σ  _ _ _ hw M (lv_sub hl [0] rfl)

abbrev rm_X11_takeCell : Room := { frames := 3, cells := 0, slots := 0, locals := 66 }
def wp_X11_takeCell_47 (post : MSt → Prop) : Nat → MSt → Int32 → Int32 → Int32 → Prop
  | 0, _, _, _, _ => False
  | n + 1, σ, x1, x4, x5 =>
    vp_in x1 2000 ∧
    ((ma σ 17 (Int32.toNatClampNeg x1)) ≤ x5 →
     post σ) ∧ (¬ (ma σ 17 (Int32.toNatClampNeg x1)) ≤ x5 →
     vp_in (((10 : Int32) * x1) + x5) 20000 ∧
     vp_in x4 20100 ∧
     vp_in ((ma σ 22 (Int32.toNatClampNeg x4)) + x5) 20100 ∧
     wp_X11_set σ (ma σ 18 (Int32.toNatClampNeg (((10 : Int32) * x1) + x5))) (ml σ 23 (Int32.toNatClampNeg ((ma σ 22 (Int32.toNatClampNeg x4)) + x5))) (fun (σ6 : MSt) =>
     ∀ v7 : Int32, v7 = x5 + 1 →
     wp_X11_takeCell_47 post n σ6 x1 x4 v7))
def wp_X11_takeCell (σ : MSt) (a1 : Int32) (post : MSt → Prop) : Prop :=
  vp_in a1 2000 ∧
  wp_X11_get σ (ma σ 13 (Int32.toNatClampNeg a1)) (fun (r2 : Int64) (σ1 : MSt) =>
  vp_in a1 2000 ∧
  vp_in a1 2000 ∧
  wp_X11_has σ1 r2 (ma σ1 14 (Int32.toNatClampNeg a1)) (ma σ1 17 (Int32.toNatClampNeg a1)) (fun (r4 : Int32) (σ3 : MSt) =>
  (r4 = 0 →
   wp_X11_fail σ3 (fun (σ9 : MSt) =>
   post σ9)) ∧ (¬ r4 = 0 →
   ∀ v5 : Int32, v5 = (Int64.toInt32 (r2 - 1099511627776)) →
   ∃ n8, wp_X11_takeCell_47 post n8 σ3 a1 v5 0)))
set_option maxRecDepth 100000 in
set_option maxHeartbeats 4000000 in
theorem b_X11_takeCell_47 {T : Tb} {B : Nat} {p : Program} {l : Launch} {e : Env} {s : State} {m : MethodId} {args : Array Value} {below : List Frame} {meth : Method} {c0 : Code} {post : MSt → Prop} {μ0 : Mem} {o : Nat} {A : Nat → Nat} (X : CX T B p m c0 cX11_takeCell 6 s args RX11) (hr : meth.sig.returnType = none) (hk : meth.locks = false) : ∀ (n : Nat) (σ : MSt) (x1 : Int32) (x4 : Int32) (x5 : Int32) (H : Heap) (locs : List Loc) (ls : Array Slot), wp_X11_takeCell_47 post n σ x1 x4 x5 → MG (WM T B μ0 o A) B s σ H locs → lv_has ls 6 [(0, .ref o), (1, .int x1), (4, .int x4), (5, .int x5)] → W p l e rm_X11_takeCell s m args below meth c0 H locs 0 0 (MQ below (va_Qv post (Bm (WM T B μ0 o A)) (Ai B)) args s 0 0 (Ai B)) (F0 m 47 ls []) := by
  intro n
  induction n with
  | zero =>
    intro σ x1 x4 x5 H locs ls hw
    exact hw.elim
  | succ n ih =>
    intro σ x1 x4 x5 H locs ls hw M hl
    rw [wp_X11_takeCell_47] at hw
    refine lv_iload X.1 X.2.1 dX11_takeCell_47 (lv_at hl 3 rfl) ?_
    refine lv_aload_n X.1 X.2.1 dX11_takeCell_49 rfl (lv_at hl 0 rfl) ?_
    refine mm_geta X M 17 (by decide) rfl (by decide) kw_982 dX11_takeCell_50 ?_
    refine lv_iload_n X.1 X.2.1 dX11_takeCell_53 rfl (lv_at hl 1 rfl) ?_
    obtain ⟨hi, hw⟩ := hw
    refine mm_ald X M 17 rfl dX11_takeCell_54 hi ?_
    obtain ⟨hwt, hwf⟩ := hw
    refine lv_icmp_ge (tgt := 95) X.1 X.2.1 dX11_takeCell_55 (by decide) (fun hq => ?_) (fun hq => ?_)
    · have hw := hwt hq
      exact mx_vret X hr hk M dX11_takeCell_95 (by decide) (by decide) hw
    · have hw := hwf hq
      refine lv_aload_n X.1 X.2.1 dX11_takeCell_58 rfl (lv_at hl 0 rfl) ?_
      refine lv_aload_n X.1 X.2.1 dX11_takeCell_59 rfl (lv_at hl 0 rfl) ?_
      refine mm_geta X M 18 (by decide) rfl (by decide) kw_983 dX11_takeCell_60 ?_
      refine lv_bipush (v := 10) X.1 X.2.1 dX11_takeCell_63 (by decide) ?_
      refine lv_iload_n X.1 X.2.1 dX11_takeCell_65 rfl (lv_at hl 1 rfl) ?_
      refine lv_imul X.1 X.2.1 dX11_takeCell_66 ?_
      refine lv_iload X.1 X.2.1 dX11_takeCell_67 (lv_at hl 3 rfl) ?_
      refine lv_iadd X.1 X.2.1 dX11_takeCell_69 ?_
      obtain ⟨hi, hw⟩ := hw
      refine mm_ald X M 18 rfl dX11_takeCell_70 hi ?_
      refine lv_aload_n X.1 X.2.1 dX11_takeCell_71 rfl (lv_at hl 0 rfl) ?_
      refine mm_geta X M 23 (by decide) rfl (by decide) kw_988 dX11_takeCell_72 ?_
      refine lv_aload_n X.1 X.2.1 dX11_takeCell_75 rfl (lv_at hl 0 rfl) ?_
      refine mm_geta X M 22 (by decide) rfl (by decide) kw_987 dX11_takeCell_76 ?_
      refine lv_iload X.1 X.2.1 dX11_takeCell_79 (lv_at hl 2 rfl) ?_
      obtain ⟨hi, hw⟩ := hw
      refine mm_ald X M 22 rfl dX11_takeCell_81 hi ?_
      refine lv_iload X.1 X.2.1 dX11_takeCell_82 (lv_at hl 3 rfl) ?_
      refine lv_iadd X.1 X.2.1 dX11_takeCell_84 ?_
      obtain ⟨hi, hw⟩ := hw
      refine mm_jld X M 23 rfl dX11_takeCell_85 hi ?_
      refine mx_cv M (mx_runV (n := 2) (As := [.int (ma σ 18 (Int32.toNatClampNeg (((10 : Int32) * x1) + x5))), .long (ml σ 23 (Int32.toNatClampNeg ((ma σ 22 (Int32.toNatClampNeg x4)) + x5)))]) (rest := []) X M (c_X11_set l T B μ0 o A σ (ma σ 18 (Int32.toNatClampNeg (((10 : Int32) * x1) + x5))) (ml σ 23 (Int32.toNatClampNeg ((ma σ 22 (Int32.toNatClampNeg x4)) + x5))) _ hw) (mm_recv X M) kw_1222 kw_1224 kw_42 kw_74 kw_1225 (by decide +kernel) rfl rfl ⟨Nat.le_of_ble_eq_true rfl, Nat.le_of_ble_eq_true rfl⟩ rfl hl.1 (Nat.le_of_ble_eq_true rfl) dX11_takeCell_86 ⟨by decide, by decide⟩) (fun σ6 H locs hw M => ?_)
      obtain ⟨v7, ev7⟩ : ∃ y : Int32, y = x5 + 1 := ⟨_, rfl⟩
      replace hw := hw v7 ev7
      refine lv_iinc (v := v7) (lv' := [(5, .int v7), (0, .ref o), (1, .int x1), (4, .int x4)]) X.1 X.2.1 dX11_takeCell_89 hl (k := 3) rfl (by rw [ev7]; rfl) (by decide) rfl (fun ls hl => ?_)
      refine lv_goto (tgt := 47) X.1 X.2.1 dX11_takeCell_92 (by decide) ?_
      exact ih σ6 x1 x4 v7 _ _ _ hw M (lv_sub hl [1, 2, 3, 0] rfl)
set_option maxRecDepth 100000 in
set_option maxHeartbeats 4000000 in
theorem c_X11_takeCell (l : Launch) (T : Tb) (B : Nat) (μ0 : Mem) (o : Nat) (A : Nat → Nat) (σ : MSt) (a1 : Int32) (post : MSt → Prop) (hw : wp_X11_takeCell σ a1 post) : Met l yX11_takeCell (.code yX11_takeCell cX11_takeCell 6 none :: G) rm_X11_takeCell (Pm (WM T B μ0 o A) T B σ [.ref o, .int a1]) (va_Qv post (Bm (WM T B μ0 o A)) (Ai B)) 0 0 (Ai B) := by
  refine mx_of RX11 rfl (by decide) (Nat.le_of_ble_eq_true rfl) ?_
  intro p e s m below meth c0 X hr hk hnm M ls hl
  have hl : lv_has ls 6 [(0, .ref o), (1, .int a1)] := hl
  unfold wp_X11_takeCell at hw
  refine lv_aload_n X.1 X.2.1 dX11_takeCell_0 rfl (lv_at hl 0 rfl) ?_
  refine lv_aload_n X.1 X.2.1 dX11_takeCell_1 rfl (lv_at hl 0 rfl) ?_
  refine mm_geta X M 13 (by decide) rfl (by decide) kw_978 dX11_takeCell_2 ?_
  refine lv_iload_n X.1 X.2.1 dX11_takeCell_5 rfl (lv_at hl 1 rfl) ?_
  obtain ⟨hi, hw⟩ := hw
  refine mm_ald X M 13 rfl dX11_takeCell_6 hi ?_
  refine mx_cl M (mx_runV (n := 1) (As := [.int (ma σ 13 (Int32.toNatClampNeg a1))]) (rest := []) X M (c_X11_get l T B μ0 o A σ (ma σ 13 (Int32.toNatClampNeg a1)) _ hw) (mm_recv X M) kw_1230 kw_1232 kw_44 kw_74 kw_1233 (by decide +kernel) rfl rfl ⟨Nat.le_of_ble_eq_true rfl, Nat.le_of_ble_eq_true rfl⟩ rfl hl.1 (Nat.le_of_ble_eq_true rfl) dX11_takeCell_7 ⟨by decide, by decide⟩) (fun r2 σ1 H locs hw M => ?_)
  refine lv_lstore_n (lv' := [(2, .long r2), (0, .ref o), (1, .int a1)]) X.1 X.2.1 dX11_takeCell_10 rfl hl (by decide) rfl (fun ls hl => ?_)
  refine lv_aload_n X.1 X.2.1 dX11_takeCell_11 rfl (lv_at hl 1 rfl) ?_
  refine lv_lload_n X.1 X.2.1 dX11_takeCell_12 rfl (lv_at hl 0 rfl) ?_
  refine lv_aload_n X.1 X.2.1 dX11_takeCell_13 rfl (lv_at hl 1 rfl) ?_
  refine mm_geta X M 14 (by decide) rfl (by decide) kw_979 dX11_takeCell_14 ?_
  refine lv_iload_n X.1 X.2.1 dX11_takeCell_17 rfl (lv_at hl 2 rfl) ?_
  obtain ⟨hi, hw⟩ := hw
  refine mm_ald X M 14 rfl dX11_takeCell_18 hi ?_
  refine lv_aload_n X.1 X.2.1 dX11_takeCell_19 rfl (lv_at hl 1 rfl) ?_
  refine mm_geta X M 17 (by decide) rfl (by decide) kw_982 dX11_takeCell_20 ?_
  refine lv_iload_n X.1 X.2.1 dX11_takeCell_23 rfl (lv_at hl 2 rfl) ?_
  obtain ⟨hi, hw⟩ := hw
  refine mm_ald X M 17 rfl dX11_takeCell_24 hi ?_
  refine mx_ci M (mx_runV (n := 3) (As := [.long r2, .int (ma σ1 14 (Int32.toNatClampNeg a1)), .int (ma σ1 17 (Int32.toNatClampNeg a1))]) (rest := []) X M (c_X11_has l T B μ0 o A σ1 r2 (ma σ1 14 (Int32.toNatClampNeg a1)) (ma σ1 17 (Int32.toNatClampNeg a1)) _ hw) (mm_recv X M) kw_1239 kw_1241 kw_46 kw_74 kw_1242 (by decide +kernel) rfl rfl ⟨Nat.le_of_ble_eq_true rfl, Nat.le_of_ble_eq_true rfl⟩ rfl hl.1 (Nat.le_of_ble_eq_true rfl) dX11_takeCell_25 ⟨by decide, by decide⟩) (fun r4 σ3 H locs hw M => ?_)
  obtain ⟨hwf, hwt⟩ := hw
  refine lv_if_ne (tgt := 36) X.1 X.2.1 dX11_takeCell_28 (by decide) (fun hq => ?_) (fun hq => ?_)
  · have hw := hwt hq
    refine lv_lload_n X.1 X.2.1 dX11_takeCell_36 rfl (lv_at hl 0 rfl) ?_
    refine lv_ldc2 (v := 1099511627776) X.1 X.2.1 X.2.2.2.1 (X.2.2.2.2.1 _ kw_1238) dX11_takeCell_37 ?_
    refine lv_lsub X.1 X.2.1 dX11_takeCell_40 ?_
    refine lv_l2i X.1 X.2.1 dX11_takeCell_41 rfl ?_
    refine lv_topi (fun v5 ev5 => ?_)
    replace hw := hw v5 ev5
    refine lv_istore (lv' := [(4, .int v5), (2, .long r2), (0, .ref o), (1, .int a1)]) X.1 X.2.1 dX11_takeCell_42 hl (by decide) rfl (fun ls hl => ?_)
    refine lv_iconst (v := 0) X.1 X.2.1 dX11_takeCell_44 (by decide) ?_
    refine lv_istore (lv' := [(5, .int 0), (4, .int v5), (2, .long r2), (0, .ref o), (1, .int a1)]) X.1 X.2.1 dX11_takeCell_45 hl (by decide) rfl (fun ls hl => ?_)
    obtain ⟨n8, hw⟩ := hw
    exact b_X11_takeCell_47 X hr hk n8 σ3 a1 v5 0 _ _ _ hw M (lv_sub hl [3, 4, 1, 0] rfl)
  · have hw := hwf hq
    refine lv_aload_n X.1 X.2.1 dX11_takeCell_31 rfl (lv_at hl 1 rfl) ?_
    refine mx_cv M (mx_runV (n := 0) (As := []) (rest := []) X M (c_X11_fail l T B μ0 o A σ3 _ hw) (mm_recv X M) kw_1202 kw_1204 kw_37 kw_74 kw_1205 (by decide +kernel) rfl rfl ⟨Nat.le_of_ble_eq_true rfl, Nat.le_of_ble_eq_true rfl⟩ rfl hl.1 (Nat.le_of_ble_eq_true rfl) dX11_takeCell_32 ⟨by decide, by decide⟩) (fun σ9 H locs hw M => ?_)
    exact mx_vret X hr hk M dX11_takeCell_35 (by decide) (by decide) hw

abbrev rm_X11_tryLater : Room := { frames := 1, cells := 0, slots := 0, locals := 21 }
def wp_X11_tryLater (σ : MSt) (a1 : Int32) (post : MSt → Prop) : Prop :=
  (((mi σ 47) + 3) ≤ (mi σ 51) →
   ∀ v1 : Int32, v1 = (mi σ 26) →
   vp_in v1 7000 ∧ ∀ σ2 : MSt, σ2 = sma σ 27 (Int32.toNatClampNeg v1) (vp_nar .boolean 0) →
   vp_in v1 7000 ∧ ∀ σ3 : MSt, σ3 = sma σ2 31 (Int32.toNatClampNeg v1) (mi σ2 45) →
   vp_in a1 2000 ∧
   vp_in v1 7000 ∧ ∀ σ4 : MSt, σ4 = sma σ3 30 (Int32.toNatClampNeg v1) (ma σ3 13 (Int32.toNatClampNeg a1)) →
   vp_in v1 7000 ∧ ∀ σ5 : MSt, σ5 = sma σ4 34 (Int32.toNatClampNeg v1) (vp_nar .boolean 0) →
   vp_in v1 7000 ∧ ∀ σ6 : MSt, σ6 = sma σ5 35 (Int32.toNatClampNeg v1) (mi σ5 25) →
   vp_in v1 7000 ∧ ∀ σ7 : MSt, σ7 = sma σ6 36 (Int32.toNatClampNeg v1) (mi σ6 19) →
   vp_in v1 7000 ∧ ∀ σ8 : MSt, σ8 = sma σ7 37 (Int32.toNatClampNeg v1) (mi σ7 24) →
   vp_in v1 7000 ∧ ∀ σ9 : MSt, σ9 = sma σ8 38 (Int32.toNatClampNeg v1) (mi σ8 41) →
   ∀ σ10 : MSt, σ10 = smi σ9 26 ((mi σ9 26) + 1) →
   wp_X11_grow σ10 3 (fun (σ11 : MSt) =>
   vp_in (mi σ11 45) 7000 ∧
   vp_in (mi σ11 45) 7000 ∧ ∀ σ12 : MSt, σ12 = sma σ11 30 (Int32.toNatClampNeg (mi σ11 45)) ((ma σ11 30 (Int32.toNatClampNeg (mi σ11 45))) + 1) →
   post σ12)) ∧ (¬ ((mi σ 47) + 3) ≤ (mi σ 51) →
   ∀ σ13 : MSt, σ13 = smi σ 44 4 →
   post σ13)
set_option maxRecDepth 100000 in
set_option maxHeartbeats 4000000 in
theorem c_X11_tryLater (l : Launch) (T : Tb) (B : Nat) (μ0 : Mem) (o : Nat) (A : Nat → Nat) (σ : MSt) (a1 : Int32) (post : MSt → Prop) (hw : wp_X11_tryLater σ a1 post) : Met l yX11_tryLater (.code yX11_tryLater cX11_tryLater 3 none :: G) rm_X11_tryLater (Pm (WM T B μ0 o A) T B σ [.ref o, .int a1]) (va_Qv post (Bm (WM T B μ0 o A)) (Ai B)) 0 0 (Ai B) := by
  refine mx_of RX11 rfl (by decide) (Nat.le_of_ble_eq_true rfl) ?_
  intro p e s m below meth c0 X hr hk hnm M ls hl
  have hl : lv_has ls 3 [(0, .ref o), (1, .int a1)] := hl
  unfold wp_X11_tryLater at hw
  refine lv_aload_n X.1 X.2.1 dX11_tryLater_0 rfl (lv_at hl 0 rfl) ?_
  refine mm_geti X M 47 (by decide) rfl kw_1012 dX11_tryLater_1 ?_
  refine lv_iconst (v := 3) X.1 X.2.1 dX11_tryLater_4 (by decide) ?_
  refine lv_iadd X.1 X.2.1 dX11_tryLater_5 ?_
  refine lv_aload_n X.1 X.2.1 dX11_tryLater_6 rfl (lv_at hl 0 rfl) ?_
  refine mm_geti X M 51 (by decide) rfl kw_1016 dX11_tryLater_7 ?_
  obtain ⟨hwt, hwf⟩ := hw
  refine lv_icmp_le (tgt := 19) X.1 X.2.1 dX11_tryLater_10 (by decide) (fun hq => ?_) (fun hq => ?_)
  · have hw := hwt hq
    refine lv_aload_n X.1 X.2.1 dX11_tryLater_19 rfl (lv_at hl 0 rfl) ?_
    refine mm_geti X M 26 (by decide) rfl kw_991 dX11_tryLater_20 ?_
    refine lv_topi (fun v1 ev1 => ?_)
    replace hw := hw v1 ev1
    refine lv_istore_n (lv' := [(2, .int v1), (0, .ref o), (1, .int a1)]) X.1 X.2.1 dX11_tryLater_23 rfl hl (by decide) rfl (fun ls hl => ?_)
    refine lv_aload_n X.1 X.2.1 dX11_tryLater_24 rfl (lv_at hl 1 rfl) ?_
    refine mm_geta X M 27 (by decide) rfl (by decide) kw_992 dX11_tryLater_25 ?_
    refine lv_iload_n X.1 X.2.1 dX11_tryLater_28 rfl (lv_at hl 0 rfl) ?_
    refine lv_iconst (v := 0) X.1 X.2.1 dX11_tryLater_29 (by decide) ?_
    obtain ⟨hi, hw⟩ := hw
    refine mm_zst X M 27 rfl dX11_tryLater_30 hi (fun σ2 H locs eσ2 M => ?_)
    replace hw := hw σ2 eσ2
    refine lv_aload_n X.1 X.2.1 dX11_tryLater_31 rfl (lv_at hl 1 rfl) ?_
    refine mm_geta X M 31 (by decide) rfl (by decide) kw_996 dX11_tryLater_32 ?_
    refine lv_iload_n X.1 X.2.1 dX11_tryLater_35 rfl (lv_at hl 0 rfl) ?_
    refine lv_aload_n X.1 X.2.1 dX11_tryLater_36 rfl (lv_at hl 1 rfl) ?_
    refine mm_geti X M 45 (by decide) rfl kw_1010 dX11_tryLater_37 ?_
    obtain ⟨hi, hw⟩ := hw
    refine mm_ast X M 31 rfl dX11_tryLater_40 hi (fun σ3 H locs eσ3 M => ?_)
    replace hw := hw σ3 eσ3
    refine lv_aload_n X.1 X.2.1 dX11_tryLater_41 rfl (lv_at hl 1 rfl) ?_
    refine mm_geta X M 30 (by decide) rfl (by decide) kw_995 dX11_tryLater_42 ?_
    refine lv_iload_n X.1 X.2.1 dX11_tryLater_45 rfl (lv_at hl 0 rfl) ?_
    refine lv_aload_n X.1 X.2.1 dX11_tryLater_46 rfl (lv_at hl 1 rfl) ?_
    refine mm_geta X M 13 (by decide) rfl (by decide) kw_978 dX11_tryLater_47 ?_
    refine lv_iload_n X.1 X.2.1 dX11_tryLater_50 rfl (lv_at hl 2 rfl) ?_
    obtain ⟨hi, hw⟩ := hw
    refine mm_ald X M 13 rfl dX11_tryLater_51 hi ?_
    obtain ⟨hi, hw⟩ := hw
    refine mm_ast X M 30 rfl dX11_tryLater_52 hi (fun σ4 H locs eσ4 M => ?_)
    replace hw := hw σ4 eσ4
    refine lv_aload_n X.1 X.2.1 dX11_tryLater_53 rfl (lv_at hl 1 rfl) ?_
    refine mm_geta X M 34 (by decide) rfl (by decide) kw_999 dX11_tryLater_54 ?_
    refine lv_iload_n X.1 X.2.1 dX11_tryLater_57 rfl (lv_at hl 0 rfl) ?_
    refine lv_iconst (v := 0) X.1 X.2.1 dX11_tryLater_58 (by decide) ?_
    obtain ⟨hi, hw⟩ := hw
    refine mm_zst X M 34 rfl dX11_tryLater_59 hi (fun σ5 H locs eσ5 M => ?_)
    replace hw := hw σ5 eσ5
    refine lv_aload_n X.1 X.2.1 dX11_tryLater_60 rfl (lv_at hl 1 rfl) ?_
    refine mm_geta X M 35 (by decide) rfl (by decide) kw_1000 dX11_tryLater_61 ?_
    refine lv_iload_n X.1 X.2.1 dX11_tryLater_64 rfl (lv_at hl 0 rfl) ?_
    refine lv_aload_n X.1 X.2.1 dX11_tryLater_65 rfl (lv_at hl 1 rfl) ?_
    refine mm_geti X M 25 (by decide) rfl kw_990 dX11_tryLater_66 ?_
    obtain ⟨hi, hw⟩ := hw
    refine mm_ast X M 35 rfl dX11_tryLater_69 hi (fun σ6 H locs eσ6 M => ?_)
    replace hw := hw σ6 eσ6
    refine lv_aload_n X.1 X.2.1 dX11_tryLater_70 rfl (lv_at hl 1 rfl) ?_
    refine mm_geta X M 36 (by decide) rfl (by decide) kw_1001 dX11_tryLater_71 ?_
    refine lv_iload_n X.1 X.2.1 dX11_tryLater_74 rfl (lv_at hl 0 rfl) ?_
    refine lv_aload_n X.1 X.2.1 dX11_tryLater_75 rfl (lv_at hl 1 rfl) ?_
    refine mm_geti X M 19 (by decide) rfl kw_984 dX11_tryLater_76 ?_
    obtain ⟨hi, hw⟩ := hw
    refine mm_ast X M 36 rfl dX11_tryLater_79 hi (fun σ7 H locs eσ7 M => ?_)
    replace hw := hw σ7 eσ7
    refine lv_aload_n X.1 X.2.1 dX11_tryLater_80 rfl (lv_at hl 1 rfl) ?_
    refine mm_geta X M 37 (by decide) rfl (by decide) kw_1002 dX11_tryLater_81 ?_
    refine lv_iload_n X.1 X.2.1 dX11_tryLater_84 rfl (lv_at hl 0 rfl) ?_
    refine lv_aload_n X.1 X.2.1 dX11_tryLater_85 rfl (lv_at hl 1 rfl) ?_
    refine mm_geti X M 24 (by decide) rfl kw_989 dX11_tryLater_86 ?_
    obtain ⟨hi, hw⟩ := hw
    refine mm_ast X M 37 rfl dX11_tryLater_89 hi (fun σ8 H locs eσ8 M => ?_)
    replace hw := hw σ8 eσ8
    refine lv_aload_n X.1 X.2.1 dX11_tryLater_90 rfl (lv_at hl 1 rfl) ?_
    refine mm_geta X M 38 (by decide) rfl (by decide) kw_1003 dX11_tryLater_91 ?_
    refine lv_iload_n X.1 X.2.1 dX11_tryLater_94 rfl (lv_at hl 0 rfl) ?_
    refine lv_aload_n X.1 X.2.1 dX11_tryLater_95 rfl (lv_at hl 1 rfl) ?_
    refine mm_geti X M 41 (by decide) rfl kw_1006 dX11_tryLater_96 ?_
    obtain ⟨hi, hw⟩ := hw
    refine mm_ast X M 38 rfl dX11_tryLater_99 hi (fun σ9 H locs eσ9 M => ?_)
    replace hw := hw σ9 eσ9
    refine lv_aload_n X.1 X.2.1 dX11_tryLater_100 rfl (lv_at hl 1 rfl) ?_
    refine lv_dup X.1 X.2.1 dX11_tryLater_101 rfl ?_
    refine mm_geti X M 26 (by decide) rfl kw_991 dX11_tryLater_102 ?_
    refine lv_iconst (v := 1) X.1 X.2.1 dX11_tryLater_105 (by decide) ?_
    refine lv_iadd X.1 X.2.1 dX11_tryLater_106 ?_
    refine mm_puti X M 26 (by decide) rfl kw_991 rfl dX11_tryLater_107 rfl rfl (fun σ10 H locs eσ10 M => ?_)
    replace hw := hw σ10 eσ10
    refine lv_aload_n X.1 X.2.1 dX11_tryLater_110 rfl (lv_at hl 1 rfl) ?_
    refine lv_iconst (v := 3) X.1 X.2.1 dX11_tryLater_111 (by decide) ?_
    refine mx_cv M (mx_runV (n := 1) (As := [.int 3]) (rest := []) X M (c_X11_grow l T B μ0 o A σ10 3 _ hw) (mm_recv X M) kw_1194 kw_1196 kw_36 kw_74 kw_1197 (by decide +kernel) rfl rfl ⟨Nat.le_of_ble_eq_true rfl, Nat.le_of_ble_eq_true rfl⟩ rfl hl.1 (Nat.le_of_ble_eq_true rfl) dX11_tryLater_112 ⟨by decide, by decide⟩) (fun σ11 H locs hw M => ?_)
    refine lv_aload_n X.1 X.2.1 dX11_tryLater_115 rfl (lv_at hl 1 rfl) ?_
    refine mm_geta X M 30 (by decide) rfl (by decide) kw_995 dX11_tryLater_116 ?_
    refine lv_aload_n X.1 X.2.1 dX11_tryLater_119 rfl (lv_at hl 1 rfl) ?_
    refine mm_geti X M 45 (by decide) rfl kw_1010 dX11_tryLater_120 ?_
    refine lv_dup2_11 X.1 X.2.1 dX11_tryLater_123 rfl rfl ?_
    obtain ⟨hi, hw⟩ := hw
    refine mm_ald X M 30 rfl dX11_tryLater_124 hi ?_
    refine lv_iconst (v := 1) X.1 X.2.1 dX11_tryLater_125 (by decide) ?_
    refine lv_iadd X.1 X.2.1 dX11_tryLater_126 ?_
    obtain ⟨hi, hw⟩ := hw
    refine mm_ast X M 30 rfl dX11_tryLater_127 hi (fun σ12 H locs eσ12 M => ?_)
    replace hw := hw σ12 eσ12
    exact mx_vret X hr hk M dX11_tryLater_128 (by decide) (by decide) hw
  · have hw := hwf hq
    refine lv_aload_n X.1 X.2.1 dX11_tryLater_13 rfl (lv_at hl 0 rfl) ?_
    refine lv_iconst (v := 4) X.1 X.2.1 dX11_tryLater_14 (by decide) ?_
    refine mm_puti X M 44 (by decide) rfl kw_1009 rfl dX11_tryLater_15 rfl rfl (fun σ13 H locs eσ13 M => ?_)
    replace hw := hw σ13 eσ13
    exact mx_vret X hr hk M dX11_tryLater_18 (by decide) (by decide) hw

abbrev rm_X11_call : Room := { frames := 2, cells := 0, slots := 0, locals := 47 }
def wp_X11_call_59 (post : MSt → Prop) : Nat → MSt → Int32 → Int32 → Int32 → Int32 → Int32 → Prop
  | 0, _, _, _, _, _, _ => False
  | n + 1, σ, x1, x2, x3, x4, x5 =>
    vp_in x2 60 ∧
    ((ma σ 6 (Int32.toNatClampNeg x2)) ≤ x5 →
     ∀ σ5 : MSt, σ5 = smi σ 45 x4 →
     post σ5) ∧ (¬ (ma σ 6 (Int32.toNatClampNeg x2)) ≤ x5 →
     vp_in x4 7000 ∧
     vp_in x3 7000 ∧
     vp_in (((10 : Int32) * x1) + x5) 20000 ∧
     vp_in ((ma σ 29 (Int32.toNatClampNeg x3)) + (ma σ 18 (Int32.toNatClampNeg (((10 : Int32) * x1) + x5)))) 20100 ∧
     vp_in ((ma σ 29 (Int32.toNatClampNeg x4)) + x5) 20100 ∧ ∀ σ6 : MSt, σ6 = sml σ 39 (Int32.toNatClampNeg ((ma σ 29 (Int32.toNatClampNeg x4)) + x5)) (ml σ 39 (Int32.toNatClampNeg ((ma σ 29 (Int32.toNatClampNeg x3)) + (ma σ 18 (Int32.toNatClampNeg (((10 : Int32) * x1) + x5)))))) →
     ∀ v7 : Int32, v7 = x5 + 1 →
     wp_X11_call_59 post n σ6 x1 x2 x3 x4 v7)
def wp_X11_call (σ : MSt) (a1 : Int32) (post : MSt → Prop) : Prop :=
  vp_in a1 2000 ∧
  ∀ v1 : Int32, v1 = (ma σ 13 (Int32.toNatClampNeg a1)) →
  vp_in v1 60 ∧
  ((((mi σ 47) + 2) + (ma σ 5 (Int32.toNatClampNeg v1))) ≤ (mi σ 51) →
   ∀ v2 : Int32, v2 = (mi σ 45) →
   ∀ v3 : Int32, v3 = (mi σ 26) →
   vp_in v2 7000 ∧
   wp_X11_pushFrame σ v1 v2 (ma σ 30 (Int32.toNatClampNeg v2)) (fun (σ4 : MSt) =>
   ∃ n8, wp_X11_call_59 post n8 σ4 a1 v1 v2 v3 0)) ∧ (¬ (((mi σ 47) + 2) + (ma σ 5 (Int32.toNatClampNeg v1))) ≤ (mi σ 51) →
   ∀ σ9 : MSt, σ9 = smi σ 44 4 →
   post σ9)
set_option maxRecDepth 100000 in
set_option maxHeartbeats 4000000 in
theorem b_X11_call_59 {T : Tb} {B : Nat} {p : Program} {l : Launch} {e : Env} {s : State} {m : MethodId} {args : Array Value} {below : List Frame} {meth : Method} {c0 : Code} {post : MSt → Prop} {μ0 : Mem} {o : Nat} {A : Nat → Nat} (X : CX T B p m c0 cX11_call 6 s args RX11) (hr : meth.sig.returnType = none) (hk : meth.locks = false) : ∀ (n : Nat) (σ : MSt) (x1 : Int32) (x2 : Int32) (x3 : Int32) (x4 : Int32) (x5 : Int32) (H : Heap) (locs : List Loc) (ls : Array Slot), wp_X11_call_59 post n σ x1 x2 x3 x4 x5 → MG (WM T B μ0 o A) B s σ H locs → lv_has ls 6 [(0, .ref o), (1, .int x1), (2, .int x2), (3, .int x3), (4, .int x4), (5, .int x5)] → W p l e rm_X11_call s m args below meth c0 H locs 0 0 (MQ below (va_Qv post (Bm (WM T B μ0 o A)) (Ai B)) args s 0 0 (Ai B)) (F0 m 59 ls []) := by
  intro n
  induction n with
  | zero =>
    intro σ x1 x2 x3 x4 x5 H locs ls hw
    exact hw.elim
  | succ n ih =>
    intro σ x1 x2 x3 x4 x5 H locs ls hw M hl
    rw [wp_X11_call_59] at hw
    refine lv_iload X.1 X.2.1 dX11_call_59 (lv_at hl 5 rfl) ?_
    refine lv_aload_n X.1 X.2.1 dX11_call_61 rfl (lv_at hl 0 rfl) ?_
    refine mm_geta X M 6 (by decide) rfl (by decide) kw_971 dX11_call_62 ?_
    refine lv_iload_n X.1 X.2.1 dX11_call_65 rfl (lv_at hl 2 rfl) ?_
    obtain ⟨hi, hw⟩ := hw
    refine mm_ald X M 6 rfl dX11_call_66 hi ?_
    obtain ⟨hwt, hwf⟩ := hw
    refine lv_icmp_ge (tgt := 115) X.1 X.2.1 dX11_call_67 (by decide) (fun hq => ?_) (fun hq => ?_)
    · have hw := hwt hq
      refine lv_aload_n X.1 X.2.1 dX11_call_115 rfl (lv_at hl 0 rfl) ?_
      refine lv_iload X.1 X.2.1 dX11_call_116 (lv_at hl 4 rfl) ?_
      refine mm_puti X M 45 (by decide) rfl kw_1010 rfl dX11_call_118 rfl rfl (fun σ5 H locs eσ5 M => ?_)
      replace hw := hw σ5 eσ5
      exact mx_vret X hr hk M dX11_call_121 (by decide) (by decide) hw
    · have hw := hwf hq
      refine lv_aload_n X.1 X.2.1 dX11_call_70 rfl (lv_at hl 0 rfl) ?_
      refine mm_geta X M 39 (by decide) rfl (by decide) kw_1004 dX11_call_71 ?_
      refine lv_aload_n X.1 X.2.1 dX11_call_74 rfl (lv_at hl 0 rfl) ?_
      refine mm_geta X M 29 (by decide) rfl (by decide) kw_994 dX11_call_75 ?_
      refine lv_iload X.1 X.2.1 dX11_call_78 (lv_at hl 4 rfl) ?_
      obtain ⟨hi, hw⟩ := hw
      refine mm_ald X M 29 rfl dX11_call_80 hi ?_
      refine lv_iload X.1 X.2.1 dX11_call_81 (lv_at hl 5 rfl) ?_
      refine lv_iadd X.1 X.2.1 dX11_call_83 ?_
      refine lv_aload_n X.1 X.2.1 dX11_call_84 rfl (lv_at hl 0 rfl) ?_
      refine mm_geta X M 39 (by decide) rfl (by decide) kw_1004 dX11_call_85 ?_
      refine lv_aload_n X.1 X.2.1 dX11_call_88 rfl (lv_at hl 0 rfl) ?_
      refine mm_geta X M 29 (by decide) rfl (by decide) kw_994 dX11_call_89 ?_
      refine lv_iload_n X.1 X.2.1 dX11_call_92 rfl (lv_at hl 3 rfl) ?_
      obtain ⟨hi, hw⟩ := hw
      refine mm_ald X M 29 rfl dX11_call_93 hi ?_
      refine lv_aload_n X.1 X.2.1 dX11_call_94 rfl (lv_at hl 0 rfl) ?_
      refine mm_geta X M 18 (by decide) rfl (by decide) kw_983 dX11_call_95 ?_
      refine lv_bipush (v := 10) X.1 X.2.1 dX11_call_98 (by decide) ?_
      refine lv_iload_n X.1 X.2.1 dX11_call_100 rfl (lv_at hl 1 rfl) ?_
      refine lv_imul X.1 X.2.1 dX11_call_101 ?_
      refine lv_iload X.1 X.2.1 dX11_call_102 (lv_at hl 5 rfl) ?_
      refine lv_iadd X.1 X.2.1 dX11_call_104 ?_
      obtain ⟨hi, hw⟩ := hw
      refine mm_ald X M 18 rfl dX11_call_105 hi ?_
      refine lv_iadd X.1 X.2.1 dX11_call_106 ?_
      obtain ⟨hi, hw⟩ := hw
      refine mm_jld X M 39 rfl dX11_call_107 hi ?_
      obtain ⟨hi, hw⟩ := hw
      refine mm_jst X M 39 rfl dX11_call_108 hi (fun σ6 H locs eσ6 M => ?_)
      replace hw := hw σ6 eσ6
      obtain ⟨v7, ev7⟩ : ∃ y : Int32, y = x5 + 1 := ⟨_, rfl⟩
      replace hw := hw v7 ev7
      refine lv_iinc (v := v7) (lv' := [(5, .int v7), (0, .ref o), (1, .int x1), (2, .int x2), (3, .int x3), (4, .int x4)]) X.1 X.2.1 dX11_call_109 hl (k := 5) rfl (by rw [ev7]; rfl) (by decide) rfl (fun ls hl => ?_)
      refine lv_goto (tgt := 59) X.1 X.2.1 dX11_call_112 (by decide) ?_
      exact ih σ6 x1 x2 x3 x4 v7 _ _ _ hw M (lv_sub hl [1, 2, 3, 4, 5, 0] rfl)
set_option maxRecDepth 100000 in
set_option maxHeartbeats 4000000 in
theorem c_X11_call (l : Launch) (T : Tb) (B : Nat) (μ0 : Mem) (o : Nat) (A : Nat → Nat) (σ : MSt) (a1 : Int32) (post : MSt → Prop) (hw : wp_X11_call σ a1 post) : Met l yX11_call (.code yX11_call cX11_call 6 none :: G) rm_X11_call (Pm (WM T B μ0 o A) T B σ [.ref o, .int a1]) (va_Qv post (Bm (WM T B μ0 o A)) (Ai B)) 0 0 (Ai B) := by
  refine mx_of RX11 rfl (by decide) (Nat.le_of_ble_eq_true rfl) ?_
  intro p e s m below meth c0 X hr hk hnm M ls hl
  have hl : lv_has ls 6 [(0, .ref o), (1, .int a1)] := hl
  unfold wp_X11_call at hw
  refine lv_aload_n X.1 X.2.1 dX11_call_0 rfl (lv_at hl 0 rfl) ?_
  refine mm_geta X M 13 (by decide) rfl (by decide) kw_978 dX11_call_1 ?_
  refine lv_iload_n X.1 X.2.1 dX11_call_4 rfl (lv_at hl 1 rfl) ?_
  obtain ⟨hi, hw⟩ := hw
  refine mm_ald X M 13 rfl dX11_call_5 hi ?_
  refine lv_topi (fun v1 ev1 => ?_)
  replace hw := hw v1 ev1
  refine lv_istore_n (lv' := [(2, .int v1), (0, .ref o), (1, .int a1)]) X.1 X.2.1 dX11_call_6 rfl hl (by decide) rfl (fun ls hl => ?_)
  refine lv_aload_n X.1 X.2.1 dX11_call_7 rfl (lv_at hl 1 rfl) ?_
  refine mm_geti X M 47 (by decide) rfl kw_1012 dX11_call_8 ?_
  refine lv_iconst (v := 2) X.1 X.2.1 dX11_call_11 (by decide) ?_
  refine lv_iadd X.1 X.2.1 dX11_call_12 ?_
  refine lv_aload_n X.1 X.2.1 dX11_call_13 rfl (lv_at hl 1 rfl) ?_
  refine mm_geta X M 5 (by decide) rfl (by decide) kw_970 dX11_call_14 ?_
  refine lv_iload_n X.1 X.2.1 dX11_call_17 rfl (lv_at hl 0 rfl) ?_
  obtain ⟨hi, hw⟩ := hw
  refine mm_ald X M 5 rfl dX11_call_18 hi ?_
  refine lv_iadd X.1 X.2.1 dX11_call_19 ?_
  refine lv_aload_n X.1 X.2.1 dX11_call_20 rfl (lv_at hl 1 rfl) ?_
  refine mm_geti X M 51 (by decide) rfl kw_1016 dX11_call_21 ?_
  obtain ⟨hwt, hwf⟩ := hw
  refine lv_icmp_le (tgt := 33) X.1 X.2.1 dX11_call_24 (by decide) (fun hq => ?_) (fun hq => ?_)
  · have hw := hwt hq
    refine lv_aload_n X.1 X.2.1 dX11_call_33 rfl (lv_at hl 1 rfl) ?_
    refine mm_geti X M 45 (by decide) rfl kw_1010 dX11_call_34 ?_
    refine lv_topi (fun v2 ev2 => ?_)
    replace hw := hw v2 ev2
    refine lv_istore_n (lv' := [(3, .int v2), (2, .int v1), (0, .ref o), (1, .int a1)]) X.1 X.2.1 dX11_call_37 rfl hl (by decide) rfl (fun ls hl => ?_)
    refine lv_aload_n X.1 X.2.1 dX11_call_38 rfl (lv_at hl 2 rfl) ?_
    refine mm_geti X M 26 (by decide) rfl kw_991 dX11_call_39 ?_
    refine lv_topi (fun v3 ev3 => ?_)
    replace hw := hw v3 ev3
    refine lv_istore (lv' := [(4, .int v3), (3, .int v2), (2, .int v1), (0, .ref o), (1, .int a1)]) X.1 X.2.1 dX11_call_42 hl (by decide) rfl (fun ls hl => ?_)
    refine lv_aload_n X.1 X.2.1 dX11_call_44 rfl (lv_at hl 3 rfl) ?_
    refine lv_iload_n X.1 X.2.1 dX11_call_45 rfl (lv_at hl 2 rfl) ?_
    refine lv_iload_n X.1 X.2.1 dX11_call_46 rfl (lv_at hl 1 rfl) ?_
    refine lv_aload_n X.1 X.2.1 dX11_call_47 rfl (lv_at hl 3 rfl) ?_
    refine mm_geta X M 30 (by decide) rfl (by decide) kw_995 dX11_call_48 ?_
    refine lv_iload_n X.1 X.2.1 dX11_call_51 rfl (lv_at hl 1 rfl) ?_
    obtain ⟨hi, hw⟩ := hw
    refine mm_ald X M 30 rfl dX11_call_52 hi ?_
    refine mx_cv M (mx_runV (n := 3) (As := [.int v1, .int v2, .int (ma σ 30 (Int32.toNatClampNeg v2))]) (rest := []) X M (c_X11_pushFrame l T B μ0 o A σ v1 v2 (ma σ 30 (Int32.toNatClampNeg v2)) _ hw) (mm_recv X M) kw_1186 kw_1188 kw_34 kw_74 kw_1189 (by decide +kernel) rfl rfl ⟨Nat.le_of_ble_eq_true rfl, Nat.le_of_ble_eq_true rfl⟩ rfl hl.1 (Nat.le_of_ble_eq_true rfl) dX11_call_53 ⟨by decide, by decide⟩) (fun σ4 H locs hw M => ?_)
    refine lv_iconst (v := 0) X.1 X.2.1 dX11_call_56 (by decide) ?_
    refine lv_istore (lv' := [(5, .int 0), (4, .int v3), (3, .int v2), (2, .int v1), (0, .ref o), (1, .int a1)]) X.1 X.2.1 dX11_call_57 hl (by decide) rfl (fun ls hl => ?_)
    obtain ⟨n8, hw⟩ := hw
    exact b_X11_call_59 X hr hk n8 σ4 a1 v1 v2 v3 0 _ _ _ hw M (lv_sub hl [4, 5, 3, 2, 1, 0] rfl)
  · have hw := hwf hq
    refine lv_aload_n X.1 X.2.1 dX11_call_27 rfl (lv_at hl 1 rfl) ?_
    refine lv_iconst (v := 4) X.1 X.2.1 dX11_call_28 (by decide) ?_
    refine mm_puti X M 44 (by decide) rfl kw_1009 rfl dX11_call_29 rfl rfl (fun σ9 H locs eσ9 M => ?_)
    replace hw := hw σ9 eσ9
    exact mx_vret X hr hk M dX11_call_32 (by decide) (by decide) hw

abbrev rm_X11_exit : Room := { frames := 4, cells := 0, slots := 0, locals := 88 }
def wp_X11_exit_97 (post : MSt → Prop) : Nat → MSt → Int32 → Int32 → Int32 → Int32 → Int32 → Prop
  | 0, _, _, _, _, _, _ => False
  | n + 1, σ, x1, x2, x3, x4, x5 =>
    vp_in x1 60 ∧
    ((ma σ 7 (Int32.toNatClampNeg x1)) ≤ x5 →
     ∀ σ5 : MSt, σ5 = smi σ 45 x3 →
     vp_in x2 7000 ∧
     vp_in x3 7000 ∧ ∀ σ6 : MSt, σ6 = sma σ5 30 (Int32.toNatClampNeg x3) ((ma σ5 32 (Int32.toNatClampNeg x2)) + 1) →
     (x2 = ((mi σ6 26) - 1) →
      wp_X11_dropFrom σ6 x2 (fun (σ7 : MSt) =>
      post σ7)) ∧ (¬ x2 = ((mi σ6 26) - 1) →
      post σ6)) ∧ (¬ (ma σ 7 (Int32.toNatClampNeg x1)) ≤ x5 →
     vp_in x1 60 ∧
     vp_in ((((10 : Int32) * x4) + (ma σ 6 (Int32.toNatClampNeg x1))) + x5) 20000 ∧
     vp_in x2 7000 ∧
     vp_in (((8 : Int32) * x1) + x5) 480 ∧
     vp_in ((ma σ 29 (Int32.toNatClampNeg x2)) + (ma σ 8 (Int32.toNatClampNeg (((8 : Int32) * x1) + x5)))) 20100 ∧
     wp_X11_write σ x3 (ma σ 18 (Int32.toNatClampNeg ((((10 : Int32) * x4) + (ma σ 6 (Int32.toNatClampNeg x1))) + x5))) (ml σ 39 (Int32.toNatClampNeg ((ma σ 29 (Int32.toNatClampNeg x2)) + (ma σ 8 (Int32.toNatClampNeg (((8 : Int32) * x1) + x5)))))) (fun (σ8 : MSt) =>
     ∀ v9 : Int32, v9 = x5 + 1 →
     wp_X11_exit_97 post n σ8 x1 x2 x3 x4 v9))
def wp_X11_exit_32 (post : MSt → Prop) (σ : MSt) (x1 : Int32) : Prop :=
  ∀ v2 : Int32, v2 = (mi σ 45) →
  vp_in v2 7000 ∧
  ((ma σ 31 (Int32.toNatClampNeg v2)) = (-1) →
   ∀ σ11 : MSt, σ11 = smi σ 44 1 →
   ∀ σ12 : MSt, σ12 = smi σ11 50 ((mi σ11 50) + 1) →
   post σ12) ∧ (¬ (ma σ 31 (Int32.toNatClampNeg v2)) = (-1) →
   vp_in v2 7000 ∧
   ∀ v3 : Int32, v3 = (ma σ 31 (Int32.toNatClampNeg v2)) →
   vp_in v3 7000 ∧
   vp_in v2 7000 ∧
   vp_in (((2000 : Int32) * (ma σ 28 (Int32.toNatClampNeg v3))) + (ma σ 32 (Int32.toNatClampNeg v2))) 120000 ∧
   ∀ v4 : Int32, v4 = (ma σ 10 (Int32.toNatClampNeg (((2000 : Int32) * (ma σ 28 (Int32.toNatClampNeg v3))) + (ma σ 32 (Int32.toNatClampNeg v2))))) →
   ∃ n10, wp_X11_exit_97 post n10 σ x1 v2 v3 v4 0)
def wp_X11_exit (σ : MSt) (post : MSt → Prop) : Prop :=
  vp_in (mi σ 45) 7000 ∧
  ∀ v1 : Int32, v1 = (ma σ 28 (Int32.toNatClampNeg (mi σ 45))) →
  vp_in v1 60 ∧
  ((ma σ 4 (Int32.toNatClampNeg v1)) = 0 →
   vp_in (mi σ 45) 7000 ∧
   wp_X11_cut σ (ma σ 33 (Int32.toNatClampNeg (mi σ 45))) (fun (σ13 : MSt) =>
   wp_X11_exit_32 post σ13 v1)) ∧ (¬ (ma σ 4 (Int32.toNatClampNeg v1)) = 0 →
   wp_X11_exit_32 post σ v1)
set_option maxRecDepth 100000 in
set_option maxHeartbeats 4000000 in
theorem b_X11_exit_97 {T : Tb} {B : Nat} {p : Program} {l : Launch} {e : Env} {s : State} {m : MethodId} {args : Array Value} {below : List Frame} {meth : Method} {c0 : Code} {post : MSt → Prop} {μ0 : Mem} {o : Nat} {A : Nat → Nat} (X : CX T B p m c0 cX11_exit 6 s args RX11) (hr : meth.sig.returnType = none) (hk : meth.locks = false) : ∀ (n : Nat) (σ : MSt) (x1 : Int32) (x2 : Int32) (x3 : Int32) (x4 : Int32) (x5 : Int32) (H : Heap) (locs : List Loc) (ls : Array Slot), wp_X11_exit_97 post n σ x1 x2 x3 x4 x5 → MG (WM T B μ0 o A) B s σ H locs → lv_has ls 6 [(0, .ref o), (1, .int x1), (2, .int x2), (3, .int x3), (4, .int x4), (5, .int x5)] → W p l e rm_X11_exit s m args below meth c0 H locs 0 0 (MQ below (va_Qv post (Bm (WM T B μ0 o A)) (Ai B)) args s 0 0 (Ai B)) (F0 m 97 ls []) := by
  intro n
  induction n with
  | zero =>
    intro σ x1 x2 x3 x4 x5 H locs ls hw
    exact hw.elim
  | succ n ih =>
    intro σ x1 x2 x3 x4 x5 H locs ls hw M hl
    rw [wp_X11_exit_97] at hw
    refine lv_iload X.1 X.2.1 dX11_exit_97 (lv_at hl 5 rfl) ?_
    refine lv_aload_n X.1 X.2.1 dX11_exit_99 rfl (lv_at hl 0 rfl) ?_
    refine mm_geta X M 7 (by decide) rfl (by decide) kw_972 dX11_exit_100 ?_
    refine lv_iload_n X.1 X.2.1 dX11_exit_103 rfl (lv_at hl 1 rfl) ?_
    obtain ⟨hi, hw⟩ := hw
    refine mm_ald X M 7 rfl dX11_exit_104 hi ?_
    obtain ⟨hwt, hwf⟩ := hw
    refine lv_icmp_ge (tgt := 163) X.1 X.2.1 dX11_exit_105 (by decide) (fun hq => ?_) (fun hq => ?_)
    · have hw := hwt hq
      refine lv_aload_n X.1 X.2.1 dX11_exit_163 rfl (lv_at hl 0 rfl) ?_
      refine lv_iload_n X.1 X.2.1 dX11_exit_164 rfl (lv_at hl 3 rfl) ?_
      refine mm_puti X M 45 (by decide) rfl kw_1010 rfl dX11_exit_165 rfl rfl (fun σ5 H locs eσ5 M => ?_)
      replace hw := hw σ5 eσ5
      refine lv_aload_n X.1 X.2.1 dX11_exit_168 rfl (lv_at hl 0 rfl) ?_
      refine mm_geta X M 30 (by decide) rfl (by decide) kw_995 dX11_exit_169 ?_
      refine lv_iload_n X.1 X.2.1 dX11_exit_172 rfl (lv_at hl 3 rfl) ?_
      refine lv_aload_n X.1 X.2.1 dX11_exit_173 rfl (lv_at hl 0 rfl) ?_
      refine mm_geta X M 32 (by decide) rfl (by decide) kw_997 dX11_exit_174 ?_
      refine lv_iload_n X.1 X.2.1 dX11_exit_177 rfl (lv_at hl 2 rfl) ?_
      obtain ⟨hi, hw⟩ := hw
      refine mm_ald X M 32 rfl dX11_exit_178 hi ?_
      refine lv_iconst (v := 1) X.1 X.2.1 dX11_exit_179 (by decide) ?_
      refine lv_iadd X.1 X.2.1 dX11_exit_180 ?_
      obtain ⟨hi, hw⟩ := hw
      refine mm_ast X M 30 rfl dX11_exit_181 hi (fun σ6 H locs eσ6 M => ?_)
      replace hw := hw σ6 eσ6
      refine lv_iload_n X.1 X.2.1 dX11_exit_182 rfl (lv_at hl 2 rfl) ?_
      refine lv_aload_n X.1 X.2.1 dX11_exit_183 rfl (lv_at hl 0 rfl) ?_
      refine mm_geti X M 26 (by decide) rfl kw_991 dX11_exit_184 ?_
      refine lv_iconst (v := 1) X.1 X.2.1 dX11_exit_187 (by decide) ?_
      refine lv_isub X.1 X.2.1 dX11_exit_188 ?_
      obtain ⟨hwf, hwt⟩ := hw
      refine lv_icmp_ne (tgt := 197) X.1 X.2.1 dX11_exit_189 (by decide) (fun hq => ?_) (fun hq => ?_)
      · have hw := hwt hq
        exact mx_vret X hr hk M dX11_exit_197 (by decide) (by decide) hw
      · have hw := hwf hq
        refine lv_aload_n X.1 X.2.1 dX11_exit_192 rfl (lv_at hl 0 rfl) ?_
        refine lv_iload_n X.1 X.2.1 dX11_exit_193 rfl (lv_at hl 2 rfl) ?_
        refine mx_cv M (mx_runV (n := 1) (As := [.int x2]) (rest := []) X M (c_X11_dropFrom l T B μ0 o A σ6 x2 _ hw) (mm_recv X M) kw_1210 kw_1212 kw_39 kw_74 kw_1213 (by decide +kernel) rfl rfl ⟨Nat.le_of_ble_eq_true rfl, Nat.le_of_ble_eq_true rfl⟩ rfl hl.1 (Nat.le_of_ble_eq_true rfl) dX11_exit_194 ⟨by decide, by decide⟩) (fun σ7 H locs hw M => ?_)
        exact mx_vret X hr hk M dX11_exit_197 (by decide) (by decide) hw
    · have hw := hwf hq
      refine lv_aload_n X.1 X.2.1 dX11_exit_108 rfl (lv_at hl 0 rfl) ?_
      refine lv_iload_n X.1 X.2.1 dX11_exit_109 rfl (lv_at hl 3 rfl) ?_
      refine lv_aload_n X.1 X.2.1 dX11_exit_110 rfl (lv_at hl 0 rfl) ?_
      refine mm_geta X M 18 (by decide) rfl (by decide) kw_983 dX11_exit_111 ?_
      refine lv_bipush (v := 10) X.1 X.2.1 dX11_exit_114 (by decide) ?_
      refine lv_iload X.1 X.2.1 dX11_exit_116 (lv_at hl 4 rfl) ?_
      refine lv_imul X.1 X.2.1 dX11_exit_118 ?_
      refine lv_aload_n X.1 X.2.1 dX11_exit_119 rfl (lv_at hl 0 rfl) ?_
      refine mm_geta X M 6 (by decide) rfl (by decide) kw_971 dX11_exit_120 ?_
      refine lv_iload_n X.1 X.2.1 dX11_exit_123 rfl (lv_at hl 1 rfl) ?_
      obtain ⟨hi, hw⟩ := hw
      refine mm_ald X M 6 rfl dX11_exit_124 hi ?_
      refine lv_iadd X.1 X.2.1 dX11_exit_125 ?_
      refine lv_iload X.1 X.2.1 dX11_exit_126 (lv_at hl 5 rfl) ?_
      refine lv_iadd X.1 X.2.1 dX11_exit_128 ?_
      obtain ⟨hi, hw⟩ := hw
      refine mm_ald X M 18 rfl dX11_exit_129 hi ?_
      refine lv_aload_n X.1 X.2.1 dX11_exit_130 rfl (lv_at hl 0 rfl) ?_
      refine mm_geta X M 39 (by decide) rfl (by decide) kw_1004 dX11_exit_131 ?_
      refine lv_aload_n X.1 X.2.1 dX11_exit_134 rfl (lv_at hl 0 rfl) ?_
      refine mm_geta X M 29 (by decide) rfl (by decide) kw_994 dX11_exit_135 ?_
      refine lv_iload_n X.1 X.2.1 dX11_exit_138 rfl (lv_at hl 2 rfl) ?_
      obtain ⟨hi, hw⟩ := hw
      refine mm_ald X M 29 rfl dX11_exit_139 hi ?_
      refine lv_aload_n X.1 X.2.1 dX11_exit_140 rfl (lv_at hl 0 rfl) ?_
      refine mm_geta X M 8 (by decide) rfl (by decide) kw_973 dX11_exit_141 ?_
      refine lv_bipush (v := 8) X.1 X.2.1 dX11_exit_144 (by decide) ?_
      refine lv_iload_n X.1 X.2.1 dX11_exit_146 rfl (lv_at hl 1 rfl) ?_
      refine lv_imul X.1 X.2.1 dX11_exit_147 ?_
      refine lv_iload X.1 X.2.1 dX11_exit_148 (lv_at hl 5 rfl) ?_
      refine lv_iadd X.1 X.2.1 dX11_exit_150 ?_
      obtain ⟨hi, hw⟩ := hw
      refine mm_ald X M 8 rfl dX11_exit_151 hi ?_
      refine lv_iadd X.1 X.2.1 dX11_exit_152 ?_
      obtain ⟨hi, hw⟩ := hw
      refine mm_jld X M 39 rfl dX11_exit_153 hi ?_
      refine mx_cv M (mx_runV (n := 3) (As := [.int x3, .int (ma σ 18 (Int32.toNatClampNeg ((((10 : Int32) * x4) + (ma σ 6 (Int32.toNatClampNeg x1))) + x5))), .long (ml σ 39 (Int32.toNatClampNeg ((ma σ 29 (Int32.toNatClampNeg x2)) + (ma σ 8 (Int32.toNatClampNeg (((8 : Int32) * x1) + x5))))))]) (rest := []) X M (c_X11_write l T B μ0 o A σ x3 (ma σ 18 (Int32.toNatClampNeg ((((10 : Int32) * x4) + (ma σ 6 (Int32.toNatClampNeg x1))) + x5))) (ml σ 39 (Int32.toNatClampNeg ((ma σ 29 (Int32.toNatClampNeg x2)) + (ma σ 8 (Int32.toNatClampNeg (((8 : Int32) * x1) + x5)))))) _ hw) (mm_recv X M) kw_1226 kw_1228 kw_43 kw_74 kw_1229 (by decide +kernel) rfl rfl ⟨Nat.le_of_ble_eq_true rfl, Nat.le_of_ble_eq_true rfl⟩ rfl hl.1 (Nat.le_of_ble_eq_true rfl) dX11_exit_154 ⟨by decide, by decide⟩) (fun σ8 H locs hw M => ?_)
      obtain ⟨v9, ev9⟩ : ∃ y : Int32, y = x5 + 1 := ⟨_, rfl⟩
      replace hw := hw v9 ev9
      refine lv_iinc (v := v9) (lv' := [(5, .int v9), (0, .ref o), (1, .int x1), (2, .int x2), (3, .int x3), (4, .int x4)]) X.1 X.2.1 dX11_exit_157 hl (k := 5) rfl (by rw [ev9]; rfl) (by decide) rfl (fun ls hl => ?_)
      refine lv_goto (tgt := 97) X.1 X.2.1 dX11_exit_160 (by decide) ?_
      exact ih σ8 x1 x2 x3 x4 v9 _ _ _ hw M (lv_sub hl [1, 2, 3, 4, 5, 0] rfl)
set_option maxRecDepth 100000 in
set_option maxHeartbeats 4000000 in
theorem b_X11_exit_32 {T : Tb} {B : Nat} {p : Program} {l : Launch} {e : Env} {s : State} {m : MethodId} {args : Array Value} {below : List Frame} {meth : Method} {c0 : Code} {post : MSt → Prop} {μ0 : Mem} {o : Nat} {A : Nat → Nat} (X : CX T B p m c0 cX11_exit 6 s args RX11) (hr : meth.sig.returnType = none) (hk : meth.locks = false) : ∀ (σ : MSt) (x1 : Int32) (H : Heap) (locs : List Loc) (ls : Array Slot), wp_X11_exit_32 post σ x1 → MG (WM T B μ0 o A) B s σ H locs → lv_has ls 6 [(0, .ref o), (1, .int x1)] → W p l e rm_X11_exit s m args below meth c0 H locs 0 0 (MQ below (va_Qv post (Bm (WM T B μ0 o A)) (Ai B)) args s 0 0 (Ai B)) (F0 m 32 ls []) := by
  intro σ x1 H locs ls hw M hl
  unfold wp_X11_exit_32 at hw
  refine lv_aload_n X.1 X.2.1 dX11_exit_32 rfl (lv_at hl 0 rfl) ?_
  refine mm_geti X M 45 (by decide) rfl kw_1010 dX11_exit_33 ?_
  refine lv_topi (fun v2 ev2 => ?_)
  replace hw := hw v2 ev2
  refine lv_istore_n (lv' := [(2, .int v2), (0, .ref o), (1, .int x1)]) X.1 X.2.1 dX11_exit_36 rfl hl (by decide) rfl (fun ls hl => ?_)
  refine lv_aload_n X.1 X.2.1 dX11_exit_37 rfl (lv_at hl 1 rfl) ?_
  refine mm_geta X M 31 (by decide) rfl (by decide) kw_996 dX11_exit_38 ?_
  refine lv_iload_n X.1 X.2.1 dX11_exit_41 rfl (lv_at hl 0 rfl) ?_
  obtain ⟨hi, hw⟩ := hw
  refine mm_ald X M 31 rfl dX11_exit_42 hi ?_
  refine lv_iconst (v := (-1)) X.1 X.2.1 dX11_exit_43 (by decide) ?_
  obtain ⟨hwf, hwt⟩ := hw
  refine lv_icmp_ne (tgt := 63) X.1 X.2.1 dX11_exit_44 (by decide) (fun hq => ?_) (fun hq => ?_)
  · have hw := hwt hq
    refine lv_aload_n X.1 X.2.1 dX11_exit_63 rfl (lv_at hl 1 rfl) ?_
    refine mm_geta X M 31 (by decide) rfl (by decide) kw_996 dX11_exit_64 ?_
    refine lv_iload_n X.1 X.2.1 dX11_exit_67 rfl (lv_at hl 0 rfl) ?_
    obtain ⟨hi, hw⟩ := hw
    refine mm_ald X M 31 rfl dX11_exit_68 hi ?_
    refine lv_topi (fun v3 ev3 => ?_)
    replace hw := hw v3 ev3
    refine lv_istore_n (lv' := [(3, .int v3), (2, .int v2), (0, .ref o), (1, .int x1)]) X.1 X.2.1 dX11_exit_69 rfl hl (by decide) rfl (fun ls hl => ?_)
    refine lv_aload_n X.1 X.2.1 dX11_exit_70 rfl (lv_at hl 2 rfl) ?_
    refine mm_geta X M 10 (by decide) rfl (by decide) kw_975 dX11_exit_71 ?_
    refine lv_sipush (v := 2000) X.1 X.2.1 dX11_exit_74 (by decide) ?_
    refine lv_aload_n X.1 X.2.1 dX11_exit_77 rfl (lv_at hl 2 rfl) ?_
    refine mm_geta X M 28 (by decide) rfl (by decide) kw_993 dX11_exit_78 ?_
    refine lv_iload_n X.1 X.2.1 dX11_exit_81 rfl (lv_at hl 0 rfl) ?_
    obtain ⟨hi, hw⟩ := hw
    refine mm_ald X M 28 rfl dX11_exit_82 hi ?_
    refine lv_imul X.1 X.2.1 dX11_exit_83 ?_
    refine lv_aload_n X.1 X.2.1 dX11_exit_84 rfl (lv_at hl 2 rfl) ?_
    refine mm_geta X M 32 (by decide) rfl (by decide) kw_997 dX11_exit_85 ?_
    refine lv_iload_n X.1 X.2.1 dX11_exit_88 rfl (lv_at hl 1 rfl) ?_
    obtain ⟨hi, hw⟩ := hw
    refine mm_ald X M 32 rfl dX11_exit_89 hi ?_
    refine lv_iadd X.1 X.2.1 dX11_exit_90 ?_
    obtain ⟨hi, hw⟩ := hw
    refine mm_ald X M 10 rfl dX11_exit_91 hi ?_
    refine lv_topi (fun v4 ev4 => ?_)
    replace hw := hw v4 ev4
    refine lv_istore (lv' := [(4, .int v4), (3, .int v3), (2, .int v2), (0, .ref o), (1, .int x1)]) X.1 X.2.1 dX11_exit_92 hl (by decide) rfl (fun ls hl => ?_)
    refine lv_iconst (v := 0) X.1 X.2.1 dX11_exit_94 (by decide) ?_
    refine lv_istore (lv' := [(5, .int 0), (4, .int v4), (3, .int v3), (2, .int v2), (0, .ref o), (1, .int x1)]) X.1 X.2.1 dX11_exit_95 hl (by decide) rfl (fun ls hl => ?_)
    obtain ⟨n10, hw⟩ := hw
    exact b_X11_exit_97 X hr hk n10 σ x1 v2 v3 v4 0 _ _ _ hw M (lv_sub hl [4, 5, 3, 2, 1, 0] rfl)
  · have hw := hwf hq
    refine lv_aload_n X.1 X.2.1 dX11_exit_47 rfl (lv_at hl 1 rfl) ?_
    refine lv_iconst (v := 1) X.1 X.2.1 dX11_exit_48 (by decide) ?_
    refine mm_puti X M 44 (by decide) rfl kw_1009 rfl dX11_exit_49 rfl rfl (fun σ11 H locs eσ11 M => ?_)
    replace hw := hw σ11 eσ11
    refine lv_aload_n X.1 X.2.1 dX11_exit_52 rfl (lv_at hl 1 rfl) ?_
    refine lv_dup X.1 X.2.1 dX11_exit_53 rfl ?_
    refine mm_geti X M 50 (by decide) rfl kw_1015 dX11_exit_54 ?_
    refine lv_iconst (v := 1) X.1 X.2.1 dX11_exit_57 (by decide) ?_
    refine lv_iadd X.1 X.2.1 dX11_exit_58 ?_
    refine mm_puti X M 50 (by decide) rfl kw_1015 rfl dX11_exit_59 rfl rfl (fun σ12 H locs eσ12 M => ?_)
    replace hw := hw σ12 eσ12
    exact mx_vret X hr hk M dX11_exit_62 (by decide) (by decide) hw
set_option maxRecDepth 100000 in
set_option maxHeartbeats 4000000 in
theorem c_X11_exit (l : Launch) (T : Tb) (B : Nat) (μ0 : Mem) (o : Nat) (A : Nat → Nat) (σ : MSt) (post : MSt → Prop) (hw : wp_X11_exit σ  post) : Met l yX11_exit (.code yX11_exit cX11_exit 6 none :: G) rm_X11_exit (Pm (WM T B μ0 o A) T B σ [.ref o]) (va_Qv post (Bm (WM T B μ0 o A)) (Ai B)) 0 0 (Ai B) := by
  refine mx_of RX11 rfl (by decide) (Nat.le_of_ble_eq_true rfl) ?_
  intro p e s m below meth c0 X hr hk hnm M ls hl
  have hl : lv_has ls 6 [(0, .ref o)] := hl
  unfold wp_X11_exit at hw
  refine lv_aload_n X.1 X.2.1 dX11_exit_0 rfl (lv_at hl 0 rfl) ?_
  refine mm_geta X M 28 (by decide) rfl (by decide) kw_993 dX11_exit_1 ?_
  refine lv_aload_n X.1 X.2.1 dX11_exit_4 rfl (lv_at hl 0 rfl) ?_
  refine mm_geti X M 45 (by decide) rfl kw_1010 dX11_exit_5 ?_
  obtain ⟨hi, hw⟩ := hw
  refine mm_ald X M 28 rfl dX11_exit_8 hi ?_
  refine lv_topi (fun v1 ev1 => ?_)
  replace hw := hw v1 ev1
  refine lv_istore_n (lv' := [(1, .int v1), (0, .ref o)]) X.1 X.2.1 dX11_exit_9 rfl hl (by decide) rfl (fun ls hl => ?_)
  refine lv_aload_n X.1 X.2.1 dX11_exit_10 rfl (lv_at hl 1 rfl) ?_
  refine mm_geta X M 4 (by decide) rfl (by decide) kw_969 dX11_exit_11 ?_
  refine lv_iload_n X.1 X.2.1 dX11_exit_14 rfl (lv_at hl 0 rfl) ?_
  obtain ⟨hi, hw⟩ := hw
  refine mm_zld X M 4 rfl dX11_exit_15 hi ?_
  obtain ⟨hwf, hwt⟩ := hw
  refine lv_if_ne (tgt := 32) X.1 X.2.1 dX11_exit_16 (by decide) (fun hq => ?_) (fun hq => ?_)
  · have hw := hwt hq
    exact b_X11_exit_32 X hr hk σ v1 _ _ _ hw M (lv_sub hl [1, 0] rfl)
  · have hw := hwf hq
    refine lv_aload_n X.1 X.2.1 dX11_exit_19 rfl (lv_at hl 1 rfl) ?_
    refine lv_aload_n X.1 X.2.1 dX11_exit_20 rfl (lv_at hl 1 rfl) ?_
    refine mm_geta X M 33 (by decide) rfl (by decide) kw_998 dX11_exit_21 ?_
    refine lv_aload_n X.1 X.2.1 dX11_exit_24 rfl (lv_at hl 1 rfl) ?_
    refine mm_geti X M 45 (by decide) rfl kw_1010 dX11_exit_25 ?_
    obtain ⟨hi, hw⟩ := hw
    refine mm_ald X M 33 rfl dX11_exit_28 hi ?_
    refine mx_cv M (mx_runV (n := 1) (As := [.int (ma σ 33 (Int32.toNatClampNeg (mi σ 45)))]) (rest := []) X M (c_X11_cut l T B μ0 o A σ (ma σ 33 (Int32.toNatClampNeg (mi σ 45))) _ hw) (mm_recv X M) kw_1281 kw_1283 kw_55 kw_74 kw_1284 (by decide +kernel) rfl rfl ⟨Nat.le_of_ble_eq_true rfl, Nat.le_of_ble_eq_true rfl⟩ rfl hl.1 (Nat.le_of_ble_eq_true rfl) dX11_exit_29 ⟨by decide, by decide⟩) (fun σ13 H locs hw M => ?_)
    exact b_X11_exit_32 X hr hk σ13 v1 _ _ _ hw M (lv_sub hl [1, 0] rfl)

abbrev rm_X11_holds : Room := { frames := 0, cells := 0, slots := 0, locals := 0 }
def wp_X11_holds (σ : MSt) (a1 : Int32) (a2 : Int32) (a3 : Int32) (post : Int32 → MSt → Prop) : Prop :=
  (a1 = 0 →
   (a3 ≤ a2 →
    post 0 σ) ∧ (¬ a3 ≤ a2 →
    post 1 σ)) ∧
  (a1 = 1 →
   (a3 < a2 →
    post 0 σ) ∧ (¬ a3 < a2 →
    post 1 σ)) ∧
  (a1 = 2 →
   (a2 ≤ a3 →
    post 0 σ) ∧ (¬ a2 ≤ a3 →
    post 1 σ)) ∧
  (a1 = 3 →
   (a2 < a3 →
    post 0 σ) ∧ (¬ a2 < a3 →
    post 1 σ)) ∧
  (a1 = 4 →
   (a2 = a3 →
    post 1 σ) ∧ (¬ a2 = a3 →
    post 0 σ)) ∧
  (¬ a1 = 0 → ¬ a1 = 1 → ¬ a1 = 2 → ¬ a1 = 3 → ¬ a1 = 4 → 
   (a2 = a3 →
    post 0 σ) ∧ (¬ a2 = a3 →
    post 1 σ))
set_option maxRecDepth 100000 in
set_option maxHeartbeats 4000000 in
theorem c_X11_holds (l : Launch) (T : Tb) (B : Nat) (μ0 : Mem) (o : Nat) (A : Nat → Nat) (σ : MSt) (a1 : Int32) (a2 : Int32) (a3 : Int32) (post : Int32 → MSt → Prop) (hw : wp_X11_holds σ a1 a2 a3 post) : Met l yX11_holds (.code yX11_holds cX11_holds 3 (some .boolean) :: G) rm_X11_holds (Pm (WM T B μ0 o A) T B σ [.int a1, .int a2, .int a3]) (va_Qi post (Bm (WM T B μ0 o A)) (Ai B)) 0 0 (Ai B) := by
  refine mx_of RX11 rfl (by decide) (Nat.le_of_ble_eq_true rfl) ?_
  intro p e s m below meth c0 X hr hk hnm M ls hl
  have hl : lv_has ls 3 [(0, .int a1), (1, .int a2), (2, .int a3)] := hl
  unfold wp_X11_holds at hw
  refine lv_iload_n X.1 X.2.1 dX11_holds_0 rfl (lv_at hl 0 rfl) ?_
  obtain ⟨hw_0, hw_1, hw_2, hw_3, hw_4, hw_d⟩ := hw
  by_cases q_0 : a1 = 0
  · have hw := hw_0 q_0
    refine lv_tableIn (off := 35) (tgt := 36) X.1 X.2.1 dX11_holds_1 (by rw [q_0]; decide) (by rw [q_0]; decide) (by rw [q_0]; rfl) (by decide) ?_
    refine lv_iload_n X.1 X.2.1 dX11_holds_36 rfl (lv_at hl 1 rfl) ?_
    refine lv_iload_n X.1 X.2.1 dX11_holds_37 rfl (lv_at hl 2 rfl) ?_
    obtain ⟨hwt, hwf⟩ := hw
    refine lv_icmp_ge (tgt := 45) X.1 X.2.1 dX11_holds_38 (by decide) (fun hq => ?_) (fun hq => ?_)
    · have hw := hwt hq
      refine lv_iconst (v := 0) X.1 X.2.1 dX11_holds_45 (by decide) ?_
      exact mx_zret X hr hk M dX11_holds_46 (by decide) (by decide) (by decide) hw
    · have hw := hwf hq
      refine lv_iconst (v := 1) X.1 X.2.1 dX11_holds_41 (by decide) ?_
      refine lv_goto (tgt := 46) X.1 X.2.1 dX11_holds_42 (by decide) ?_
      exact mx_zret X hr hk M dX11_holds_46 (by decide) (by decide) (by decide) hw
  by_cases q_1 : a1 = 1
  · have hw := hw_1 q_1
    refine lv_tableIn (off := 46) (tgt := 47) X.1 X.2.1 dX11_holds_1 (by rw [q_1]; decide) (by rw [q_1]; decide) (by rw [q_1]; rfl) (by decide) ?_
    refine lv_iload_n X.1 X.2.1 dX11_holds_47 rfl (lv_at hl 1 rfl) ?_
    refine lv_iload_n X.1 X.2.1 dX11_holds_48 rfl (lv_at hl 2 rfl) ?_
    obtain ⟨hwt, hwf⟩ := hw
    refine lv_icmp_gt (tgt := 56) X.1 X.2.1 dX11_holds_49 (by decide) (fun hq => ?_) (fun hq => ?_)
    · have hw := hwt hq
      refine lv_iconst (v := 0) X.1 X.2.1 dX11_holds_56 (by decide) ?_
      exact mx_zret X hr hk M dX11_holds_57 (by decide) (by decide) (by decide) hw
    · have hw := hwf hq
      refine lv_iconst (v := 1) X.1 X.2.1 dX11_holds_52 (by decide) ?_
      refine lv_goto (tgt := 57) X.1 X.2.1 dX11_holds_53 (by decide) ?_
      exact mx_zret X hr hk M dX11_holds_57 (by decide) (by decide) (by decide) hw
  by_cases q_2 : a1 = 2
  · have hw := hw_2 q_2
    refine lv_tableIn (off := 57) (tgt := 58) X.1 X.2.1 dX11_holds_1 (by rw [q_2]; decide) (by rw [q_2]; decide) (by rw [q_2]; rfl) (by decide) ?_
    refine lv_iload_n X.1 X.2.1 dX11_holds_58 rfl (lv_at hl 1 rfl) ?_
    refine lv_iload_n X.1 X.2.1 dX11_holds_59 rfl (lv_at hl 2 rfl) ?_
    obtain ⟨hwt, hwf⟩ := hw
    refine lv_icmp_le (tgt := 67) X.1 X.2.1 dX11_holds_60 (by decide) (fun hq => ?_) (fun hq => ?_)
    · have hw := hwt hq
      refine lv_iconst (v := 0) X.1 X.2.1 dX11_holds_67 (by decide) ?_
      exact mx_zret X hr hk M dX11_holds_68 (by decide) (by decide) (by decide) hw
    · have hw := hwf hq
      refine lv_iconst (v := 1) X.1 X.2.1 dX11_holds_63 (by decide) ?_
      refine lv_goto (tgt := 68) X.1 X.2.1 dX11_holds_64 (by decide) ?_
      exact mx_zret X hr hk M dX11_holds_68 (by decide) (by decide) (by decide) hw
  by_cases q_3 : a1 = 3
  · have hw := hw_3 q_3
    refine lv_tableIn (off := 68) (tgt := 69) X.1 X.2.1 dX11_holds_1 (by rw [q_3]; decide) (by rw [q_3]; decide) (by rw [q_3]; rfl) (by decide) ?_
    refine lv_iload_n X.1 X.2.1 dX11_holds_69 rfl (lv_at hl 1 rfl) ?_
    refine lv_iload_n X.1 X.2.1 dX11_holds_70 rfl (lv_at hl 2 rfl) ?_
    obtain ⟨hwt, hwf⟩ := hw
    refine lv_icmp_lt (tgt := 78) X.1 X.2.1 dX11_holds_71 (by decide) (fun hq => ?_) (fun hq => ?_)
    · have hw := hwt hq
      refine lv_iconst (v := 0) X.1 X.2.1 dX11_holds_78 (by decide) ?_
      exact mx_zret X hr hk M dX11_holds_79 (by decide) (by decide) (by decide) hw
    · have hw := hwf hq
      refine lv_iconst (v := 1) X.1 X.2.1 dX11_holds_74 (by decide) ?_
      refine lv_goto (tgt := 79) X.1 X.2.1 dX11_holds_75 (by decide) ?_
      exact mx_zret X hr hk M dX11_holds_79 (by decide) (by decide) (by decide) hw
  by_cases q_4 : a1 = 4
  · have hw := hw_4 q_4
    refine lv_tableIn (off := 79) (tgt := 80) X.1 X.2.1 dX11_holds_1 (by rw [q_4]; decide) (by rw [q_4]; decide) (by rw [q_4]; rfl) (by decide) ?_
    refine lv_iload_n X.1 X.2.1 dX11_holds_80 rfl (lv_at hl 1 rfl) ?_
    refine lv_iload_n X.1 X.2.1 dX11_holds_81 rfl (lv_at hl 2 rfl) ?_
    obtain ⟨hwf, hwt⟩ := hw
    refine lv_icmp_ne (tgt := 89) X.1 X.2.1 dX11_holds_82 (by decide) (fun hq => ?_) (fun hq => ?_)
    · have hw := hwt hq
      refine lv_iconst (v := 0) X.1 X.2.1 dX11_holds_89 (by decide) ?_
      exact mx_zret X hr hk M dX11_holds_90 (by decide) (by decide) (by decide) hw
    · have hw := hwf hq
      refine lv_iconst (v := 1) X.1 X.2.1 dX11_holds_85 (by decide) ?_
      refine lv_goto (tgt := 90) X.1 X.2.1 dX11_holds_86 (by decide) ?_
      exact mx_zret X hr hk M dX11_holds_90 (by decide) (by decide) (by decide) hw
  have hw := hw_d q_0 q_1 q_2 q_3 q_4
  have g_0 := lv_neT q_0 (by decide : (0 : Int32).toInt = 0)
  have g_1 := lv_neT q_1 (by decide : (1 : Int32).toInt = 1)
  have g_2 := lv_neT q_2 (by decide : (2 : Int32).toInt = 2)
  have g_3 := lv_neT q_3 (by decide : (3 : Int32).toInt = 3)
  have g_4 := lv_neT q_4 (by decide : (4 : Int32).toInt = 4)
  refine lv_tableOut (tgt := 91) X.1 X.2.1 dX11_holds_1 (by omega) (by decide) ?_
  refine lv_iload_n X.1 X.2.1 dX11_holds_91 rfl (lv_at hl 1 rfl) ?_
  refine lv_iload_n X.1 X.2.1 dX11_holds_92 rfl (lv_at hl 2 rfl) ?_
  obtain ⟨hwt, hwf⟩ := hw
  refine lv_icmp_eq (tgt := 100) X.1 X.2.1 dX11_holds_93 (by decide) (fun hq => ?_) (fun hq => ?_)
  · have hw := hwt hq
    refine lv_iconst (v := 0) X.1 X.2.1 dX11_holds_100 (by decide) ?_
    exact mx_zret X hr hk M dX11_holds_101 (by decide) (by decide) (by decide) hw
  · have hw := hwf hq
    refine lv_iconst (v := 1) X.1 X.2.1 dX11_holds_96 (by decide) ?_
    refine lv_goto (tgt := 101) X.1 X.2.1 dX11_holds_97 (by decide) ?_
    exact mx_zret X hr hk M dX11_holds_101 (by decide) (by decide) (by decide) hw
