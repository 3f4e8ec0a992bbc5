abbrev rm_X11_summed : Room := { frames := 3, cells := 0, slots := 0, locals := 66 }
def wp_X11_summed_138 (post : MSt → Prop) (σ : MSt) (x1 : Int32) (t0 : Int32) : Prop :=
  vp_in x1 2000 ∧
  wp_X11_set σ (ma σ 13 (Int32.toNatClampNeg x1)) (Int32.toInt64 t0) (fun (σ13 : MSt) =>
  vp_in (mi σ13 45) 7000 ∧
  vp_in (mi σ13 45) 7000 ∧ ∀ σ14 : MSt, σ14 = sma σ13 30 (Int32.toNatClampNeg (mi σ13 45)) ((ma σ13 30 (Int32.toNatClampNeg (mi σ13 45))) + 1) →
  post σ14)
def wp_X11_summed_78 (post : MSt → Prop) (σ : MSt) (x1 : Int32) (x6 : Int32) (x7 : Int32) (x8 : Int32) : Prop :=
  (x8 = 0 →
   wp_X11_summed_138 post σ x1 (x6 + x7)) ∧ (¬ x8 = 0 →
   (x8 = 1 →
    wp_X11_summed_138 post σ x1 (x6 - x7)) ∧ (¬ x8 = 1 →
    (x8 = 2 →
     wp_X11_summed_138 post σ x1 (x6 * x7)) ∧ (¬ x8 = 2 →
     (x8 = 3 →
      ¬ x7 = 0 ∧
      wp_X11_summed_138 post σ x1 (x6 / x7)) ∧ (¬ x8 = 3 →
      ¬ x7 = 0 ∧
      wp_X11_summed_138 post σ x1 (x6 - x6 / x7 * x7)))))
def wp_X11_summed (σ : MSt) (a1 : Int32) (post : MSt → Prop) : Prop :=
  vp_in a1 2000 ∧
  wp_X11_get σ (ma σ 14 (Int32.toNatClampNeg a1)) (fun (r2 : Int64) (σ1 : MSt) =>
  vp_in a1 2000 ∧
  wp_X11_get σ1 (ma σ1 15 (Int32.toNatClampNeg a1)) (fun (r4 : Int64) (σ3 : MSt) =>
  wp_X11_isCell σ3 r2 (fun (r6 : Int32) (σ5 : MSt) =>
  (r6 = 0 →
   wp_X11_isCell σ5 r4 (fun (r9 : Int32) (σ8 : MSt) =>
   (r9 = 0 →
    ∀ v10 : Int32, v10 = (Int64.toInt32 r2) →
    ∀ v11 : Int32, v11 = (Int64.toInt32 r4) →
    vp_in a1 2000 ∧
    ∀ v12 : Int32, v12 = (ma σ8 16 (Int32.toNatClampNeg a1)) →
    (v12 ≤ 2 →
     wp_X11_summed_78 post σ8 a1 v10 v11 v12) ∧ (¬ v12 ≤ 2 →
     (v11 = 0 →
      wp_X11_fail σ8 (fun (σ15 : MSt) =>
      post σ15)) ∧ (¬ v11 = 0 →
      wp_X11_summed_78 post σ8 a1 v10 v11 v12))) ∧ (¬ r9 = 0 →
    ∀ σ16 : MSt, σ16 = smi σ8 44 6 →
    post σ16))) ∧ (¬ r6 = 0 →
   ∀ σ7 : MSt, σ7 = smi σ5 44 6 →
   post σ7))))
set_option maxRecDepth 100000 in
set_option maxHeartbeats 4000000 in
theorem b_X11_summed_138 {T : Tb} {B : Nat} {p : Program} {l : Launch} {e : Env} {s : State} {m : MethodId} {args : Array Value} {below : List Frame} {meth : Method} {c0 : Code} {post : MSt → Prop} {μ0 : Mem} {o : Nat} {A : Nat → Nat} (X : CX T B p m c0 cX11_summed 10 s args RX11) (hr : meth.sig.returnType = none) (hk : meth.locks = false) : ∀ (σ : MSt) (x1 : Int32) (t0 : Int32) (H : Heap) (locs : List Loc) (ls : Array Slot), wp_X11_summed_138 post σ x1 t0 → MG (WM T B μ0 o A) B s σ H locs → lv_has ls 10 [(0, .ref o), (1, .int x1)] → W p l e rm_X11_summed s m args below meth c0 H locs 0 0 (MQ below (va_Qv post (Bm (WM T B μ0 o A)) (Ai B)) args s 0 0 (Ai B)) (F0 m 138 ls [.int t0]) := by
  intro σ x1 t0 H locs ls hw M hl
  unfold wp_X11_summed_138 at hw
  refine lv_istore (lv' := [(9, .int t0), (0, .ref o), (1, .int x1)]) X.1 X.2.1 dX11_summed_138 hl (by decide) rfl (fun ls hl => ?_)
  refine lv_aload_n X.1 X.2.1 dX11_summed_140 rfl (lv_at hl 1 rfl) ?_
  refine lv_aload_n X.1 X.2.1 dX11_summed_141 rfl (lv_at hl 1 rfl) ?_
  refine mm_geta X M 13 (by decide) rfl (by decide) kw_978 dX11_summed_142 ?_
  refine lv_iload_n X.1 X.2.1 dX11_summed_145 rfl (lv_at hl 2 rfl) ?_
  obtain ⟨hi, hw⟩ := hw
  refine mm_ald X M 13 rfl dX11_summed_146 hi ?_
  refine lv_iload X.1 X.2.1 dX11_summed_147 (lv_at hl 0 rfl) ?_
  refine lv_i2l X.1 X.2.1 dX11_summed_149 rfl ?_
  refine mx_cv M (mx_runV (n := 2) (As := [.int (ma σ 13 (Int32.toNatClampNeg x1)), .long (Int32.toInt64 t0)]) (rest := []) X M (c_X11_set l T B μ0 o A σ (ma σ 13 (Int32.toNatClampNeg x1)) (Int32.toInt64 t0) _ hw) (mm_recv X M) kw_1222 kw_1224 kw_42 kw_74 kw_1225 (by decide +kernel) rfl rfl ⟨Nat.le_of_ble_eq_true rfl, Nat.le_of_ble_eq_true rfl⟩ rfl hl.1 (Nat.le_of_ble_eq_true rfl) dX11_summed_150 ⟨by decide, by decide⟩) (fun σ13 H locs hw M => ?_)
  refine lv_aload_n X.1 X.2.1 dX11_summed_153 rfl (lv_at hl 1 rfl) ?_
  refine mm_geta X M 30 (by decide) rfl (by decide) kw_995 dX11_summed_154 ?_
  refine lv_aload_n X.1 X.2.1 dX11_summed_157 rfl (lv_at hl 1 rfl) ?_
  refine mm_geti X M 45 (by decide) rfl kw_1010 dX11_summed_158 ?_
  refine lv_dup2_11 X.1 X.2.1 dX11_summed_161 rfl rfl ?_
  obtain ⟨hi, hw⟩ := hw
  refine mm_ald X M 30 rfl dX11_summed_162 hi ?_
  refine lv_iconst (v := 1) X.1 X.2.1 dX11_summed_163 (by decide) ?_
  refine lv_iadd X.1 X.2.1 dX11_summed_164 ?_
  obtain ⟨hi, hw⟩ := hw
  refine mm_ast X M 30 rfl dX11_summed_165 hi (fun σ14 H locs eσ14 M => ?_)
  replace hw := hw σ14 eσ14
  exact mx_vret X hr hk M dX11_summed_166 (by decide) (by decide) hw
set_option maxRecDepth 100000 in
set_option maxHeartbeats 4000000 in
theorem b_X11_summed_78 {T : Tb} {B : Nat} {p : Program} {l : Launch} {e : Env} {s : State} {m : MethodId} {args : Array Value} {below : List Frame} {meth : Method} {c0 : Code} {post : MSt → Prop} {μ0 : Mem} {o : Nat} {A : Nat → Nat} (X : CX T B p m c0 cX11_summed 10 s args RX11) (hr : meth.sig.returnType = none) (hk : meth.locks = false) : ∀ (σ : MSt) (x1 : Int32) (x6 : Int32) (x7 : Int32) (x8 : Int32) (H : Heap) (locs : List Loc) (ls : Array Slot), wp_X11_summed_78 post σ x1 x6 x7 x8 → MG (WM T B μ0 o A) B s σ H locs → lv_has ls 10 [(0, .ref o), (1, .int x1), (6, .int x6), (7, .int x7), (8, .int x8)] → W p l e rm_X11_summed s m args below meth c0 H locs 0 0 (MQ below (va_Qv post (Bm (WM T B μ0 o A)) (Ai B)) args s 0 0 (Ai B)) (F0 m 78 ls []) := by
  intro σ x1 x6 x7 x8 H locs ls hw M hl
  unfold wp_X11_summed_78 at hw
  refine lv_iload X.1 X.2.1 dX11_summed_78 (lv_at hl 4 rfl) ?_
  obtain ⟨hwf, hwt⟩ := hw
  refine lv_if_ne (tgt := 91) X.1 X.2.1 dX11_summed_80 (by decide) (fun hq => ?_) (fun hq => ?_)
  · have hw := hwt hq
    refine lv_iload X.1 X.2.1 dX11_summed_91 (lv_at hl 4 rfl) ?_
    refine lv_iconst (v := 1) X.1 X.2.1 dX11_summed_93 (by decide) ?_
    obtain ⟨hwf, hwt⟩ := hw
    refine lv_icmp_ne (tgt := 105) X.1 X.2.1 dX11_summed_94 (by decide) (fun hq => ?_) (fun hq => ?_)
    · have hw := hwt hq
      refine lv_iload X.1 X.2.1 dX11_summed_105 (lv_at hl 4 rfl) ?_
      refine lv_iconst (v := 2) X.1 X.2.1 dX11_summed_107 (by decide) ?_
      obtain ⟨hwf, hwt⟩ := hw
      refine lv_icmp_ne (tgt := 119) X.1 X.2.1 dX11_summed_108 (by decide) (fun hq => ?_) (fun hq => ?_)
      · have hw := hwt hq
        refine lv_iload X.1 X.2.1 dX11_summed_119 (lv_at hl 4 rfl) ?_
        refine lv_iconst (v := 3) X.1 X.2.1 dX11_summed_121 (by decide) ?_
        obtain ⟨hwf, hwt⟩ := hw
        refine lv_icmp_ne (tgt := 133) X.1 X.2.1 dX11_summed_122 (by decide) (fun hq => ?_) (fun hq => ?_)
        · have hw := hwt hq
          refine lv_iload X.1 X.2.1 dX11_summed_133 (lv_at hl 2 rfl) ?_
          refine lv_iload X.1 X.2.1 dX11_summed_135 (lv_at hl 3 rfl) ?_
          obtain ⟨hne, hw⟩ := hw
          refine lv_irem X.1 X.2.1 dX11_summed_137 hne ?_
          exact b_X11_summed_138 X hr hk σ x1 (x6 - x6 / x7 * x7) _ _ _ hw M (lv_sub hl [0, 1] rfl)
        · have hw := hwf hq
          refine lv_iload X.1 X.2.1 dX11_summed_125 (lv_at hl 2 rfl) ?_
          refine lv_iload X.1 X.2.1 dX11_summed_127 (lv_at hl 3 rfl) ?_
          obtain ⟨hne, hw⟩ := hw
          refine lv_idiv X.1 X.2.1 dX11_summed_129 hne ?_
          refine lv_goto (tgt := 138) X.1 X.2.1 dX11_summed_130 (by decide) ?_
          exact b_X11_summed_138 X hr hk σ x1 (x6 / x7) _ _ _ hw M (lv_sub hl [0, 1] rfl)
      · have hw := hwf hq
        refine lv_iload X.1 X.2.1 dX11_summed_111 (lv_at hl 2 rfl) ?_
        refine lv_iload X.1 X.2.1 dX11_summed_113 (lv_at hl 3 rfl) ?_
        refine lv_imul X.1 X.2.1 dX11_summed_115 ?_
        refine lv_goto (tgt := 138) X.1 X.2.1 dX11_summed_116 (by decide) ?_
        exact b_X11_summed_138 X hr hk σ x1 (x6 * x7) _ _ _ hw M (lv_sub hl [0, 1] rfl)
    · have hw := hwf hq
      refine lv_iload X.1 X.2.1 dX11_summed_97 (lv_at hl 2 rfl) ?_
      refine lv_iload X.1 X.2.1 dX11_summed_99 (lv_at hl 3 rfl) ?_
      refine lv_isub X.1 X.2.1 dX11_summed_101 ?_
      refine lv_goto (tgt := 138) X.1 X.2.1 dX11_summed_102 (by decide) ?_
      exact b_X11_summed_138 X hr hk σ x1 (x6 - x7) _ _ _ hw M (lv_sub hl [0, 1] rfl)
  · have hw := hwf hq
    refine lv_iload X.1 X.2.1 dX11_summed_83 (lv_at hl 2 rfl) ?_
    refine lv_iload X.1 X.2.1 dX11_summed_85 (lv_at hl 3 rfl) ?_
    refine lv_iadd X.1 X.2.1 dX11_summed_87 ?_
    refine lv_goto (tgt := 138) X.1 X.2.1 dX11_summed_88 (by decide) ?_
    exact b_X11_summed_138 X hr hk σ x1 (x6 + x7) _ _ _ hw M (lv_sub hl [0, 1] rfl)
set_option maxRecDepth 100000 in
set_option maxHeartbeats 4000000 in
theorem c_X11_summed (l : Launch) (T : Tb) (B : Nat) (μ0 : Mem) (o : Nat) (A : Nat → Nat) (σ : MSt) (a1 : Int32) (post : MSt → Prop) (hw : wp_X11_summed σ a1 post) : Met l yX11_summed (.code yX11_summed cX11_summed 10 none :: G) rm_X11_summed (Pm (WM T B μ0 o A) T B σ [.ref o, .int a1]) (va_Qv post (Bm (WM T B μ0 o A)) (Ai B)) 0 0 (Ai B) := by
  refine mx_of RX11 rfl (by decide) (Nat.le_of_ble_eq_true rfl) ?_
  intro p e s m below meth c0 X hr hk hnm M ls hl
  have hl : lv_has ls 10 [(0, .ref o), (1, .int a1)] := hl
  unfold wp_X11_summed at hw
  refine lv_aload_n X.1 X.2.1 dX11_summed_0 rfl (lv_at hl 0 rfl) ?_
  refine lv_aload_n X.1 X.2.1 dX11_summed_1 rfl (lv_at hl 0 rfl) ?_
  refine mm_geta X M 14 (by decide) rfl (by decide) kw_979 dX11_summed_2 ?_
  refine lv_iload_n X.1 X.2.1 dX11_summed_5 rfl (lv_at hl 1 rfl) ?_
  obtain ⟨hi, hw⟩ := hw
  refine mm_ald X M 14 rfl dX11_summed_6 hi ?_
  refine mx_cl M (mx_runV (n := 1) (As := [.int (ma σ 14 (Int32.toNatClampNeg a1))]) (rest := []) X M (c_X11_get l T B μ0 o A σ (ma σ 14 (Int32.toNatClampNeg a1)) _ hw) (mm_recv X M) kw_1230 kw_1232 kw_44 kw_74 kw_1233 (by decide +kernel) rfl rfl ⟨Nat.le_of_ble_eq_true rfl, Nat.le_of_ble_eq_true rfl⟩ rfl hl.1 (Nat.le_of_ble_eq_true rfl) dX11_summed_7 ⟨by decide, by decide⟩) (fun r2 σ1 H locs hw M => ?_)
  refine lv_lstore_n (lv' := [(2, .long r2), (0, .ref o), (1, .int a1)]) X.1 X.2.1 dX11_summed_10 rfl hl (by decide) rfl (fun ls hl => ?_)
  refine lv_aload_n X.1 X.2.1 dX11_summed_11 rfl (lv_at hl 1 rfl) ?_
  refine lv_aload_n X.1 X.2.1 dX11_summed_12 rfl (lv_at hl 1 rfl) ?_
  refine mm_geta X M 15 (by decide) rfl (by decide) kw_980 dX11_summed_13 ?_
  refine lv_iload_n X.1 X.2.1 dX11_summed_16 rfl (lv_at hl 2 rfl) ?_
  obtain ⟨hi, hw⟩ := hw
  refine mm_ald X M 15 rfl dX11_summed_17 hi ?_
  refine mx_cl M (mx_runV (n := 1) (As := [.int (ma σ1 15 (Int32.toNatClampNeg a1))]) (rest := []) X M (c_X11_get l T B μ0 o A σ1 (ma σ1 15 (Int32.toNatClampNeg a1)) _ hw) (mm_recv X M) kw_1230 kw_1232 kw_44 kw_74 kw_1233 (by decide +kernel) rfl rfl ⟨Nat.le_of_ble_eq_true rfl, Nat.le_of_ble_eq_true rfl⟩ rfl hl.1 (Nat.le_of_ble_eq_true rfl) dX11_summed_18 ⟨by decide, by decide⟩) (fun r4 σ3 H locs hw M => ?_)
  refine lv_lstore (lv' := [(4, .long r4), (2, .long r2), (0, .ref o), (1, .int a1)]) X.1 X.2.1 dX11_summed_21 hl (by decide) rfl (fun ls hl => ?_)
  refine lv_lload_n X.1 X.2.1 dX11_summed_23 rfl (lv_at hl 1 rfl) ?_
  refine mx_ci M (mx_runS (n := 1) (As := [.long r2]) (rest := []) X M (c_X11_isCell l T B μ0 o A σ3 r2 _ hw) kw_1243 kw_1244 kw_74 kw_1245 (by decide +kernel) rfl rfl ⟨Nat.le_of_ble_eq_true rfl, Nat.le_of_ble_eq_true rfl⟩ rfl hl.1 (Nat.le_of_ble_eq_true rfl) dX11_summed_24 ⟨by decide, by decide⟩) (fun r6 σ5 H locs hw M => ?_)
  obtain ⟨hwf, hwt⟩ := hw
  refine lv_if_ne (tgt := 38) X.1 X.2.1 dX11_summed_27 (by decide) (fun hq => ?_) (fun hq => ?_)
  · have hw := hwt hq
    refine lv_aload_n X.1 X.2.1 dX11_summed_38 rfl (lv_at hl 2 rfl) ?_
    refine lv_bipush (v := 6) X.1 X.2.1 dX11_summed_39 (by decide) ?_
    refine mm_puti X M 44 (by decide) rfl kw_1009 rfl dX11_summed_41 rfl rfl (fun σ7 H locs eσ7 M => ?_)
    replace hw := hw σ7 eσ7
    exact mx_vret X hr hk M dX11_summed_44 (by decide) (by decide) hw
  · have hw := hwf hq
    refine lv_lload X.1 X.2.1 dX11_summed_30 (lv_at hl 0 rfl) ?_
    refine mx_ci M (mx_runS (n := 1) (As := [.long r4]) (rest := []) X M (c_X11_isCell l T B μ0 o A σ5 r4 _ hw) kw_1243 kw_1244 kw_74 kw_1245 (by decide +kernel) rfl rfl ⟨Nat.le_of_ble_eq_true rfl, Nat.le_of_ble_eq_true rfl⟩ rfl hl.1 (Nat.le_of_ble_eq_true rfl) dX11_summed_32 ⟨by decide, by decide⟩) (fun r9 σ8 H locs hw M => ?_)
    obtain ⟨hwt, hwf⟩ := hw
    refine lv_if_eq (tgt := 45) X.1 X.2.1 dX11_summed_35 (by decide) (fun hq => ?_) (fun hq => ?_)
    · have hw := hwt hq
      refine lv_lload_n X.1 X.2.1 dX11_summed_45 rfl (lv_at hl 1 rfl) ?_
      refine lv_l2i X.1 X.2.1 dX11_summed_46 rfl ?_
      refine lv_topi (fun v10 ev10 => ?_)
      replace hw := hw v10 ev10
      refine lv_istore (lv' := [(6, .int v10), (4, .long r4), (2, .long r2), (0, .ref o), (1, .int a1)]) X.1 X.2.1 dX11_summed_47 hl (by decide) rfl (fun ls hl => ?_)
      refine lv_lload X.1 X.2.1 dX11_summed_49 (lv_at hl 1 rfl) ?_
      refine lv_l2i X.1 X.2.1 dX11_summed_51 rfl ?_
      refine lv_topi (fun v11 ev11 => ?_)
      replace hw := hw v11 ev11
      refine lv_istore (lv' := [(7, .int v11), (6, .int v10), (4, .long r4), (2, .long r2), (0, .ref o), (1, .int a1)]) X.1 X.2.1 dX11_summed_52 hl (by decide) rfl (fun ls hl => ?_)
      refine lv_aload_n X.1 X.2.1 dX11_summed_54 rfl (lv_at hl 4 rfl) ?_
      refine mm_geta X M 16 (by decide) rfl (by decide) kw_981 dX11_summed_55 ?_
      refine lv_iload_n X.1 X.2.1 dX11_summed_58 rfl (lv_at hl 5 rfl) ?_
      obtain ⟨hi, hw⟩ := hw
      refine mm_ald X M 16 rfl dX11_summed_59 hi ?_
      refine lv_topi (fun v12 ev12 => ?_)
      replace hw := hw v12 ev12
      refine lv_istore (lv' := [(8, .int v12), (7, .int v11), (6, .int v10), (4, .long r4), (2, .long r2), (0, .ref o), (1, .int a1)]) X.1 X.2.1 dX11_summed_60 hl (by decide) rfl (fun ls hl => ?_)
      refine lv_iload X.1 X.2.1 dX11_summed_62 (lv_at hl 0 rfl) ?_
      refine lv_iconst (v := 2) X.1 X.2.1 dX11_summed_64 (by decide) ?_
      obtain ⟨hwt, hwf⟩ := hw
      refine lv_icmp_le (tgt := 78) X.1 X.2.1 dX11_summed_65 (by decide) (fun hq => ?_) (fun hq => ?_)
      · have hw := hwt hq
        exact b_X11_summed_78 X hr hk σ8 a1 v10 v11 v12 _ _ _ hw M (lv_sub hl [5, 6, 2, 1, 0] rfl)
      · have hw := hwf hq
        refine lv_iload X.1 X.2.1 dX11_summed_68 (lv_at hl 1 rfl) ?_
        obtain ⟨hwf, hwt⟩ := hw
        refine lv_if_ne (tgt := 78) X.1 X.2.1 dX11_summed_70 (by decide) (fun hq => ?_) (fun hq => ?_)
        · have hw := hwt hq
          exact b_X11_summed_78 X hr hk σ8 a1 v10 v11 v12 _ _ _ hw M (lv_sub hl [5, 6, 2, 1, 0] rfl)
        · have hw := hwf hq
          refine lv_aload_n X.1 X.2.1 dX11_summed_73 rfl (lv_at hl 5 rfl) ?_
          refine mx_cv M (mx_runV (n := 0) (As := []) (rest := []) X M (c_X11_fail l T B μ0 o A σ8 _ hw) (mm_recv X M) kw_1202 kw_1204 kw_37 kw_74 kw_1205 (by decide +kernel) rfl rfl ⟨Nat.le_of_ble_eq_true rfl, Nat.le_of_ble_eq_true rfl⟩ rfl hl.1 (Nat.le_of_ble_eq_true rfl) dX11_summed_74 ⟨by decide, by decide⟩) (fun σ15 H locs hw M => ?_)
          exact mx_vret X hr hk M dX11_summed_77 (by decide) (by decide) hw
    · have hw := hwf hq
      refine lv_aload_n X.1 X.2.1 dX11_summed_38 rfl (lv_at hl 2 rfl) ?_
      refine lv_bipush (v := 6) X.1 X.2.1 dX11_summed_39 (by decide) ?_
      refine mm_puti X M 44 (by decide) rfl kw_1009 rfl dX11_summed_41 rfl rfl (fun σ16 H locs eσ16 M => ?_)
      replace hw := hw σ16 eσ16
      exact mx_vret X hr hk M dX11_summed_44 (by decide) (by decide) hw

abbrev rm_X11_compared : Room := { frames := 3, cells := 0, slots := 0, locals := 66 }
def wp_X11_compared (σ : MSt) (a1 : Int32) (post : MSt → Prop) : Prop :=
  vp_in a1 2000 ∧
  wp_X11_get σ (ma σ 13 (Int32.toNatClampNeg a1)) (fun (r2 : Int64) (σ1 : MSt) =>
  vp_in a1 2000 ∧
  wp_X11_get σ1 (ma σ1 14 (Int32.toNatClampNeg a1)) (fun (r4 : Int64) (σ3 : MSt) =>
  wp_X11_isCell σ3 r2 (fun (r6 : Int32) (σ5 : MSt) =>
  (r6 = 0 →
   wp_X11_isCell σ5 r4 (fun (r9 : Int32) (σ8 : MSt) =>
   (r9 = 0 →
    vp_in a1 2000 ∧
    wp_X11_holds σ8 (ma σ8 15 (Int32.toNatClampNeg a1)) (Int64.toInt32 r2) (Int64.toInt32 r4) (fun (r11 : Int32) (σ10 : MSt) =>
    (r11 = 0 →
     wp_X11_fail σ10 (fun (σ12 : MSt) =>
     post σ12)) ∧ (¬ r11 = 0 →
     vp_in (mi σ10 45) 7000 ∧
     vp_in (mi σ10 45) 7000 ∧ ∀ σ13 : MSt, σ13 = sma σ10 30 (Int32.toNatClampNeg (mi σ10 45)) ((ma σ10 30 (Int32.toNatClampNeg (mi σ10 45))) + 1) →
     post σ13))) ∧ (¬ r9 = 0 →
    ∀ σ14 : MSt, σ14 = smi σ8 44 6 →
    post σ14))) ∧ (¬ r6 = 0 →
   ∀ σ7 : MSt, σ7 = smi σ5 44 6 →
   post σ7))))
set_option maxRecDepth 100000 in
set_option maxHeartbeats 4000000 in
theorem c_X11_compared (l : Launch) (T : Tb) (B : Nat) (μ0 : Mem) (o : Nat) (A : Nat → Nat) (σ : MSt) (a1 : Int32) (post : MSt → Prop) (hw : wp_X11_compared σ a1 post) : Met l yX11_compared (.code yX11_compared cX11_compared 6 none :: G) rm_X11_compared (Pm (WM T B μ0 o A) T B σ [.ref o, .int a1]) (va_Qv post (Bm (WM T B μ0 o A)) (Ai B)) 0 0 (Ai B) := by
  refine mx_of RX11 rfl (by decide) (Nat.le_of_ble_eq_true rfl) ?_
  intro p e s m below meth c0 X hr hk hnm M ls hl
  have hl : lv_has ls 6 [(0, .ref o), (1, .int a1)] := hl
  unfold wp_X11_compared at hw
  refine lv_aload_n X.1 X.2.1 dX11_compared_0 rfl (lv_at hl 0 rfl) ?_
  refine lv_aload_n X.1 X.2.1 dX11_compared_1 rfl (lv_at hl 0 rfl) ?_
  refine mm_geta X M 13 (by decide) rfl (by decide) kw_978 dX11_compared_2 ?_
  refine lv_iload_n X.1 X.2.1 dX11_compared_5 rfl (lv_at hl 1 rfl) ?_
  obtain ⟨hi, hw⟩ := hw
  refine mm_ald X M 13 rfl dX11_compared_6 hi ?_
  refine mx_cl M (mx_runV (n := 1) (As := [.int (ma σ 13 (Int32.toNatClampNeg a1))]) (rest := []) X M (c_X11_get l T B μ0 o A σ (ma σ 13 (Int32.toNatClampNeg a1)) _ hw) (mm_recv X M) kw_1230 kw_1232 kw_44 kw_74 kw_1233 (by decide +kernel) rfl rfl ⟨Nat.le_of_ble_eq_true rfl, Nat.le_of_ble_eq_true rfl⟩ rfl hl.1 (Nat.le_of_ble_eq_true rfl) dX11_compared_7 ⟨by decide, by decide⟩) (fun r2 σ1 H locs hw M => ?_)
  refine lv_lstore_n (lv' := [(2, .long r2), (0, .ref o), (1, .int a1)]) X.1 X.2.1 dX11_compared_10 rfl hl (by decide) rfl (fun ls hl => ?_)
  refine lv_aload_n X.1 X.2.1 dX11_compared_11 rfl (lv_at hl 1 rfl) ?_
  refine lv_aload_n X.1 X.2.1 dX11_compared_12 rfl (lv_at hl 1 rfl) ?_
  refine mm_geta X M 14 (by decide) rfl (by decide) kw_979 dX11_compared_13 ?_
  refine lv_iload_n X.1 X.2.1 dX11_compared_16 rfl (lv_at hl 2 rfl) ?_
  obtain ⟨hi, hw⟩ := hw
  refine mm_ald X M 14 rfl dX11_compared_17 hi ?_
  refine mx_cl M (mx_runV (n := 1) (As := [.int (ma σ1 14 (Int32.toNatClampNeg a1))]) (rest := []) X M (c_X11_get l T B μ0 o A σ1 (ma σ1 14 (Int32.toNatClampNeg a1)) _ hw) (mm_recv X M) kw_1230 kw_1232 kw_44 kw_74 kw_1233 (by decide +kernel) rfl rfl ⟨Nat.le_of_ble_eq_true rfl, Nat.le_of_ble_eq_true rfl⟩ rfl hl.1 (Nat.le_of_ble_eq_true rfl) dX11_compared_18 ⟨by decide, by decide⟩) (fun r4 σ3 H locs hw M => ?_)
  refine lv_lstore (lv' := [(4, .long r4), (2, .long r2), (0, .ref o), (1, .int a1)]) X.1 X.2.1 dX11_compared_21 hl (by decide) rfl (fun ls hl => ?_)
  refine lv_lload_n X.1 X.2.1 dX11_compared_23 rfl (lv_at hl 1 rfl) ?_
  refine mx_ci M (mx_runS (n := 1) (As := [.long r2]) (rest := []) X M (c_X11_isCell l T B μ0 o A σ3 r2 _ hw) kw_1243 kw_1244 kw_74 kw_1245 (by decide +kernel) rfl rfl ⟨Nat.le_of_ble_eq_true rfl, Nat.le_of_ble_eq_true rfl⟩ rfl hl.1 (Nat.le_of_ble_eq_true rfl) dX11_compared_24 ⟨by decide, by decide⟩) (fun r6 σ5 H locs hw M => ?_)
  obtain ⟨hwf, hwt⟩ := hw
  refine lv_if_ne (tgt := 38) X.1 X.2.1 dX11_compared_27 (by decide) (fun hq => ?_) (fun hq => ?_)
  · have hw := hwt hq
    refine lv_aload_n X.1 X.2.1 dX11_compared_38 rfl (lv_at hl 2 rfl) ?_
    refine lv_bipush (v := 6) X.1 X.2.1 dX11_compared_39 (by decide) ?_
    refine mm_puti X M 44 (by decide) rfl kw_1009 rfl dX11_compared_41 rfl rfl (fun σ7 H locs eσ7 M => ?_)
    replace hw := hw σ7 eσ7
    refine lv_goto (tgt := 84) X.1 X.2.1 dX11_compared_44 (by decide) ?_
    exact mx_vret X hr hk M dX11_compared_84 (by decide) (by decide) hw
  · have hw := hwf hq
    refine lv_lload X.1 X.2.1 dX11_compared_30 (lv_at hl 0 rfl) ?_
    refine mx_ci M (mx_runS (n := 1) (As := [.long r4]) (rest := []) X M (c_X11_isCell l T B μ0 o A σ5 r4 _ hw) kw_1243 kw_1244 kw_74 kw_1245 (by decide +kernel) rfl rfl ⟨Nat.le_of_ble_eq_true rfl, Nat.le_of_ble_eq_true rfl⟩ rfl hl.1 (Nat.le_of_ble_eq_true rfl) dX11_compared_32 ⟨by decide, by decide⟩) (fun r9 σ8 H locs hw M => ?_)
    obtain ⟨hwt, hwf⟩ := hw
    refine lv_if_eq (tgt := 47) X.1 X.2.1 dX11_compared_35 (by decide) (fun hq => ?_) (fun hq => ?_)
    · have hw := hwt hq
      refine lv_aload_n X.1 X.2.1 dX11_compared_47 rfl (lv_at hl 2 rfl) ?_
      refine mm_geta X M 15 (by decide) rfl (by decide) kw_980 dX11_compared_48 ?_
      refine lv_iload_n X.1 X.2.1 dX11_compared_51 rfl (lv_at hl 3 rfl) ?_
      obtain ⟨hi, hw⟩ := hw
      refine mm_ald X M 15 rfl dX11_compared_52 hi ?_
      refine lv_lload_n X.1 X.2.1 dX11_compared_53 rfl (lv_at hl 1 rfl) ?_
      refine lv_l2i X.1 X.2.1 dX11_compared_54 rfl ?_
      refine lv_lload X.1 X.2.1 dX11_compared_55 (lv_at hl 0 rfl) ?_
      refine lv_l2i X.1 X.2.1 dX11_compared_57 rfl ?_
      refine mx_ci M (mx_runS (n := 3) (As := [.int (ma σ8 15 (Int32.toNatClampNeg a1)), .int (Int64.toInt32 r2), .int (Int64.toInt32 r4)]) (rest := []) X M (c_X11_holds l T B μ0 o A σ8 (ma σ8 15 (Int32.toNatClampNeg a1)) (Int64.toInt32 r2) (Int64.toInt32 r4) _ hw) kw_1266 kw_1267 kw_74 kw_1268 (by decide +kernel) rfl rfl ⟨Nat.le_of_ble_eq_true rfl, Nat.le_of_ble_eq_true rfl⟩ rfl hl.1 (Nat.le_of_ble_eq_true rfl) dX11_compared_58 ⟨by decide, by decide⟩) (fun r11 σ10 H locs hw M => ?_)
      obtain ⟨hwt, hwf⟩ := hw
      refine lv_if_eq (tgt := 80) X.1 X.2.1 dX11_compared_61 (by decide) (fun hq => ?_) (fun hq => ?_)
      · have hw := hwt hq
        refine lv_aload_n X.1 X.2.1 dX11_compared_80 rfl (lv_at hl 2 rfl) ?_
        refine mx_cv M (mx_runV (n := 0) (As := []) (rest := []) X M (c_X11_fail l T B μ0 o A σ10 _ hw) (mm_recv X M) kw_1202 kw_1204 kw_37 kw_74 kw_1205 (by decide +kernel) rfl rfl ⟨Nat.le_of_ble_eq_true rfl, Nat.le_of_ble_eq_true rfl⟩ rfl hl.1 (Nat.le_of_ble_eq_true rfl) dX11_compared_81 ⟨by decide, by decide⟩) (fun σ12 H locs hw M => ?_)
        exact mx_vret X hr hk M dX11_compared_84 (by decide) (by decide) hw
      · have hw := hwf hq
        refine lv_aload_n X.1 X.2.1 dX11_compared_64 rfl (lv_at hl 2 rfl) ?_
        refine mm_geta X M 30 (by decide) rfl (by decide) kw_995 dX11_compared_65 ?_
        refine lv_aload_n X.1 X.2.1 dX11_compared_68 rfl (lv_at hl 2 rfl) ?_
        refine mm_geti X M 45 (by decide) rfl kw_1010 dX11_compared_69 ?_
        refine lv_dup2_11 X.1 X.2.1 dX11_compared_72 rfl rfl ?_
        obtain ⟨hi, hw⟩ := hw
        refine mm_ald X M 30 rfl dX11_compared_73 hi ?_
        refine lv_iconst (v := 1) X.1 X.2.1 dX11_compared_74 (by decide) ?_
        refine lv_iadd X.1 X.2.1 dX11_compared_75 ?_
        obtain ⟨hi, hw⟩ := hw
        refine mm_ast X M 30 rfl dX11_compared_76 hi (fun σ13 H locs eσ13 M => ?_)
        replace hw := hw σ13 eσ13
        refine lv_goto (tgt := 84) X.1 X.2.1 dX11_compared_77 (by decide) ?_
        exact mx_vret X hr hk M dX11_compared_84 (by decide) (by decide) hw
    · have hw := hwf hq
      refine lv_aload_n X.1 X.2.1 dX11_compared_38 rfl (lv_at hl 2 rfl) ?_
      refine lv_bipush (v := 6) X.1 X.2.1 dX11_compared_39 (by decide) ?_
      refine mm_puti X M 44 (by decide) rfl kw_1009 rfl dX11_compared_41 rfl rfl (fun σ14 H locs eσ14 M => ?_)
      replace hw := hw σ14 eσ14
      refine lv_goto (tgt := 84) X.1 X.2.1 dX11_compared_44 (by decide) ?_
      exact mx_vret X hr hk M dX11_compared_84 (by decide) (by decide) hw

abbrev rm_X11_same : Room := { frames := 3, cells := 0, slots := 0, locals := 66 }
def wp_X11_same (σ : MSt) (a1 : Int32) (post : MSt → Prop) : Prop :=
  vp_in a1 2000 ∧
  wp_X11_get σ (ma σ 13 (Int32.toNatClampNeg a1)) (fun (r2 : Int64) (σ1 : MSt) =>
  vp_in a1 2000 ∧
  wp_X11_get σ1 (ma σ1 14 (Int32.toNatClampNeg a1)) (fun (r4 : Int64) (σ3 : MSt) =>
  wp_X11_compare σ3 r2 r4 (fun (r6 : Int32) (σ5 : MSt) =>
  (r6 = 2 →
   ∀ σ9 : MSt, σ9 = smi σ5 44 6 →
   post σ9) ∧ (¬ r6 = 2 →
   (r6 = 1 →
    wp_X11_fail σ5 (fun (σ8 : MSt) =>
    post σ8)) ∧ (¬ r6 = 1 →
    vp_in (mi σ5 45) 7000 ∧
    vp_in (mi σ5 45) 7000 ∧ ∀ σ7 : MSt, σ7 = sma σ5 30 (Int32.toNatClampNeg (mi σ5 45)) ((ma σ5 30 (Int32.toNatClampNeg (mi σ5 45))) + 1) →
    post σ7)))))
set_option maxRecDepth 100000 in
set_option maxHeartbeats 4000000 in
theorem c_X11_same (l : Launch) (T : Tb) (B : Nat) (μ0 : Mem) (o : Nat) (A : Nat → Nat) (σ : MSt) (a1 : Int32) (post : MSt → Prop) (hw : wp_X11_same σ a1 post) : Met l yX11_same (.code yX11_same cX11_same 3 none :: G) rm_X11_same (Pm (WM T B μ0 o A) T B σ [.ref o, .int a1]) (va_Qv post (Bm (WM T B μ0 o A)) (Ai B)) 0 0 (Ai B) := by
  refine mx_of RX11 rfl (by decide) (Nat.le_of_ble_eq_true rfl) ?_
  intro p e s m below meth c0 X hr hk hnm M ls hl
  have hl : lv_has ls 3 [(0, .ref o), (1, .int a1)] := hl
  unfold wp_X11_same at hw
  refine lv_aload_n X.1 X.2.1 dX11_same_0 rfl (lv_at hl 0 rfl) ?_
  refine lv_aload_n X.1 X.2.1 dX11_same_1 rfl (lv_at hl 0 rfl) ?_
  refine lv_aload_n X.1 X.2.1 dX11_same_2 rfl (lv_at hl 0 rfl) ?_
  refine mm_geta X M 13 (by decide) rfl (by decide) kw_978 dX11_same_3 ?_
  refine lv_iload_n X.1 X.2.1 dX11_same_6 rfl (lv_at hl 1 rfl) ?_
  obtain ⟨hi, hw⟩ := hw
  refine mm_ald X M 13 rfl dX11_same_7 hi ?_
  refine mx_cl M (mx_runV (n := 1) (As := [.int (ma σ 13 (Int32.toNatClampNeg a1))]) (rest := [.ref o]) X M (c_X11_get l T B μ0 o A σ (ma σ 13 (Int32.toNatClampNeg a1)) _ hw) (mm_recv X M) kw_1230 kw_1232 kw_44 kw_74 kw_1233 (by decide +kernel) rfl rfl ⟨Nat.le_of_ble_eq_true rfl, Nat.le_of_ble_eq_true rfl⟩ rfl hl.1 (Nat.le_of_ble_eq_true rfl) dX11_same_8 ⟨by decide, by decide⟩) (fun r2 σ1 H locs hw M => ?_)
  refine lv_aload_n X.1 X.2.1 dX11_same_11 rfl (lv_at hl 0 rfl) ?_
  refine lv_aload_n X.1 X.2.1 dX11_same_12 rfl (lv_at hl 0 rfl) ?_
  refine mm_geta X M 14 (by decide) rfl (by decide) kw_979 dX11_same_13 ?_
  refine lv_iload_n X.1 X.2.1 dX11_same_16 rfl (lv_at hl 1 rfl) ?_
  obtain ⟨hi, hw⟩ := hw
  refine mm_ald X M 14 rfl dX11_same_17 hi ?_
  refine mx_cl M (mx_runV (n := 1) (As := [.int (ma σ1 14 (Int32.toNatClampNeg a1))]) (rest := [.long r2, .ref o]) X M (c_X11_get l T B μ0 o A σ1 (ma σ1 14 (Int32.toNatClampNeg a1)) _ hw) (mm_recv X M) kw_1230 kw_1232 kw_44 kw_74 kw_1233 (by decide +kernel) rfl rfl ⟨Nat.le_of_ble_eq_true rfl, Nat.le_of_ble_eq_true rfl⟩ rfl hl.1 (Nat.le_of_ble_eq_true rfl) dX11_same_18 ⟨by decide, by decide⟩) (fun r4 σ3 H locs hw M => ?_)
  refine mx_ci M (mx_runV (n := 2) (As := [.long r2, .long r4]) (rest := []) X M (c_X11_compare l T B μ0 o A σ3 r2 r4 _ hw) (mm_recv X M) kw_1254 kw_1256 kw_49 kw_74 kw_1257 (by decide +kernel) rfl rfl ⟨Nat.le_of_ble_eq_true rfl, Nat.le_of_ble_eq_true rfl⟩ rfl hl.1 (Nat.le_of_ble_eq_true rfl) dX11_same_21 ⟨by decide, by decide⟩) (fun r6 σ5 H locs hw M => ?_)
  refine lv_istore_n (lv' := [(2, .int r6), (0, .ref o), (1, .int a1)]) X.1 X.2.1 dX11_same_24 rfl hl (by decide) rfl (fun ls hl => ?_)
  refine lv_iload_n X.1 X.2.1 dX11_same_25 rfl (lv_at hl 0 rfl) ?_
  refine lv_iconst (v := 2) X.1 X.2.1 dX11_same_26 (by decide) ?_
  obtain ⟨hwf, hwt⟩ := hw
  refine lv_icmp_ne (tgt := 39) X.1 X.2.1 dX11_same_27 (by decide) (fun hq => ?_) (fun hq => ?_)
  · have hw := hwt hq
    refine lv_iload_n X.1 X.2.1 dX11_same_39 rfl (lv_at hl 0 rfl) ?_
    refine lv_iconst (v := 1) X.1 X.2.1 dX11_same_40 (by decide) ?_
    obtain ⟨hwf, hwt⟩ := hw
    refine lv_icmp_ne (tgt := 51) X.1 X.2.1 dX11_same_41 (by decide) (fun hq => ?_) (fun hq => ?_)
    · have hw := hwt hq
      refine lv_aload_n X.1 X.2.1 dX11_same_51 rfl (lv_at hl 1 rfl) ?_
      refine mm_geta X M 30 (by decide) rfl (by decide) kw_995 dX11_same_52 ?_
      refine lv_aload_n X.1 X.2.1 dX11_same_55 rfl (lv_at hl 1 rfl) ?_
      refine mm_geti X M 45 (by decide) rfl kw_1010 dX11_same_56 ?_
      refine lv_dup2_11 X.1 X.2.1 dX11_same_59 rfl rfl ?_
      obtain ⟨hi, hw⟩ := hw
      refine mm_ald X M 30 rfl dX11_same_60 hi ?_
      refine lv_iconst (v := 1) X.1 X.2.1 dX11_same_61 (by decide) ?_
      refine lv_iadd X.1 X.2.1 dX11_same_62 ?_
      obtain ⟨hi, hw⟩ := hw
      refine mm_ast X M 30 rfl dX11_same_63 hi (fun σ7 H locs eσ7 M => ?_)
      replace hw := hw σ7 eσ7
      exact mx_vret X hr hk M dX11_same_64 (by decide) (by decide) hw
    · have hw := hwf hq
      refine lv_aload_n X.1 X.2.1 dX11_same_44 rfl (lv_at hl 1 rfl) ?_
      refine mx_cv M (mx_runV (n := 0) (As := []) (rest := []) X M (c_X11_fail l T B μ0 o A σ5 _ hw) (mm_recv X M) kw_1202 kw_1204 kw_37 kw_74 kw_1205 (by decide +kernel) rfl rfl ⟨Nat.le_of_ble_eq_true rfl, Nat.le_of_ble_eq_true rfl⟩ rfl hl.1 (Nat.le_of_ble_eq_true rfl) dX11_same_45 ⟨by decide, by decide⟩) (fun σ8 H locs hw M => ?_)
      refine lv_goto (tgt := 64) X.1 X.2.1 dX11_same_48 (by decide) ?_
      exact mx_vret X hr hk M dX11_same_64 (by decide) (by decide) hw
  · have hw := hwf hq
    refine lv_aload_n X.1 X.2.1 dX11_same_30 rfl (lv_at hl 1 rfl) ?_
    refine lv_bipush (v := 6) X.1 X.2.1 dX11_same_31 (by decide) ?_
    refine mm_puti X M 44 (by decide) rfl kw_1009 rfl dX11_same_33 rfl rfl (fun σ9 H locs eσ9 M => ?_)
    replace hw := hw σ9 eσ9
    refine lv_goto (tgt := 64) X.1 X.2.1 dX11_same_36 (by decide) ?_
    exact mx_vret X hr hk M dX11_same_64 (by decide) (by decide) hw

abbrev rm_X11_cutOrDrop : Room := { frames := 4, cells := 0, slots := 0, locals := 88 }
def wp_X11_cutOrDrop (σ : MSt) (a1 : Int32) (post : MSt → Prop) : Prop :=
  vp_in a1 2000 ∧
  wp_X11_get σ (ma σ 13 (Int32.toNatClampNeg a1)) (fun (r2 : Int64) (σ1 : MSt) =>
  wp_X11_isCell σ1 r2 (fun (r4 : Int32) (σ3 : MSt) =>
  (r4 = 0 →
   vp_in (mi σ3 45) 7000 ∧
   vp_in (mi σ3 45) 7000 ∧ ∀ σ5 : MSt, σ5 = sma σ3 30 (Int32.toNatClampNeg (mi σ3 45)) ((ma σ3 30 (Int32.toNatClampNeg (mi σ3 45))) + 1) →
   vp_in a1 2000 ∧
   ((ma σ5 12 (Int32.toNatClampNeg a1)) = 12 →
    wp_X11_cut σ5 (Int64.toInt32 r2) (fun (σ10 : MSt) =>
    post σ10)) ∧ (¬ (ma σ5 12 (Int32.toNatClampNeg a1)) = 12 →
    (0 ≤ (lg_cmp r2 0) →
     wp_X11_redoAt σ5 (Int64.toInt32 r2) (fun (r7 : Int32) (σ6 : MSt) =>
     (r7 = (-1) →
      post σ6) ∧ (¬ r7 = (-1) →
      vp_in r7 7000 ∧ ∀ σ8 : MSt, σ8 = sma σ6 34 (Int32.toNatClampNeg r7) (vp_nar .boolean 1) →
      post σ8))) ∧ (¬ 0 ≤ (lg_cmp r2 0) →
     (((-1) : Int32) = (-1) →
      post σ5) ∧ (¬ ((-1) : Int32) = (-1) →
      vp_in (-1) 7000 ∧ ∀ σ9 : MSt, σ9 = sma σ5 34 (Int32.toNatClampNeg (-1)) (vp_nar .boolean 1) →
      post σ9)))) ∧ (¬ r4 = 0 →
   ∀ σ11 : MSt, σ11 = smi σ3 44 6 →
   post σ11)))
set_option maxRecDepth 100000 in
set_option maxHeartbeats 4000000 in
theorem c_X11_cutOrDrop (l : Launch) (T : Tb) (B : Nat) (μ0 : Mem) (o : Nat) (A : Nat → Nat) (σ : MSt) (a1 : Int32) (post : MSt → Prop) (hw : wp_X11_cutOrDrop σ a1 post) : Met l yX11_cutOrDrop (.code yX11_cutOrDrop cX11_cutOrDrop 5 none :: G) rm_X11_cutOrDrop (Pm (WM T B μ0 o A) T B σ [.ref o, .int a1]) (va_Qv post (Bm (WM T B μ0 o A)) (Ai B)) 0 0 (Ai B) := by
  refine mx_of RX11 rfl (by decide) (Nat.le_of_ble_eq_true rfl) ?_
  intro p e s m below meth c0 X hr hk hnm M ls hl
  have hl : lv_has ls 5 [(0, .ref o), (1, .int a1)] := hl
  unfold wp_X11_cutOrDrop at hw
  refine lv_aload_n X.1 X.2.1 dX11_cutOrDrop_0 rfl (lv_at hl 0 rfl) ?_
  refine lv_aload_n X.1 X.2.1 dX11_cutOrDrop_1 rfl (lv_at hl 0 rfl) ?_
  refine mm_geta X M 13 (by decide) rfl (by decide) kw_978 dX11_cutOrDrop_2 ?_
  refine lv_iload_n X.1 X.2.1 dX11_cutOrDrop_5 rfl (lv_at hl 1 rfl) ?_
  obtain ⟨hi, hw⟩ := hw
  refine mm_ald X M 13 rfl dX11_cutOrDrop_6 hi ?_
  refine mx_cl M (mx_runV (n := 1) (As := [.int (ma σ 13 (Int32.toNatClampNeg a1))]) (rest := []) X M (c_X11_get l T B μ0 o A σ (ma σ 13 (Int32.toNatClampNeg a1)) _ hw) (mm_recv X M) kw_1230 kw_1232 kw_44 kw_74 kw_1233 (by decide +kernel) rfl rfl ⟨Nat.le_of_ble_eq_true rfl, Nat.le_of_ble_eq_true rfl⟩ rfl hl.1 (Nat.le_of_ble_eq_true rfl) dX11_cutOrDrop_7 ⟨by decide, by decide⟩) (fun r2 σ1 H locs hw M => ?_)
  refine lv_lstore_n (lv' := [(2, .long r2), (0, .ref o), (1, .int a1)]) X.1 X.2.1 dX11_cutOrDrop_10 rfl hl (by decide) rfl (fun ls hl => ?_)
  refine lv_lload_n X.1 X.2.1 dX11_cutOrDrop_11 rfl (lv_at hl 0 rfl) ?_
  refine mx_ci M (mx_runS (n := 1) (As := [.long r2]) (rest := []) X M (c_X11_isCell l T B μ0 o A σ1 r2 _ hw) kw_1243 kw_1244 kw_74 kw_1245 (by decide +kernel) rfl rfl ⟨Nat.le_of_ble_eq_true rfl, Nat.le_of_ble_eq_true rfl⟩ rfl hl.1 (Nat.le_of_ble_eq_true rfl) dX11_cutOrDrop_12 ⟨by decide, by decide⟩) (fun r4 σ3 H locs hw M => ?_)
  obtain ⟨hwt, hwf⟩ := hw
  refine lv_if_eq (tgt := 25) X.1 X.2.1 dX11_cutOrDrop_15 (by decide) (fun hq => ?_) (fun hq => ?_)
  · have hw := hwt hq
    refine lv_aload_n X.1 X.2.1 dX11_cutOrDrop_25 rfl (lv_at hl 1 rfl) ?_
    refine mm_geta X M 30 (by decide) rfl (by decide) kw_995 dX11_cutOrDrop_26 ?_
    refine lv_aload_n X.1 X.2.1 dX11_cutOrDrop_29 rfl (lv_at hl 1 rfl) ?_
    refine mm_geti X M 45 (by decide) rfl kw_1010 dX11_cutOrDrop_30 ?_
    refine lv_dup2_11 X.1 X.2.1 dX11_cutOrDrop_33 rfl rfl ?_
    obtain ⟨hi, hw⟩ := hw
    refine mm_ald X M 30 rfl dX11_cutOrDrop_34 hi ?_
    refine lv_iconst (v := 1) X.1 X.2.1 dX11_cutOrDrop_35 (by decide) ?_
    refine lv_iadd X.1 X.2.1 dX11_cutOrDrop_36 ?_
    obtain ⟨hi, hw⟩ := hw
    refine mm_ast X M 30 rfl dX11_cutOrDrop_37 hi (fun σ5 H locs eσ5 M => ?_)
    replace hw := hw σ5 eσ5
    refine lv_aload_n X.1 X.2.1 dX11_cutOrDrop_38 rfl (lv_at hl 1 rfl) ?_
    refine mm_geta X M 12 (by decide) rfl (by decide) kw_977 dX11_cutOrDrop_39 ?_
    refine lv_iload_n X.1 X.2.1 dX11_cutOrDrop_42 rfl (lv_at hl 2 rfl) ?_
    obtain ⟨hi, hw⟩ := hw
    refine mm_ald X M 12 rfl dX11_cutOrDrop_43 hi ?_
    refine lv_bipush (v := 12) X.1 X.2.1 dX11_cutOrDrop_44 (by decide) ?_
    obtain ⟨hwf, hwt⟩ := hw
    refine lv_icmp_ne (tgt := 58) X.1 X.2.1 dX11_cutOrDrop_46 (by decide) (fun hq => ?_) (fun hq => ?_)
    · have hw := hwt hq
      refine lv_lload_n X.1 X.2.1 dX11_cutOrDrop_58 rfl (lv_at hl 0 rfl) ?_
      refine lv_lconst (v := 0) X.1 X.2.1 dX11_cutOrDrop_59 (by decide) ?_
      refine W.lcmp X.1 X.2.1 dX11_cutOrDrop_60 ?_
      obtain ⟨hwt, hwf⟩ := hw
      refine lv_if_ge (tgt := 68) X.1 X.2.1 dX11_cutOrDrop_61 (by decide) (fun hq => ?_) (fun hq => ?_)
      · have hw := hwt hq
        refine lv_aload_n X.1 X.2.1 dX11_cutOrDrop_68 rfl (lv_at hl 1 rfl) ?_
        refine lv_lload_n X.1 X.2.1 dX11_cutOrDrop_69 rfl (lv_at hl 0 rfl) ?_
        refine lv_l2i X.1 X.2.1 dX11_cutOrDrop_70 rfl ?_
        refine mx_ci M (mx_runV (n := 1) (As := [.int (Int64.toInt32 r2)]) (rest := []) X M (c_X11_redoAt l T B μ0 o A σ5 (Int64.toInt32 r2) _ hw) (mm_recv X M) kw_1285 kw_1287 kw_56 kw_74 kw_1288 (by decide +kernel) rfl rfl ⟨Nat.le_of_ble_eq_true rfl, Nat.le_of_ble_eq_true rfl⟩ rfl hl.1 (Nat.le_of_ble_eq_true rfl) dX11_cutOrDrop_71 ⟨by decide, by decide⟩) (fun r7 σ6 H locs hw M => ?_)
        refine lv_istore (lv' := [(4, .int r7), (2, .long r2), (0, .ref o), (1, .int a1)]) X.1 X.2.1 dX11_cutOrDrop_74 hl (by decide) rfl (fun ls hl => ?_)
        refine lv_iload X.1 X.2.1 dX11_cutOrDrop_76 (lv_at hl 0 rfl) ?_
        refine lv_iconst (v := (-1)) X.1 X.2.1 dX11_cutOrDrop_78 (by decide) ?_
        obtain ⟨hwt, hwf⟩ := hw
        refine lv_icmp_eq (tgt := 90) X.1 X.2.1 dX11_cutOrDrop_79 (by decide) (fun hq => ?_) (fun hq => ?_)
        · have hw := hwt hq
          exact mx_vret X hr hk M dX11_cutOrDrop_90 (by decide) (by decide) hw
        · have hw := hwf hq
          refine lv_aload_n X.1 X.2.1 dX11_cutOrDrop_82 rfl (lv_at hl 2 rfl) ?_
          refine mm_geta X M 34 (by decide) rfl (by decide) kw_999 dX11_cutOrDrop_83 ?_
          refine lv_iload X.1 X.2.1 dX11_cutOrDrop_86 (lv_at hl 0 rfl) ?_
          refine lv_iconst (v := 1) X.1 X.2.1 dX11_cutOrDrop_88 (by decide) ?_
          obtain ⟨hi, hw⟩ := hw
          refine mm_zst X M 34 rfl dX11_cutOrDrop_89 hi (fun σ8 H locs eσ8 M => ?_)
          replace hw := hw σ8 eσ8
          exact mx_vret X hr hk M dX11_cutOrDrop_90 (by decide) (by decide) hw
      · have hw := hwf hq
        refine lv_iconst (v := (-1)) X.1 X.2.1 dX11_cutOrDrop_64 (by decide) ?_
        refine lv_goto (tgt := 74) X.1 X.2.1 dX11_cutOrDrop_65 (by decide) ?_
        refine lv_istore (lv' := [(4, .int (-1)), (2, .long r2), (0, .ref o), (1, .int a1)]) X.1 X.2.1 dX11_cutOrDrop_74 hl (by decide) rfl (fun ls hl => ?_)
        refine lv_iload X.1 X.2.1 dX11_cutOrDrop_76 (lv_at hl 0 rfl) ?_
        refine lv_iconst (v := (-1)) X.1 X.2.1 dX11_cutOrDrop_78 (by decide) ?_
        obtain ⟨hwt, hwf⟩ := hw
        refine lv_icmp_eq (tgt := 90) X.1 X.2.1 dX11_cutOrDrop_79 (by decide) (fun hq => ?_) (fun hq => ?_)
        · have hw := hwt hq
          exact mx_vret X hr hk M dX11_cutOrDrop_90 (by decide) (by decide) hw
        · have hw := hwf hq
          refine lv_aload_n X.1 X.2.1 dX11_cutOrDrop_82 rfl (lv_at hl 2 rfl) ?_
          refine mm_geta X M 34 (by decide) rfl (by decide) kw_999 dX11_cutOrDrop_83 ?_
          refine lv_iload X.1 X.2.1 dX11_cutOrDrop_86 (lv_at hl 0 rfl) ?_
          refine lv_iconst (v := 1) X.1 X.2.1 dX11_cutOrDrop_88 (by decide) ?_
          obtain ⟨hi, hw⟩ := hw
          refine mm_zst X M 34 rfl dX11_cutOrDrop_89 hi (fun σ9 H locs eσ9 M => ?_)
          replace hw := hw σ9 eσ9
          exact mx_vret X hr hk M dX11_cutOrDrop_90 (by decide) (by decide) hw
    · have hw := hwf hq
      refine lv_aload_n X.1 X.2.1 dX11_cutOrDrop_49 rfl (lv_at hl 1 rfl) ?_
      refine lv_lload_n X.1 X.2.1 dX11_cutOrDrop_50 rfl (lv_at hl 0 rfl) ?_
      refine lv_l2i X.1 X.2.1 dX11_cutOrDrop_51 rfl ?_
      refine mx_cv M (mx_runV (n := 1) (As := [.int (Int64.toInt32 r2)]) (rest := []) X M (c_X11_cut l T B μ0 o A σ5 (Int64.toInt32 r2) _ hw) (mm_recv X M) kw_1281 kw_1283 kw_55 kw_74 kw_1284 (by decide +kernel) rfl rfl ⟨Nat.le_of_ble_eq_true rfl, Nat.le_of_ble_eq_true rfl⟩ rfl hl.1 (Nat.le_of_ble_eq_true rfl) dX11_cutOrDrop_52 ⟨by decide, by decide⟩) (fun σ10 H locs hw M => ?_)
      refine lv_goto (tgt := 90) X.1 X.2.1 dX11_cutOrDrop_55 (by decide) ?_
      exact mx_vret X hr hk M dX11_cutOrDrop_90 (by decide) (by decide) hw
  · have hw := hwf hq
    refine lv_aload_n X.1 X.2.1 dX11_cutOrDrop_18 rfl (lv_at hl 1 rfl) ?_
    refine lv_bipush (v := 6) X.1 X.2.1 dX11_cutOrDrop_19 (by decide) ?_
    refine mm_puti X M 44 (by decide) rfl kw_1009 rfl dX11_cutOrDrop_21 rfl rfl (fun σ11 H locs eσ11 M => ?_)
    replace hw := hw σ11 eσ11
    exact mx_vret X hr hk M dX11_cutOrDrop_24 (by decide) (by decide) hw

abbrev rm_X11_step : Room := { frames := 5, cells := 0, slots := 0, locals := 113 }
def wp_X11_step (σ : MSt) (post : MSt → Prop) : Prop :=
  ∀ σ1 : MSt, σ1 = smi σ 46 ((mi σ 46) + 1) →
  vp_in (mi σ1 45) 7000 ∧
  ∀ v2 : Int32, v2 = (ma σ1 30 (Int32.toNatClampNeg (mi σ1 45))) →
  vp_in (mi σ1 45) 7000 ∧
  ∀ v3 : Int32, v3 = (ma σ1 28 (Int32.toNatClampNeg (mi σ1 45))) →
  vp_in v3 60 ∧
  (v2 < (ma σ1 9 (Int32.toNatClampNeg v3)) →
   vp_in (((2000 : Int32) * v3) + v2) 120000 ∧
   ∀ v4 : Int32, v4 = (ma σ1 10 (Int32.toNatClampNeg (((2000 : Int32) * v3) + v2))) →
   vp_in v4 2000 ∧
   ((ma σ1 12 (Int32.toNatClampNeg v4)) = 0 →
    vp_in v4 2000 ∧
    vp_in v4 2000 ∧
    wp_X11_set σ1 (ma σ1 13 (Int32.toNatClampNeg v4)) (Int32.toInt64 (ma σ1 14 (Int32.toNatClampNeg v4))) (fun (σ5 : MSt) =>
    vp_in (mi σ5 45) 7000 ∧
    vp_in (mi σ5 45) 7000 ∧ ∀ σ6 : MSt, σ6 = sma σ5 30 (Int32.toNatClampNeg (mi σ5 45)) ((ma σ5 30 (Int32.toNatClampNeg (mi σ5 45))) + 1) →
    post σ6)) ∧
   ((ma σ1 12 (Int32.toNatClampNeg v4)) = 1 →
    vp_in v4 2000 ∧
    vp_in v4 2000 ∧
    wp_X11_get σ1 (ma σ1 14 (Int32.toNatClampNeg v4)) (fun (r8 : Int64) (σ7 : MSt) =>
    wp_X11_set σ7 (ma σ1 13 (Int32.toNatClampNeg v4)) r8 (fun (σ9 : MSt) =>
    vp_in (mi σ9 45) 7000 ∧
    vp_in (mi σ9 45) 7000 ∧ ∀ σ10 : MSt, σ10 = sma σ9 30 (Int32.toNatClampNeg (mi σ9 45)) ((ma σ9 30 (Int32.toNatClampNeg (mi σ9 45))) + 1) →
    post σ10))) ∧
   ((ma σ1 12 (Int32.toNatClampNeg v4)) = 2 →
    wp_X11_makeCell σ1 v4 (fun (σ11 : MSt) =>
    ((mi σ11 44) = 0 →
     vp_in (mi σ11 45) 7000 ∧
     vp_in (mi σ11 45) 7000 ∧ ∀ σ12 : MSt, σ12 = sma σ11 30 (Int32.toNatClampNeg (mi σ11 45)) ((ma σ11 30 (Int32.toNatClampNeg (mi σ11 45))) + 1) →
     post σ12) ∧ (¬ (mi σ11 44) = 0 →
     post σ11))) ∧
   ((ma σ1 12 (Int32.toNatClampNeg v4)) = 3 →
    vp_in v4 2000 ∧
    wp_X11_get σ1 (ma σ1 13 (Int32.toNatClampNeg v4)) (fun (r14 : Int64) (σ13 : MSt) =>
    vp_in v4 2000 ∧
    vp_in v4 2000 ∧
    wp_X11_has σ13 r14 (ma σ13 14 (Int32.toNatClampNeg v4)) (ma σ13 17 (Int32.toNatClampNeg v4)) (fun (r16 : Int32) (σ15 : MSt) =>
    (r16 = 0 →
     wp_X11_fail σ15 (fun (σ19 : MSt) =>
     post σ19)) ∧ (¬ r16 = 0 →
     wp_X11_takeCell σ15 v4 (fun (σ17 : MSt) =>
     vp_in (mi σ17 45) 7000 ∧
     vp_in (mi σ17 45) 7000 ∧ ∀ σ18 : MSt, σ18 = sma σ17 30 (Int32.toNatClampNeg (mi σ17 45)) ((ma σ17 30 (Int32.toNatClampNeg (mi σ17 45))) + 1) →
     post σ18))))) ∧
   ((ma σ1 12 (Int32.toNatClampNeg v4)) = 4 →
    wp_X11_same σ1 v4 (fun (σ20 : MSt) =>
    post σ20)) ∧
   ((ma σ1 12 (Int32.toNatClampNeg v4)) = 5 →
    wp_X11_summed σ1 v4 (fun (σ21 : MSt) =>
    post σ21)) ∧
   ((ma σ1 12 (Int32.toNatClampNeg v4)) = 6 →
    wp_X11_compared σ1 v4 (fun (σ22 : MSt) =>
    post σ22)) ∧
   ((ma σ1 12 (Int32.toNatClampNeg v4)) = 7 →
    vp_in v4 2000 ∧
    vp_in (mi σ1 45) 7000 ∧ ∀ σ23 : MSt, σ23 = sma σ1 30 (Int32.toNatClampNeg (mi σ1 45)) (ma σ1 13 (Int32.toNatClampNeg v4)) →
    post σ23) ∧
   ((ma σ1 12 (Int32.toNatClampNeg v4)) = 8 →
    vp_in v4 2000 ∧
    wp_X11_get σ1 (ma σ1 13 (Int32.toNatClampNeg v4)) (fun (r25 : Int64) (σ24 : MSt) =>
    vp_in v4 2000 ∧
    wp_X11_has σ24 r25 (ma σ24 14 (Int32.toNatClampNeg v4)) (-1) (fun (r27 : Int32) (σ26 : MSt) =>
    (r27 = 0 →
     vp_in v4 2000 ∧
     vp_in (mi σ1 45) 7000 ∧ ∀ σ28 : MSt, σ28 = sma σ26 30 (Int32.toNatClampNeg (mi σ1 45)) (ma σ26 15 (Int32.toNatClampNeg v4)) →
     post σ28) ∧ (¬ r27 = 0 →
     vp_in (mi σ1 45) 7000 ∧ ∀ σ29 : MSt, σ29 = sma σ26 30 (Int32.toNatClampNeg (mi σ1 45)) (v2 + 1) →
     post σ29)))) ∧
   ((ma σ1 12 (Int32.toNatClampNeg v4)) = 9 →
    wp_X11_tryLater σ1 v4 (fun (σ30 : MSt) =>
    post σ30)) ∧
   ((ma σ1 12 (Int32.toNatClampNeg v4)) = 10 →
    wp_X11_call σ1 v4 (fun (σ31 : MSt) =>
    post σ31)) ∧
   ((ma σ1 12 (Int32.toNatClampNeg v4)) = 11 →
    vp_in v4 2000 ∧
    wp_X11_redos σ1 (fun (r33 : Int32) (σ32 : MSt) =>
    wp_X11_set σ32 (ma σ1 13 (Int32.toNatClampNeg v4)) (Int32.toInt64 r33) (fun (σ34 : MSt) =>
    vp_in (mi σ34 45) 7000 ∧
    vp_in (mi σ34 45) 7000 ∧ ∀ σ35 : MSt, σ35 = sma σ34 30 (Int32.toNatClampNeg (mi σ34 45)) ((ma σ34 30 (Int32.toNatClampNeg (mi σ34 45))) + 1) →
    post σ35))) ∧
   ((ma σ1 12 (Int32.toNatClampNeg v4)) = 12 →
    wp_X11_cutOrDrop σ1 v4 (fun (σ36 : MSt) =>
    post σ36)) ∧
   ((ma σ1 12 (Int32.toNatClampNeg v4)) = 13 →
    wp_X11_cutOrDrop σ1 v4 (fun (σ37 : MSt) =>
    post σ37)) ∧
   ((ma σ1 12 (Int32.toNatClampNeg v4)) = 14 →
    wp_X11_exit σ1 (fun (σ38 : MSt) =>
    post σ38)) ∧
   (¬ (ma σ1 12 (Int32.toNatClampNeg v4)) = 0 → ¬ (ma σ1 12 (Int32.toNatClampNeg v4)) = 1 → ¬ (ma σ1 12 (Int32.toNatClampNeg v4)) = 2 → ¬ (ma σ1 12 (Int32.toNatClampNeg v4)) = 3 → ¬ (ma σ1 12 (Int32.toNatClampNeg v4)) = 4 → ¬ (ma σ1 12 (Int32.toNatClampNeg v4)) = 5 → ¬ (ma σ1 12 (Int32.toNatClampNeg v4)) = 6 → ¬ (ma σ1 12 (Int32.toNatClampNeg v4)) = 7 → ¬ (ma σ1 12 (Int32.toNatClampNeg v4)) = 8 → ¬ (ma σ1 12 (Int32.toNatClampNeg v4)) = 9 → ¬ (ma σ1 12 (Int32.toNatClampNeg v4)) = 10 → ¬ (ma σ1 12 (Int32.toNatClampNeg v4)) = 11 → ¬ (ma σ1 12 (Int32.toNatClampNeg v4)) = 12 → ¬ (ma σ1 12 (Int32.toNatClampNeg v4)) = 13 → ¬ (ma σ1 12 (Int32.toNatClampNeg v4)) = 14 → 
    wp_X11_fail σ1 (fun (σ39 : MSt) =>
    post σ39))) ∧ (¬ v2 < (ma σ1 9 (Int32.toNatClampNeg v3)) →
   wp_X11_fail σ1 (fun (σ40 : MSt) =>
   post σ40))
set_option maxRecDepth 100000 in
set_option maxHeartbeats 4000000 in
theorem c_X11_step (l : Launch) (T : Tb) (B : Nat) (μ0 : Mem) (o : Nat) (A : Nat → Nat) (σ : MSt) (post : MSt → Prop) (hw : wp_X11_step σ  post) : Met l yX11_step (.code yX11_step cX11_step 4 none :: G) rm_X11_step (Pm (WM T B μ0 o A) T B σ [.ref o]) (va_Qv post (Bm (WM T B μ0 o A)) (Ai B)) 0 0 (Ai B) := by
  refine mx_of RX11 rfl (by decide) (Nat.le_of_ble_eq_true rfl) ?_
  intro p e s m below meth c0 X hr hk hnm M ls hl
  have hl : lv_has ls 4 [(0, .ref o)] := hl
  unfold wp_X11_step at hw
  refine lv_aload_n X.1 X.2.1 dX11_step_0 rfl (lv_at hl 0 rfl) ?_
  refine lv_dup X.1 X.2.1 dX11_step_1 rfl ?_
  refine mm_geti X M 46 (by decide) rfl kw_1011 dX11_step_2 ?_
  refine lv_iconst (v := 1) X.1 X.2.1 dX11_step_5 (by decide) ?_
  refine lv_iadd X.1 X.2.1 dX11_step_6 ?_
  refine mm_puti X M 46 (by decide) rfl kw_1011 rfl dX11_step_7 rfl rfl (fun σ1 H locs eσ1 M => ?_)
  replace hw := hw σ1 eσ1
  refine lv_aload_n X.1 X.2.1 dX11_step_10 rfl (lv_at hl 0 rfl) ?_
  refine mm_geta X M 30 (by decide) rfl (by decide) kw_995 dX11_step_11 ?_
  refine lv_aload_n X.1 X.2.1 dX11_step_14 rfl (lv_at hl 0 rfl) ?_
  refine mm_geti X M 45 (by decide) rfl kw_1010 dX11_step_15 ?_
  obtain ⟨hi, hw⟩ := hw
  refine mm_ald X M 30 rfl dX11_step_18 hi ?_
  refine lv_topi (fun v2 ev2 => ?_)
  replace hw := hw v2 ev2
  refine lv_istore_n (lv' := [(1, .int v2), (0, .ref o)]) X.1 X.2.1 dX11_step_19 rfl hl (by decide) rfl (fun ls hl => ?_)
  refine lv_aload_n X.1 X.2.1 dX11_step_20 rfl (lv_at hl 1 rfl) ?_
  refine mm_geta X M 28 (by decide) rfl (by decide) kw_993 dX11_step_21 ?_
  refine lv_aload_n X.1 X.2.1 dX11_step_24 rfl (lv_at hl 1 rfl) ?_
  refine mm_geti X M 45 (by decide) rfl kw_1010 dX11_step_25 ?_
  obtain ⟨hi, hw⟩ := hw
  refine mm_ald X M 28 rfl dX11_step_28 hi ?_
  refine lv_topi (fun v3 ev3 => ?_)
  replace hw := hw v3 ev3
  refine lv_istore_n (lv' := [(2, .int v3), (1, .int v2), (0, .ref o)]) X.1 X.2.1 dX11_step_29 rfl hl (by decide) rfl (fun ls hl => ?_)
  refine lv_iload_n X.1 X.2.1 dX11_step_30 rfl (lv_at hl 1 rfl) ?_
  refine lv_aload_n X.1 X.2.1 dX11_step_31 rfl (lv_at hl 2 rfl) ?_
  refine mm_geta X M 9 (by decide) rfl (by decide) kw_974 dX11_step_32 ?_
  refine lv_iload_n X.1 X.2.1 dX11_step_35 rfl (lv_at hl 0 rfl) ?_
  obtain ⟨hi, hw⟩ := hw
  refine mm_ald X M 9 rfl dX11_step_36 hi ?_
  obtain ⟨hwt, hwf⟩ := hw
  refine lv_icmp_lt (tgt := 45) X.1 X.2.1 dX11_step_37 (by decide) (fun hq => ?_) (fun hq => ?_)
  · have hw := hwt hq
    refine lv_aload_n X.1 X.2.1 dX11_step_45 rfl (lv_at hl 2 rfl) ?_
    refine mm_geta X M 10 (by decide) rfl (by decide) kw_975 dX11_step_46 ?_
    refine lv_sipush (v := 2000) X.1 X.2.1 dX11_step_49 (by decide) ?_
    refine lv_iload_n X.1 X.2.1 dX11_step_52 rfl (lv_at hl 0 rfl) ?_
    refine lv_imul X.1 X.2.1 dX11_step_53 ?_
    refine lv_iload_n X.1 X.2.1 dX11_step_54 rfl (lv_at hl 1 rfl) ?_
    refine lv_iadd X.1 X.2.1 dX11_step_55 ?_
    obtain ⟨hi, hw⟩ := hw
    refine mm_ald X M 10 rfl dX11_step_56 hi ?_
    refine lv_topi (fun v4 ev4 => ?_)
    replace hw := hw v4 ev4
    refine lv_istore_n (lv' := [(3, .int v4), (2, .int v3), (1, .int v2), (0, .ref o)]) X.1 X.2.1 dX11_step_57 rfl hl (by decide) rfl (fun ls hl => ?_)
    refine lv_aload_n X.1 X.2.1 dX11_step_58 rfl (lv_at hl 3 rfl) ?_
    refine mm_geta X M 12 (by decide) rfl (by decide) kw_977 dX11_step_59 ?_
    refine lv_iload_n X.1 X.2.1 dX11_step_62 rfl (lv_at hl 0 rfl) ?_
    obtain ⟨hi, hw⟩ := hw
    refine mm_ald X M 12 rfl dX11_step_63 hi ?_
    obtain ⟨hw_0, hw_1, hw_2, hw_3, hw_4, hw_5, hw_6, hw_7, hw_8, hw_9, hw_10, hw_11, hw_12, hw_13, hw_14, hw_d⟩ := hw
    by_cases q_0 : (ma σ1 12 (Int32.toNatClampNeg v4)) = 0
    · have hw := hw_0 q_0
      refine lv_tableIn (off := 76) (tgt := 140) X.1 X.2.1 dX11_step_64 (by rw [q_0]; decide) (by rw [q_0]; decide) (by rw [q_0]; rfl) (by decide) ?_
      refine lv_aload_n X.1 X.2.1 dX11_step_140 rfl (lv_at hl 3 rfl) ?_
      refine lv_aload_n X.1 X.2.1 dX11_step_141 rfl (lv_at hl 3 rfl) ?_
      refine mm_geta X M 13 (by decide) rfl (by decide) kw_978 dX11_step_142 ?_
      refine lv_iload_n X.1 X.2.1 dX11_step_145 rfl (lv_at hl 0 rfl) ?_
      obtain ⟨hi, hw⟩ := hw
      refine mm_ald X M 13 rfl dX11_step_146 hi ?_
      refine lv_aload_n X.1 X.2.1 dX11_step_147 rfl (lv_at hl 3 rfl) ?_
      refine mm_geta X M 14 (by decide) rfl (by decide) kw_979 dX11_step_148 ?_
      refine lv_iload_n X.1 X.2.1 dX11_step_151 rfl (lv_at hl 0 rfl) ?_
      obtain ⟨hi, hw⟩ := hw
      refine mm_ald X M 14 rfl dX11_step_152 hi ?_
      refine lv_i2l X.1 X.2.1 dX11_step_153 rfl ?_
      refine mx_cv M (mx_runV (n := 2) (As := [.int (ma σ1 13 (Int32.toNatClampNeg v4)), .long (Int32.toInt64 (ma σ1 14 (Int32.toNatClampNeg v4)))]) (rest := []) X M (c_X11_set l T B μ0 o A σ1 (ma σ1 13 (Int32.toNatClampNeg v4)) (Int32.toInt64 (ma σ1 14 (Int32.toNatClampNeg v4))) _ hw) (mm_recv X M) kw_1222 kw_1224 kw_42 kw_74 kw_1225 (by decide +kernel) rfl rfl ⟨Nat.le_of_ble_eq_true rfl, Nat.le_of_ble_eq_true rfl⟩ rfl hl.1 (Nat.le_of_ble_eq_true rfl) dX11_step_154 ⟨by decide, by decide⟩) (fun σ5 H locs hw M => ?_)
      refine lv_goto (tgt := 364) X.1 X.2.1 dX11_step_157 (by decide) ?_
      refine lv_aload_n X.1 X.2.1 dX11_step_364 rfl (lv_at hl 3 rfl) ?_
      refine mm_geta X M 30 (by decide) rfl (by decide) kw_995 dX11_step_365 ?_
      refine lv_aload_n X.1 X.2.1 dX11_step_368 rfl (lv_at hl 3 rfl) ?_
      refine mm_geti X M 45 (by decide) rfl kw_1010 dX11_step_369 ?_
      refine lv_dup2_11 X.1 X.2.1 dX11_step_372 rfl rfl ?_
      obtain ⟨hi, hw⟩ := hw
      refine mm_ald X M 30 rfl dX11_step_373 hi ?_
      refine lv_iconst (v := 1) X.1 X.2.1 dX11_step_374 (by decide) ?_
      refine lv_iadd X.1 X.2.1 dX11_step_375 ?_
      obtain ⟨hi, hw⟩ := hw
      refine mm_ast X M 30 rfl dX11_step_376 hi (fun σ6 H locs eσ6 M => ?_)
      replace hw := hw σ6 eσ6
      exact mx_vret X hr hk M dX11_step_377 (by decide) (by decide) hw
    by_cases q_1 : (ma σ1 12 (Int32.toNatClampNeg v4)) = 1
    · have hw := hw_1 q_1
      refine lv_tableIn (off := 96) (tgt := 160) X.1 X.2.1 dX11_step_64 (by rw [q_1]; decide) (by rw [q_1]; decide) (by rw [q_1]; rfl) (by decide) ?_
      refine lv_aload_n X.1 X.2.1 dX11_step_160 rfl (lv_at hl 3 rfl) ?_
      refine lv_aload_n X.1 X.2.1 dX11_step_161 rfl (lv_at hl 3 rfl) ?_
      refine mm_geta X M 13 (by decide) rfl (by decide) kw_978 dX11_step_162 ?_
      refine lv_iload_n X.1 X.2.1 dX11_step_165 rfl (lv_at hl 0 rfl) ?_
      obtain ⟨hi, hw⟩ := hw
      refine mm_ald X M 13 rfl dX11_step_166 hi ?_
      refine lv_aload_n X.1 X.2.1 dX11_step_167 rfl (lv_at hl 3 rfl) ?_
      refine lv_aload_n X.1 X.2.1 dX11_step_168 rfl (lv_at hl 3 rfl) ?_
      refine mm_geta X M 14 (by decide) rfl (by decide) kw_979 dX11_step_169 ?_
      refine lv_iload_n X.1 X.2.1 dX11_step_172 rfl (lv_at hl 0 rfl) ?_
      obtain ⟨hi, hw⟩ := hw
      refine mm_ald X M 14 rfl dX11_step_173 hi ?_
      refine mx_cl M (mx_runV (n := 1) (As := [.int (ma σ1 14 (Int32.toNatClampNeg v4))]) (rest := [.int (ma σ1 13 (Int32.toNatClampNeg v4)), .ref o]) X M (c_X11_get l T B μ0 o A σ1 (ma σ1 14 (Int32.toNatClampNeg v4)) _ hw) (mm_recv X M) kw_1230 kw_1232 kw_44 kw_74 kw_1233 (by decide +kernel) rfl rfl ⟨Nat.le_of_ble_eq_true rfl, Nat.le_of_ble_eq_true rfl⟩ rfl hl.1 (Nat.le_of_ble_eq_true rfl) dX11_step_174 ⟨by decide, by decide⟩) (fun r8 σ7 H locs hw M => ?_)
      refine mx_cv M (mx_runV (n := 2) (As := [.int (ma σ1 13 (Int32.toNatClampNeg v4)), .long r8]) (rest := []) X M (c_X11_set l T B μ0 o A σ7 (ma σ1 13 (Int32.toNatClampNeg v4)) r8 _ hw) (mm_recv X M) kw_1222 kw_1224 kw_42 kw_74 kw_1225 (by decide +kernel) rfl rfl ⟨Nat.le_of_ble_eq_true rfl, Nat.le_of_ble_eq_true rfl⟩ rfl hl.1 (Nat.le_of_ble_eq_true rfl) dX11_step_177 ⟨by decide, by decide⟩) (fun σ9 H locs hw M => ?_)
      refine lv_goto (tgt := 364) X.1 X.2.1 dX11_step_180 (by decide) ?_
      refine lv_aload_n X.1 X.2.1 dX11_step_364 rfl (lv_at hl 3 rfl) ?_
      refine mm_geta X M 30 (by decide) rfl (by decide) kw_995 dX11_step_365 ?_
      refine lv_aload_n X.1 X.2.1 dX11_step_368 rfl (lv_at hl 3 rfl) ?_
      refine mm_geti X M 45 (by decide) rfl kw_1010 dX11_step_369 ?_
      refine lv_dup2_11 X.1 X.2.1 dX11_step_372 rfl rfl ?_
      obtain ⟨hi, hw⟩ := hw
      refine mm_ald X M 30 rfl dX11_step_373 hi ?_
      refine lv_iconst (v := 1) X.1 X.2.1 dX11_step_374 (by decide) ?_
      refine lv_iadd X.1 X.2.1 dX11_step_375 ?_
      obtain ⟨hi, hw⟩ := hw
      refine mm_ast X M 30 rfl dX11_step_376 hi (fun σ10 H locs eσ10 M => ?_)
      replace hw := hw σ10 eσ10
      exact mx_vret X hr hk M dX11_step_377 (by decide) (by decide) hw
    by_cases q_2 : (ma σ1 12 (Int32.toNatClampNeg v4)) = 2
    · have hw := hw_2 q_2
      refine lv_tableIn (off := 119) (tgt := 183) X.1 X.2.1 dX11_step_64 (by rw [q_2]; decide) (by rw [q_2]; decide) (by rw [q_2]; rfl) (by decide) ?_
      refine lv_aload_n X.1 X.2.1 dX11_step_183 rfl (lv_at hl 3 rfl) ?_
      refine lv_iload_n X.1 X.2.1 dX11_step_184 rfl (lv_at hl 0 rfl) ?_
      refine mx_cv M (mx_runV (n := 1) (As := [.int v4]) (rest := []) X M (c_X11_makeCell l T B μ0 o A σ1 v4 _ hw) (mm_recv X M) kw_1234 kw_1236 kw_45 kw_74 kw_1237 (by decide +kernel) rfl rfl ⟨Nat.le_of_ble_eq_true rfl, Nat.le_of_ble_eq_true rfl⟩ rfl hl.1 (Nat.le_of_ble_eq_true rfl) dX11_step_185 ⟨by decide, by decide⟩) (fun σ11 H locs hw M => ?_)
      refine lv_aload_n X.1 X.2.1 dX11_step_188 rfl (lv_at hl 3 rfl) ?_
      refine mm_geti X M 44 (by decide) rfl kw_1009 dX11_step_189 ?_
      obtain ⟨hwt, hwf⟩ := hw
      refine lv_if_eq (tgt := 364) X.1 X.2.1 dX11_step_192 (by decide) (fun hq => ?_) (fun hq => ?_)
      · have hw := hwt hq
        refine lv_aload_n X.1 X.2.1 dX11_step_364 rfl (lv_at hl 3 rfl) ?_
        refine mm_geta X M 30 (by decide) rfl (by decide) kw_995 dX11_step_365 ?_
        refine lv_aload_n X.1 X.2.1 dX11_step_368 rfl (lv_at hl 3 rfl) ?_
        refine mm_geti X M 45 (by decide) rfl kw_1010 dX11_step_369 ?_
        refine lv_dup2_11 X.1 X.2.1 dX11_step_372 rfl rfl ?_
        obtain ⟨hi, hw⟩ := hw
        refine mm_ald X M 30 rfl dX11_step_373 hi ?_
        refine lv_iconst (v := 1) X.1 X.2.1 dX11_step_374 (by decide) ?_
        refine lv_iadd X.1 X.2.1 dX11_step_375 ?_
        obtain ⟨hi, hw⟩ := hw
        refine mm_ast X M 30 rfl dX11_step_376 hi (fun σ12 H locs eσ12 M => ?_)
        replace hw := hw σ12 eσ12
        exact mx_vret X hr hk M dX11_step_377 (by decide) (by decide) hw
      · have hw := hwf hq
        exact mx_vret X hr hk M dX11_step_195 (by decide) (by decide) hw
    by_cases q_3 : (ma σ1 12 (Int32.toNatClampNeg v4)) = 3
    · have hw := hw_3 q_3
      refine lv_tableIn (off := 132) (tgt := 196) X.1 X.2.1 dX11_step_64 (by rw [q_3]; decide) (by rw [q_3]; decide) (by rw [q_3]; rfl) (by decide) ?_
      refine lv_aload_n X.1 X.2.1 dX11_step_196 rfl (lv_at hl 3 rfl) ?_
      refine lv_aload_n X.1 X.2.1 dX11_step_197 rfl (lv_at hl 3 rfl) ?_
      refine lv_aload_n X.1 X.2.1 dX11_step_198 rfl (lv_at hl 3 rfl) ?_
      refine mm_geta X M 13 (by decide) rfl (by decide) kw_978 dX11_step_199 ?_
      refine lv_iload_n X.1 X.2.1 dX11_step_202 rfl (lv_at hl 0 rfl) ?_
      obtain ⟨hi, hw⟩ := hw
      refine mm_ald X M 13 rfl dX11_step_203 hi ?_
      refine mx_cl M (mx_runV (n := 1) (As := [.int (ma σ1 13 (Int32.toNatClampNeg v4))]) (rest := [.ref o]) X M (c_X11_get l T B μ0 o A σ1 (ma σ1 13 (Int32.toNatClampNeg v4)) _ hw) (mm_recv X M) kw_1230 kw_1232 kw_44 kw_74 kw_1233 (by decide +kernel) rfl rfl ⟨Nat.le_of_ble_eq_true rfl, Nat.le_of_ble_eq_true rfl⟩ rfl hl.1 (Nat.le_of_ble_eq_true rfl) dX11_step_204 ⟨by decide, by decide⟩) (fun r14 σ13 H locs hw M => ?_)
      refine lv_aload_n X.1 X.2.1 dX11_step_207 rfl (lv_at hl 3 rfl) ?_
      refine mm_geta X M 14 (by decide) rfl (by decide) kw_979 dX11_step_208 ?_
      refine lv_iload_n X.1 X.2.1 dX11_step_211 rfl (lv_at hl 0 rfl) ?_
      obtain ⟨hi, hw⟩ := hw
      refine mm_ald X M 14 rfl dX11_step_212 hi ?_
      refine lv_aload_n X.1 X.2.1 dX11_step_213 rfl (lv_at hl 3 rfl) ?_
      refine mm_geta X M 17 (by decide) rfl (by decide) kw_982 dX11_step_214 ?_
      refine lv_iload_n X.1 X.2.1 dX11_step_217 rfl (lv_at hl 0 rfl) ?_
      obtain ⟨hi, hw⟩ := hw
      refine mm_ald X M 17 rfl dX11_step_218 hi ?_
      refine mx_ci M (mx_runV (n := 3) (As := [.long r14, .int (ma σ13 14 (Int32.toNatClampNeg v4)), .int (ma σ13 17 (Int32.toNatClampNeg v4))]) (rest := []) X M (c_X11_has l T B μ0 o A σ13 r14 (ma σ13 14 (Int32.toNatClampNeg v4)) (ma σ13 17 (Int32.toNatClampNeg v4)) _ hw) (mm_recv X M) kw_1239 kw_1241 kw_46 kw_74 kw_1242 (by decide +kernel) rfl rfl ⟨Nat.le_of_ble_eq_true rfl, Nat.le_of_ble_eq_true rfl⟩ rfl hl.1 (Nat.le_of_ble_eq_true rfl) dX11_step_219 ⟨by decide, by decide⟩) (fun r16 σ15 H locs hw M => ?_)
      obtain ⟨hwf, hwt⟩ := hw
      refine lv_if_ne (tgt := 230) X.1 X.2.1 dX11_step_222 (by decide) (fun hq => ?_) (fun hq => ?_)
      · have hw := hwt hq
        refine lv_aload_n X.1 X.2.1 dX11_step_230 rfl (lv_at hl 3 rfl) ?_
        refine lv_iload_n X.1 X.2.1 dX11_step_231 rfl (lv_at hl 0 rfl) ?_
        refine mx_cv M (mx_runV (n := 1) (As := [.int v4]) (rest := []) X M (c_X11_takeCell l T B μ0 o A σ15 v4 _ hw) (mm_recv X M) kw_1246 kw_1248 kw_47 kw_74 kw_1249 (by decide +kernel) rfl rfl ⟨Nat.le_of_ble_eq_true rfl, Nat.le_of_ble_eq_true rfl⟩ rfl hl.1 (Nat.le_of_ble_eq_true rfl) dX11_step_232 ⟨by decide, by decide⟩) (fun σ17 H locs hw M => ?_)
        refine lv_goto (tgt := 364) X.1 X.2.1 dX11_step_235 (by decide) ?_
        refine lv_aload_n X.1 X.2.1 dX11_step_364 rfl (lv_at hl 3 rfl) ?_
        refine mm_geta X M 30 (by decide) rfl (by decide) kw_995 dX11_step_365 ?_
        refine lv_aload_n X.1 X.2.1 dX11_step_368 rfl (lv_at hl 3 rfl) ?_
        refine mm_geti X M 45 (by decide) rfl kw_1010 dX11_step_369 ?_
        refine lv_dup2_11 X.1 X.2.1 dX11_step_372 rfl rfl ?_
        obtain ⟨hi, hw⟩ := hw
        refine mm_ald X M 30 rfl dX11_step_373 hi ?_
        refine lv_iconst (v := 1) X.1 X.2.1 dX11_step_374 (by decide) ?_
        refine lv_iadd X.1 X.2.1 dX11_step_375 ?_
        obtain ⟨hi, hw⟩ := hw
        refine mm_ast X M 30 rfl dX11_step_376 hi (fun σ18 H locs eσ18 M => ?_)
        replace hw := hw σ18 eσ18
        exact mx_vret X hr hk M dX11_step_377 (by decide) (by decide) hw
      · have hw := hwf hq
        refine lv_aload_n X.1 X.2.1 dX11_step_225 rfl (lv_at hl 3 rfl) ?_
        refine mx_cv M (mx_runV (n := 0) (As := []) (rest := []) X M (c_X11_fail l T B μ0 o A σ15 _ hw) (mm_recv X M) kw_1202 kw_1204 kw_37 kw_74 kw_1205 (by decide +kernel) rfl rfl ⟨Nat.le_of_ble_eq_true rfl, Nat.le_of_ble_eq_true rfl⟩ rfl hl.1 (Nat.le_of_ble_eq_true rfl) dX11_step_226 ⟨by decide, by decide⟩) (fun σ19 H locs hw M => ?_)
        exact mx_vret X hr hk M dX11_step_229 (by decide) (by decide) hw
    by_cases q_4 : (ma σ1 12 (Int32.toNatClampNeg v4)) = 4
    · have hw := hw_4 q_4
      refine lv_tableIn (off := 174) (tgt := 238) X.1 X.2.1 dX11_step_64 (by rw [q_4]; decide) (by rw [q_4]; decide) (by rw [q_4]; rfl) (by decide) ?_
      refine lv_aload_n X.1 X.2.1 dX11_step_238 rfl (lv_at hl 3 rfl) ?_
      refine lv_iload_n X.1 X.2.1 dX11_step_239 rfl (lv_at hl 0 rfl) ?_
      refine mx_cv M (mx_runV (n := 1) (As := [.int v4]) (rest := []) X M (c_X11_same l T B μ0 o A σ1 v4 _ hw) (mm_recv X M) kw_1250 kw_1252 kw_48 kw_74 kw_1253 (by decide +kernel) rfl rfl ⟨Nat.le_of_ble_eq_true rfl, Nat.le_of_ble_eq_true rfl⟩ rfl hl.1 (Nat.le_of_ble_eq_true rfl) dX11_step_240 ⟨by decide, by decide⟩) (fun σ20 H locs hw M => ?_)
      exact mx_vret X hr hk M dX11_step_243 (by decide) (by decide) hw
    by_cases q_5 : (ma σ1 12 (Int32.toNatClampNeg v4)) = 5
    · have hw := hw_5 q_5
      refine lv_tableIn (off := 180) (tgt := 244) X.1 X.2.1 dX11_step_64 (by rw [q_5]; decide) (by rw [q_5]; decide) (by rw [q_5]; rfl) (by decide) ?_
      refine lv_aload_n X.1 X.2.1 dX11_step_244 rfl (lv_at hl 3 rfl) ?_
      refine lv_iload_n X.1 X.2.1 dX11_step_245 rfl (lv_at hl 0 rfl) ?_
      refine mx_cv M (mx_runV (n := 1) (As := [.int v4]) (rest := []) X M (c_X11_summed l T B μ0 o A σ1 v4 _ hw) (mm_recv X M) kw_1258 kw_1260 kw_50 kw_74 kw_1261 (by decide +kernel) rfl rfl ⟨Nat.le_of_ble_eq_true rfl, Nat.le_of_ble_eq_true rfl⟩ rfl hl.1 (Nat.le_of_ble_eq_true rfl) dX11_step_246 ⟨by decide, by decide⟩) (fun σ21 H locs hw M => ?_)
      exact mx_vret X hr hk M dX11_step_249 (by decide) (by decide) hw
    by_cases q_6 : (ma σ1 12 (Int32.toNatClampNeg v4)) = 6
    · have hw := hw_6 q_6
      refine lv_tableIn (off := 186) (tgt := 250) X.1 X.2.1 dX11_step_64 (by rw [q_6]; decide) (by rw [q_6]; decide) (by rw [q_6]; rfl) (by decide) ?_
      refine lv_aload_n X.1 X.2.1 dX11_step_250 rfl (lv_at hl 3 rfl) ?_
      refine lv_iload_n X.1 X.2.1 dX11_step_251 rfl (lv_at hl 0 rfl) ?_
      refine mx_cv M (mx_runV (n := 1) (As := [.int v4]) (rest := []) X M (c_X11_compared l T B μ0 o A σ1 v4 _ hw) (mm_recv X M) kw_1262 kw_1264 kw_51 kw_74 kw_1265 (by decide +kernel) rfl rfl ⟨Nat.le_of_ble_eq_true rfl, Nat.le_of_ble_eq_true rfl⟩ rfl hl.1 (Nat.le_of_ble_eq_true rfl) dX11_step_252 ⟨by decide, by decide⟩) (fun σ22 H locs hw M => ?_)
      exact mx_vret X hr hk M dX11_step_255 (by decide) (by decide) hw
    by_cases q_7 : (ma σ1 12 (Int32.toNatClampNeg v4)) = 7
    · have hw := hw_7 q_7
      refine lv_tableIn (off := 192) (tgt := 256) X.1 X.2.1 dX11_step_64 (by rw [q_7]; decide) (by rw [q_7]; decide) (by rw [q_7]; rfl) (by decide) ?_
      refine lv_aload_n X.1 X.2.1 dX11_step_256 rfl (lv_at hl 3 rfl) ?_
      refine mm_geta X M 30 (by decide) rfl (by decide) kw_995 dX11_step_257 ?_
      refine lv_aload_n X.1 X.2.1 dX11_step_260 rfl (lv_at hl 3 rfl) ?_
      refine mm_geti X M 45 (by decide) rfl kw_1010 dX11_step_261 ?_
      refine lv_aload_n X.1 X.2.1 dX11_step_264 rfl (lv_at hl 3 rfl) ?_
      refine mm_geta X M 13 (by decide) rfl (by decide) kw_978 dX11_step_265 ?_
      refine lv_iload_n X.1 X.2.1 dX11_step_268 rfl (lv_at hl 0 rfl) ?_
      obtain ⟨hi, hw⟩ := hw
      refine mm_ald X M 13 rfl dX11_step_269 hi ?_
      obtain ⟨hi, hw⟩ := hw
      refine mm_ast X M 30 rfl dX11_step_270 hi (fun σ23 H locs eσ23 M => ?_)
      replace hw := hw σ23 eσ23
      exact mx_vret X hr hk M dX11_step_271 (by decide) (by decide) hw
    by_cases q_8 : (ma σ1 12 (Int32.toNatClampNeg v4)) = 8
    · have hw := hw_8 q_8
      refine lv_tableIn (off := 208) (tgt := 272) X.1 X.2.1 dX11_step_64 (by rw [q_8]; decide) (by rw [q_8]; decide) (by rw [q_8]; rfl) (by decide) ?_
      refine lv_aload_n X.1 X.2.1 dX11_step_272 rfl (lv_at hl 3 rfl) ?_
      refine mm_geta X M 30 (by decide) rfl (by decide) kw_995 dX11_step_273 ?_
      refine lv_aload_n X.1 X.2.1 dX11_step_276 rfl (lv_at hl 3 rfl) ?_
      refine mm_geti X M 45 (by decide) rfl kw_1010 dX11_step_277 ?_
      refine lv_aload_n X.1 X.2.1 dX11_step_280 rfl (lv_at hl 3 rfl) ?_
      refine lv_aload_n X.1 X.2.1 dX11_step_281 rfl (lv_at hl 3 rfl) ?_
      refine lv_aload_n X.1 X.2.1 dX11_step_282 rfl (lv_at hl 3 rfl) ?_
      refine mm_geta X M 13 (by decide) rfl (by decide) kw_978 dX11_step_283 ?_
      refine lv_iload_n X.1 X.2.1 dX11_step_286 rfl (lv_at hl 0 rfl) ?_
      obtain ⟨hi, hw⟩ := hw
      refine mm_ald X M 13 rfl dX11_step_287 hi ?_
      refine mx_cl M (mx_runV (n := 1) (As := [.int (ma σ1 13 (Int32.toNatClampNeg v4))]) (rest := [.ref o, .int (mi σ1 45), .ref (A 30)]) X M (c_X11_get l T B μ0 o A σ1 (ma σ1 13 (Int32.toNatClampNeg v4)) _ hw) (mm_recv X M) kw_1230 kw_1232 kw_44 kw_74 kw_1233 (by decide +kernel) rfl rfl ⟨Nat.le_of_ble_eq_true rfl, Nat.le_of_ble_eq_true rfl⟩ rfl hl.1 (Nat.le_of_ble_eq_true rfl) dX11_step_288 ⟨by decide, by decide⟩) (fun r25 σ24 H locs hw M => ?_)
      refine lv_aload_n X.1 X.2.1 dX11_step_291 rfl (lv_at hl 3 rfl) ?_
      refine mm_geta X M 14 (by decide) rfl (by decide) kw_979 dX11_step_292 ?_
      refine lv_iload_n X.1 X.2.1 dX11_step_295 rfl (lv_at hl 0 rfl) ?_
      obtain ⟨hi, hw⟩ := hw
      refine mm_ald X M 14 rfl dX11_step_296 hi ?_
      refine lv_iconst (v := (-1)) X.1 X.2.1 dX11_step_297 (by decide) ?_
      refine mx_ci M (mx_runV (n := 3) (As := [.long r25, .int (ma σ24 14 (Int32.toNatClampNeg v4)), .int (-1)]) (rest := [.int (mi σ1 45), .ref (A 30)]) X M (c_X11_has l T B μ0 o A σ24 r25 (ma σ24 14 (Int32.toNatClampNeg v4)) (-1) _ hw) (mm_recv X M) kw_1239 kw_1241 kw_46 kw_74 kw_1242 (by decide +kernel) rfl rfl ⟨Nat.le_of_ble_eq_true rfl, Nat.le_of_ble_eq_true rfl⟩ rfl hl.1 (Nat.le_of_ble_eq_true rfl) dX11_step_298 ⟨by decide, by decide⟩) (fun r27 σ26 H locs hw M => ?_)
      obtain ⟨hwt, hwf⟩ := hw
      refine lv_if_eq (tgt := 310) X.1 X.2.1 dX11_step_301 (by decide) (fun hq => ?_) (fun hq => ?_)
      · have hw := hwt hq
        refine lv_aload_n X.1 X.2.1 dX11_step_310 rfl (lv_at hl 3 rfl) ?_
        refine mm_geta X M 15 (by decide) rfl (by decide) kw_980 dX11_step_311 ?_
        refine lv_iload_n X.1 X.2.1 dX11_step_314 rfl (lv_at hl 0 rfl) ?_
        obtain ⟨hi, hw⟩ := hw
        refine mm_ald X M 15 rfl dX11_step_315 hi ?_
        obtain ⟨hi, hw⟩ := hw
        refine mm_ast X M 30 rfl dX11_step_316 hi (fun σ28 H locs eσ28 M => ?_)
        replace hw := hw σ28 eσ28
        exact mx_vret X hr hk M dX11_step_317 (by decide) (by decide) hw
      · have hw := hwf hq
        refine lv_iload_n X.1 X.2.1 dX11_step_304 rfl (lv_at hl 2 rfl) ?_
        refine lv_iconst (v := 1) X.1 X.2.1 dX11_step_305 (by decide) ?_
        refine lv_iadd X.1 X.2.1 dX11_step_306 ?_
        refine lv_goto (tgt := 316) X.1 X.2.1 dX11_step_307 (by decide) ?_
        obtain ⟨hi, hw⟩ := hw
        refine mm_ast X M 30 rfl dX11_step_316 hi (fun σ29 H locs eσ29 M => ?_)
        replace hw := hw σ29 eσ29
        exact mx_vret X hr hk M dX11_step_317 (by decide) (by decide) hw
    by_cases q_9 : (ma σ1 12 (Int32.toNatClampNeg v4)) = 9
    · have hw := hw_9 q_9
      refine lv_tableIn (off := 254) (tgt := 318) X.1 X.2.1 dX11_step_64 (by rw [q_9]; decide) (by rw [q_9]; decide) (by rw [q_9]; rfl) (by decide) ?_
      refine lv_aload_n X.1 X.2.1 dX11_step_318 rfl (lv_at hl 3 rfl) ?_
      refine lv_iload_n X.1 X.2.1 dX11_step_319 rfl (lv_at hl 0 rfl) ?_
      refine mx_cv M (mx_runV (n := 1) (As := [.int v4]) (rest := []) X M (c_X11_tryLater l T B μ0 o A σ1 v4 _ hw) (mm_recv X M) kw_1269 kw_1271 kw_52 kw_74 kw_1272 (by decide +kernel) rfl rfl ⟨Nat.le_of_ble_eq_true rfl, Nat.le_of_ble_eq_true rfl⟩ rfl hl.1 (Nat.le_of_ble_eq_true rfl) dX11_step_320 ⟨by decide, by decide⟩) (fun σ30 H locs hw M => ?_)
      exact mx_vret X hr hk M dX11_step_323 (by decide) (by decide) hw
    by_cases q_10 : (ma σ1 12 (Int32.toNatClampNeg v4)) = 10
    · have hw := hw_10 q_10
      refine lv_tableIn (off := 260) (tgt := 324) X.1 X.2.1 dX11_step_64 (by rw [q_10]; decide) (by rw [q_10]; decide) (by rw [q_10]; rfl) (by decide) ?_
      refine lv_aload_n X.1 X.2.1 dX11_step_324 rfl (lv_at hl 3 rfl) ?_
      refine lv_iload_n X.1 X.2.1 dX11_step_325 rfl (lv_at hl 0 rfl) ?_
      refine mx_cv M (mx_runV (n := 1) (As := [.int v4]) (rest := []) X M (c_X11_call l T B μ0 o A σ1 v4 _ hw) (mm_recv X M) kw_1273 kw_1275 kw_53 kw_74 kw_1276 (by decide +kernel) rfl rfl ⟨Nat.le_of_ble_eq_true rfl, Nat.le_of_ble_eq_true rfl⟩ rfl hl.1 (Nat.le_of_ble_eq_true rfl) dX11_step_326 ⟨by decide, by decide⟩) (fun σ31 H locs hw M => ?_)
      exact mx_vret X hr hk M dX11_step_329 (by decide) (by decide) hw
    by_cases q_11 : (ma σ1 12 (Int32.toNatClampNeg v4)) = 11
    · have hw := hw_11 q_11
      refine lv_tableIn (off := 266) (tgt := 330) X.1 X.2.1 dX11_step_64 (by rw [q_11]; decide) (by rw [q_11]; decide) (by rw [q_11]; rfl) (by decide) ?_
      refine lv_aload_n X.1 X.2.1 dX11_step_330 rfl (lv_at hl 3 rfl) ?_
      refine lv_aload_n X.1 X.2.1 dX11_step_331 rfl (lv_at hl 3 rfl) ?_
      refine mm_geta X M 13 (by decide) rfl (by decide) kw_978 dX11_step_332 ?_
      refine lv_iload_n X.1 X.2.1 dX11_step_335 rfl (lv_at hl 0 rfl) ?_
      obtain ⟨hi, hw⟩ := hw
      refine mm_ald X M 13 rfl dX11_step_336 hi ?_
      refine lv_aload_n X.1 X.2.1 dX11_step_337 rfl (lv_at hl 3 rfl) ?_
      refine mx_ci M (mx_runV (n := 0) (As := []) (rest := [.int (ma σ1 13 (Int32.toNatClampNeg v4)), .ref o]) X M (c_X11_redos l T B μ0 o A σ1 _ hw) (mm_recv X M) kw_1190 kw_1192 kw_35 kw_74 kw_1193 (by decide +kernel) rfl rfl ⟨Nat.le_of_ble_eq_true rfl, Nat.le_of_ble_eq_true rfl⟩ rfl hl.1 (Nat.le_of_ble_eq_true rfl) dX11_step_338 ⟨by decide, by decide⟩) (fun r33 σ32 H locs hw M => ?_)
      refine lv_i2l X.1 X.2.1 dX11_step_341 rfl ?_
      refine mx_cv M (mx_runV (n := 2) (As := [.int (ma σ1 13 (Int32.toNatClampNeg v4)), .long (Int32.toInt64 r33)]) (rest := []) X M (c_X11_set l T B μ0 o A σ32 (ma σ1 13 (Int32.toNatClampNeg v4)) (Int32.toInt64 r33) _ hw) (mm_recv X M) kw_1222 kw_1224 kw_42 kw_74 kw_1225 (by decide +kernel) rfl rfl ⟨Nat.le_of_ble_eq_true rfl, Nat.le_of_ble_eq_true rfl⟩ rfl hl.1 (Nat.le_of_ble_eq_true rfl) dX11_step_342 ⟨by decide, by decide⟩) (fun σ34 H locs hw M => ?_)
      refine lv_goto (tgt := 364) X.1 X.2.1 dX11_step_345 (by decide) ?_
      refine lv_aload_n X.1 X.2.1 dX11_step_364 rfl (lv_at hl 3 rfl) ?_
      refine mm_geta X M 30 (by decide) rfl (by decide) kw_995 dX11_step_365 ?_
      refine lv_aload_n X.1 X.2.1 dX11_step_368 rfl (lv_at hl 3 rfl) ?_
      refine mm_geti X M 45 (by decide) rfl kw_1010 dX11_step_369 ?_
      refine lv_dup2_11 X.1 X.2.1 dX11_step_372 rfl rfl ?_
      obtain ⟨hi, hw⟩ := hw
      refine mm_ald X M 30 rfl dX11_step_373 hi ?_
      refine lv_iconst (v := 1) X.1 X.2.1 dX11_step_374 (by decide) ?_
      refine lv_iadd X.1 X.2.1 dX11_step_375 ?_
      obtain ⟨hi, hw⟩ := hw
      refine mm_ast X M 30 rfl dX11_step_376 hi (fun σ35 H locs eσ35 M => ?_)
      replace hw := hw σ35 eσ35
      exact mx_vret X hr hk M dX11_step_377 (by decide) (by decide) hw
    by_cases q_12 : (ma σ1 12 (Int32.toNatClampNeg v4)) = 12
    · have hw := hw_12 q_12
      refine lv_tableIn (off := 284) (tgt := 348) X.1 X.2.1 dX11_step_64 (by rw [q_12]; decide) (by rw [q_12]; decide) (by rw [q_12]; rfl) (by decide) ?_
      refine lv_aload_n X.1 X.2.1 dX11_step_348 rfl (lv_at hl 3 rfl) ?_
      refine lv_iload_n X.1 X.2.1 dX11_step_349 rfl (lv_at hl 0 rfl) ?_
      refine mx_cv M (mx_runV (n := 1) (As := [.int v4]) (rest := []) X M (c_X11_cutOrDrop l T B μ0 o A σ1 v4 _ hw) (mm_recv X M) kw_1277 kw_1279 kw_54 kw_74 kw_1280 (by decide +kernel) rfl rfl ⟨Nat.le_of_ble_eq_true rfl, Nat.le_of_ble_eq_true rfl⟩ rfl hl.1 (Nat.le_of_ble_eq_true rfl) dX11_step_350 ⟨by decide, by decide⟩) (fun σ36 H locs hw M => ?_)
      exact mx_vret X hr hk M dX11_step_353 (by decide) (by decide) hw
    by_cases q_13 : (ma σ1 12 (Int32.toNatClampNeg v4)) = 13
    · have hw := hw_13 q_13
      refine lv_tableIn (off := 284) (tgt := 348) X.1 X.2.1 dX11_step_64 (by rw [q_13]; decide) (by rw [q_13]; decide) (by rw [q_13]; rfl) (by decide) ?_
      refine lv_aload_n X.1 X.2.1 dX11_step_348 rfl (lv_at hl 3 rfl) ?_
      refine lv_iload_n X.1 X.2.1 dX11_step_349 rfl (lv_at hl 0 rfl) ?_
      refine mx_cv M (mx_runV (n := 1) (As := [.int v4]) (rest := []) X M (c_X11_cutOrDrop l T B μ0 o A σ1 v4 _ hw) (mm_recv X M) kw_1277 kw_1279 kw_54 kw_74 kw_1280 (by decide +kernel) rfl rfl ⟨Nat.le_of_ble_eq_true rfl, Nat.le_of_ble_eq_true rfl⟩ rfl hl.1 (Nat.le_of_ble_eq_true rfl) dX11_step_350 ⟨by decide, by decide⟩) (fun σ37 H locs hw M => ?_)
      exact mx_vret X hr hk M dX11_step_353 (by decide) (by decide) hw
    by_cases q_14 : (ma σ1 12 (Int32.toNatClampNeg v4)) = 14
    · have hw := hw_14 q_14
      refine lv_tableIn (off := 290) (tgt := 354) X.1 X.2.1 dX11_step_64 (by rw [q_14]; decide) (by rw [q_14]; decide) (by rw [q_14]; rfl) (by decide) ?_
      refine lv_aload_n X.1 X.2.1 dX11_step_354 rfl (lv_at hl 3 rfl) ?_
      refine mx_cv M (mx_runV (n := 0) (As := []) (rest := []) X M (c_X11_exit l T B μ0 o A σ1 _ hw) (mm_recv X M) kw_1301 kw_1303 kw_60 kw_74 kw_1304 (by decide +kernel) rfl rfl ⟨Nat.le_of_ble_eq_true rfl, Nat.le_of_ble_eq_true rfl⟩ rfl hl.1 (Nat.le_of_ble_eq_true rfl) dX11_step_355 ⟨by decide, by decide⟩) (fun σ38 H locs hw M => ?_)
      exact mx_vret X hr hk M dX11_step_358 (by decide) (by decide) hw
    have hw := hw_d q_0 q_1 q_2 q_3 q_4 q_5 q_6 q_7 q_8 q_9 q_10 q_11 q_12 q_13 q_14
    have g_0 := lv_neT q_0 (by decide : (0 : Int32).toInt = 0)
    have g_1 := lv_neT q_1 (by decide : (1 : Int32).toInt = 1)
    have g_2 := lv_neT q_2 (by decide : (2 : Int32).toInt = 2)
    have g_3 := lv_neT q_3 (by decide : (3 : Int32).toInt = 3)
    have g_4 := lv_neT q_4 (by decide : (4 : Int32).toInt = 4)
    have g_5 := lv_neT q_5 (by decide : (5 : Int32).toInt = 5)
    have g_6 := lv_neT q_6 (by decide : (6 : Int32).toInt = 6)
    have g_7 := lv_neT q_7 (by decide : (7 : Int32).toInt = 7)
    have g_8 := lv_neT q_8 (by decide : (8 : Int32).toInt = 8)
    have g_9 := lv_neT q_9 (by decide : (9 : Int32).toInt = 9)
    have g_10 := lv_neT q_10 (by decide : (10 : Int32).toInt = 10)
    have g_11 := lv_neT q_11 (by decide : (11 : Int32).toInt = 11)
    have g_12 := lv_neT q_12 (by decide : (12 : Int32).toInt = 12)
    have g_13 := lv_neT q_13 (by decide : (13 : Int32).toInt = 13)
    have g_14 := lv_neT q_14 (by decide : (14 : Int32).toInt = 14)
    refine lv_tableOut (tgt := 359) X.1 X.2.1 dX11_step_64 (by omega) (by decide) ?_
    refine lv_aload_n X.1 X.2.1 dX11_step_359 rfl (lv_at hl 3 rfl) ?_
    refine mx_cv M (mx_runV (n := 0) (As := []) (rest := []) X M (c_X11_fail l T B μ0 o A σ1 _ hw) (mm_recv X M) kw_1202 kw_1204 kw_37 kw_74 kw_1205 (by decide +kernel) rfl rfl ⟨Nat.le_of_ble_eq_true rfl, Nat.le_of_ble_eq_true rfl⟩ rfl hl.1 (Nat.le_of_ble_eq_true rfl) dX11_step_360 ⟨by decide, by decide⟩) (fun σ39 H locs hw M => ?_)
    exact mx_vret X hr hk M dX11_step_363 (by decide) (by decide) hw
  · have hw := hwf hq
    refine lv_aload_n X.1 X.2.1 dX11_step_40 rfl (lv_at hl 2 rfl) ?_
    refine mx_cv M (mx_runV (n := 0) (As := []) (rest := []) X M (c_X11_fail l T B μ0 o A σ1 _ hw) (mm_recv X M) kw_1202 kw_1204 kw_37 kw_74 kw_1205 (by decide +kernel) rfl rfl ⟨Nat.le_of_ble_eq_true rfl, Nat.le_of_ble_eq_true rfl⟩ rfl hl.1 (Nat.le_of_ble_eq_true rfl) dX11_step_41 ⟨by decide, by decide⟩) (fun σ40 H locs hw M => ?_)
    exact mx_vret X hr hk M dX11_step_44 (by decide) (by decide) hw
