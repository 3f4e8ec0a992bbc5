abbrev rm_X11_tell : Room := { frames := 3, cells := 0, slots := 0, locals := 72 }
def wp_X11_tell_82 (post : Int32 → MSt → Prop) : Nat → MSt → Int32 → Prop
  | 0, _, _ => False
  | n + 1, σ, x3 =>
    (x3 ≤ 0 →
     post (mi σ 54) σ) ∧ (¬ x3 ≤ 0 →
     (1000 ≤ (mi σ 54) →
      post (mi σ 54) σ) ∧ (¬ 1000 ≤ (mi σ 54) →
      ∀ v6 : Int32, v6 = x3 + (-1) →
      vp_in v6 20100 ∧
      ∀ v7 : Int64, v7 = (ml σ 55 (Int32.toNatClampNeg v6)) →
      ((lg_cmp v7 4398046511104) = 0 →
       wp_X11_say σ 44 (fun (σ14 : MSt) =>
       wp_X11_tell_82 post n σ14 v6)) ∧ (¬ (lg_cmp v7 4398046511104) = 0 →
       ((lg_cmp v7 4398046511105) = 0 →
        wp_X11_say σ 41 (fun (σ13 : MSt) =>
        wp_X11_tell_82 post n σ13 v6)) ∧ (¬ (lg_cmp v7 4398046511105) = 0 →
        wp_X11_isCell σ v7 (fun (r9 : Int32) (σ8 : MSt) =>
        (r9 = 0 →
         wp_X11_sayNumber σ8 v7 (fun (σ12 : MSt) =>
         wp_X11_tell_82 post n σ12 v6)) ∧ (¬ r9 = 0 →
         wp_X11_sayCell σ8 (Int64.toInt32 (v7 - 1099511627776)) v6 (fun (r11 : Int32) (σ10 : MSt) =>
         wp_X11_tell_82 post n σ10 r11)))))))
def wp_X11_tell_23 (post : Int32 → MSt → Prop) (σ : MSt) (x1 : Int32) (t0 : Int32) : Prop :=
  ((mi σ 44) = 1 →
   (x1 < 0 →
    ∀ σ3 : MSt, σ3 = smi σ 0 1 →
    post 0 σ3) ∧ (¬ x1 < 0 →
    vp_in t0 60 ∧
    (x1 < (ma σ 7 (Int32.toNatClampNeg t0)) →
     ∀ σ4 : MSt, σ4 = smi σ 54 0 →
     vp_in (((8 : Int32) * t0) + x1) 480 ∧
     vp_in (ma σ4 8 (Int32.toNatClampNeg (((8 : Int32) * t0) + x1))) 20100 ∧
     vp_in 0 20100 ∧ ∀ σ5 : MSt, σ5 = sml σ4 55 (Int32.toNatClampNeg 0) (ml σ4 39 (Int32.toNatClampNeg (ma σ4 8 (Int32.toNatClampNeg (((8 : Int32) * t0) + x1))))) →
     ∃ n15, wp_X11_tell_82 post n15 σ5 1) ∧ (¬ x1 < (ma σ 7 (Int32.toNatClampNeg t0)) →
     ∀ σ16 : MSt, σ16 = smi σ 0 1 →
     post 0 σ16))) ∧ (¬ (mi σ 44) = 1 →
   ∀ σ2 : MSt, σ2 = smi σ 0 1 →
   post 0 σ2)
def wp_X11_tell (σ : MSt) (a1 : Int32) (post : Int32 → MSt → Prop) : Prop :=
  ∀ σ1 : MSt, σ1 = smi σ 0 0 →
  ((mi σ1 44) = 1 →
   vp_in 0 7000 ∧
   wp_X11_tell_23 post σ1 a1 (ma σ1 28 (Int32.toNatClampNeg 0))) ∧ (¬ (mi σ1 44) = 1 →
   wp_X11_tell_23 post σ1 a1 (-1))
set_option maxRecDepth 100000 in
set_option maxHeartbeats 4000000 in
theorem b_X11_tell_82 {T : Tb} {B : Nat} {p : Program} {l : Launch} {e : Env} {s : State} {m : MethodId} {args : Array Value} {below : List Frame} {meth : Method} {c0 : Code} {post : Int32 → MSt → Prop} {μ0 : Mem} {o : Nat} {A : Nat → Nat} (X : CX T B p m c0 cX11_tell 6 s args RX11) (hr : meth.sig.returnType = (some .int)) (hk : meth.locks = false) : ∀ (n : Nat) (σ : MSt) (x3 : Int32) (H : Heap) (locs : List Loc) (ls : Array Slot), wp_X11_tell_82 post n σ x3 → MG (WM T B μ0 o A) B s σ H locs → lv_has ls 6 [(0, .ref o), (3, .int x3)] → W p l e rm_X11_tell s m args below meth c0 H locs 0 0 (MQ below (va_Qi post (Bm (WM T B μ0 o A)) (Ai B)) args s 0 0 (Ai B)) (F0 m 82 ls []) := by
  intro n
  induction n with
  | zero =>
    intro σ x3 H locs ls hw
    exact hw.elim
  | succ n ih =>
    intro σ x3 H locs ls hw M hl
    rw [wp_X11_tell_82] at hw
    refine lv_iload_n X.1 X.2.1 dX11_tell_82 rfl (lv_at hl 1 rfl) ?_
    obtain ⟨hwt, hwf⟩ := hw
    refine lv_if_le (tgt := 176) X.1 X.2.1 dX11_tell_83 (by decide) (fun hq => ?_) (fun hq => ?_)
    · have hw := hwt hq
      refine lv_aload_n X.1 X.2.1 dX11_tell_176 rfl (lv_at hl 0 rfl) ?_
      refine mm_geti X M 54 (by decide) rfl kw_1019 dX11_tell_177 ?_
      exact mx_iret X hr hk M dX11_tell_180 (by decide) (by decide) hw
    · have hw := hwf hq
      refine lv_aload_n X.1 X.2.1 dX11_tell_86 rfl (lv_at hl 0 rfl) ?_
      refine mm_geti X M 54 (by decide) rfl kw_1019 dX11_tell_87 ?_
      refine lv_sipush (v := 1000) X.1 X.2.1 dX11_tell_90 (by decide) ?_
      obtain ⟨hwt, hwf⟩ := hw
      refine lv_icmp_ge (tgt := 176) X.1 X.2.1 dX11_tell_93 (by decide) (fun hq => ?_) (fun hq => ?_)
      · have hw := hwt hq
        refine lv_aload_n X.1 X.2.1 dX11_tell_176 rfl (lv_at hl 0 rfl) ?_
        refine mm_geti X M 54 (by decide) rfl kw_1019 dX11_tell_177 ?_
        exact mx_iret X hr hk M dX11_tell_180 (by decide) (by decide) hw
      · have hw := hwf hq
        obtain ⟨v6, ev6⟩ : ∃ y : Int32, y = x3 + (-1) := ⟨_, rfl⟩
        replace hw := hw v6 ev6
        refine lv_iinc (v := v6) (lv' := [(3, .int v6), (0, .ref o)]) X.1 X.2.1 dX11_tell_96 hl (k := 1) rfl (by rw [ev6]; rfl) (by decide) rfl (fun ls hl => ?_)
        refine lv_aload_n X.1 X.2.1 dX11_tell_99 rfl (lv_at hl 1 rfl) ?_
        refine mm_geta X M 55 (by decide) rfl (by decide) kw_1020 dX11_tell_100 ?_
        refine lv_iload_n X.1 X.2.1 dX11_tell_103 rfl (lv_at hl 0 rfl) ?_
        obtain ⟨hi, hw⟩ := hw
        refine mm_jld X M 55 rfl dX11_tell_104 hi ?_
        refine lv_topl (fun v7 ev7 => ?_)
        replace hw := hw v7 ev7
        refine lv_lstore (lv' := [(4, .long v7), (3, .int v6), (0, .ref o)]) X.1 X.2.1 dX11_tell_105 hl (by decide) rfl (fun ls hl => ?_)
        refine lv_lload X.1 X.2.1 dX11_tell_107 (lv_at hl 0 rfl) ?_
        refine lv_ldc2 (v := 4398046511104) X.1 X.2.1 X.2.2.2.1 (X.2.2.2.2.1 _ kw_1313) dX11_tell_109 ?_
        refine W.lcmp X.1 X.2.1 dX11_tell_112 ?_
        obtain ⟨hwf, hwt⟩ := hw
        refine lv_if_ne (tgt := 125) X.1 X.2.1 dX11_tell_113 (by decide) (fun hq => ?_) (fun hq => ?_)
        · have hw := hwt hq
          refine lv_lload X.1 X.2.1 dX11_tell_125 (lv_at hl 0 rfl) ?_
          refine lv_ldc2 (v := 4398046511105) X.1 X.2.1 X.2.2.2.1 (X.2.2.2.2.1 _ kw_1318) dX11_tell_127 ?_
          refine W.lcmp X.1 X.2.1 dX11_tell_130 ?_
          obtain ⟨hwf, hwt⟩ := hw
          refine lv_if_ne (tgt := 143) X.1 X.2.1 dX11_tell_131 (by decide) (fun hq => ?_) (fun hq => ?_)
          · have hw := hwt hq
            refine lv_lload X.1 X.2.1 dX11_tell_143 (lv_at hl 0 rfl) ?_
            refine mx_ci M (mx_runS (n := 1) (As := [.long v7]) (rest := []) X M (c_X11_isCell l T B μ0 o A σ v7 _ hw) kw_1243 kw_1244 kw_74 kw_1245 (by decide +kernel) rfl rfl ⟨Nat.le_of_ble_eq_true rfl, Nat.le_of_ble_eq_true rfl⟩ rfl hl.1 (Nat.le_of_ble_eq_true rfl) dX11_tell_145 ⟨by decide, by decide⟩) (fun r9 σ8 H locs hw M => ?_)
            obtain ⟨hwf, hwt⟩ := hw
            refine lv_if_ne (tgt := 160) X.1 X.2.1 dX11_tell_148 (by decide) (fun hq => ?_) (fun hq => ?_)
            · have hw := hwt hq
              refine lv_aload_n X.1 X.2.1 dX11_tell_160 rfl (lv_at hl 2 rfl) ?_
              refine lv_lload X.1 X.2.1 dX11_tell_161 (lv_at hl 0 rfl) ?_
              refine lv_ldc2 (v := 1099511627776) X.1 X.2.1 X.2.2.2.1 (X.2.2.2.2.1 _ kw_1238) dX11_tell_163 ?_
              refine lv_lsub X.1 X.2.1 dX11_tell_166 ?_
              refine lv_l2i X.1 X.2.1 dX11_tell_167 rfl ?_
              refine lv_iload_n X.1 X.2.1 dX11_tell_168 rfl (lv_at hl 1 rfl) ?_
              refine mx_ci M (mx_runV (n := 2) (As := [.int (Int64.toInt32 (v7 - 1099511627776)), .int v6]) (rest := []) X M (c_X11_sayCell l T B μ0 o A σ8 (Int64.toInt32 (v7 - 1099511627776)) v6 _ hw) (mm_recv X M) kw_1325 kw_1327 kw_63 kw_74 kw_1328 (by decide +kernel) rfl rfl ⟨Nat.le_of_ble_eq_true rfl, Nat.le_of_ble_eq_true rfl⟩ rfl hl.1 (Nat.le_of_ble_eq_true rfl) dX11_tell_169 ⟨by decide, by decide⟩) (fun r11 σ10 H locs hw M => ?_)
              refine lv_istore_n (lv' := [(3, .int r11), (4, .long v7), (0, .ref o)]) X.1 X.2.1 dX11_tell_172 rfl hl (by decide) rfl (fun ls hl => ?_)
              refine lv_goto (tgt := 82) X.1 X.2.1 dX11_tell_173 (by decide) ?_
              exact ih σ10 r11 _ _ _ hw M (lv_sub hl [2, 0] rfl)
            · have hw := hwf hq
              refine lv_aload_n X.1 X.2.1 dX11_tell_151 rfl (lv_at hl 2 rfl) ?_
              refine lv_lload X.1 X.2.1 dX11_tell_152 (lv_at hl 0 rfl) ?_
              refine mx_cv M (mx_runV (n := 1) (As := [.long v7]) (rest := []) X M (c_X11_sayNumber l T B μ0 o A σ8 v7 _ hw) (mm_recv X M) kw_1319 kw_1321 kw_62 kw_74 kw_1322 (by decide +kernel) rfl rfl ⟨Nat.le_of_ble_eq_true rfl, Nat.le_of_ble_eq_true rfl⟩ rfl hl.1 (Nat.le_of_ble_eq_true rfl) dX11_tell_154 ⟨by decide, by decide⟩) (fun σ12 H locs hw M => ?_)
              refine lv_goto (tgt := 173) X.1 X.2.1 dX11_tell_157 (by decide) ?_
              refine lv_goto (tgt := 82) X.1 X.2.1 dX11_tell_173 (by decide) ?_
              exact ih σ12 v6 _ _ _ hw M (lv_sub hl [2, 1] rfl)
          · have hw := hwf hq
            refine lv_aload_n X.1 X.2.1 dX11_tell_134 rfl (lv_at hl 2 rfl) ?_
            refine lv_bipush (v := 41) X.1 X.2.1 dX11_tell_135 (by decide) ?_
            refine mx_cv M (mx_runV (n := 1) (As := [.int 41]) (rest := []) X M (c_X11_say l T B μ0 o A σ 41 _ hw) (mm_recv X M) kw_1314 kw_1316 kw_61 kw_74 kw_1317 (by decide +kernel) rfl rfl ⟨Nat.le_of_ble_eq_true rfl, Nat.le_of_ble_eq_true rfl⟩ rfl hl.1 (Nat.le_of_ble_eq_true rfl) dX11_tell_137 ⟨by decide, by decide⟩) (fun σ13 H locs hw M => ?_)
            refine lv_goto (tgt := 173) X.1 X.2.1 dX11_tell_140 (by decide) ?_
            refine lv_goto (tgt := 82) X.1 X.2.1 dX11_tell_173 (by decide) ?_
            exact ih σ13 v6 _ _ _ hw M (lv_sub hl [2, 1] rfl)
        · have hw := hwf hq
          refine lv_aload_n X.1 X.2.1 dX11_tell_116 rfl (lv_at hl 2 rfl) ?_
          refine lv_bipush (v := 44) X.1 X.2.1 dX11_tell_117 (by decide) ?_
          refine mx_cv M (mx_runV (n := 1) (As := [.int 44]) (rest := []) X M (c_X11_say l T B μ0 o A σ 44 _ hw) (mm_recv X M) kw_1314 kw_1316 kw_61 kw_74 kw_1317 (by decide +kernel) rfl rfl ⟨Nat.le_of_ble_eq_true rfl, Nat.le_of_ble_eq_true rfl⟩ rfl hl.1 (Nat.le_of_ble_eq_true rfl) dX11_tell_119 ⟨by decide, by decide⟩) (fun σ14 H locs hw M => ?_)
          refine lv_goto (tgt := 173) X.1 X.2.1 dX11_tell_122 (by decide) ?_
          refine lv_goto (tgt := 82) X.1 X.2.1 dX11_tell_173 (by decide) ?_
          exact ih σ14 v6 _ _ _ hw M (lv_sub hl [2, 1] rfl)
set_option maxRecDepth 100000 in
set_option maxHeartbeats 4000000 in
theorem b_X11_tell_23 {T : Tb} {B : Nat} {p : Program} {l : Launch} {e : Env} {s : State} {m : MethodId} {args : Array Value} {below : List Frame} {meth : Method} {c0 : Code} {post : Int32 → MSt → Prop} {μ0 : Mem} {o : Nat} {A : Nat → Nat} (X : CX T B p m c0 cX11_tell 6 s args RX11) (hr : meth.sig.returnType = (some .int)) (hk : meth.locks = false) : ∀ (σ : MSt) (x1 : Int32) (t0 : Int32) (H : Heap) (locs : List Loc) (ls : Array Slot), wp_X11_tell_23 post σ x1 t0 → MG (WM T B μ0 o A) B s σ H locs → lv_has ls 6 [(0, .ref o), (1, .int x1)] → W p l e rm_X11_tell s m args below meth c0 H locs 0 0 (MQ below (va_Qi post (Bm (WM T B μ0 o A)) (Ai B)) args s 0 0 (Ai B)) (F0 m 23 ls [.int t0]) := by
  intro σ x1 t0 H locs ls hw M hl
  unfold wp_X11_tell_23 at hw
  refine lv_istore_n (lv' := [(2, .int t0), (0, .ref o), (1, .int x1)]) X.1 X.2.1 dX11_tell_23 rfl hl (by decide) rfl (fun ls hl => ?_)
  refine lv_aload_n X.1 X.2.1 dX11_tell_24 rfl (lv_at hl 1 rfl) ?_
  refine mm_geti X M 44 (by decide) rfl kw_1009 dX11_tell_25 ?_
  refine lv_iconst (v := 1) X.1 X.2.1 dX11_tell_28 (by decide) ?_
  obtain ⟨hwf, hwt⟩ := hw
  refine lv_icmp_ne (tgt := 46) X.1 X.2.1 dX11_tell_29 (by decide) (fun hq => ?_) (fun hq => ?_)
  · have hw := hwt hq
    refine lv_aload_n X.1 X.2.1 dX11_tell_46 rfl (lv_at hl 1 rfl) ?_
    refine lv_iconst (v := 1) X.1 X.2.1 dX11_tell_47 (by decide) ?_
    refine mm_puti X M 0 (by decide) rfl kw_965 rfl dX11_tell_48 rfl rfl (fun σ2 H locs eσ2 M => ?_)
    replace hw := hw σ2 eσ2
    refine lv_iconst (v := 0) X.1 X.2.1 dX11_tell_51 (by decide) ?_
    exact mx_iret X hr hk M dX11_tell_52 (by decide) (by decide) hw
  · have hw := hwf hq
    refine lv_iload_n X.1 X.2.1 dX11_tell_32 rfl (lv_at hl 2 rfl) ?_
    obtain ⟨hwt, hwf⟩ := hw
    refine lv_if_lt (tgt := 46) X.1 X.2.1 dX11_tell_33 (by decide) (fun hq => ?_) (fun hq => ?_)
    · have hw := hwt hq
      refine lv_aload_n X.1 X.2.1 dX11_tell_46 rfl (lv_at hl 1 rfl) ?_
      refine lv_iconst (v := 1) X.1 X.2.1 dX11_tell_47 (by decide) ?_
      refine mm_puti X M 0 (by decide) rfl kw_965 rfl dX11_tell_48 rfl rfl (fun σ3 H locs eσ3 M => ?_)
      replace hw := hw σ3 eσ3
      refine lv_iconst (v := 0) X.1 X.2.1 dX11_tell_51 (by decide) ?_
      exact mx_iret X hr hk M dX11_tell_52 (by decide) (by decide) hw
    · have hw := hwf hq
      refine lv_iload_n X.1 X.2.1 dX11_tell_36 rfl (lv_at hl 2 rfl) ?_
      refine lv_aload_n X.1 X.2.1 dX11_tell_37 rfl (lv_at hl 1 rfl) ?_
      refine mm_geta X M 7 (by decide) rfl (by decide) kw_972 dX11_tell_38 ?_
      refine lv_iload_n X.1 X.2.1 dX11_tell_41 rfl (lv_at hl 0 rfl) ?_
      obtain ⟨hi, hw⟩ := hw
      refine mm_ald X M 7 rfl dX11_tell_42 hi ?_
      obtain ⟨hwt, hwf⟩ := hw
      refine lv_icmp_lt (tgt := 53) X.1 X.2.1 dX11_tell_43 (by decide) (fun hq => ?_) (fun hq => ?_)
      · have hw := hwt hq
        refine lv_aload_n X.1 X.2.1 dX11_tell_53 rfl (lv_at hl 1 rfl) ?_
        refine lv_iconst (v := 0) X.1 X.2.1 dX11_tell_54 (by decide) ?_
        refine mm_puti X M 54 (by decide) rfl kw_1019 rfl dX11_tell_55 rfl rfl (fun σ4 H locs eσ4 M => ?_)
        replace hw := hw σ4 eσ4
        refine lv_aload_n X.1 X.2.1 dX11_tell_58 rfl (lv_at hl 1 rfl) ?_
        refine mm_geta X M 55 (by decide) rfl (by decide) kw_1020 dX11_tell_59 ?_
        refine lv_iconst (v := 0) X.1 X.2.1 dX11_tell_62 (by decide) ?_
        refine lv_aload_n X.1 X.2.1 dX11_tell_63 rfl (lv_at hl 1 rfl) ?_
        refine mm_geta X M 39 (by decide) rfl (by decide) kw_1004 dX11_tell_64 ?_
        refine lv_aload_n X.1 X.2.1 dX11_tell_67 rfl (lv_at hl 1 rfl) ?_
        refine mm_geta X M 8 (by decide) rfl (by decide) kw_973 dX11_tell_68 ?_
        refine lv_bipush (v := 8) X.1 X.2.1 dX11_tell_71 (by decide) ?_
        refine lv_iload_n X.1 X.2.1 dX11_tell_73 rfl (lv_at hl 0 rfl) ?_
        refine lv_imul X.1 X.2.1 dX11_tell_74 ?_
        refine lv_iload_n X.1 X.2.1 dX11_tell_75 rfl (lv_at hl 2 rfl) ?_
        refine lv_iadd X.1 X.2.1 dX11_tell_76 ?_
        obtain ⟨hi, hw⟩ := hw
        refine mm_ald X M 8 rfl dX11_tell_77 hi ?_
        obtain ⟨hi, hw⟩ := hw
        refine mm_jld X M 39 rfl dX11_tell_78 hi ?_
        obtain ⟨hi, hw⟩ := hw
        refine mm_jst X M 55 rfl dX11_tell_79 hi (fun σ5 H locs eσ5 M => ?_)
        replace hw := hw σ5 eσ5
        refine lv_iconst (v := 1) X.1 X.2.1 dX11_tell_80 (by decide) ?_
        refine lv_istore_n (lv' := [(3, .int 1), (2, .int t0), (0, .ref o), (1, .int x1)]) X.1 X.2.1 dX11_tell_81 rfl hl (by decide) rfl (fun ls hl => ?_)
        obtain ⟨n15, hw⟩ := hw
        exact b_X11_tell_82 X hr hk n15 σ5 1 _ _ _ hw M (lv_sub hl [2, 0] rfl)
      · have hw := hwf hq
        refine lv_aload_n X.1 X.2.1 dX11_tell_46 rfl (lv_at hl 1 rfl) ?_
        refine lv_iconst (v := 1) X.1 X.2.1 dX11_tell_47 (by decide) ?_
        refine mm_puti X M 0 (by decide) rfl kw_965 rfl dX11_tell_48 rfl rfl (fun σ16 H locs eσ16 M => ?_)
        replace hw := hw σ16 eσ16
        refine lv_iconst (v := 0) X.1 X.2.1 dX11_tell_51 (by decide) ?_
        exact mx_iret X hr hk M dX11_tell_52 (by decide) (by decide) hw
set_option maxRecDepth 100000 in
set_option maxHeartbeats 4000000 in
theorem c_X11_tell (l : Launch) (T : Tb) (B : Nat) (μ0 : Mem) (o : Nat) (A : Nat → Nat) (σ : MSt) (a1 : Int32) (post : Int32 → MSt → Prop) (hw : wp_X11_tell σ a1 post) : Met l yX11_tell (.code yX11_tell cX11_tell 6 (some .int) :: G) rm_X11_tell (Pm (WM T B μ0 o A) T B σ [.ref o, .int a1]) (va_Qi post (Bm (WM T B μ0 o A)) (Ai B)) 0 0 (Ai B) := by
  refine mx_of RX11 rfl (by decide) (Nat.le_of_ble_eq_true rfl) ?_
  intro p e s m below meth c0 X hr hk hnm M ls hl
  have hl : lv_has ls 6 [(0, .ref o), (1, .int a1)] := hl
  unfold wp_X11_tell at hw
  refine lv_aload_n X.1 X.2.1 dX11_tell_0 rfl (lv_at hl 0 rfl) ?_
  refine lv_iconst (v := 0) X.1 X.2.1 dX11_tell_1 (by decide) ?_
  refine mm_puti X M 0 (by decide) rfl kw_965 rfl dX11_tell_2 rfl rfl (fun σ1 H locs eσ1 M => ?_)
  replace hw := hw σ1 eσ1
  refine lv_aload_n X.1 X.2.1 dX11_tell_5 rfl (lv_at hl 0 rfl) ?_
  refine mm_geti X M 44 (by decide) rfl kw_1009 dX11_tell_6 ?_
  refine lv_iconst (v := 1) X.1 X.2.1 dX11_tell_9 (by decide) ?_
  obtain ⟨hwf, hwt⟩ := hw
  refine lv_icmp_ne (tgt := 22) X.1 X.2.1 dX11_tell_10 (by decide) (fun hq => ?_) (fun hq => ?_)
  · have hw := hwt hq
    refine lv_iconst (v := (-1)) X.1 X.2.1 dX11_tell_22 (by decide) ?_
    exact b_X11_tell_23 X hr hk σ1 a1 (-1) _ _ _ hw M (lv_sub hl [0, 1] rfl)
  · have hw := hwf hq
    refine lv_aload_n X.1 X.2.1 dX11_tell_13 rfl (lv_at hl 0 rfl) ?_
    refine mm_geta X M 28 (by decide) rfl (by decide) kw_993 dX11_tell_14 ?_
    refine lv_iconst (v := 0) X.1 X.2.1 dX11_tell_17 (by decide) ?_
    obtain ⟨hi, hw⟩ := hw
    refine mm_ald X M 28 rfl dX11_tell_18 hi ?_
    refine lv_goto (tgt := 23) X.1 X.2.1 dX11_tell_19 (by decide) ?_
    exact b_X11_tell_23 X hr hk σ1 a1 (ma σ1 28 (Int32.toNatClampNeg 0)) _ _ _ hw M (lv_sub hl [0, 1] rfl)

abbrev rm_X11_letter : Room := { frames := 0, cells := 0, slots := 0, locals := 0 }
def wp_X11_letter (σ : MSt) (a1 : Int32) (post : Int32 → MSt → Prop) : Prop :=
  ∀ σ1 : MSt, σ1 = smi σ 0 0 →
  (a1 < 0 →
   post (-1) σ1) ∧ (¬ a1 < 0 →
   ((mi σ1 54) ≤ a1 →
    post (-1) σ1) ∧ (¬ (mi σ1 54) ≤ a1 →
    vp_in a1 1000 ∧
    post (ma σ1 53 (Int32.toNatClampNeg a1)) σ1))
set_option maxRecDepth 100000 in
set_option maxHeartbeats 4000000 in
theorem c_X11_letter (l : Launch) (T : Tb) (B : Nat) (μ0 : Mem) (o : Nat) (A : Nat → Nat) (σ : MSt) (a1 : Int32) (post : Int32 → MSt → Prop) (hw : wp_X11_letter σ a1 post) : Met l yX11_letter (.code yX11_letter cX11_letter 2 (some .int) :: G) rm_X11_letter (Pm (WM T B μ0 o A) T B σ [.ref o, .int a1]) (va_Qi post (Bm (WM T B μ0 o A)) (Ai B)) 0 0 (Ai B) := by
  refine mx_of RX11 rfl (by decide) (Nat.le_of_ble_eq_true rfl) ?_
  intro p e s m below meth c0 X hr hk hnm M ls hl
  have hl : lv_has ls 2 [(0, .ref o), (1, .int a1)] := hl
  unfold wp_X11_letter at hw
  refine lv_aload_n X.1 X.2.1 dX11_letter_0 rfl (lv_at hl 0 rfl) ?_
  refine lv_iconst (v := 0) X.1 X.2.1 dX11_letter_1 (by decide) ?_
  refine mm_puti X M 0 (by decide) rfl kw_965 rfl dX11_letter_2 rfl rfl (fun σ1 H locs eσ1 M => ?_)
  replace hw := hw σ1 eσ1
  refine lv_iload_n X.1 X.2.1 dX11_letter_5 rfl (lv_at hl 1 rfl) ?_
  obtain ⟨hwt, hwf⟩ := hw
  refine lv_if_lt (tgt := 26) X.1 X.2.1 dX11_letter_6 (by decide) (fun hq => ?_) (fun hq => ?_)
  · have hw := hwt hq
    refine lv_iconst (v := (-1)) X.1 X.2.1 dX11_letter_26 (by decide) ?_
    exact mx_iret X hr hk M dX11_letter_27 (by decide) (by decide) hw
  · have hw := hwf hq
    refine lv_iload_n X.1 X.2.1 dX11_letter_9 rfl (lv_at hl 1 rfl) ?_
    refine lv_aload_n X.1 X.2.1 dX11_letter_10 rfl (lv_at hl 0 rfl) ?_
    refine mm_geti X M 54 (by decide) rfl kw_1019 dX11_letter_11 ?_
    obtain ⟨hwt, hwf⟩ := hw
    refine lv_icmp_ge (tgt := 26) X.1 X.2.1 dX11_letter_14 (by decide) (fun hq => ?_) (fun hq => ?_)
    · have hw := hwt hq
      refine lv_iconst (v := (-1)) X.1 X.2.1 dX11_letter_26 (by decide) ?_
      exact mx_iret X hr hk M dX11_letter_27 (by decide) (by decide) hw
    · have hw := hwf hq
      refine lv_aload_n X.1 X.2.1 dX11_letter_17 rfl (lv_at hl 0 rfl) ?_
      refine mm_geta X M 53 (by decide) rfl (by decide) kw_1018 dX11_letter_18 ?_
      refine lv_iload_n X.1 X.2.1 dX11_letter_21 rfl (lv_at hl 1 rfl) ?_
      obtain ⟨hi, hw⟩ := hw
      refine mm_ald X M 53 rfl dX11_letter_22 hi ?_
      refine lv_goto (tgt := 27) X.1 X.2.1 dX11_letter_23 (by decide) ?_
      exact mx_iret X hr hk M dX11_letter_27 (by decide) (by decide) hw

abbrev rm_X11_slot : Room := { frames := 1, cells := 0, slots := 0, locals := 22 }
def wp_X11_slot_20 (post : Int64 → MSt → Prop) (σ : MSt) (x1 : Int32) : Prop :=
  vp_in (mi σ 45) 7000 ∧
  vp_in (ma σ 28 (Int32.toNatClampNeg (mi σ 45))) 60 ∧
  wp_X11_isWithin σ x1 0 ((ma σ 5 (Int32.toNatClampNeg (ma σ 28 (Int32.toNatClampNeg (mi σ 45))))) - 1) (fun (r3 : Int32) (σ2 : MSt) =>
  (r3 = 0 →
   post (-1) σ2) ∧ (¬ r3 = 0 →
   wp_X11_get σ2 x1 (fun (r5 : Int64) (σ4 : MSt) =>
   wp_X11_isCell σ4 r5 (fun (r7 : Int32) (σ6 : MSt) =>
   (r7 = 0 →
    post r5 σ6) ∧ (¬ r7 = 0 →
    vp_in (Int64.toInt32 (r5 - 1099511627776)) 20100 ∧
    post ((1099511627776 : Int64) + (Int32.toInt64 (ma σ6 20 (Int32.toNatClampNeg (Int64.toInt32 (r5 - 1099511627776)))))) σ6)))))
def wp_X11_slot (σ : MSt) (a1 : Int32) (post : Int64 → MSt → Prop) : Prop :=
  ∀ σ1 : MSt, σ1 = smi σ 0 0 →
  ((mi σ1 44) = 0 →
   wp_X11_slot_20 post σ1 a1) ∧ (¬ (mi σ1 44) = 0 →
   ((mi σ1 44) = 1 →
    wp_X11_slot_20 post σ1 a1) ∧ (¬ (mi σ1 44) = 1 →
    post (-1) σ1))
set_option maxRecDepth 100000 in
set_option maxHeartbeats 4000000 in
theorem b_X11_slot_20 {T : Tb} {B : Nat} {p : Program} {l : Launch} {e : Env} {s : State} {m : MethodId} {args : Array Value} {below : List Frame} {meth : Method} {c0 : Code} {post : Int64 → MSt → Prop} {μ0 : Mem} {o : Nat} {A : Nat → Nat} (X : CX T B p m c0 cX11_slot 4 s args RX11) (hr : meth.sig.returnType = (some .long)) (hk : meth.locks = false) : ∀ (σ : MSt) (x1 : Int32) (H : Heap) (locs : List Loc) (ls : Array Slot), wp_X11_slot_20 post σ x1 → MG (WM T B μ0 o A) B s σ H locs → lv_has ls 4 [(0, .ref o), (1, .int x1)] → W p l e rm_X11_slot s m args below meth c0 H locs 0 0 (MQ below (va_Ql post (Bm (WM T B μ0 o A)) (Ai B)) args s 0 0 (Ai B)) (F0 m 20 ls []) := by
  intro σ x1 H locs ls hw M hl
  unfold wp_X11_slot_20 at hw
  refine lv_iload_n X.1 X.2.1 dX11_slot_20 rfl (lv_at hl 1 rfl) ?_
  refine lv_iconst (v := 0) X.1 X.2.1 dX11_slot_21 (by decide) ?_
  refine lv_aload_n X.1 X.2.1 dX11_slot_22 rfl (lv_at hl 0 rfl) ?_
  refine mm_geta X M 5 (by decide) rfl (by decide) kw_970 dX11_slot_23 ?_
  refine lv_aload_n X.1 X.2.1 dX11_slot_26 rfl (lv_at hl 0 rfl) ?_
  refine mm_geta X M 28 (by decide) rfl (by decide) kw_993 dX11_slot_27 ?_
  refine lv_aload_n X.1 X.2.1 dX11_slot_30 rfl (lv_at hl 0 rfl) ?_
  refine mm_geti X M 45 (by decide) rfl kw_1010 dX11_slot_31 ?_
  obtain ⟨hi, hw⟩ := hw
  refine mm_ald X M 28 rfl dX11_slot_34 hi ?_
  obtain ⟨hi, hw⟩ := hw
  refine mm_ald X M 5 rfl dX11_slot_35 hi ?_
  refine lv_iconst (v := 1) X.1 X.2.1 dX11_slot_36 (by decide) ?_
  refine lv_isub X.1 X.2.1 dX11_slot_37 ?_
  refine mx_ci M (mx_runS (n := 3) (As := [.int x1, .int 0, .int ((ma σ 5 (Int32.toNatClampNeg (ma σ 28 (Int32.toNatClampNeg (mi σ 45))))) - 1)]) (rest := []) X M (c_X11_isWithin l T B μ0 o A σ x1 0 ((ma σ 5 (Int32.toNatClampNeg (ma σ 28 (Int32.toNatClampNeg (mi σ 45))))) - 1) _ hw) kw_1160 kw_1161 kw_74 kw_1162 (by decide +kernel) rfl rfl ⟨Nat.le_of_ble_eq_true rfl, Nat.le_of_ble_eq_true rfl⟩ rfl hl.1 (Nat.le_of_ble_eq_true rfl) dX11_slot_38 ⟨by decide, by decide⟩) (fun r3 σ2 H locs hw M => ?_)
  obtain ⟨hwf, hwt⟩ := hw
  refine lv_if_ne (tgt := 48) X.1 X.2.1 dX11_slot_41 (by decide) (fun hq => ?_) (fun hq => ?_)
  · have hw := hwt hq
    refine lv_aload_n X.1 X.2.1 dX11_slot_48 rfl (lv_at hl 0 rfl) ?_
    refine lv_iload_n X.1 X.2.1 dX11_slot_49 rfl (lv_at hl 1 rfl) ?_
    refine mx_cl M (mx_runV (n := 1) (As := [.int x1]) (rest := []) X M (c_X11_get l T B μ0 o A σ2 x1 _ hw) (mm_recv X M) kw_1230 kw_1232 kw_44 kw_74 kw_1233 (by decide +kernel) rfl rfl ⟨Nat.le_of_ble_eq_true rfl, Nat.le_of_ble_eq_true rfl⟩ rfl hl.1 (Nat.le_of_ble_eq_true rfl) dX11_slot_50 ⟨by decide, by decide⟩) (fun r5 σ4 H locs hw M => ?_)
    refine lv_lstore_n (lv' := [(2, .long r5), (0, .ref o), (1, .int x1)]) X.1 X.2.1 dX11_slot_53 rfl hl (by decide) rfl (fun ls hl => ?_)
    refine lv_lload_n X.1 X.2.1 dX11_slot_54 rfl (lv_at hl 0 rfl) ?_
    refine mx_ci M (mx_runS (n := 1) (As := [.long r5]) (rest := []) X M (c_X11_isCell l T B μ0 o A σ4 r5 _ hw) kw_1243 kw_1244 kw_74 kw_1245 (by decide +kernel) rfl rfl ⟨Nat.le_of_ble_eq_true rfl, Nat.le_of_ble_eq_true rfl⟩ rfl hl.1 (Nat.le_of_ble_eq_true rfl) dX11_slot_55 ⟨by decide, by decide⟩) (fun r7 σ6 H locs hw M => ?_)
    obtain ⟨hwt, hwf⟩ := hw
    refine lv_if_eq (tgt := 80) X.1 X.2.1 dX11_slot_58 (by decide) (fun hq => ?_) (fun hq => ?_)
    · have hw := hwt hq
      refine lv_lload_n X.1 X.2.1 dX11_slot_80 rfl (lv_at hl 0 rfl) ?_
      exact mx_lret X hr hk M dX11_slot_81 (by decide) (by decide) hw
    · have hw := hwf hq
      refine lv_ldc2 (v := 1099511627776) X.1 X.2.1 X.2.2.2.1 (X.2.2.2.2.1 _ kw_1238) dX11_slot_61 ?_
      refine lv_aload_n X.1 X.2.1 dX11_slot_64 rfl (lv_at hl 1 rfl) ?_
      refine mm_geta X M 20 (by decide) rfl (by decide) kw_985 dX11_slot_65 ?_
      refine lv_lload_n X.1 X.2.1 dX11_slot_68 rfl (lv_at hl 0 rfl) ?_
      refine lv_ldc2 (v := 1099511627776) X.1 X.2.1 X.2.2.2.1 (X.2.2.2.2.1 _ kw_1238) dX11_slot_69 ?_
      refine lv_lsub X.1 X.2.1 dX11_slot_72 ?_
      refine lv_l2i X.1 X.2.1 dX11_slot_73 rfl ?_
      obtain ⟨hi, hw⟩ := hw
      refine mm_ald X M 20 rfl dX11_slot_74 hi ?_
      refine lv_i2l X.1 X.2.1 dX11_slot_75 rfl ?_
      refine lv_ladd X.1 X.2.1 dX11_slot_76 ?_
      refine lv_goto (tgt := 81) X.1 X.2.1 dX11_slot_77 (by decide) ?_
      exact mx_lret X hr hk M dX11_slot_81 (by decide) (by decide) hw
  · have hw := hwf hq
    refine lv_ldc2 (v := (-1)) X.1 X.2.1 X.2.2.2.1 (X.2.2.2.2.1 _ kw_1337) dX11_slot_44 ?_
    exact mx_lret X hr hk M dX11_slot_47 (by decide) (by decide) hw
set_option maxRecDepth 100000 in
set_option maxHeartbeats 4000000 in
theorem c_X11_slot (l : Launch) (T : Tb) (B : Nat) (μ0 : Mem) (o : Nat) (A : Nat → Nat) (σ : MSt) (a1 : Int32) (post : Int64 → MSt → Prop) (hw : wp_X11_slot σ a1 post) : Met l yX11_slot (.code yX11_slot cX11_slot 4 (some .long) :: G) rm_X11_slot (Pm (WM T B μ0 o A) T B σ [.ref o, .int a1]) (va_Ql post (Bm (WM T B μ0 o A)) (Ai B)) 0 0 (Ai B) := by
  refine mx_of RX11 rfl (by decide) (Nat.le_of_ble_eq_true rfl) ?_
  intro p e s m below meth c0 X hr hk hnm M ls hl
  have hl : lv_has ls 4 [(0, .ref o), (1, .int a1)] := hl
  unfold wp_X11_slot at hw
  refine lv_aload_n X.1 X.2.1 dX11_slot_0 rfl (lv_at hl 0 rfl) ?_
  refine lv_iconst (v := 0) X.1 X.2.1 dX11_slot_1 (by decide) ?_
  refine mm_puti X M 0 (by decide) rfl kw_965 rfl dX11_slot_2 rfl rfl (fun σ1 H locs eσ1 M => ?_)
  replace hw := hw σ1 eσ1
  refine lv_aload_n X.1 X.2.1 dX11_slot_5 rfl (lv_at hl 0 rfl) ?_
  refine mm_geti X M 44 (by decide) rfl kw_1009 dX11_slot_6 ?_
  obtain ⟨hwt, hwf⟩ := hw
  refine lv_if_eq (tgt := 20) X.1 X.2.1 dX11_slot_9 (by decide) (fun hq => ?_) (fun hq => ?_)
  · have hw := hwt hq
    exact b_X11_slot_20 X hr hk σ1 a1 _ _ _ hw M (lv_sub hl [0, 1] rfl)
  · have hw := hwf hq
    refine lv_aload_n X.1 X.2.1 dX11_slot_12 rfl (lv_at hl 0 rfl) ?_
    refine mm_geti X M 44 (by decide) rfl kw_1009 dX11_slot_13 ?_
    refine lv_iconst (v := 1) X.1 X.2.1 dX11_slot_16 (by decide) ?_
    obtain ⟨hwf, hwt⟩ := hw
    refine lv_icmp_ne (tgt := 44) X.1 X.2.1 dX11_slot_17 (by decide) (fun hq => ?_) (fun hq => ?_)
    · have hw := hwt hq
      refine lv_ldc2 (v := (-1)) X.1 X.2.1 X.2.2.2.1 (X.2.2.2.2.1 _ kw_1337) dX11_slot_44 ?_
      exact mx_lret X hr hk M dX11_slot_47 (by decide) (by decide) hw
    · have hw := hwf hq
      exact b_X11_slot_20 X hr hk σ1 a1 _ _ _ hw M (lv_sub hl [0, 1] rfl)
