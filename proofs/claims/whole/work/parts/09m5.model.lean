abbrev rm_X11_begin : Room := { frames := 2, cells := 0, slots := 0, locals := 47 }
def wp_X11_begin_164 (post : Int32 → MSt → Prop) : Nat → MSt → Int32 → Int32 → Prop
  | 0, _, _, _ => False
  | n + 1, σ, x4, x6 =>
    (x4 ≤ x6 →
     ∀ σ21 : MSt, σ21 = smi σ 45 0 →
     post 1 σ21) ∧ (¬ x4 ≤ x6 →
     vp_in x6 10 ∧
     vp_in x6 20100 ∧ ∀ σ22 : MSt, σ22 = sml σ 39 (Int32.toNatClampNeg x6) (Int32.toInt64 (ma σ 1 (Int32.toNatClampNeg x6))) →
     ∀ v23 : Int32, v23 = x6 + 1 →
     wp_X11_begin_164 post n σ22 x4 v23)
def wp_X11_begin_75 (post : Int32 → MSt → Prop) (σ : MSt) (x1 : Int32) (x2 : Int32) (x3 : Int32) (x4 : Int32) (t0 : Int32) : Prop :=
  (t0 = 0 →
   post 0 σ) ∧ (¬ t0 = 0 →
   ∀ σ6 : MSt, σ6 = smi σ 26 0 →
   ∀ σ7 : MSt, σ7 = smi σ6 40 0 →
   ∀ σ8 : MSt, σ8 = smi σ7 41 0 →
   ∀ σ9 : MSt, σ9 = smi σ8 19 0 →
   ∀ σ10 : MSt, σ10 = smi σ9 24 0 →
   ∀ σ11 : MSt, σ11 = smi σ10 25 0 →
   ∀ σ12 : MSt, σ12 = smi σ11 49 0 →
   ∀ σ13 : MSt, σ13 = smi σ12 47 0 →
   ∀ σ14 : MSt, σ14 = smi σ13 48 0 →
   ∀ σ15 : MSt, σ15 = smi σ14 46 0 →
   ∀ σ16 : MSt, σ16 = smi σ15 50 0 →
   ∀ σ17 : MSt, σ17 = smi σ16 44 0 →
   ∀ σ18 : MSt, σ18 = smi σ17 51 x2 →
   ∀ σ19 : MSt, σ19 = smi σ18 52 x3 →
   wp_X11_pushFrame σ19 x1 (-1) (-1) (fun (σ20 : MSt) =>
   ∃ n24, wp_X11_begin_164 post n24 σ20 x4 0))
def wp_X11_begin (σ : MSt) (a1 : Int32) (a2 : Int32) (a3 : Int32) (post : Int32 → MSt → Prop) : Prop :=
  ∀ σ1 : MSt, σ1 = smi σ 0 0 →
  wp_X11_taken σ1 (fun (r3 : Int32) (σ2 : MSt) =>
  wp_X11_isWithin σ2 a1 0 ((mi σ2 3) - 1) (fun (r5 : Int32) (σ4 : MSt) =>
  (r5 = 0 →
   wp_X11_begin_75 post σ4 a1 a2 a3 r3 0) ∧ (¬ r5 = 0 →
   vp_in a1 60 ∧
   (r3 = (ma σ4 6 (Int32.toNatClampNeg a1)) →
    wp_X11_isWithin σ4 a2 0 20000 (fun (r26 : Int32) (σ25 : MSt) =>
    (r26 = 0 →
     wp_X11_begin_75 post σ25 a1 a2 a3 r3 0) ∧ (¬ r26 = 0 →
     wp_X11_isWithin σ25 a3 0 20000 (fun (r28 : Int32) (σ27 : MSt) =>
     (r28 = 0 →
      wp_X11_begin_75 post σ27 a1 a2 a3 r3 0) ∧ (¬ r28 = 0 →
      vp_in a1 60 ∧
      (a2 < ((2 : Int32) + (ma σ27 5 (Int32.toNatClampNeg a1))) →
       wp_X11_begin_75 post σ27 a1 a2 a3 r3 0) ∧ (¬ a2 < ((2 : Int32) + (ma σ27 5 (Int32.toNatClampNeg a1))) →
       wp_X11_begin_75 post σ27 a1 a2 a3 r3 1)))))) ∧ (¬ r3 = (ma σ4 6 (Int32.toNatClampNeg a1)) →
    wp_X11_begin_75 post σ4 a1 a2 a3 r3 0))))
set_option maxRecDepth 100000 in
set_option maxHeartbeats 4000000 in
theorem b_X11_begin_164 {T : Tb} {B : Nat} {p : Program} {l : Launch} {e : Env} {s : State} {m : MethodId} {args : Array Value} {below : List Frame} {meth : Method} {c0 : Code} {post : Int32 → MSt → Prop} {μ0 : Mem} {o : Nat} {A : Nat → Nat} (X : CX T B p m c0 cX11_begin 7 s args RX11) (hr : meth.sig.returnType = (some .boolean)) (hk : meth.locks = false) : ∀ (n : Nat) (σ : MSt) (x4 : Int32) (x6 : Int32) (H : Heap) (locs : List Loc) (ls : Array Slot), wp_X11_begin_164 post n σ x4 x6 → MG (WM T B μ0 o A) B s σ H locs → lv_has ls 7 [(0, .ref o), (4, .int x4), (6, .int x6)] → W p l e rm_X11_begin s m args below meth c0 H locs 0 0 (MQ below (va_Qi post (Bm (WM T B μ0 o A)) (Ai B)) args s 0 0 (Ai B)) (F0 m 164 ls []) := by
  intro n
  induction n with
  | zero =>
    intro σ x4 x6 H locs ls hw
    exact hw.elim
  | succ n ih =>
    intro σ x4 x6 H locs ls hw M hl
    rw [wp_X11_begin_164] at hw
    refine lv_iload X.1 X.2.1 dX11_begin_164 (lv_at hl 2 rfl) ?_
    refine lv_iload X.1 X.2.1 dX11_begin_166 (lv_at hl 1 rfl) ?_
    obtain ⟨hwt, hwf⟩ := hw
    refine lv_icmp_ge (tgt := 192) X.1 X.2.1 dX11_begin_168 (by decide) (fun hq => ?_) (fun hq => ?_)
    · have hw := hwt hq
      refine lv_aload_n X.1 X.2.1 dX11_begin_192 rfl (lv_at hl 0 rfl) ?_
      refine lv_iconst (v := 0) X.1 X.2.1 dX11_begin_193 (by decide) ?_
      refine mm_puti X M 45 (by decide) rfl kw_1010 rfl dX11_begin_194 rfl rfl (fun σ21 H locs eσ21 M => ?_)
      replace hw := hw σ21 eσ21
      refine lv_iconst (v := 1) X.1 X.2.1 dX11_begin_197 (by decide) ?_
      exact mx_zret X hr hk M dX11_begin_198 (by decide) (by decide) (by decide) hw
    · have hw := hwf hq
      refine lv_aload_n X.1 X.2.1 dX11_begin_171 rfl (lv_at hl 0 rfl) ?_
      refine mm_geta X M 39 (by decide) rfl (by decide) kw_1004 dX11_begin_172 ?_
      refine lv_iload X.1 X.2.1 dX11_begin_175 (lv_at hl 2 rfl) ?_
      refine lv_aload_n X.1 X.2.1 dX11_begin_177 rfl (lv_at hl 0 rfl) ?_
      refine mm_geta X M 1 (by decide) rfl (by decide) kw_966 dX11_begin_178 ?_
      refine lv_iload X.1 X.2.1 dX11_begin_181 (lv_at hl 2 rfl) ?_
      obtain ⟨hi, hw⟩ := hw
      refine mm_ald X M 1 rfl dX11_begin_183 hi ?_
      refine lv_i2l X.1 X.2.1 dX11_begin_184 rfl ?_
      obtain ⟨hi, hw⟩ := hw
      refine mm_jst X M 39 rfl dX11_begin_185 hi (fun σ22 H locs eσ22 M => ?_)
      replace hw := hw σ22 eσ22
      obtain ⟨v23, ev23⟩ : ∃ y : Int32, y = x6 + 1 := ⟨_, rfl⟩
      replace hw := hw v23 ev23
      refine lv_iinc (v := v23) (lv' := [(6, .int v23), (0, .ref o), (4, .int x4)]) X.1 X.2.1 dX11_begin_186 hl (k := 2) rfl (by rw [ev23]; rfl) (by decide) rfl (fun ls hl => ?_)
      refine lv_goto (tgt := 164) X.1 X.2.1 dX11_begin_189 (by decide) ?_
      exact ih σ22 x4 v23 _ _ _ hw M (lv_sub hl [1, 2, 0] rfl)
set_option maxRecDepth 100000 in
set_option maxHeartbeats 4000000 in
theorem b_X11_begin_75 {T : Tb} {B : Nat} {p : Program} {l : Launch} {e : Env} {s : State} {m : MethodId} {args : Array Value} {below : List Frame} {meth : Method} {c0 : Code} {post : Int32 → MSt → Prop} {μ0 : Mem} {o : Nat} {A : Nat → Nat} (X : CX T B p m c0 cX11_begin 7 s args RX11) (hr : meth.sig.returnType = (some .boolean)) (hk : meth.locks = false) : ∀ (σ : MSt) (x1 : Int32) (x2 : Int32) (x3 : Int32) (x4 : Int32) (t0 : Int32) (H : Heap) (locs : List Loc) (ls : Array Slot), wp_X11_begin_75 post σ x1 x2 x3 x4 t0 → MG (WM T B μ0 o A) B s σ H locs → lv_has ls 7 [(0, .ref o), (1, .int x1), (2, .int x2), (3, .int x3), (4, .int x4)] → W p l e rm_X11_begin s m args below meth c0 H locs 0 0 (MQ below (va_Qi post (Bm (WM T B μ0 o A)) (Ai B)) args s 0 0 (Ai B)) (F0 m 75 ls [.int t0]) := by
  intro σ x1 x2 x3 x4 t0 H locs ls hw M hl
  unfold wp_X11_begin_75 at hw
  refine lv_istore (lv' := [(5, .int t0), (0, .ref o), (1, .int x1), (2, .int x2), (3, .int x3), (4, .int x4)]) X.1 X.2.1 dX11_begin_75 hl (by decide) rfl (fun ls hl => ?_)
  refine lv_iload X.1 X.2.1 dX11_begin_77 (lv_at hl 0 rfl) ?_
  obtain ⟨hwf, hwt⟩ := hw
  refine lv_if_ne (tgt := 84) X.1 X.2.1 dX11_begin_79 (by decide) (fun hq => ?_) (fun hq => ?_)
  · have hw := hwt hq
    refine lv_aload_n X.1 X.2.1 dX11_begin_84 rfl (lv_at hl 1 rfl) ?_
    refine lv_iconst (v := 0) X.1 X.2.1 dX11_begin_85 (by decide) ?_
    refine mm_puti X M 26 (by decide) rfl kw_991 rfl dX11_begin_86 rfl rfl (fun σ6 H locs eσ6 M => ?_)
    replace hw := hw σ6 eσ6
    refine lv_aload_n X.1 X.2.1 dX11_begin_89 rfl (lv_at hl 1 rfl) ?_
    refine lv_iconst (v := 0) X.1 X.2.1 dX11_begin_90 (by decide) ?_
    refine mm_puti X M 40 (by decide) rfl kw_1005 rfl dX11_begin_91 rfl rfl (fun σ7 H locs eσ7 M => ?_)
    replace hw := hw σ7 eσ7
    refine lv_aload_n X.1 X.2.1 dX11_begin_94 rfl (lv_at hl 1 rfl) ?_
    refine lv_iconst (v := 0) X.1 X.2.1 dX11_begin_95 (by decide) ?_
    refine mm_puti X M 41 (by decide) rfl kw_1006 rfl dX11_begin_96 rfl rfl (fun σ8 H locs eσ8 M => ?_)
    replace hw := hw σ8 eσ8
    refine lv_aload_n X.1 X.2.1 dX11_begin_99 rfl (lv_at hl 1 rfl) ?_
    refine lv_iconst (v := 0) X.1 X.2.1 dX11_begin_100 (by decide) ?_
    refine mm_puti X M 19 (by decide) rfl kw_984 rfl dX11_begin_101 rfl rfl (fun σ9 H locs eσ9 M => ?_)
    replace hw := hw σ9 eσ9
    refine lv_aload_n X.1 X.2.1 dX11_begin_104 rfl (lv_at hl 1 rfl) ?_
    refine lv_iconst (v := 0) X.1 X.2.1 dX11_begin_105 (by decide) ?_
    refine mm_puti X M 24 (by decide) rfl kw_989 rfl dX11_begin_106 rfl rfl (fun σ10 H locs eσ10 M => ?_)
    replace hw := hw σ10 eσ10
    refine lv_aload_n X.1 X.2.1 dX11_begin_109 rfl (lv_at hl 1 rfl) ?_
    refine lv_iconst (v := 0) X.1 X.2.1 dX11_begin_110 (by decide) ?_
    refine mm_puti X M 25 (by decide) rfl kw_990 rfl dX11_begin_111 rfl rfl (fun σ11 H locs eσ11 M => ?_)
    replace hw := hw σ11 eσ11
    refine lv_aload_n X.1 X.2.1 dX11_begin_114 rfl (lv_at hl 1 rfl) ?_
    refine lv_iconst (v := 0) X.1 X.2.1 dX11_begin_115 (by decide) ?_
    refine mm_puti X M 49 (by decide) rfl kw_1014 rfl dX11_begin_116 rfl rfl (fun σ12 H locs eσ12 M => ?_)
    replace hw := hw σ12 eσ12
    refine lv_aload_n X.1 X.2.1 dX11_begin_119 rfl (lv_at hl 1 rfl) ?_
    refine lv_iconst (v := 0) X.1 X.2.1 dX11_begin_120 (by decide) ?_
    refine mm_puti X M 47 (by decide) rfl kw_1012 rfl dX11_begin_121 rfl rfl (fun σ13 H locs eσ13 M => ?_)
    replace hw := hw σ13 eσ13
    refine lv_aload_n X.1 X.2.1 dX11_begin_124 rfl (lv_at hl 1 rfl) ?_
    refine lv_iconst (v := 0) X.1 X.2.1 dX11_begin_125 (by decide) ?_
    refine mm_puti X M 48 (by decide) rfl kw_1013 rfl dX11_begin_126 rfl rfl (fun σ14 H locs eσ14 M => ?_)
    replace hw := hw σ14 eσ14
    refine lv_aload_n X.1 X.2.1 dX11_begin_129 rfl (lv_at hl 1 rfl) ?_
    refine lv_iconst (v := 0) X.1 X.2.1 dX11_begin_130 (by decide) ?_
    refine mm_puti X M 46 (by decide) rfl kw_1011 rfl dX11_begin_131 rfl rfl (fun σ15 H locs eσ15 M => ?_)
    replace hw := hw σ15 eσ15
    refine lv_aload_n X.1 X.2.1 dX11_begin_134 rfl (lv_at hl 1 rfl) ?_
    refine lv_iconst (v := 0) X.1 X.2.1 dX11_begin_135 (by decide) ?_
    refine mm_puti X M 50 (by decide) rfl kw_1015 rfl dX11_begin_136 rfl rfl (fun σ16 H locs eσ16 M => ?_)
    replace hw := hw σ16 eσ16
    refine lv_aload_n X.1 X.2.1 dX11_begin_139 rfl (lv_at hl 1 rfl) ?_
    refine lv_iconst (v := 0) X.1 X.2.1 dX11_begin_140 (by decide) ?_
    refine mm_puti X M 44 (by decide) rfl kw_1009 rfl dX11_begin_141 rfl rfl (fun σ17 H locs eσ17 M => ?_)
    replace hw := hw σ17 eσ17
    refine lv_aload_n X.1 X.2.1 dX11_begin_144 rfl (lv_at hl 1 rfl) ?_
    refine lv_iload_n X.1 X.2.1 dX11_begin_145 rfl (lv_at hl 3 rfl) ?_
    refine mm_puti X M 51 (by decide) rfl kw_1016 rfl dX11_begin_146 rfl rfl (fun σ18 H locs eσ18 M => ?_)
    replace hw := hw σ18 eσ18
    refine lv_aload_n X.1 X.2.1 dX11_begin_149 rfl (lv_at hl 1 rfl) ?_
    refine lv_iload_n X.1 X.2.1 dX11_begin_150 rfl (lv_at hl 4 rfl) ?_
    refine mm_puti X M 52 (by decide) rfl kw_1017 rfl dX11_begin_151 rfl rfl (fun σ19 H locs eσ19 M => ?_)
    replace hw := hw σ19 eσ19
    refine lv_aload_n X.1 X.2.1 dX11_begin_154 rfl (lv_at hl 1 rfl) ?_
    refine lv_iload_n X.1 X.2.1 dX11_begin_155 rfl (lv_at hl 2 rfl) ?_
    refine lv_iconst (v := (-1)) X.1 X.2.1 dX11_begin_156 (by decide) ?_
    refine lv_iconst (v := (-1)) X.1 X.2.1 dX11_begin_157 (by decide) ?_
    refine mx_cv M (mx_runV (n := 3) (As := [.int x1, .int (-1), .int (-1)]) (rest := []) X M (c_X11_pushFrame l T B μ0 o A σ19 x1 (-1) (-1) _ hw) (mm_recv X M) kw_1186 kw_1188 kw_34 kw_74 kw_1189 (by decide +kernel) rfl rfl ⟨Nat.le_of_ble_eq_true rfl, Nat.le_of_ble_eq_true rfl⟩ rfl hl.1 (Nat.le_of_ble_eq_true rfl) dX11_begin_158 ⟨by decide, by decide⟩) (fun σ20 H locs hw M => ?_)
    refine lv_iconst (v := 0) X.1 X.2.1 dX11_begin_161 (by decide) ?_
    refine lv_istore (lv' := [(6, .int 0), (5, .int t0), (0, .ref o), (1, .int x1), (2, .int x2), (3, .int x3), (4, .int x4)]) X.1 X.2.1 dX11_begin_162 hl (by decide) rfl (fun ls hl => ?_)
    obtain ⟨n24, hw⟩ := hw
    exact b_X11_begin_164 X hr hk n24 σ20 x4 0 _ _ _ hw M (lv_sub hl [2, 6, 0] rfl)
  · have hw := hwf hq
    refine lv_iconst (v := 0) X.1 X.2.1 dX11_begin_82 (by decide) ?_
    exact mx_zret X hr hk M dX11_begin_83 (by decide) (by decide) (by decide) hw
set_option maxRecDepth 100000 in
set_option maxHeartbeats 4000000 in
theorem c_X11_begin (l : Launch) (T : Tb) (B : Nat) (μ0 : Mem) (o : Nat) (A : Nat → Nat) (σ : MSt) (a1 : Int32) (a2 : Int32) (a3 : Int32) (post : Int32 → MSt → Prop) (hw : wp_X11_begin σ a1 a2 a3 post) : Met l yX11_begin (.code yX11_begin cX11_begin 7 (some .boolean) :: G) rm_X11_begin (Pm (WM T B μ0 o A) T B σ [.ref o, .int a1, .int a2, .int a3]) (va_Qi post (Bm (WM T B μ0 o A)) (Ai B)) 0 0 (Ai B) := by
  refine mx_of RX11 rfl (by decide) (Nat.le_of_ble_eq_true rfl) ?_
  intro p e s m below meth c0 X hr hk hnm M ls hl
  have hl : lv_has ls 7 [(0, .ref o), (1, .int a1), (2, .int a2), (3, .int a3)] := hl
  unfold wp_X11_begin at hw
  refine lv_aload_n X.1 X.2.1 dX11_begin_0 rfl (lv_at hl 0 rfl) ?_
  refine lv_iconst (v := 0) X.1 X.2.1 dX11_begin_1 (by decide) ?_
  refine mm_puti X M 0 (by decide) rfl kw_965 rfl dX11_begin_2 rfl rfl (fun σ1 H locs eσ1 M => ?_)
  replace hw := hw σ1 eσ1
  refine lv_aload_n X.1 X.2.1 dX11_begin_5 rfl (lv_at hl 0 rfl) ?_
  refine mx_ci M (mx_runV (n := 0) (As := []) (rest := []) X M (c_X11_taken l T B μ0 o A σ1 _ hw) (mm_recv X M) kw_1156 kw_1158 kw_30 kw_74 kw_1159 (by decide +kernel) rfl rfl ⟨Nat.le_of_ble_eq_true rfl, Nat.le_of_ble_eq_true rfl⟩ rfl hl.1 (Nat.le_of_ble_eq_true rfl) dX11_begin_6 ⟨by decide, by decide⟩) (fun r3 σ2 H locs hw M => ?_)
  refine lv_istore (lv' := [(4, .int r3), (0, .ref o), (1, .int a1), (2, .int a2), (3, .int a3)]) X.1 X.2.1 dX11_begin_9 hl (by decide) rfl (fun ls hl => ?_)
  refine lv_iload_n X.1 X.2.1 dX11_begin_11 rfl (lv_at hl 2 rfl) ?_
  refine lv_iconst (v := 0) X.1 X.2.1 dX11_begin_12 (by decide) ?_
  refine lv_aload_n X.1 X.2.1 dX11_begin_13 rfl (lv_at hl 1 rfl) ?_
  refine mm_geti X M 3 (by decide) rfl kw_968 dX11_begin_14 ?_
  refine lv_iconst (v := 1) X.1 X.2.1 dX11_begin_17 (by decide) ?_
  refine lv_isub X.1 X.2.1 dX11_begin_18 ?_
  refine mx_ci M (mx_runS (n := 3) (As := [.int a1, .int 0, .int ((mi σ2 3) - 1)]) (rest := []) X M (c_X11_isWithin l T B μ0 o A σ2 a1 0 ((mi σ2 3) - 1) _ hw) kw_1160 kw_1161 kw_74 kw_1162 (by decide +kernel) rfl rfl ⟨Nat.le_of_ble_eq_true rfl, Nat.le_of_ble_eq_true rfl⟩ rfl hl.1 (Nat.le_of_ble_eq_true rfl) dX11_begin_19 ⟨by decide, by decide⟩) (fun r5 σ4 H locs hw M => ?_)
  obtain ⟨hwt, hwf⟩ := hw
  refine lv_if_eq (tgt := 74) X.1 X.2.1 dX11_begin_22 (by decide) (fun hq => ?_) (fun hq => ?_)
  · have hw := hwt hq
    refine lv_iconst (v := 0) X.1 X.2.1 dX11_begin_74 (by decide) ?_
    exact b_X11_begin_75 X hr hk σ4 a1 a2 a3 r3 0 _ _ _ hw M (lv_sub hl [1, 2, 3, 4, 0] rfl)
  · have hw := hwf hq
    refine lv_iload X.1 X.2.1 dX11_begin_25 (lv_at hl 0 rfl) ?_
    refine lv_aload_n X.1 X.2.1 dX11_begin_27 rfl (lv_at hl 1 rfl) ?_
    refine mm_geta X M 6 (by decide) rfl (by decide) kw_971 dX11_begin_28 ?_
    refine lv_iload_n X.1 X.2.1 dX11_begin_31 rfl (lv_at hl 2 rfl) ?_
    obtain ⟨hi, hw⟩ := hw
    refine mm_ald X M 6 rfl dX11_begin_32 hi ?_
    obtain ⟨hwf, hwt⟩ := hw
    refine lv_icmp_ne (tgt := 74) X.1 X.2.1 dX11_begin_33 (by decide) (fun hq => ?_) (fun hq => ?_)
    · have hw := hwt hq
      refine lv_iconst (v := 0) X.1 X.2.1 dX11_begin_74 (by decide) ?_
      exact b_X11_begin_75 X hr hk σ4 a1 a2 a3 r3 0 _ _ _ hw M (lv_sub hl [1, 2, 3, 4, 0] rfl)
    · have hw := hwf hq
      refine lv_iload_n X.1 X.2.1 dX11_begin_36 rfl (lv_at hl 3 rfl) ?_
      refine lv_iconst (v := 0) X.1 X.2.1 dX11_begin_37 (by decide) ?_
      refine lv_sipush (v := 20000) X.1 X.2.1 dX11_begin_38 (by decide) ?_
      refine mx_ci M (mx_runS (n := 3) (As := [.int a2, .int 0, .int 20000]) (rest := []) X M (c_X11_isWithin l T B μ0 o A σ4 a2 0 20000 _ hw) kw_1160 kw_1161 kw_74 kw_1162 (by decide +kernel) rfl rfl ⟨Nat.le_of_ble_eq_true rfl, Nat.le_of_ble_eq_true rfl⟩ rfl hl.1 (Nat.le_of_ble_eq_true rfl) dX11_begin_41 ⟨by decide, by decide⟩) (fun r26 σ25 H locs hw M => ?_)
      obtain ⟨hwt, hwf⟩ := hw
      refine lv_if_eq (tgt := 74) X.1 X.2.1 dX11_begin_44 (by decide) (fun hq => ?_) (fun hq => ?_)
      · have hw := hwt hq
        refine lv_iconst (v := 0) X.1 X.2.1 dX11_begin_74 (by decide) ?_
        exact b_X11_begin_75 X hr hk σ25 a1 a2 a3 r3 0 _ _ _ hw M (lv_sub hl [1, 2, 3, 4, 0] rfl)
      · have hw := hwf hq
        refine lv_iload_n X.1 X.2.1 dX11_begin_47 rfl (lv_at hl 4 rfl) ?_
        refine lv_iconst (v := 0) X.1 X.2.1 dX11_begin_48 (by decide) ?_
        refine lv_sipush (v := 20000) X.1 X.2.1 dX11_begin_49 (by decide) ?_
        refine mx_ci M (mx_runS (n := 3) (As := [.int a3, .int 0, .int 20000]) (rest := []) X M (c_X11_isWithin l T B μ0 o A σ25 a3 0 20000 _ hw) kw_1160 kw_1161 kw_74 kw_1162 (by decide +kernel) rfl rfl ⟨Nat.le_of_ble_eq_true rfl, Nat.le_of_ble_eq_true rfl⟩ rfl hl.1 (Nat.le_of_ble_eq_true rfl) dX11_begin_52 ⟨by decide, by decide⟩) (fun r28 σ27 H locs hw M => ?_)
        obtain ⟨hwt, hwf⟩ := hw
        refine lv_if_eq (tgt := 74) X.1 X.2.1 dX11_begin_55 (by decide) (fun hq => ?_) (fun hq => ?_)
        · have hw := hwt hq
          refine lv_iconst (v := 0) X.1 X.2.1 dX11_begin_74 (by decide) ?_
          exact b_X11_begin_75 X hr hk σ27 a1 a2 a3 r3 0 _ _ _ hw M (lv_sub hl [1, 2, 3, 4, 0] rfl)
        · have hw := hwf hq
          refine lv_iconst (v := 2) X.1 X.2.1 dX11_begin_58 (by decide) ?_
          refine lv_aload_n X.1 X.2.1 dX11_begin_59 rfl (lv_at hl 1 rfl) ?_
          refine mm_geta X M 5 (by decide) rfl (by decide) kw_970 dX11_begin_60 ?_
          refine lv_iload_n X.1 X.2.1 dX11_begin_63 rfl (lv_at hl 2 rfl) ?_
          obtain ⟨hi, hw⟩ := hw
          refine mm_ald X M 5 rfl dX11_begin_64 hi ?_
          refine lv_iadd X.1 X.2.1 dX11_begin_65 ?_
          refine lv_iload_n X.1 X.2.1 dX11_begin_66 rfl (lv_at hl 3 rfl) ?_
          obtain ⟨hwt, hwf⟩ := hw
          refine lv_icmp_gt (tgt := 74) X.1 X.2.1 dX11_begin_67 (by decide) (fun hq => ?_) (fun hq => ?_)
          · have hw := hwt hq
            refine lv_iconst (v := 0) X.1 X.2.1 dX11_begin_74 (by decide) ?_
            exact b_X11_begin_75 X hr hk σ27 a1 a2 a3 r3 0 _ _ _ hw M (lv_sub hl [1, 2, 3, 4, 0] rfl)
          · have hw := hwf hq
            refine lv_iconst (v := 1) X.1 X.2.1 dX11_begin_70 (by decide) ?_
            refine lv_goto (tgt := 75) X.1 X.2.1 dX11_begin_71 (by decide) ?_
            exact b_X11_begin_75 X hr hk σ27 a1 a2 a3 r3 1 _ _ _ hw M (lv_sub hl [1, 2, 3, 4, 0] rfl)

abbrev rm_X11_run : Room := { frames := 6, cells := 0, slots := 0, locals := 136 }
def wp_X11_run_49 (post : Int32 → MSt → Prop) : Nat → MSt → Int32 → Int32 → Prop
  | 0, _, _, _ => False
  | n + 1, σ, x1, x2 =>
    (x1 ≤ x2 →
     post (mi σ 44) σ) ∧ (¬ x1 ≤ x2 →
     ((mi σ 44) = 0 →
      ((mi σ 46) = 20000 →
       ∀ σ4 : MSt, σ4 = smi σ 44 3 →
       ∀ v5 : Int32, v5 = x2 + 1 →
       wp_X11_run_49 post n σ4 x1 v5) ∧ (¬ (mi σ 46) = 20000 →
       wp_X11_step σ (fun (σ2 : MSt) =>
       ∀ v3 : Int32, v3 = x2 + 1 →
       wp_X11_run_49 post n σ2 x1 v3))) ∧ (¬ (mi σ 44) = 0 →
      post (mi σ 44) σ))
def wp_X11_run (σ : MSt) (a1 : Int32) (post : Int32 → MSt → Prop) : Prop :=
  ∀ σ1 : MSt, σ1 = smi σ 0 0 →
  (a1 < 1 →
   post (mi σ1 44) σ1) ∧ (¬ a1 < 1 →
   ((mi σ1 44) = 0 →
    ((mi σ1 44) = 1 →
     ∀ σ7 : MSt, σ7 = smi σ1 44 0 →
     wp_X11_fail σ7 (fun (σ8 : MSt) =>
     ∃ n9, wp_X11_run_49 post n9 σ8 a1 0)) ∧ (¬ (mi σ1 44) = 1 →
     ∃ n6, wp_X11_run_49 post n6 σ1 a1 0)) ∧ (¬ (mi σ1 44) = 0 →
    ((mi σ1 44) = 1 →
     ((mi σ1 44) = 1 →
      ∀ σ11 : MSt, σ11 = smi σ1 44 0 →
      wp_X11_fail σ11 (fun (σ12 : MSt) =>
      ∃ n13, wp_X11_run_49 post n13 σ12 a1 0)) ∧ (¬ (mi σ1 44) = 1 →
      ∃ n10, wp_X11_run_49 post n10 σ1 a1 0)) ∧ (¬ (mi σ1 44) = 1 →
     post (mi σ1 44) σ1)))
set_option maxRecDepth 100000 in
set_option maxHeartbeats 4000000 in
theorem b_X11_run_49 {T : Tb} {B : Nat} {p : Program} {l : Launch} {e : Env} {s : State} {m : MethodId} {args : Array Value} {below : List Frame} {meth : Method} {c0 : Code} {post : Int32 → MSt → Prop} {μ0 : Mem} {o : Nat} {A : Nat → Nat} (X : CX T B p m c0 cX11_run 3 s args RX11) (hr : meth.sig.returnType = (some .int)) (hk : meth.locks = false) : ∀ (n : Nat) (σ : MSt) (x1 : Int32) (x2 : Int32) (H : Heap) (locs : List Loc) (ls : Array Slot), wp_X11_run_49 post n σ x1 x2 → MG (WM T B μ0 o A) B s σ H locs → lv_has ls 3 [(0, .ref o), (1, .int x1), (2, .int x2)] → W p l e rm_X11_run s m args below meth c0 H locs 0 0 (MQ below (va_Qi post (Bm (WM T B μ0 o A)) (Ai B)) args s 0 0 (Ai B)) (F0 m 49 ls []) := by
  intro n
  induction n with
  | zero =>
    intro σ x1 x2 H locs ls hw
    exact hw.elim
  | succ n ih =>
    intro σ x1 x2 H locs ls hw M hl
    rw [wp_X11_run_49] at hw
    refine lv_iload_n X.1 X.2.1 dX11_run_49 rfl (lv_at hl 2 rfl) ?_
    refine lv_iload_n X.1 X.2.1 dX11_run_50 rfl (lv_at hl 1 rfl) ?_
    obtain ⟨hwt, hwf⟩ := hw
    refine lv_icmp_ge (tgt := 89) X.1 X.2.1 dX11_run_51 (by decide) (fun hq => ?_) (fun hq => ?_)
    · have hw := hwt hq
      refine lv_aload_n X.1 X.2.1 dX11_run_89 rfl (lv_at hl 0 rfl) ?_
      refine mm_geti X M 44 (by decide) rfl kw_1009 dX11_run_90 ?_
      exact mx_iret X hr hk M dX11_run_93 (by decide) (by decide) hw
    · have hw := hwf hq
      refine lv_aload_n X.1 X.2.1 dX11_run_54 rfl (lv_at hl 0 rfl) ?_
      refine mm_geti X M 44 (by decide) rfl kw_1009 dX11_run_55 ?_
      obtain ⟨hwf, hwt⟩ := hw
      refine lv_if_ne (tgt := 89) X.1 X.2.1 dX11_run_58 (by decide) (fun hq => ?_) (fun hq => ?_)
      · have hw := hwt hq
        refine lv_aload_n X.1 X.2.1 dX11_run_89 rfl (lv_at hl 0 rfl) ?_
        refine mm_geti X M 44 (by decide) rfl kw_1009 dX11_run_90 ?_
        exact mx_iret X hr hk M dX11_run_93 (by decide) (by decide) hw
      · have hw := hwf hq
        refine lv_aload_n X.1 X.2.1 dX11_run_61 rfl (lv_at hl 0 rfl) ?_
        refine mm_geti X M 46 (by decide) rfl kw_1011 dX11_run_62 ?_
        refine lv_sipush (v := 20000) X.1 X.2.1 dX11_run_65 (by decide) ?_
        obtain ⟨hwf, hwt⟩ := hw
        refine lv_icmp_ne (tgt := 79) X.1 X.2.1 dX11_run_68 (by decide) (fun hq => ?_) (fun hq => ?_)
        · have hw := hwt hq
          refine lv_aload_n X.1 X.2.1 dX11_run_79 rfl (lv_at hl 0 rfl) ?_
          refine mx_cv M (mx_runV (n := 0) (As := []) (rest := []) X M (c_X11_step l T B μ0 o A σ _ hw) (mm_recv X M) kw_1218 kw_1220 kw_41 kw_74 kw_1221 (by decide +kernel) rfl rfl ⟨Nat.le_of_ble_eq_true rfl, Nat.le_of_ble_eq_true rfl⟩ rfl hl.1 (Nat.le_of_ble_eq_true rfl) dX11_run_80 ⟨by decide, by decide⟩) (fun σ2 H locs hw M => ?_)
          obtain ⟨v3, ev3⟩ : ∃ y : Int32, y = x2 + 1 := ⟨_, rfl⟩
          replace hw := hw v3 ev3
          refine lv_iinc (v := v3) (lv' := [(2, .int v3), (0, .ref o), (1, .int x1)]) X.1 X.2.1 dX11_run_83 hl (k := 2) rfl (by rw [ev3]; rfl) (by decide) rfl (fun ls hl => ?_)
          refine lv_goto (tgt := 49) X.1 X.2.1 dX11_run_86 (by decide) ?_
          exact ih σ2 x1 v3 _ _ _ hw M (lv_sub hl [1, 2, 0] rfl)
        · have hw := hwf hq
          refine lv_aload_n X.1 X.2.1 dX11_run_71 rfl (lv_at hl 0 rfl) ?_
          refine lv_iconst (v := 3) X.1 X.2.1 dX11_run_72 (by decide) ?_
          refine mm_puti X M 44 (by decide) rfl kw_1009 rfl dX11_run_73 rfl rfl (fun σ4 H locs eσ4 M => ?_)
          replace hw := hw σ4 eσ4
          refine lv_goto (tgt := 83) X.1 X.2.1 dX11_run_76 (by decide) ?_
          obtain ⟨v5, ev5⟩ : ∃ y : Int32, y = x2 + 1 := ⟨_, rfl⟩
          replace hw := hw v5 ev5
          refine lv_iinc (v := v5) (lv' := [(2, .int v5), (0, .ref o), (1, .int x1)]) X.1 X.2.1 dX11_run_83 hl (k := 2) rfl (by rw [ev5]; rfl) (by decide) rfl (fun ls hl => ?_)
          refine lv_goto (tgt := 49) X.1 X.2.1 dX11_run_86 (by decide) ?_
          exact ih σ4 x1 v5 _ _ _ hw M (lv_sub hl [1, 2, 0] rfl)
set_option maxRecDepth 100000 in
set_option maxHeartbeats 4000000 in
theorem c_X11_run (l : Launch) (T : Tb) (B : Nat) (μ0 : Mem) (o : Nat) (A : Nat → Nat) (σ : MSt) (a1 : Int32) (post : Int32 → MSt → Prop) (hw : wp_X11_run σ a1 post) : Met l yX11_run (.code yX11_run cX11_run 3 (some .int) :: G) rm_X11_run (Pm (WM T B μ0 o A) T B σ [.ref o, .int a1]) (va_Qi post (Bm (WM T B μ0 o A)) (Ai B)) 0 0 (Ai B) := by
  refine mx_of RX11 rfl (by decide) (Nat.le_of_ble_eq_true rfl) ?_
  intro p e s m below meth c0 X hr hk hnm M ls hl
  have hl : lv_has ls 3 [(0, .ref o), (1, .int a1)] := hl
  unfold wp_X11_run at hw
  refine lv_aload_n X.1 X.2.1 dX11_run_0 rfl (lv_at hl 0 rfl) ?_
  refine lv_iconst (v := 0) X.1 X.2.1 dX11_run_1 (by decide) ?_
  refine mm_puti X M 0 (by decide) rfl kw_965 rfl dX11_run_2 rfl rfl (fun σ1 H locs eσ1 M => ?_)
  replace hw := hw σ1 eσ1
  refine lv_iload_n X.1 X.2.1 dX11_run_5 rfl (lv_at hl 1 rfl) ?_
  refine lv_iconst (v := 1) X.1 X.2.1 dX11_run_6 (by decide) ?_
  obtain ⟨hwt, hwf⟩ := hw
  refine lv_icmp_lt (tgt := 25) X.1 X.2.1 dX11_run_7 (by decide) (fun hq => ?_) (fun hq => ?_)
  · have hw := hwt hq
    refine lv_aload_n X.1 X.2.1 dX11_run_25 rfl (lv_at hl 0 rfl) ?_
    refine mm_geti X M 44 (by decide) rfl kw_1009 dX11_run_26 ?_
    exact mx_iret X hr hk M dX11_run_29 (by decide) (by decide) hw
  · have hw := hwf hq
    refine lv_aload_n X.1 X.2.1 dX11_run_10 rfl (lv_at hl 0 rfl) ?_
    refine mm_geti X M 44 (by decide) rfl kw_1009 dX11_run_11 ?_
    obtain ⟨hwt, hwf⟩ := hw
    refine lv_if_eq (tgt := 30) X.1 X.2.1 dX11_run_14 (by decide) (fun hq => ?_) (fun hq => ?_)
    · have hw := hwt hq
      refine lv_aload_n X.1 X.2.1 dX11_run_30 rfl (lv_at hl 0 rfl) ?_
      refine mm_geti X M 44 (by decide) rfl kw_1009 dX11_run_31 ?_
      refine lv_iconst (v := 1) X.1 X.2.1 dX11_run_34 (by decide) ?_
      obtain ⟨hwf, hwt⟩ := hw
      refine lv_icmp_ne (tgt := 47) X.1 X.2.1 dX11_run_35 (by decide) (fun hq => ?_) (fun hq => ?_)
      · have hw := hwt hq
        refine lv_iconst (v := 0) X.1 X.2.1 dX11_run_47 (by decide) ?_
        refine lv_istore_n (lv' := [(2, .int 0), (0, .ref o), (1, .int a1)]) X.1 X.2.1 dX11_run_48 rfl hl (by decide) rfl (fun ls hl => ?_)
        obtain ⟨n6, hw⟩ := hw
        exact b_X11_run_49 X hr hk n6 σ1 a1 0 _ _ _ hw M (lv_sub hl [1, 2, 0] rfl)
      · have hw := hwf hq
        refine lv_aload_n X.1 X.2.1 dX11_run_38 rfl (lv_at hl 0 rfl) ?_
        refine lv_iconst (v := 0) X.1 X.2.1 dX11_run_39 (by decide) ?_
        refine mm_puti X M 44 (by decide) rfl kw_1009 rfl dX11_run_40 rfl rfl (fun σ7 H locs eσ7 M => ?_)
        replace hw := hw σ7 eσ7
        refine lv_aload_n X.1 X.2.1 dX11_run_43 rfl (lv_at hl 0 rfl) ?_
        refine mx_cv M (mx_runV (n := 0) (As := []) (rest := []) X M (c_X11_fail l T B μ0 o A σ7 _ hw) (mm_recv X M) kw_1202 kw_1204 kw_37 kw_74 kw_1205 (by decide +kernel) rfl rfl ⟨Nat.le_of_ble_eq_true rfl, Nat.le_of_ble_eq_true rfl⟩ rfl hl.1 (Nat.le_of_ble_eq_true rfl) dX11_run_44 ⟨by decide, by decide⟩) (fun σ8 H locs hw M => ?_)
        refine lv_iconst (v := 0) X.1 X.2.1 dX11_run_47 (by decide) ?_
        refine lv_istore_n (lv' := [(2, .int 0), (0, .ref o), (1, .int a1)]) X.1 X.2.1 dX11_run_48 rfl hl (by decide) rfl (fun ls hl => ?_)
        obtain ⟨n9, hw⟩ := hw
        exact b_X11_run_49 X hr hk n9 σ8 a1 0 _ _ _ hw M (lv_sub hl [1, 2, 0] rfl)
    · have hw := hwf hq
      refine lv_aload_n X.1 X.2.1 dX11_run_17 rfl (lv_at hl 0 rfl) ?_
      refine mm_geti X M 44 (by decide) rfl kw_1009 dX11_run_18 ?_
      refine lv_iconst (v := 1) X.1 X.2.1 dX11_run_21 (by decide) ?_
      obtain ⟨hwt, hwf⟩ := hw
      refine lv_icmp_eq (tgt := 30) X.1 X.2.1 dX11_run_22 (by decide) (fun hq => ?_) (fun hq => ?_)
      · have hw := hwt hq
        refine lv_aload_n X.1 X.2.1 dX11_run_30 rfl (lv_at hl 0 rfl) ?_
        refine mm_geti X M 44 (by decide) rfl kw_1009 dX11_run_31 ?_
        refine lv_iconst (v := 1) X.1 X.2.1 dX11_run_34 (by decide) ?_
        obtain ⟨hwf, hwt⟩ := hw
        refine lv_icmp_ne (tgt := 47) X.1 X.2.1 dX11_run_35 (by decide) (fun hq => ?_) (fun hq => ?_)
        · have hw := hwt hq
          refine lv_iconst (v := 0) X.1 X.2.1 dX11_run_47 (by decide) ?_
          refine lv_istore_n (lv' := [(2, .int 0), (0, .ref o), (1, .int a1)]) X.1 X.2.1 dX11_run_48 rfl hl (by decide) rfl (fun ls hl => ?_)
          obtain ⟨n10, hw⟩ := hw
          exact b_X11_run_49 X hr hk n10 σ1 a1 0 _ _ _ hw M (lv_sub hl [1, 2, 0] rfl)
        · have hw := hwf hq
          refine lv_aload_n X.1 X.2.1 dX11_run_38 rfl (lv_at hl 0 rfl) ?_
          refine lv_iconst (v := 0) X.1 X.2.1 dX11_run_39 (by decide) ?_
          refine mm_puti X M 44 (by decide) rfl kw_1009 rfl dX11_run_40 rfl rfl (fun σ11 H locs eσ11 M => ?_)
          replace hw := hw σ11 eσ11
          refine lv_aload_n X.1 X.2.1 dX11_run_43 rfl (lv_at hl 0 rfl) ?_
          refine mx_cv M (mx_runV (n := 0) (As := []) (rest := []) X M (c_X11_fail l T B μ0 o A σ11 _ hw) (mm_recv X M) kw_1202 kw_1204 kw_37 kw_74 kw_1205 (by decide +kernel) rfl rfl ⟨Nat.le_of_ble_eq_true rfl, Nat.le_of_ble_eq_true rfl⟩ rfl hl.1 (Nat.le_of_ble_eq_true rfl) dX11_run_44 ⟨by decide, by decide⟩) (fun σ12 H locs hw M => ?_)
          refine lv_iconst (v := 0) X.1 X.2.1 dX11_run_47 (by decide) ?_
          refine lv_istore_n (lv' := [(2, .int 0), (0, .ref o), (1, .int a1)]) X.1 X.2.1 dX11_run_48 rfl hl (by decide) rfl (fun ls hl => ?_)
          obtain ⟨n13, hw⟩ := hw
          exact b_X11_run_49 X hr hk n13 σ12 a1 0 _ _ _ hw M (lv_sub hl [1, 2, 0] rfl)
      · have hw := hwf hq
        refine lv_aload_n X.1 X.2.1 dX11_run_25 rfl (lv_at hl 0 rfl) ?_
        refine mm_geti X M 44 (by decide) rfl kw_1009 dX11_run_26 ?_
        exact mx_iret X hr hk M dX11_run_29 (by decide) (by decide) hw

abbrev rm_X11_told : Room := { frames := 1, cells := 0, slots := 0, locals := 22 }
def wp_X11_told (σ : MSt) (a1 : Int32) (post : Int32 → MSt → Prop) : Prop :=
  ∀ σ1 : MSt, σ1 = smi σ 0 0 →
  (a1 = 0 →
   post (mi σ1 44) σ1) ∧
  (a1 = 1 →
   post (mi σ1 46) σ1) ∧
  (a1 = 2 →
   post (mi σ1 47) σ1) ∧
  (a1 = 3 →
   post (mi σ1 48) σ1) ∧
  (a1 = 4 →
   post (mi σ1 25) σ1) ∧
  (a1 = 5 →
   post (mi σ1 49) σ1) ∧
  (a1 = 6 →
   post (mi σ1 50) σ1) ∧
  (a1 = 7 →
   wp_X11_redos σ1 (fun (r3 : Int32) (σ2 : MSt) =>
   post r3 σ2)) ∧
  (a1 = 8 →
   wp_X11_redos σ1 (fun (r5 : Int32) (σ4 : MSt) =>
   post ((mi σ1 26) - r5) σ4)) ∧
  (¬ a1 = 0 → ¬ a1 = 1 → ¬ a1 = 2 → ¬ a1 = 3 → ¬ a1 = 4 → ¬ a1 = 5 → ¬ a1 = 6 → ¬ a1 = 7 → ¬ a1 = 8 → 
   post (-1) σ1)
set_option maxRecDepth 100000 in
set_option maxHeartbeats 4000000 in
theorem c_X11_told (l : Launch) (T : Tb) (B : Nat) (μ0 : Mem) (o : Nat) (A : Nat → Nat) (σ : MSt) (a1 : Int32) (post : Int32 → MSt → Prop) (hw : wp_X11_told σ a1 post) : Met l yX11_told (.code yX11_told cX11_told 2 (some .int) :: G) rm_X11_told (Pm (WM T B μ0 o A) T B σ [.ref o, .int a1]) (va_Qi post (Bm (WM T B μ0 o A)) (Ai B)) 0 0 (Ai B) := by
  refine mx_of RX11 rfl (by decide) (Nat.le_of_ble_eq_true rfl) ?_
  intro p e s m below meth c0 X hr hk hnm M ls hl
  have hl : lv_has ls 2 [(0, .ref o), (1, .int a1)] := hl
  unfold wp_X11_told at hw
  refine lv_aload_n X.1 X.2.1 dX11_told_0 rfl (lv_at hl 0 rfl) ?_
  refine lv_iconst (v := 0) X.1 X.2.1 dX11_told_1 (by decide) ?_
  refine mm_puti X M 0 (by decide) rfl kw_965 rfl dX11_told_2 rfl rfl (fun σ1 H locs eσ1 M => ?_)
  replace hw := hw σ1 eσ1
  refine lv_iload_n X.1 X.2.1 dX11_told_5 rfl (lv_at hl 1 rfl) ?_
  obtain ⟨hw_0, hw_1, hw_2, hw_3, hw_4, hw_5, hw_6, hw_7, hw_8, hw_d⟩ := hw
  by_cases q_0 : a1 = 0
  · have hw := hw_0 q_0
    refine lv_tableIn (off := 50) (tgt := 56) X.1 X.2.1 dX11_told_6 (by rw [q_0]; decide) (by rw [q_0]; decide) (by rw [q_0]; rfl) (by decide) ?_
    refine lv_aload_n X.1 X.2.1 dX11_told_56 rfl (lv_at hl 0 rfl) ?_
    refine mm_geti X M 44 (by decide) rfl kw_1009 dX11_told_57 ?_
    exact mx_iret X hr hk M dX11_told_60 (by decide) (by decide) hw
  by_cases q_1 : a1 = 1
  · have hw := hw_1 q_1
    refine lv_tableIn (off := 55) (tgt := 61) X.1 X.2.1 dX11_told_6 (by rw [q_1]; decide) (by rw [q_1]; decide) (by rw [q_1]; rfl) (by decide) ?_
    refine lv_aload_n X.1 X.2.1 dX11_told_61 rfl (lv_at hl 0 rfl) ?_
    refine mm_geti X M 46 (by decide) rfl kw_1011 dX11_told_62 ?_
    exact mx_iret X hr hk M dX11_told_65 (by decide) (by decide) hw
  by_cases q_2 : a1 = 2
  · have hw := hw_2 q_2
    refine lv_tableIn (off := 60) (tgt := 66) X.1 X.2.1 dX11_told_6 (by rw [q_2]; decide) (by rw [q_2]; decide) (by rw [q_2]; rfl) (by decide) ?_
    refine lv_aload_n X.1 X.2.1 dX11_told_66 rfl (lv_at hl 0 rfl) ?_
    refine mm_geti X M 47 (by decide) rfl kw_1012 dX11_told_67 ?_
    exact mx_iret X hr hk M dX11_told_70 (by decide) (by decide) hw
  by_cases q_3 : a1 = 3
  · have hw := hw_3 q_3
    refine lv_tableIn (off := 65) (tgt := 71) X.1 X.2.1 dX11_told_6 (by rw [q_3]; decide) (by rw [q_3]; decide) (by rw [q_3]; rfl) (by decide) ?_
    refine lv_aload_n X.1 X.2.1 dX11_told_71 rfl (lv_at hl 0 rfl) ?_
    refine mm_geti X M 48 (by decide) rfl kw_1013 dX11_told_72 ?_
    exact mx_iret X hr hk M dX11_told_75 (by decide) (by decide) hw
  by_cases q_4 : a1 = 4
  · have hw := hw_4 q_4
    refine lv_tableIn (off := 70) (tgt := 76) X.1 X.2.1 dX11_told_6 (by rw [q_4]; decide) (by rw [q_4]; decide) (by rw [q_4]; rfl) (by decide) ?_
    refine lv_aload_n X.1 X.2.1 dX11_told_76 rfl (lv_at hl 0 rfl) ?_
    refine mm_geti X M 25 (by decide) rfl kw_990 dX11_told_77 ?_
    exact mx_iret X hr hk M dX11_told_80 (by decide) (by decide) hw
  by_cases q_5 : a1 = 5
  · have hw := hw_5 q_5
    refine lv_tableIn (off := 75) (tgt := 81) X.1 X.2.1 dX11_told_6 (by rw [q_5]; decide) (by rw [q_5]; decide) (by rw [q_5]; rfl) (by decide) ?_
    refine lv_aload_n X.1 X.2.1 dX11_told_81 rfl (lv_at hl 0 rfl) ?_
    refine mm_geti X M 49 (by decide) rfl kw_1014 dX11_told_82 ?_
    exact mx_iret X hr hk M dX11_told_85 (by decide) (by decide) hw
  by_cases q_6 : a1 = 6
  · have hw := hw_6 q_6
    refine lv_tableIn (off := 80) (tgt := 86) X.1 X.2.1 dX11_told_6 (by rw [q_6]; decide) (by rw [q_6]; decide) (by rw [q_6]; rfl) (by decide) ?_
    refine lv_aload_n X.1 X.2.1 dX11_told_86 rfl (lv_at hl 0 rfl) ?_
    refine mm_geti X M 50 (by decide) rfl kw_1015 dX11_told_87 ?_
    exact mx_iret X hr hk M dX11_told_90 (by decide) (by decide) hw
  by_cases q_7 : a1 = 7
  · have hw := hw_7 q_7
    refine lv_tableIn (off := 85) (tgt := 91) X.1 X.2.1 dX11_told_6 (by rw [q_7]; decide) (by rw [q_7]; decide) (by rw [q_7]; rfl) (by decide) ?_
    refine lv_aload_n X.1 X.2.1 dX11_told_91 rfl (lv_at hl 0 rfl) ?_
    refine mx_ci M (mx_runV (n := 0) (As := []) (rest := []) X M (c_X11_redos l T B μ0 o A σ1 _ hw) (mm_recv X M) kw_1190 kw_1192 kw_35 kw_74 kw_1193 (by decide +kernel) rfl rfl ⟨Nat.le_of_ble_eq_true rfl, Nat.le_of_ble_eq_true rfl⟩ rfl hl.1 (Nat.le_of_ble_eq_true rfl) dX11_told_92 ⟨by decide, by decide⟩) (fun r3 σ2 H locs hw M => ?_)
    exact mx_iret X hr hk M dX11_told_95 (by decide) (by decide) hw
  by_cases q_8 : a1 = 8
  · have hw := hw_8 q_8
    refine lv_tableIn (off := 90) (tgt := 96) X.1 X.2.1 dX11_told_6 (by rw [q_8]; decide) (by rw [q_8]; decide) (by rw [q_8]; rfl) (by decide) ?_
    refine lv_aload_n X.1 X.2.1 dX11_told_96 rfl (lv_at hl 0 rfl) ?_
    refine mm_geti X M 26 (by decide) rfl kw_991 dX11_told_97 ?_
    refine lv_aload_n X.1 X.2.1 dX11_told_100 rfl (lv_at hl 0 rfl) ?_
    refine mx_ci M (mx_runV (n := 0) (As := []) (rest := [.int (mi σ1 26)]) X M (c_X11_redos l T B μ0 o A σ1 _ hw) (mm_recv X M) kw_1190 kw_1192 kw_35 kw_74 kw_1193 (by decide +kernel) rfl rfl ⟨Nat.le_of_ble_eq_true rfl, Nat.le_of_ble_eq_true rfl⟩ rfl hl.1 (Nat.le_of_ble_eq_true rfl) dX11_told_101 ⟨by decide, by decide⟩) (fun r5 σ4 H locs hw M => ?_)
    refine lv_isub X.1 X.2.1 dX11_told_104 ?_
    exact mx_iret X hr hk M dX11_told_105 (by decide) (by decide) hw
  have hw := hw_d q_0 q_1 q_2 q_3 q_4 q_5 q_6 q_7 q_8
  have g_0 := lv_neT q_0 (by decide : (0 : Int32).toInt = 0)
  have g_1 := lv_neT q_1 (by decide : (1 : Int32).toInt = 1)
  have g_2 := lv_neT q_2 (by decide : (2 : Int32).toInt = 2)
  have g_3 := lv_neT q_3 (by decide : (3 : Int32).toInt = 3)
  have g_4 := lv_neT q_4 (by decide : (4 : Int32).toInt = 4)
  have g_5 := lv_neT q_5 (by decide : (5 : Int32).toInt = 5)
  have g_6 := lv_neT q_6 (by decide : (6 : Int32).toInt = 6)
  have g_7 := lv_neT q_7 (by decide : (7 : Int32).toInt = 7)
  have g_8 := lv_neT q_8 (by decide : (8 : Int32).toInt = 8)
  refine lv_tableOut (tgt := 106) X.1 X.2.1 dX11_told_6 (by omega) (by decide) ?_
  refine lv_iconst (v := (-1)) X.1 X.2.1 dX11_told_106 (by decide) ?_
  exact mx_iret X hr hk M dX11_told_107 (by decide) (by decide) hw

abbrev rm_X11_say : Room := { frames := 0, cells := 0, slots := 0, locals := 0 }
def wp_X11_say (σ : MSt) (a1 : Int32) (post : MSt → Prop) : Prop :=
  ((mi σ 54) = 1000 →
   post σ) ∧ (¬ (mi σ 54) = 1000 →
   vp_in (mi σ 54) 1000 ∧ ∀ σ1 : MSt, σ1 = sma σ 53 (Int32.toNatClampNeg (mi σ 54)) a1 →
   ∀ σ2 : MSt, σ2 = smi σ1 54 ((mi σ1 54) + 1) →
   post σ2)
set_option maxRecDepth 100000 in
set_option maxHeartbeats 4000000 in
theorem c_X11_say (l : Launch) (T : Tb) (B : Nat) (μ0 : Mem) (o : Nat) (A : Nat → Nat) (σ : MSt) (a1 : Int32) (post : MSt → Prop) (hw : wp_X11_say σ a1 post) : Met l yX11_say (.code yX11_say cX11_say 2 none :: G) rm_X11_say (Pm (WM T B μ0 o A) T B σ [.ref o, .int a1]) (va_Qv post (Bm (WM T B μ0 o A)) (Ai B)) 0 0 (Ai B) := by
  refine mx_of RX11 rfl (by decide) (Nat.le_of_ble_eq_true rfl) ?_
  intro p e s m below meth c0 X hr hk hnm M ls hl
  have hl : lv_has ls 2 [(0, .ref o), (1, .int a1)] := hl
  unfold wp_X11_say at hw
  refine lv_aload_n X.1 X.2.1 dX11_say_0 rfl (lv_at hl 0 rfl) ?_
  refine mm_geti X M 54 (by decide) rfl kw_1019 dX11_say_1 ?_
  refine lv_sipush (v := 1000) X.1 X.2.1 dX11_say_4 (by decide) ?_
  obtain ⟨hwf, hwt⟩ := hw
  refine lv_icmp_ne (tgt := 11) X.1 X.2.1 dX11_say_7 (by decide) (fun hq => ?_) (fun hq => ?_)
  · have hw := hwt hq
    refine lv_aload_n X.1 X.2.1 dX11_say_11 rfl (lv_at hl 0 rfl) ?_
    refine mm_geta X M 53 (by decide) rfl (by decide) kw_1018 dX11_say_12 ?_
    refine lv_aload_n X.1 X.2.1 dX11_say_15 rfl (lv_at hl 0 rfl) ?_
    refine mm_geti X M 54 (by decide) rfl kw_1019 dX11_say_16 ?_
    refine lv_iload_n X.1 X.2.1 dX11_say_19 rfl (lv_at hl 1 rfl) ?_
    obtain ⟨hi, hw⟩ := hw
    refine mm_ast X M 53 rfl dX11_say_20 hi (fun σ1 H locs eσ1 M => ?_)
    replace hw := hw σ1 eσ1
    refine lv_aload_n X.1 X.2.1 dX11_say_21 rfl (lv_at hl 0 rfl) ?_
    refine lv_dup X.1 X.2.1 dX11_say_22 rfl ?_
    refine mm_geti X M 54 (by decide) rfl kw_1019 dX11_say_23 ?_
    refine lv_iconst (v := 1) X.1 X.2.1 dX11_say_26 (by decide) ?_
    refine lv_iadd X.1 X.2.1 dX11_say_27 ?_
    refine mm_puti X M 54 (by decide) rfl kw_1019 rfl dX11_say_28 rfl rfl (fun σ2 H locs eσ2 M => ?_)
    replace hw := hw σ2 eσ2
    exact mx_vret X hr hk M dX11_say_31 (by decide) (by decide) hw
  · have hw := hwf hq
    exact mx_vret X hr hk M dX11_say_10 (by decide) (by decide) hw

abbrev rm_X11_sayNumber : Room := { frames := 1, cells := 0, slots := 0, locals := 21 }
def wp_X11_sayNumber_50 (post : MSt → Prop) : Nat → MSt → Int64 → Int64 → Prop
  | 0, _, _, _ => False
  | n + 1, σ, x3, x5 =>
    ((lg_cmp x5 0) ≤ 0 →
     post σ) ∧ (¬ (lg_cmp x5 0) ≤ 0 →
     ¬ x5 = 0 ∧
     ¬ (10 : Int64) = 0 ∧
     wp_X11_say σ ((48 : Int32) + (Int64.toInt32 ((x3 / x5) - (x3 / x5) / (10 : Int64) * (10 : Int64)))) (fun (σ1 : MSt) =>
     ¬ (10 : Int64) = 0 ∧
     ∀ v2 : Int64, v2 = (x5 / (10 : Int64)) →
     wp_X11_sayNumber_50 post n σ1 x3 v2))
def wp_X11_sayNumber_28 (post : MSt → Prop) : Nat → MSt → Int64 → Int64 → Prop
  | 0, _, _, _ => False
  | n + 1, σ, x3, x5 =>
    ¬ x5 = 0 ∧
    ((lg_cmp (x3 / x5) 9) ≤ 0 →
     ∃ n3, wp_X11_sayNumber_50 post n3 σ x3 x5) ∧ (¬ (lg_cmp (x3 / x5) 9) ≤ 0 →
     ∀ v4 : Int64, v4 = ((10 : Int64) * x5) →
     wp_X11_sayNumber_28 post n σ x3 v4)
def wp_X11_sayNumber (σ : MSt) (a1 : Int64) (post : MSt → Prop) : Prop :=
  (0 ≤ (lg_cmp a1 0) →
   (0 ≤ (lg_cmp a1 0) →
    ∃ n5, wp_X11_sayNumber_28 post n5 σ a1 1) ∧ (¬ 0 ≤ (lg_cmp a1 0) →
    ∀ v6 : Int64, v6 = (-a1) →
    ∃ n7, wp_X11_sayNumber_28 post n7 σ v6 1)) ∧ (¬ 0 ≤ (lg_cmp a1 0) →
   wp_X11_say σ 45 (fun (σ8 : MSt) =>
   (0 ≤ (lg_cmp a1 0) →
    ∃ n9, wp_X11_sayNumber_28 post n9 σ8 a1 1) ∧ (¬ 0 ≤ (lg_cmp a1 0) →
    ∀ v10 : Int64, v10 = (-a1) →
    ∃ n11, wp_X11_sayNumber_28 post n11 σ8 v10 1)))
set_option maxRecDepth 100000 in
set_option maxHeartbeats 4000000 in
theorem b_X11_sayNumber_50 {T : Tb} {B : Nat} {p : Program} {l : Launch} {e : Env} {s : State} {m : MethodId} {args : Array Value} {below : List Frame} {meth : Method} {c0 : Code} {post : MSt → Prop} {μ0 : Mem} {o : Nat} {A : Nat → Nat} (X : CX T B p m c0 cX11_sayNumber 7 s args RX11) (hr : meth.sig.returnType = none) (hk : meth.locks = false) : ∀ (n : Nat) (σ : MSt) (x3 : Int64) (x5 : Int64) (H : Heap) (locs : List Loc) (ls : Array Slot), wp_X11_sayNumber_50 post n σ x3 x5 → MG (WM T B μ0 o A) B s σ H locs → lv_has ls 7 [(0, .ref o), (3, .long x3), (5, .long x5)] → W p l e rm_X11_sayNumber s m args below meth c0 H locs 0 0 (MQ below (va_Qv post (Bm (WM T B μ0 o A)) (Ai B)) args s 0 0 (Ai B)) (F0 m 50 ls []) := by
  intro n
  induction n with
  | zero =>
    intro σ x3 x5 H locs ls hw
    exact hw.elim
  | succ n ih =>
    intro σ x3 x5 H locs ls hw M hl
    rw [wp_X11_sayNumber_50] at hw
    refine lv_lload X.1 X.2.1 dX11_sayNumber_50 (lv_at hl 2 rfl) ?_
    refine lv_lconst (v := 0) X.1 X.2.1 dX11_sayNumber_52 (by decide) ?_
    refine W.lcmp X.1 X.2.1 dX11_sayNumber_53 ?_
    obtain ⟨hwt, hwf⟩ := hw
    refine lv_if_le (tgt := 84) X.1 X.2.1 dX11_sayNumber_54 (by decide) (fun hq => ?_) (fun hq => ?_)
    · have hw := hwt hq
      exact mx_vret X hr hk M dX11_sayNumber_84 (by decide) (by decide) hw
    · have hw := hwf hq
      refine lv_aload_n X.1 X.2.1 dX11_sayNumber_57 rfl (lv_at hl 0 rfl) ?_
      refine lv_bipush (v := 48) X.1 X.2.1 dX11_sayNumber_58 (by decide) ?_
      refine lv_lload_n X.1 X.2.1 dX11_sayNumber_60 rfl (lv_at hl 1 rfl) ?_
      refine lv_lload X.1 X.2.1 dX11_sayNumber_61 (lv_at hl 2 rfl) ?_
      obtain ⟨hne, hw⟩ := hw
      refine lv_ldiv X.1 X.2.1 dX11_sayNumber_63 hne ?_
      refine lv_ldc2 (v := 10) X.1 X.2.1 X.2.2.2.1 (X.2.2.2.2.1 _ kw_1324) dX11_sayNumber_64 ?_
      obtain ⟨hne, hw⟩ := hw
      refine lv_lrem X.1 X.2.1 dX11_sayNumber_67 hne ?_
      refine lv_l2i X.1 X.2.1 dX11_sayNumber_68 rfl ?_
      refine lv_iadd X.1 X.2.1 dX11_sayNumber_69 ?_
      refine mx_cv M (mx_runV (n := 1) (As := [.int ((48 : Int32) + (Int64.toInt32 ((x3 / x5) - (x3 / x5) / (10 : Int64) * (10 : Int64))))]) (rest := []) X M (c_X11_say l T B μ0 o A σ ((48 : Int32) + (Int64.toInt32 ((x3 / x5) - (x3 / x5) / (10 : Int64) * (10 : Int64)))) _ hw) (mm_recv X M) kw_1314 kw_1316 kw_61 kw_74 kw_1317 (by decide +kernel) rfl rfl ⟨Nat.le_of_ble_eq_true rfl, Nat.le_of_ble_eq_true rfl⟩ rfl hl.1 (Nat.le_of_ble_eq_true rfl) dX11_sayNumber_70 ⟨by decide, by decide⟩) (fun σ1 H locs hw M => ?_)
      refine lv_lload X.1 X.2.1 dX11_sayNumber_73 (lv_at hl 2 rfl) ?_
      refine lv_ldc2 (v := 10) X.1 X.2.1 X.2.2.2.1 (X.2.2.2.2.1 _ kw_1324) dX11_sayNumber_75 ?_
      obtain ⟨hne, hw⟩ := hw
      refine lv_ldiv X.1 X.2.1 dX11_sayNumber_78 hne ?_
      refine lv_topl (fun v2 ev2 => ?_)
      replace hw := hw v2 ev2
      refine lv_lstore (lv' := [(5, .long v2), (0, .ref o), (3, .long x3)]) X.1 X.2.1 dX11_sayNumber_79 hl (by decide) rfl (fun ls hl => ?_)
      refine lv_goto (tgt := 50) X.1 X.2.1 dX11_sayNumber_81 (by decide) ?_
      exact ih σ1 x3 v2 _ _ _ hw M (lv_sub hl [1, 2, 0] rfl)
set_option maxRecDepth 100000 in
set_option maxHeartbeats 4000000 in
theorem b_X11_sayNumber_28 {T : Tb} {B : Nat} {p : Program} {l : Launch} {e : Env} {s : State} {m : MethodId} {args : Array Value} {below : List Frame} {meth : Method} {c0 : Code} {post : MSt → Prop} {μ0 : Mem} {o : Nat} {A : Nat → Nat} (X : CX T B p m c0 cX11_sayNumber 7 s args RX11) (hr : meth.sig.returnType = none) (hk : meth.locks = false) : ∀ (n : Nat) (σ : MSt) (x3 : Int64) (x5 : Int64) (H : Heap) (locs : List Loc) (ls : Array Slot), wp_X11_sayNumber_28 post n σ x3 x5 → MG (WM T B μ0 o A) B s σ H locs → lv_has ls 7 [(0, .ref o), (3, .long x3), (5, .long x5)] → W p l e rm_X11_sayNumber s m args below meth c0 H locs 0 0 (MQ below (va_Qv post (Bm (WM T B μ0 o A)) (Ai B)) args s 0 0 (Ai B)) (F0 m 28 ls []) := by
  intro n
  induction n with
  | zero =>
    intro σ x3 x5 H locs ls hw
    exact hw.elim
  | succ n ih =>
    intro σ x3 x5 H locs ls hw M hl
    rw [wp_X11_sayNumber_28] at hw
    refine lv_lload_n X.1 X.2.1 dX11_sayNumber_28 rfl (lv_at hl 1 rfl) ?_
    refine lv_lload X.1 X.2.1 dX11_sayNumber_29 (lv_at hl 2 rfl) ?_
    obtain ⟨hne, hw⟩ := hw
    refine lv_ldiv X.1 X.2.1 dX11_sayNumber_31 hne ?_
    refine lv_ldc2 (v := 9) X.1 X.2.1 X.2.2.2.1 (X.2.2.2.2.1 _ kw_1323) dX11_sayNumber_32 ?_
    refine W.lcmp X.1 X.2.1 dX11_sayNumber_35 ?_
    obtain ⟨hwt, hwf⟩ := hw
    refine lv_if_le (tgt := 50) X.1 X.2.1 dX11_sayNumber_36 (by decide) (fun hq => ?_) (fun hq => ?_)
    · have hw := hwt hq
      obtain ⟨n3, hw⟩ := hw
      exact b_X11_sayNumber_50 X hr hk n3 σ x3 x5 _ _ _ hw M (lv_sub hl [0, 1, 2] rfl)
    · have hw := hwf hq
      refine lv_ldc2 (v := 10) X.1 X.2.1 X.2.2.2.1 (X.2.2.2.2.1 _ kw_1324) dX11_sayNumber_39 ?_
      refine lv_lload X.1 X.2.1 dX11_sayNumber_42 (lv_at hl 2 rfl) ?_
      refine lv_lmul X.1 X.2.1 dX11_sayNumber_44 ?_
      refine lv_topl (fun v4 ev4 => ?_)
      replace hw := hw v4 ev4
      refine lv_lstore (lv' := [(5, .long v4), (0, .ref o), (3, .long x3)]) X.1 X.2.1 dX11_sayNumber_45 hl (by decide) rfl (fun ls hl => ?_)
      refine lv_goto (tgt := 28) X.1 X.2.1 dX11_sayNumber_47 (by decide) ?_
      exact ih σ x3 v4 _ _ _ hw M (lv_sub hl [1, 2, 0] rfl)
set_option maxRecDepth 100000 in
set_option maxHeartbeats 4000000 in
theorem c_X11_sayNumber (l : Launch) (T : Tb) (B : Nat) (μ0 : Mem) (o : Nat) (A : Nat → Nat) (σ : MSt) (a1 : Int64) (post : MSt → Prop) (hw : wp_X11_sayNumber σ a1 post) : Met l yX11_sayNumber (.code yX11_sayNumber cX11_sayNumber 7 none :: G) rm_X11_sayNumber (Pm (WM T B μ0 o A) T B σ [.ref o, .long a1]) (va_Qv post (Bm (WM T B μ0 o A)) (Ai B)) 0 0 (Ai B) := by
  refine mx_of RX11 rfl (by decide) (Nat.le_of_ble_eq_true rfl) ?_
  intro p e s m below meth c0 X hr hk hnm M ls hl
  have hl : lv_has ls 7 [(0, .ref o), (1, .long a1)] := hl
  unfold wp_X11_sayNumber at hw
  refine lv_lload_n X.1 X.2.1 dX11_sayNumber_0 rfl (lv_at hl 1 rfl) ?_
  refine lv_lconst (v := 0) X.1 X.2.1 dX11_sayNumber_1 (by decide) ?_
  refine W.lcmp X.1 X.2.1 dX11_sayNumber_2 ?_
  obtain ⟨hwt, hwf⟩ := hw
  refine lv_if_ge (tgt := 12) X.1 X.2.1 dX11_sayNumber_3 (by decide) (fun hq => ?_) (fun hq => ?_)
  · have hw := hwt hq
    refine lv_lload_n X.1 X.2.1 dX11_sayNumber_12 rfl (lv_at hl 1 rfl) ?_
    refine lv_lconst (v := 0) X.1 X.2.1 dX11_sayNumber_13 (by decide) ?_
    refine W.lcmp X.1 X.2.1 dX11_sayNumber_14 ?_
    obtain ⟨hwt, hwf⟩ := hw
    refine lv_if_ge (tgt := 23) X.1 X.2.1 dX11_sayNumber_15 (by decide) (fun hq => ?_) (fun hq => ?_)
    · have hw := hwt hq
      refine lv_lload_n X.1 X.2.1 dX11_sayNumber_23 rfl (lv_at hl 1 rfl) ?_
      refine lv_lstore_n (lv' := [(3, .long a1), (0, .ref o), (1, .long a1)]) X.1 X.2.1 dX11_sayNumber_24 rfl hl (by decide) rfl (fun ls hl => ?_)
      refine lv_lconst (v := 1) X.1 X.2.1 dX11_sayNumber_25 (by decide) ?_
      refine lv_lstore (lv' := [(5, .long 1), (3, .long a1), (0, .ref o), (1, .long a1)]) X.1 X.2.1 dX11_sayNumber_26 hl (by decide) rfl (fun ls hl => ?_)
      obtain ⟨n5, hw⟩ := hw
      exact b_X11_sayNumber_28 X hr hk n5 σ a1 1 _ _ _ hw M (lv_sub hl [2, 1, 0] rfl)
    · have hw := hwf hq
      refine lv_lload_n X.1 X.2.1 dX11_sayNumber_18 rfl (lv_at hl 1 rfl) ?_
      refine lv_lneg X.1 X.2.1 dX11_sayNumber_19 ?_
      refine lv_goto (tgt := 24) X.1 X.2.1 dX11_sayNumber_20 (by decide) ?_
      refine lv_topl (fun v6 ev6 => ?_)
      replace hw := hw v6 ev6
      refine lv_lstore_n (lv' := [(3, .long v6), (0, .ref o), (1, .long a1)]) X.1 X.2.1 dX11_sayNumber_24 rfl hl (by decide) rfl (fun ls hl => ?_)
      refine lv_lconst (v := 1) X.1 X.2.1 dX11_sayNumber_25 (by decide) ?_
      refine lv_lstore (lv' := [(5, .long 1), (3, .long v6), (0, .ref o), (1, .long a1)]) X.1 X.2.1 dX11_sayNumber_26 hl (by decide) rfl (fun ls hl => ?_)
      obtain ⟨n7, hw⟩ := hw
      exact b_X11_sayNumber_28 X hr hk n7 σ v6 1 _ _ _ hw M (lv_sub hl [2, 1, 0] rfl)
  · have hw := hwf hq
    refine lv_aload_n X.1 X.2.1 dX11_sayNumber_6 rfl (lv_at hl 0 rfl) ?_
    refine lv_bipush (v := 45) X.1 X.2.1 dX11_sayNumber_7 (by decide) ?_
    refine mx_cv M (mx_runV (n := 1) (As := [.int 45]) (rest := []) X M (c_X11_say l T B μ0 o A σ 45 _ hw) (mm_recv X M) kw_1314 kw_1316 kw_61 kw_74 kw_1317 (by decide +kernel) rfl rfl ⟨Nat.le_of_ble_eq_true rfl, Nat.le_of_ble_eq_true rfl⟩ rfl hl.1 (Nat.le_of_ble_eq_true rfl) dX11_sayNumber_9 ⟨by decide, by decide⟩) (fun σ8 H locs hw M => ?_)
    refine lv_lload_n X.1 X.2.1 dX11_sayNumber_12 rfl (lv_at hl 1 rfl) ?_
    refine lv_lconst (v := 0) X.1 X.2.1 dX11_sayNumber_13 (by decide) ?_
    refine W.lcmp X.1 X.2.1 dX11_sayNumber_14 ?_
    obtain ⟨hwt, hwf⟩ := hw
    refine lv_if_ge (tgt := 23) X.1 X.2.1 dX11_sayNumber_15 (by decide) (fun hq => ?_) (fun hq => ?_)
    · have hw := hwt hq
      refine lv_lload_n X.1 X.2.1 dX11_sayNumber_23 rfl (lv_at hl 1 rfl) ?_
      refine lv_lstore_n (lv' := [(3, .long a1), (0, .ref o), (1, .long a1)]) X.1 X.2.1 dX11_sayNumber_24 rfl hl (by decide) rfl (fun ls hl => ?_)
      refine lv_lconst (v := 1) X.1 X.2.1 dX11_sayNumber_25 (by decide) ?_
      refine lv_lstore (lv' := [(5, .long 1), (3, .long a1), (0, .ref o), (1, .long a1)]) X.1 X.2.1 dX11_sayNumber_26 hl (by decide) rfl (fun ls hl => ?_)
      obtain ⟨n9, hw⟩ := hw
      exact b_X11_sayNumber_28 X hr hk n9 σ8 a1 1 _ _ _ hw M (lv_sub hl [2, 1, 0] rfl)
    · have hw := hwf hq
      refine lv_lload_n X.1 X.2.1 dX11_sayNumber_18 rfl (lv_at hl 1 rfl) ?_
      refine lv_lneg X.1 X.2.1 dX11_sayNumber_19 ?_
      refine lv_goto (tgt := 24) X.1 X.2.1 dX11_sayNumber_20 (by decide) ?_
      refine lv_topl (fun v10 ev10 => ?_)
      replace hw := hw v10 ev10
      refine lv_lstore_n (lv' := [(3, .long v10), (0, .ref o), (1, .long a1)]) X.1 X.2.1 dX11_sayNumber_24 rfl hl (by decide) rfl (fun ls hl => ?_)
      refine lv_lconst (v := 1) X.1 X.2.1 dX11_sayNumber_25 (by decide) ?_
      refine lv_lstore (lv' := [(5, .long 1), (3, .long v10), (0, .ref o), (1, .long a1)]) X.1 X.2.1 dX11_sayNumber_26 hl (by decide) rfl (fun ls hl => ?_)
      obtain ⟨n11, hw⟩ := hw
      exact b_X11_sayNumber_28 X hr hk n11 σ8 v10 1 _ _ _ hw M (lv_sub hl [2, 1, 0] rfl)

abbrev rm_X11_sayCell : Room := { frames := 2, cells := 0, slots := 0, locals := 47 }
def wp_X11_sayCell_58 (post : Int32 → MSt → Prop) : Nat → MSt → Int32 → Int32 → Int32 → Prop
  | 0, _, _, _, _ => False
  | n + 1, σ, x1, x3, x5 =>
    (x5 < 0 →
     post x3 σ) ∧ (¬ x5 < 0 →
     vp_in x1 20100 ∧
     vp_in ((ma σ 22 (Int32.toNatClampNeg x1)) + x5) 20100 ∧
     vp_in x3 20100 ∧ ∀ σ8 : MSt, σ8 = sml σ 55 (Int32.toNatClampNeg x3) (ml σ 23 (Int32.toNatClampNeg ((ma σ 22 (Int32.toNatClampNeg x1)) + x5))) →
     ∀ v9 : Int32, v9 = x3 + 1 →
     (x5 ≤ 0 →
      ∀ v10 : Int32, v10 = x5 + (-1) →
      wp_X11_sayCell_58 post n σ8 x1 v9 v10) ∧ (¬ x5 ≤ 0 →
      vp_in v9 20100 ∧ ∀ σ11 : MSt, σ11 = sml σ8 55 (Int32.toNatClampNeg v9) 4398046511104 →
      ∀ v12 : Int32, v12 = v9 + 1 →
      ∀ v13 : Int32, v13 = x5 + (-1) →
      wp_X11_sayCell_58 post n σ11 x1 v12 v13))
def wp_X11_sayCell (σ : MSt) (a1 : Int32) (a2 : Int32) (post : Int32 → MSt → Prop) : Prop :=
  wp_X11_say σ 99 (fun (σ1 : MSt) =>
  vp_in a1 20100 ∧
  wp_X11_sayNumber σ1 (Int32.toInt64 (ma σ1 20 (Int32.toNatClampNeg a1))) (fun (σ2 : MSt) =>
  vp_in a1 20100 ∧
  ∀ v3 : Int32, v3 = (ma σ2 21 (Int32.toNatClampNeg a1)) →
  (v3 = 0 →
   post a2 σ2) ∧ (¬ v3 = 0 →
   wp_X11_say σ2 40 (fun (σ4 : MSt) =>
   vp_in a2 20100 ∧ ∀ σ5 : MSt, σ5 = sml σ4 55 (Int32.toNatClampNeg a2) 4398046511105 →
   ∀ v6 : Int32, v6 = a2 + 1 →
   ∀ v7 : Int32, v7 = (v3 - 1) →
   ∃ n14, wp_X11_sayCell_58 post n14 σ5 a1 v6 v7))))
set_option maxRecDepth 100000 in
set_option maxHeartbeats 4000000 in
theorem b_X11_sayCell_58 {T : Tb} {B : Nat} {p : Program} {l : Launch} {e : Env} {s : State} {m : MethodId} {args : Array Value} {below : List Frame} {meth : Method} {c0 : Code} {post : Int32 → MSt → Prop} {μ0 : Mem} {o : Nat} {A : Nat → Nat} (X : CX T B p m c0 cX11_sayCell 6 s args RX11) (hr : meth.sig.returnType = (some .int)) (hk : meth.locks = false) : ∀ (n : Nat) (σ : MSt) (x1 : Int32) (x3 : Int32) (x5 : Int32) (H : Heap) (locs : List Loc) (ls : Array Slot), wp_X11_sayCell_58 post n σ x1 x3 x5 → MG (WM T B μ0 o A) B s σ H locs → lv_has ls 6 [(0, .ref o), (1, .int x1), (3, .int x3), (5, .int x5)] → W p l e rm_X11_sayCell s m args below meth c0 H locs 0 0 (MQ below (va_Qi post (Bm (WM T B μ0 o A)) (Ai B)) args s 0 0 (Ai B)) (F0 m 58 ls []) := by
  intro n
  induction n with
  | zero =>
    intro σ x1 x3 x5 H locs ls hw
    exact hw.elim
  | succ n ih =>
    intro σ x1 x3 x5 H locs ls hw M hl
    rw [wp_X11_sayCell_58] at hw
    refine lv_iload X.1 X.2.1 dX11_sayCell_58 (lv_at hl 3 rfl) ?_
    obtain ⟨hwt, hwf⟩ := hw
    refine lv_if_lt (tgt := 109) X.1 X.2.1 dX11_sayCell_60 (by decide) (fun hq => ?_) (fun hq => ?_)
    · have hw := hwt hq
      refine lv_iload_n X.1 X.2.1 dX11_sayCell_109 rfl (lv_at hl 2 rfl) ?_
      exact mx_iret X hr hk M dX11_sayCell_110 (by decide) (by decide) hw
    · have hw := hwf hq
      refine lv_aload_n X.1 X.2.1 dX11_sayCell_63 rfl (lv_at hl 0 rfl) ?_
      refine mm_geta X M 55 (by decide) rfl (by decide) kw_1020 dX11_sayCell_64 ?_
      refine lv_iload_n X.1 X.2.1 dX11_sayCell_67 rfl (lv_at hl 2 rfl) ?_
      refine lv_aload_n X.1 X.2.1 dX11_sayCell_68 rfl (lv_at hl 0 rfl) ?_
      refine mm_geta X M 23 (by decide) rfl (by decide) kw_988 dX11_sayCell_69 ?_
      refine lv_aload_n X.1 X.2.1 dX11_sayCell_72 rfl (lv_at hl 0 rfl) ?_
      refine mm_geta X M 22 (by decide) rfl (by decide) kw_987 dX11_sayCell_73 ?_
      refine lv_iload_n X.1 X.2.1 dX11_sayCell_76 rfl (lv_at hl 1 rfl) ?_
      obtain ⟨hi, hw⟩ := hw
      refine mm_ald X M 22 rfl dX11_sayCell_77 hi ?_
      refine lv_iload X.1 X.2.1 dX11_sayCell_78 (lv_at hl 3 rfl) ?_
      refine lv_iadd X.1 X.2.1 dX11_sayCell_80 ?_
      obtain ⟨hi, hw⟩ := hw
      refine mm_jld X M 23 rfl dX11_sayCell_81 hi ?_
      obtain ⟨hi, hw⟩ := hw
      refine mm_jst X M 55 rfl dX11_sayCell_82 hi (fun σ8 H locs eσ8 M => ?_)
      replace hw := hw σ8 eσ8
      obtain ⟨v9, ev9⟩ : ∃ y : Int32, y = x3 + 1 := ⟨_, rfl⟩
      replace hw := hw v9 ev9
      refine lv_iinc (v := v9) (lv' := [(3, .int v9), (0, .ref o), (1, .int x1), (5, .int x5)]) X.1 X.2.1 dX11_sayCell_83 hl (k := 2) rfl (by rw [ev9]; rfl) (by decide) rfl (fun ls hl => ?_)
      refine lv_iload X.1 X.2.1 dX11_sayCell_86 (lv_at hl 3 rfl) ?_
      obtain ⟨hwt, hwf⟩ := hw
      refine lv_if_le (tgt := 103) X.1 X.2.1 dX11_sayCell_88 (by decide) (fun hq => ?_) (fun hq => ?_)
      · have hw := hwt hq
        obtain ⟨v10, ev10⟩ : ∃ y : Int32, y = x5 + (-1) := ⟨_, rfl⟩
        replace hw := hw v10 ev10
        refine lv_iinc (v := v10) (lv' := [(5, .int v10), (3, .int v9), (0, .ref o), (1, .int x1)]) X.1 X.2.1 dX11_sayCell_103 hl (k := 3) rfl (by rw [ev10]; rfl) (by decide) rfl (fun ls hl => ?_)
        refine lv_goto (tgt := 58) X.1 X.2.1 dX11_sayCell_106 (by decide) ?_
        exact ih σ8 x1 v9 v10 _ _ _ hw M (lv_sub hl [2, 3, 1, 0] rfl)
      · have hw := hwf hq
        refine lv_aload_n X.1 X.2.1 dX11_sayCell_91 rfl (lv_at hl 1 rfl) ?_
        refine mm_geta X M 55 (by decide) rfl (by decide) kw_1020 dX11_sayCell_92 ?_
        refine lv_iload_n X.1 X.2.1 dX11_sayCell_95 rfl (lv_at hl 0 rfl) ?_
        refine lv_ldc2 (v := 4398046511104) X.1 X.2.1 X.2.2.2.1 (X.2.2.2.2.1 _ kw_1313) dX11_sayCell_96 ?_
        obtain ⟨hi, hw⟩ := hw
        refine mm_jst X M 55 rfl dX11_sayCell_99 hi (fun σ11 H locs eσ11 M => ?_)
        replace hw := hw σ11 eσ11
        obtain ⟨v12, ev12⟩ : ∃ y : Int32, y = v9 + 1 := ⟨_, rfl⟩
        replace hw := hw v12 ev12
        refine lv_iinc (v := v12) (lv' := [(3, .int v12), (0, .ref o), (1, .int x1), (5, .int x5)]) X.1 X.2.1 dX11_sayCell_100 hl (k := 0) rfl (by rw [ev12]; rfl) (by decide) rfl (fun ls hl => ?_)
        obtain ⟨v13, ev13⟩ : ∃ y : Int32, y = x5 + (-1) := ⟨_, rfl⟩
        replace hw := hw v13 ev13
        refine lv_iinc (v := v13) (lv' := [(5, .int v13), (3, .int v12), (0, .ref o), (1, .int x1)]) X.1 X.2.1 dX11_sayCell_103 hl (k := 3) rfl (by rw [ev13]; rfl) (by decide) rfl (fun ls hl => ?_)
        refine lv_goto (tgt := 58) X.1 X.2.1 dX11_sayCell_106 (by decide) ?_
        exact ih σ11 x1 v12 v13 _ _ _ hw M (lv_sub hl [2, 3, 1, 0] rfl)
set_option maxRecDepth 100000 in
set_option maxHeartbeats 4000000 in
theorem c_X11_sayCell (l : Launch) (T : Tb) (B : Nat) (μ0 : Mem) (o : Nat) (A : Nat → Nat) (σ : MSt) (a1 : Int32) (a2 : Int32) (post : Int32 → MSt → Prop) (hw : wp_X11_sayCell σ a1 a2 post) : Met l yX11_sayCell (.code yX11_sayCell cX11_sayCell 6 (some .int) :: G) rm_X11_sayCell (Pm (WM T B μ0 o A) T B σ [.ref o, .int a1, .int a2]) (va_Qi post (Bm (WM T B μ0 o A)) (Ai B)) 0 0 (Ai B) := by
  refine mx_of RX11 rfl (by decide) (Nat.le_of_ble_eq_true rfl) ?_
  intro p e s m below meth c0 X hr hk hnm M ls hl
  have hl : lv_has ls 6 [(0, .ref o), (1, .int a1), (2, .int a2)] := hl
  unfold wp_X11_sayCell at hw
  refine lv_iload_n X.1 X.2.1 dX11_sayCell_0 rfl (lv_at hl 2 rfl) ?_
  refine lv_istore_n (lv' := [(3, .int a2), (0, .ref o), (1, .int a1), (2, .int a2)]) X.1 X.2.1 dX11_sayCell_1 rfl hl (by decide) rfl (fun ls hl => ?_)
  refine lv_aload_n X.1 X.2.1 dX11_sayCell_2 rfl (lv_at hl 1 rfl) ?_
  refine lv_bipush (v := 99) X.1 X.2.1 dX11_sayCell_3 (by decide) ?_
  refine mx_cv M (mx_runV (n := 1) (As := [.int 99]) (rest := []) X M (c_X11_say l T B μ0 o A σ 99 _ hw) (mm_recv X M) kw_1314 kw_1316 kw_61 kw_74 kw_1317 (by decide +kernel) rfl rfl ⟨Nat.le_of_ble_eq_true rfl, Nat.le_of_ble_eq_true rfl⟩ rfl hl.1 (Nat.le_of_ble_eq_true rfl) dX11_sayCell_5 ⟨by decide, by decide⟩) (fun σ1 H locs hw M => ?_)
  refine lv_aload_n X.1 X.2.1 dX11_sayCell_8 rfl (lv_at hl 1 rfl) ?_
  refine lv_aload_n X.1 X.2.1 dX11_sayCell_9 rfl (lv_at hl 1 rfl) ?_
  refine mm_geta X M 20 (by decide) rfl (by decide) kw_985 dX11_sayCell_10 ?_
  refine lv_iload_n X.1 X.2.1 dX11_sayCell_13 rfl (lv_at hl 2 rfl) ?_
  obtain ⟨hi, hw⟩ := hw
  refine mm_ald X M 20 rfl dX11_sayCell_14 hi ?_
  refine lv_i2l X.1 X.2.1 dX11_sayCell_15 rfl ?_
  refine mx_cv M (mx_runV (n := 1) (As := [.long (Int32.toInt64 (ma σ1 20 (Int32.toNatClampNeg a1)))]) (rest := []) X M (c_X11_sayNumber l T B μ0 o A σ1 (Int32.toInt64 (ma σ1 20 (Int32.toNatClampNeg a1))) _ hw) (mm_recv X M) kw_1319 kw_1321 kw_62 kw_74 kw_1322 (by decide +kernel) rfl rfl ⟨Nat.le_of_ble_eq_true rfl, Nat.le_of_ble_eq_true rfl⟩ rfl hl.1 (Nat.le_of_ble_eq_true rfl) dX11_sayCell_16 ⟨by decide, by decide⟩) (fun σ2 H locs hw M => ?_)
  refine lv_aload_n X.1 X.2.1 dX11_sayCell_19 rfl (lv_at hl 1 rfl) ?_
  refine mm_geta X M 21 (by decide) rfl (by decide) kw_986 dX11_sayCell_20 ?_
  refine lv_iload_n X.1 X.2.1 dX11_sayCell_23 rfl (lv_at hl 2 rfl) ?_
  obtain ⟨hi, hw⟩ := hw
  refine mm_ald X M 21 rfl dX11_sayCell_24 hi ?_
  refine lv_topi (fun v3 ev3 => ?_)
  replace hw := hw v3 ev3
  refine lv_istore (lv' := [(4, .int v3), (3, .int a2), (0, .ref o), (1, .int a1), (2, .int a2)]) X.1 X.2.1 dX11_sayCell_25 hl (by decide) rfl (fun ls hl => ?_)
  refine lv_iload X.1 X.2.1 dX11_sayCell_27 (lv_at hl 0 rfl) ?_
  obtain ⟨hwf, hwt⟩ := hw
  refine lv_if_ne (tgt := 34) X.1 X.2.1 dX11_sayCell_29 (by decide) (fun hq => ?_) (fun hq => ?_)
  · have hw := hwt hq
    refine lv_aload_n X.1 X.2.1 dX11_sayCell_34 rfl (lv_at hl 2 rfl) ?_
    refine lv_bipush (v := 40) X.1 X.2.1 dX11_sayCell_35 (by decide) ?_
    refine mx_cv M (mx_runV (n := 1) (As := [.int 40]) (rest := []) X M (c_X11_say l T B μ0 o A σ2 40 _ hw) (mm_recv X M) kw_1314 kw_1316 kw_61 kw_74 kw_1317 (by decide +kernel) rfl rfl ⟨Nat.le_of_ble_eq_true rfl, Nat.le_of_ble_eq_true rfl⟩ rfl hl.1 (Nat.le_of_ble_eq_true rfl) dX11_sayCell_37 ⟨by decide, by decide⟩) (fun σ4 H locs hw M => ?_)
    refine lv_aload_n X.1 X.2.1 dX11_sayCell_40 rfl (lv_at hl 2 rfl) ?_
    refine mm_geta X M 55 (by decide) rfl (by decide) kw_1020 dX11_sayCell_41 ?_
    refine lv_iload_n X.1 X.2.1 dX11_sayCell_44 rfl (lv_at hl 1 rfl) ?_
    refine lv_ldc2 (v := 4398046511105) X.1 X.2.1 X.2.2.2.1 (X.2.2.2.2.1 _ kw_1318) dX11_sayCell_45 ?_
    obtain ⟨hi, hw⟩ := hw
    refine mm_jst X M 55 rfl dX11_sayCell_48 hi (fun σ5 H locs eσ5 M => ?_)
    replace hw := hw σ5 eσ5
    obtain ⟨v6, ev6⟩ : ∃ y : Int32, y = a2 + 1 := ⟨_, rfl⟩
    replace hw := hw v6 ev6
    refine lv_iinc (v := v6) (lv' := [(3, .int v6), (4, .int v3), (0, .ref o), (1, .int a1), (2, .int a2)]) X.1 X.2.1 dX11_sayCell_49 hl (k := 1) rfl (by rw [ev6]; rfl) (by decide) rfl (fun ls hl => ?_)
    refine lv_iload X.1 X.2.1 dX11_sayCell_52 (lv_at hl 1 rfl) ?_
    refine lv_iconst (v := 1) X.1 X.2.1 dX11_sayCell_54 (by decide) ?_
    refine lv_isub X.1 X.2.1 dX11_sayCell_55 ?_
    refine lv_topi (fun v7 ev7 => ?_)
    replace hw := hw v7 ev7
    refine lv_istore (lv' := [(5, .int v7), (3, .int v6), (4, .int v3), (0, .ref o), (1, .int a1), (2, .int a2)]) X.1 X.2.1 dX11_sayCell_56 hl (by decide) rfl (fun ls hl => ?_)
    obtain ⟨n14, hw⟩ := hw
    exact b_X11_sayCell_58 X hr hk n14 σ5 a1 v6 v7 _ _ _ hw M (lv_sub hl [3, 4, 1, 0] rfl)
  · have hw := hwf hq
    refine lv_iload_n X.1 X.2.1 dX11_sayCell_32 rfl (lv_at hl 1 rfl) ?_
    exact mx_iret X hr hk M dX11_sayCell_33 (by decide) (by decide) hw
