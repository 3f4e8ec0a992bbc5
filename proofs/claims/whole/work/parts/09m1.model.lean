abbrev rm_X11_add : Room := { frames := 3, cells := 0, slots := 0, locals := 72 }
def wp_X11_add_116 (post : Int32 → MSt → Prop) : Nat → MSt → Int32 → Int32 → Int32 → Int32 → Prop
  | 0, _, _, _, _, _ => False
  | n + 1, σ, x1, x7, x8, x9 =>
    (x7 ≤ x9 →
     ∀ σ15 : MSt, σ15 = smi σ 11 ((mi σ 11) + 1) →
     vp_in x1 60 ∧
     vp_in (((2000 : Int32) * x1) + (ma σ15 9 (Int32.toNatClampNeg x1))) 120000 ∧ ∀ σ16 : MSt, σ16 = sma σ15 10 (Int32.toNatClampNeg (((2000 : Int32) * x1) + (ma σ15 9 (Int32.toNatClampNeg x1)))) x8 →
     vp_in x1 60 ∧
     vp_in x1 60 ∧ ∀ σ17 : MSt, σ17 = sma σ16 9 (Int32.toNatClampNeg x1) ((ma σ16 9 (Int32.toNatClampNeg x1)) + 1) →
     vp_in x1 60 ∧
     post ((ma σ17 9 (Int32.toNatClampNeg x1)) - 1) σ17) ∧ (¬ x7 ≤ x9 →
     vp_in x9 10 ∧
     vp_in (((10 : Int32) * x8) + x9) 20000 ∧ ∀ σ18 : MSt, σ18 = sma σ 18 (Int32.toNatClampNeg (((10 : Int32) * x8) + x9)) (ma σ 1 (Int32.toNatClampNeg x9)) →
     ∀ v19 : Int32, v19 = x9 + 1 →
     wp_X11_add_116 post n σ18 x1 x7 x8 v19)
def wp_X11_add (σ : MSt) (a1 : Int32) (a2 : Int32) (a3 : Int32) (a4 : Int32) (a5 : Int32) (a6 : Int32) (post : Int32 → MSt → Prop) : Prop :=
  ∀ σ1 : MSt, σ1 = smi σ 0 0 →
  wp_X11_taken σ1 (fun (r3 : Int32) (σ2 : MSt) =>
  ((mi σ2 11) = 2000 →
   post (-1) σ2) ∧ (¬ (mi σ2 11) = 2000 →
   wp_X11_isWithin σ2 a1 0 ((mi σ2 3) - 1) (fun (r5 : Int32) (σ4 : MSt) =>
   (r5 = 0 →
    post (-1) σ4) ∧ (¬ r5 = 0 →
    wp_X11_isRight σ4 a1 a2 a3 a4 a5 a6 r3 (fun (r7 : Int32) (σ6 : MSt) =>
    (r7 = 0 →
     post (-1) σ6) ∧ (¬ r7 = 0 →
     ∀ v8 : Int32, v8 = (mi σ6 11) →
     vp_in v8 2000 ∧ ∀ σ9 : MSt, σ9 = sma σ6 12 (Int32.toNatClampNeg v8) a2 →
     vp_in v8 2000 ∧ ∀ σ10 : MSt, σ10 = sma σ9 13 (Int32.toNatClampNeg v8) a3 →
     vp_in v8 2000 ∧ ∀ σ11 : MSt, σ11 = sma σ10 14 (Int32.toNatClampNeg v8) a4 →
     vp_in v8 2000 ∧ ∀ σ12 : MSt, σ12 = sma σ11 15 (Int32.toNatClampNeg v8) a5 →
     vp_in v8 2000 ∧ ∀ σ13 : MSt, σ13 = sma σ12 16 (Int32.toNatClampNeg v8) a6 →
     vp_in v8 2000 ∧ ∀ σ14 : MSt, σ14 = sma σ13 17 (Int32.toNatClampNeg v8) r3 →
     ∃ n20, wp_X11_add_116 post n20 σ14 a1 r3 v8 0))))))
set_option maxRecDepth 100000 in
set_option maxHeartbeats 4000000 in
theorem b_X11_add_116 {T : Tb} {B : Nat} {p : Program} {l : Launch} {e : Env} {s : State} {m : MethodId} {args : Array Value} {below : List Frame} {meth : Method} {c0 : Code} {post : Int32 → MSt → Prop} {μ0 : Mem} {o : Nat} {A : Nat → Nat} (X : CX T B p m c0 cX11_add 10 s args RX11) (hr : meth.sig.returnType = (some .int)) (hk : meth.locks = false) : ∀ (n : Nat) (σ : MSt) (x1 : Int32) (x7 : Int32) (x8 : Int32) (x9 : Int32) (H : Heap) (locs : List Loc) (ls : Array Slot), wp_X11_add_116 post n σ x1 x7 x8 x9 → MG (WM T B μ0 o A) B s σ H locs → lv_has ls 10 [(0, .ref o), (1, .int x1), (7, .int x7), (8, .int x8), (9, .int x9)] → W p l e rm_X11_add s m args below meth c0 H locs 0 0 (MQ below (va_Qi post (Bm (WM T B μ0 o A)) (Ai B)) args s 0 0 (Ai B)) (F0 m 116 ls []) := by
  intro n
  induction n with
  | zero =>
    intro σ x1 x7 x8 x9 H locs ls hw
    exact hw.elim
  | succ n ih =>
    intro σ x1 x7 x8 x9 H locs ls hw M hl
    rw [wp_X11_add_116] at hw
    refine lv_iload X.1 X.2.1 dX11_add_116 (lv_at hl 4 rfl) ?_
    refine lv_iload X.1 X.2.1 dX11_add_118 (lv_at hl 2 rfl) ?_
    obtain ⟨hwt, hwf⟩ := hw
    refine lv_icmp_ge (tgt := 149) X.1 X.2.1 dX11_add_120 (by decide) (fun hq => ?_) (fun hq => ?_)
    · have hw := hwt hq
      refine lv_aload_n X.1 X.2.1 dX11_add_149 rfl (lv_at hl 0 rfl) ?_
      refine lv_dup X.1 X.2.1 dX11_add_150 rfl ?_
      refine mm_geti X M 11 (by decide) rfl kw_976 dX11_add_151 ?_
      refine lv_iconst (v := 1) X.1 X.2.1 dX11_add_154 (by decide) ?_
      refine lv_iadd X.1 X.2.1 dX11_add_155 ?_
      refine mm_puti X M 11 (by decide) rfl kw_976 rfl dX11_add_156 rfl rfl (fun σ15 H locs eσ15 M => ?_)
      replace hw := hw σ15 eσ15
      refine lv_aload_n X.1 X.2.1 dX11_add_159 rfl (lv_at hl 0 rfl) ?_
      refine mm_geta X M 10 (by decide) rfl (by decide) kw_975 dX11_add_160 ?_
      refine lv_sipush (v := 2000) X.1 X.2.1 dX11_add_163 (by decide) ?_
      refine lv_iload_n X.1 X.2.1 dX11_add_166 rfl (lv_at hl 1 rfl) ?_
      refine lv_imul X.1 X.2.1 dX11_add_167 ?_
      refine lv_aload_n X.1 X.2.1 dX11_add_168 rfl (lv_at hl 0 rfl) ?_
      refine mm_geta X M 9 (by decide) rfl (by decide) kw_974 dX11_add_169 ?_
      refine lv_iload_n X.1 X.2.1 dX11_add_172 rfl (lv_at hl 1 rfl) ?_
      obtain ⟨hi, hw⟩ := hw
      refine mm_ald X M 9 rfl dX11_add_173 hi ?_
      refine lv_iadd X.1 X.2.1 dX11_add_174 ?_
      refine lv_iload X.1 X.2.1 dX11_add_175 (lv_at hl 3 rfl) ?_
      obtain ⟨hi, hw⟩ := hw
      refine mm_ast X M 10 rfl dX11_add_177 hi (fun σ16 H locs eσ16 M => ?_)
      replace hw := hw σ16 eσ16
      refine lv_aload_n X.1 X.2.1 dX11_add_178 rfl (lv_at hl 0 rfl) ?_
      refine mm_geta X M 9 (by decide) rfl (by decide) kw_974 dX11_add_179 ?_
      refine lv_iload_n X.1 X.2.1 dX11_add_182 rfl (lv_at hl 1 rfl) ?_
      refine lv_dup2_11 X.1 X.2.1 dX11_add_183 rfl rfl ?_
      obtain ⟨hi, hw⟩ := hw
      refine mm_ald X M 9 rfl dX11_add_184 hi ?_
      refine lv_iconst (v := 1) X.1 X.2.1 dX11_add_185 (by decide) ?_
      refine lv_iadd X.1 X.2.1 dX11_add_186 ?_
      obtain ⟨hi, hw⟩ := hw
      refine mm_ast X M 9 rfl dX11_add_187 hi (fun σ17 H locs eσ17 M => ?_)
      replace hw := hw σ17 eσ17
      refine lv_aload_n X.1 X.2.1 dX11_add_188 rfl (lv_at hl 0 rfl) ?_
      refine mm_geta X M 9 (by decide) rfl (by decide) kw_974 dX11_add_189 ?_
      refine lv_iload_n X.1 X.2.1 dX11_add_192 rfl (lv_at hl 1 rfl) ?_
      obtain ⟨hi, hw⟩ := hw
      refine mm_ald X M 9 rfl dX11_add_193 hi ?_
      refine lv_iconst (v := 1) X.1 X.2.1 dX11_add_194 (by decide) ?_
      refine lv_isub X.1 X.2.1 dX11_add_195 ?_
      exact mx_iret X hr hk M dX11_add_196 (by decide) (by decide) hw
    · have hw := hwf hq
      refine lv_aload_n X.1 X.2.1 dX11_add_123 rfl (lv_at hl 0 rfl) ?_
      refine mm_geta X M 18 (by decide) rfl (by decide) kw_983 dX11_add_124 ?_
      refine lv_bipush (v := 10) X.1 X.2.1 dX11_add_127 (by decide) ?_
      refine lv_iload X.1 X.2.1 dX11_add_129 (lv_at hl 3 rfl) ?_
      refine lv_imul X.1 X.2.1 dX11_add_131 ?_
      refine lv_iload X.1 X.2.1 dX11_add_132 (lv_at hl 4 rfl) ?_
      refine lv_iadd X.1 X.2.1 dX11_add_134 ?_
      refine lv_aload_n X.1 X.2.1 dX11_add_135 rfl (lv_at hl 0 rfl) ?_
      refine mm_geta X M 1 (by decide) rfl (by decide) kw_966 dX11_add_136 ?_
      refine lv_iload X.1 X.2.1 dX11_add_139 (lv_at hl 4 rfl) ?_
      obtain ⟨hi, hw⟩ := hw
      refine mm_ald X M 1 rfl dX11_add_141 hi ?_
      obtain ⟨hi, hw⟩ := hw
      refine mm_ast X M 18 rfl dX11_add_142 hi (fun σ18 H locs eσ18 M => ?_)
      replace hw := hw σ18 eσ18
      obtain ⟨v19, ev19⟩ : ∃ y : Int32, y = x9 + 1 := ⟨_, rfl⟩
      replace hw := hw v19 ev19
      refine lv_iinc (v := v19) (lv' := [(9, .int v19), (0, .ref o), (1, .int x1), (7, .int x7), (8, .int x8)]) X.1 X.2.1 dX11_add_143 hl (k := 4) rfl (by rw [ev19]; rfl) (by decide) rfl (fun ls hl => ?_)
      refine lv_goto (tgt := 116) X.1 X.2.1 dX11_add_146 (by decide) ?_
      exact ih σ18 x1 x7 x8 v19 _ _ _ hw M (lv_sub hl [1, 2, 3, 4, 0] rfl)
set_option maxRecDepth 100000 in
set_option maxHeartbeats 4000000 in
theorem c_X11_add (l : Launch) (T : Tb) (B : Nat) (μ0 : Mem) (o : Nat) (A : Nat → Nat) (σ : MSt) (a1 : Int32) (a2 : Int32) (a3 : Int32) (a4 : Int32) (a5 : Int32) (a6 : Int32) (post : Int32 → MSt → Prop) (hw : wp_X11_add σ a1 a2 a3 a4 a5 a6 post) : Met l yX11_add (.code yX11_add cX11_add 10 (some .int) :: G) rm_X11_add (Pm (WM T B μ0 o A) T B σ [.ref o, .int a1, .int a2, .int a3, .int a4, .int a5, .int a6]) (va_Qi post (Bm (WM T B μ0 o A)) (Ai B)) 0 0 (Ai B) := by
  refine mx_of RX11 rfl (by decide) (Nat.le_of_ble_eq_true rfl) ?_
  intro p e s m below meth c0 X hr hk hnm M ls hl
  have hl : lv_has ls 10 [(0, .ref o), (1, .int a1), (2, .int a2), (3, .int a3), (4, .int a4), (5, .int a5), (6, .int a6)] := hl
  unfold wp_X11_add at hw
  refine lv_aload_n X.1 X.2.1 dX11_add_0 rfl (lv_at hl 0 rfl) ?_
  refine lv_iconst (v := 0) X.1 X.2.1 dX11_add_1 (by decide) ?_
  refine mm_puti X M 0 (by decide) rfl kw_965 rfl dX11_add_2 rfl rfl (fun σ1 H locs eσ1 M => ?_)
  replace hw := hw σ1 eσ1
  refine lv_aload_n X.1 X.2.1 dX11_add_5 rfl (lv_at hl 0 rfl) ?_
  refine mx_ci M (mx_runV (n := 0) (As := []) (rest := []) X M (c_X11_taken l T B μ0 o A σ1 _ hw) (mm_recv X M) kw_1156 kw_1158 kw_30 kw_74 kw_1159 (by decide +kernel) rfl rfl ⟨Nat.le_of_ble_eq_true rfl, Nat.le_of_ble_eq_true rfl⟩ rfl hl.1 (Nat.le_of_ble_eq_true rfl) dX11_add_6 ⟨by decide, by decide⟩) (fun r3 σ2 H locs hw M => ?_)
  refine lv_istore (lv' := [(7, .int r3), (0, .ref o), (1, .int a1), (2, .int a2), (3, .int a3), (4, .int a4), (5, .int a5), (6, .int a6)]) X.1 X.2.1 dX11_add_9 hl (by decide) rfl (fun ls hl => ?_)
  refine lv_aload_n X.1 X.2.1 dX11_add_11 rfl (lv_at hl 1 rfl) ?_
  refine mm_geti X M 11 (by decide) rfl kw_976 dX11_add_12 ?_
  refine lv_sipush (v := 2000) X.1 X.2.1 dX11_add_15 (by decide) ?_
  obtain ⟨hwt, hwf⟩ := hw
  refine lv_icmp_eq (tgt := 53) X.1 X.2.1 dX11_add_18 (by decide) (fun hq => ?_) (fun hq => ?_)
  · have hw := hwt hq
    refine lv_iconst (v := (-1)) X.1 X.2.1 dX11_add_53 (by decide) ?_
    exact mx_iret X hr hk M dX11_add_54 (by decide) (by decide) hw
  · have hw := hwf hq
    refine lv_iload_n X.1 X.2.1 dX11_add_21 rfl (lv_at hl 2 rfl) ?_
    refine lv_iconst (v := 0) X.1 X.2.1 dX11_add_22 (by decide) ?_
    refine lv_aload_n X.1 X.2.1 dX11_add_23 rfl (lv_at hl 1 rfl) ?_
    refine mm_geti X M 3 (by decide) rfl kw_968 dX11_add_24 ?_
    refine lv_iconst (v := 1) X.1 X.2.1 dX11_add_27 (by decide) ?_
    refine lv_isub X.1 X.2.1 dX11_add_28 ?_
    refine mx_ci M (mx_runS (n := 3) (As := [.int a1, .int 0, .int ((mi σ2 3) - 1)]) (rest := []) X M (c_X11_isWithin l T B μ0 o A σ2 a1 0 ((mi σ2 3) - 1) _ hw) kw_1160 kw_1161 kw_74 kw_1162 (by decide +kernel) rfl rfl ⟨Nat.le_of_ble_eq_true rfl, Nat.le_of_ble_eq_true rfl⟩ rfl hl.1 (Nat.le_of_ble_eq_true rfl) dX11_add_29 ⟨by decide, by decide⟩) (fun r5 σ4 H locs hw M => ?_)
    obtain ⟨hwt, hwf⟩ := hw
    refine lv_if_eq (tgt := 53) X.1 X.2.1 dX11_add_32 (by decide) (fun hq => ?_) (fun hq => ?_)
    · have hw := hwt hq
      refine lv_iconst (v := (-1)) X.1 X.2.1 dX11_add_53 (by decide) ?_
      exact mx_iret X hr hk M dX11_add_54 (by decide) (by decide) hw
    · have hw := hwf hq
      refine lv_aload_n X.1 X.2.1 dX11_add_35 rfl (lv_at hl 1 rfl) ?_
      refine lv_iload_n X.1 X.2.1 dX11_add_36 rfl (lv_at hl 2 rfl) ?_
      refine lv_iload_n X.1 X.2.1 dX11_add_37 rfl (lv_at hl 3 rfl) ?_
      refine lv_iload_n X.1 X.2.1 dX11_add_38 rfl (lv_at hl 4 rfl) ?_
      refine lv_iload X.1 X.2.1 dX11_add_39 (lv_at hl 5 rfl) ?_
      refine lv_iload X.1 X.2.1 dX11_add_41 (lv_at hl 6 rfl) ?_
      refine lv_iload X.1 X.2.1 dX11_add_43 (lv_at hl 7 rfl) ?_
      refine lv_iload X.1 X.2.1 dX11_add_45 (lv_at hl 0 rfl) ?_
      refine mx_ci M (mx_runV (n := 7) (As := [.int a1, .int a2, .int a3, .int a4, .int a5, .int a6, .int r3]) (rest := []) X M (c_X11_isRight l T B μ0 o A σ4 a1 a2 a3 a4 a5 a6 r3 _ hw) (mm_recv X M) kw_1171 kw_1173 kw_32 kw_74 kw_1174 (by decide +kernel) rfl rfl ⟨Nat.le_of_ble_eq_true rfl, Nat.le_of_ble_eq_true rfl⟩ rfl hl.1 (Nat.le_of_ble_eq_true rfl) dX11_add_47 ⟨by decide, by decide⟩) (fun r7 σ6 H locs hw M => ?_)
      obtain ⟨hwf, hwt⟩ := hw
      refine lv_if_ne (tgt := 55) X.1 X.2.1 dX11_add_50 (by decide) (fun hq => ?_) (fun hq => ?_)
      · have hw := hwt hq
        refine lv_aload_n X.1 X.2.1 dX11_add_55 rfl (lv_at hl 1 rfl) ?_
        refine mm_geti X M 11 (by decide) rfl kw_976 dX11_add_56 ?_
        refine lv_topi (fun v8 ev8 => ?_)
        replace hw := hw v8 ev8
        refine lv_istore (lv' := [(8, .int v8), (7, .int r3), (0, .ref o), (1, .int a1), (2, .int a2), (3, .int a3), (4, .int a4), (5, .int a5), (6, .int a6)]) X.1 X.2.1 dX11_add_59 hl (by decide) rfl (fun ls hl => ?_)
        refine lv_aload_n X.1 X.2.1 dX11_add_61 rfl (lv_at hl 2 rfl) ?_
        refine mm_geta X M 12 (by decide) rfl (by decide) kw_977 dX11_add_62 ?_
        refine lv_iload X.1 X.2.1 dX11_add_65 (lv_at hl 0 rfl) ?_
        refine lv_iload_n X.1 X.2.1 dX11_add_67 rfl (lv_at hl 4 rfl) ?_
        obtain ⟨hi, hw⟩ := hw
        refine mm_ast X M 12 rfl dX11_add_68 hi (fun σ9 H locs eσ9 M => ?_)
        replace hw := hw σ9 eσ9
        refine lv_aload_n X.1 X.2.1 dX11_add_69 rfl (lv_at hl 2 rfl) ?_
        refine mm_geta X M 13 (by decide) rfl (by decide) kw_978 dX11_add_70 ?_
        refine lv_iload X.1 X.2.1 dX11_add_73 (lv_at hl 0 rfl) ?_
        refine lv_iload_n X.1 X.2.1 dX11_add_75 rfl (lv_at hl 5 rfl) ?_
        obtain ⟨hi, hw⟩ := hw
        refine mm_ast X M 13 rfl dX11_add_76 hi (fun σ10 H locs eσ10 M => ?_)
        replace hw := hw σ10 eσ10
        refine lv_aload_n X.1 X.2.1 dX11_add_77 rfl (lv_at hl 2 rfl) ?_
        refine mm_geta X M 14 (by decide) rfl (by decide) kw_979 dX11_add_78 ?_
        refine lv_iload X.1 X.2.1 dX11_add_81 (lv_at hl 0 rfl) ?_
        refine lv_iload X.1 X.2.1 dX11_add_83 (lv_at hl 6 rfl) ?_
        obtain ⟨hi, hw⟩ := hw
        refine mm_ast X M 14 rfl dX11_add_85 hi (fun σ11 H locs eσ11 M => ?_)
        replace hw := hw σ11 eσ11
        refine lv_aload_n X.1 X.2.1 dX11_add_86 rfl (lv_at hl 2 rfl) ?_
        refine mm_geta X M 15 (by decide) rfl (by decide) kw_980 dX11_add_87 ?_
        refine lv_iload X.1 X.2.1 dX11_add_90 (lv_at hl 0 rfl) ?_
        refine lv_iload X.1 X.2.1 dX11_add_92 (lv_at hl 7 rfl) ?_
        obtain ⟨hi, hw⟩ := hw
        refine mm_ast X M 15 rfl dX11_add_94 hi (fun σ12 H locs eσ12 M => ?_)
        replace hw := hw σ12 eσ12
        refine lv_aload_n X.1 X.2.1 dX11_add_95 rfl (lv_at hl 2 rfl) ?_
        refine mm_geta X M 16 (by decide) rfl (by decide) kw_981 dX11_add_96 ?_
        refine lv_iload X.1 X.2.1 dX11_add_99 (lv_at hl 0 rfl) ?_
        refine lv_iload X.1 X.2.1 dX11_add_101 (lv_at hl 8 rfl) ?_
        obtain ⟨hi, hw⟩ := hw
        refine mm_ast X M 16 rfl dX11_add_103 hi (fun σ13 H locs eσ13 M => ?_)
        replace hw := hw σ13 eσ13
        refine lv_aload_n X.1 X.2.1 dX11_add_104 rfl (lv_at hl 2 rfl) ?_
        refine mm_geta X M 17 (by decide) rfl (by decide) kw_982 dX11_add_105 ?_
        refine lv_iload X.1 X.2.1 dX11_add_108 (lv_at hl 0 rfl) ?_
        refine lv_iload X.1 X.2.1 dX11_add_110 (lv_at hl 1 rfl) ?_
        obtain ⟨hi, hw⟩ := hw
        refine mm_ast X M 17 rfl dX11_add_112 hi (fun σ14 H locs eσ14 M => ?_)
        replace hw := hw σ14 eσ14
        refine lv_iconst (v := 0) X.1 X.2.1 dX11_add_113 (by decide) ?_
        refine lv_istore (lv' := [(9, .int 0), (8, .int v8), (7, .int r3), (0, .ref o), (1, .int a1), (2, .int a2), (3, .int a3), (4, .int a4), (5, .int a5), (6, .int a6)]) X.1 X.2.1 dX11_add_114 hl (by decide) rfl (fun ls hl => ?_)
        obtain ⟨n20, hw⟩ := hw
        exact b_X11_add_116 X hr hk n20 σ14 a1 r3 v8 0 _ _ _ hw M (lv_sub hl [3, 4, 2, 1, 0] rfl)
      · have hw := hwf hq
        refine lv_iconst (v := (-1)) X.1 X.2.1 dX11_add_53 (by decide) ?_
        exact mx_iret X hr hk M dX11_add_54 (by decide) (by decide) hw

abbrev rm_X11_sizeOf : Room := { frames := 0, cells := 0, slots := 0, locals := 0 }
def wp_X11_sizeOf (σ : MSt) (a1 : Int32) (post : Int32 → MSt → Prop) : Prop :=
  vp_in a1 7000 ∧
  ((ma σ 27 (Int32.toNatClampNeg a1)) = 0 →
   post 3 σ) ∧ (¬ (ma σ 27 (Int32.toNatClampNeg a1)) = 0 →
   vp_in a1 7000 ∧
   vp_in (ma σ 28 (Int32.toNatClampNeg a1)) 60 ∧
   post ((2 : Int32) + (ma σ 5 (Int32.toNatClampNeg (ma σ 28 (Int32.toNatClampNeg a1))))) σ)
set_option maxRecDepth 100000 in
set_option maxHeartbeats 4000000 in
theorem c_X11_sizeOf (l : Launch) (T : Tb) (B : Nat) (μ0 : Mem) (o : Nat) (A : Nat → Nat) (σ : MSt) (a1 : Int32) (post : Int32 → MSt → Prop) (hw : wp_X11_sizeOf σ a1 post) : Met l yX11_sizeOf (.code yX11_sizeOf cX11_sizeOf 2 (some .int) :: G) rm_X11_sizeOf (Pm (WM T B μ0 o A) T B σ [.ref o, .int a1]) (va_Qi post (Bm (WM T B μ0 o A)) (Ai B)) 0 0 (Ai B) := by
  refine mx_of RX11 rfl (by decide) (Nat.le_of_ble_eq_true rfl) ?_
  intro p e s m below meth c0 X hr hk hnm M ls hl
  have hl : lv_has ls 2 [(0, .ref o), (1, .int a1)] := hl
  unfold wp_X11_sizeOf at hw
  refine lv_aload_n X.1 X.2.1 dX11_sizeOf_0 rfl (lv_at hl 0 rfl) ?_
  refine mm_geta X M 27 (by decide) rfl (by decide) kw_992 dX11_sizeOf_1 ?_
  refine lv_iload_n X.1 X.2.1 dX11_sizeOf_4 rfl (lv_at hl 1 rfl) ?_
  obtain ⟨hi, hw⟩ := hw
  refine mm_zld X M 27 rfl dX11_sizeOf_5 hi ?_
  obtain ⟨hwt, hwf⟩ := hw
  refine lv_if_eq (tgt := 25) X.1 X.2.1 dX11_sizeOf_6 (by decide) (fun hq => ?_) (fun hq => ?_)
  · have hw := hwt hq
    refine lv_iconst (v := 3) X.1 X.2.1 dX11_sizeOf_25 (by decide) ?_
    exact mx_iret X hr hk M dX11_sizeOf_26 (by decide) (by decide) hw
  · have hw := hwf hq
    refine lv_iconst (v := 2) X.1 X.2.1 dX11_sizeOf_9 (by decide) ?_
    refine lv_aload_n X.1 X.2.1 dX11_sizeOf_10 rfl (lv_at hl 0 rfl) ?_
    refine mm_geta X M 5 (by decide) rfl (by decide) kw_970 dX11_sizeOf_11 ?_
    refine lv_aload_n X.1 X.2.1 dX11_sizeOf_14 rfl (lv_at hl 0 rfl) ?_
    refine mm_geta X M 28 (by decide) rfl (by decide) kw_993 dX11_sizeOf_15 ?_
    refine lv_iload_n X.1 X.2.1 dX11_sizeOf_18 rfl (lv_at hl 1 rfl) ?_
    obtain ⟨hi, hw⟩ := hw
    refine mm_ald X M 28 rfl dX11_sizeOf_19 hi ?_
    obtain ⟨hi, hw⟩ := hw
    refine mm_ald X M 5 rfl dX11_sizeOf_20 hi ?_
    refine lv_iadd X.1 X.2.1 dX11_sizeOf_21 ?_
    refine lv_goto (tgt := 26) X.1 X.2.1 dX11_sizeOf_22 (by decide) ?_
    exact mx_iret X hr hk M dX11_sizeOf_26 (by decide) (by decide) hw

abbrev rm_X11_grow : Room := { frames := 0, cells := 0, slots := 0, locals := 0 }
def wp_X11_grow (σ : MSt) (a1 : Int32) (post : MSt → Prop) : Prop :=
  ∀ σ1 : MSt, σ1 = smi σ 47 ((mi σ 47) + a1) →
  ((mi σ1 47) ≤ (mi σ1 48) →
   ∀ σ2 : MSt, σ2 = smi σ1 48 (mi σ1 48) →
   post σ2) ∧ (¬ (mi σ1 47) ≤ (mi σ1 48) →
   ∀ σ3 : MSt, σ3 = smi σ1 48 (mi σ1 47) →
   post σ3)
set_option maxRecDepth 100000 in
set_option maxHeartbeats 4000000 in
theorem c_X11_grow (l : Launch) (T : Tb) (B : Nat) (μ0 : Mem) (o : Nat) (A : Nat → Nat) (σ : MSt) (a1 : Int32) (post : MSt → Prop) (hw : wp_X11_grow σ a1 post) : Met l yX11_grow (.code yX11_grow cX11_grow 2 none :: G) rm_X11_grow (Pm (WM T B μ0 o A) T B σ [.ref o, .int a1]) (va_Qv post (Bm (WM T B μ0 o A)) (Ai B)) 0 0 (Ai B) := by
  refine mx_of RX11 rfl (by decide) (Nat.le_of_ble_eq_true rfl) ?_
  intro p e s m below meth c0 X hr hk hnm M ls hl
  have hl : lv_has ls 2 [(0, .ref o), (1, .int a1)] := hl
  unfold wp_X11_grow at hw
  refine lv_aload_n X.1 X.2.1 dX11_grow_0 rfl (lv_at hl 0 rfl) ?_
  refine lv_dup X.1 X.2.1 dX11_grow_1 rfl ?_
  refine mm_geti X M 47 (by decide) rfl kw_1012 dX11_grow_2 ?_
  refine lv_iload_n X.1 X.2.1 dX11_grow_5 rfl (lv_at hl 1 rfl) ?_
  refine lv_iadd X.1 X.2.1 dX11_grow_6 ?_
  refine mm_puti X M 47 (by decide) rfl kw_1012 rfl dX11_grow_7 rfl rfl (fun σ1 H locs eσ1 M => ?_)
  replace hw := hw σ1 eσ1
  refine lv_aload_n X.1 X.2.1 dX11_grow_10 rfl (lv_at hl 0 rfl) ?_
  refine lv_aload_n X.1 X.2.1 dX11_grow_11 rfl (lv_at hl 0 rfl) ?_
  refine mm_geti X M 47 (by decide) rfl kw_1012 dX11_grow_12 ?_
  refine lv_aload_n X.1 X.2.1 dX11_grow_15 rfl (lv_at hl 0 rfl) ?_
  refine mm_geti X M 48 (by decide) rfl kw_1013 dX11_grow_16 ?_
  obtain ⟨hwt, hwf⟩ := hw
  refine lv_icmp_le (tgt := 29) X.1 X.2.1 dX11_grow_19 (by decide) (fun hq => ?_) (fun hq => ?_)
  · have hw := hwt hq
    refine lv_aload_n X.1 X.2.1 dX11_grow_29 rfl (lv_at hl 0 rfl) ?_
    refine mm_geti X M 48 (by decide) rfl kw_1013 dX11_grow_30 ?_
    refine mm_puti X M 48 (by decide) rfl kw_1013 rfl dX11_grow_33 rfl rfl (fun σ2 H locs eσ2 M => ?_)
    replace hw := hw σ2 eσ2
    exact mx_vret X hr hk M dX11_grow_36 (by decide) (by decide) hw
  · have hw := hwf hq
    refine lv_aload_n X.1 X.2.1 dX11_grow_22 rfl (lv_at hl 0 rfl) ?_
    refine mm_geti X M 47 (by decide) rfl kw_1012 dX11_grow_23 ?_
    refine lv_goto (tgt := 33) X.1 X.2.1 dX11_grow_26 (by decide) ?_
    refine mm_puti X M 48 (by decide) rfl kw_1013 rfl dX11_grow_33 rfl rfl (fun σ3 H locs eσ3 M => ?_)
    replace hw := hw σ3 eσ3
    exact mx_vret X hr hk M dX11_grow_36 (by decide) (by decide) hw

abbrev rm_X11_dropFrom : Room := { frames := 1, cells := 0, slots := 0, locals := 21 }
def wp_X11_dropFrom_0 (post : MSt → Prop) : Nat → MSt → Int32 → Prop
  | 0, _, _ => False
  | n + 1, σ, x1 =>
    ((mi σ 26) ≤ x1 →
     post σ) ∧ (¬ (mi σ 26) ≤ x1 →
     ∀ σ1 : MSt, σ1 = smi σ 26 ((mi σ 26) - 1) →
     wp_X11_sizeOf σ1 (mi σ1 26) (fun (r3 : Int32) (σ2 : MSt) =>
     ∀ σ4 : MSt, σ4 = smi σ2 47 ((mi σ1 47) - r3) →
     vp_in (mi σ4 26) 7000 ∧
     ((ma σ4 27 (Int32.toNatClampNeg (mi σ4 26))) = 0 →
      wp_X11_dropFrom_0 post n σ4 x1) ∧ (¬ (ma σ4 27 (Int32.toNatClampNeg (mi σ4 26))) = 0 →
      vp_in (mi σ4 26) 7000 ∧
      ∀ σ5 : MSt, σ5 = smi σ4 40 (ma σ4 29 (Int32.toNatClampNeg (mi σ4 26))) →
      wp_X11_dropFrom_0 post n σ5 x1)))
def wp_X11_dropFrom (σ : MSt) (a1 : Int32) (post : MSt → Prop) : Prop :=
  ∃ n6, wp_X11_dropFrom_0 post n6 σ a1
set_option maxRecDepth 100000 in
set_option maxHeartbeats 4000000 in
theorem b_X11_dropFrom_0 {T : Tb} {B : Nat} {p : Program} {l : Launch} {e : Env} {s : State} {m : MethodId} {args : Array Value} {below : List Frame} {meth : Method} {c0 : Code} {post : MSt → Prop} {μ0 : Mem} {o : Nat} {A : Nat → Nat} (X : CX T B p m c0 cX11_dropFrom 2 s args RX11) (hr : meth.sig.returnType = none) (hk : meth.locks = false) : ∀ (n : Nat) (σ : MSt) (x1 : Int32) (H : Heap) (locs : List Loc) (ls : Array Slot), wp_X11_dropFrom_0 post n σ x1 → MG (WM T B μ0 o A) B s σ H locs → lv_has ls 2 [(0, .ref o), (1, .int x1)] → W p l e rm_X11_dropFrom s m args below meth c0 H locs 0 0 (MQ below (va_Qv post (Bm (WM T B μ0 o A)) (Ai B)) args s 0 0 (Ai B)) (F0 m 0 ls []) := by
  intro n
  induction n with
  | zero =>
    intro σ x1 H locs ls hw
    exact hw.elim
  | succ n ih =>
    intro σ x1 H locs ls hw M hl
    rw [wp_X11_dropFrom_0] at hw
    refine lv_aload_n X.1 X.2.1 dX11_dropFrom_0 rfl (lv_at hl 0 rfl) ?_
    refine mm_geti X M 26 (by decide) rfl kw_991 dX11_dropFrom_1 ?_
    refine lv_iload_n X.1 X.2.1 dX11_dropFrom_4 rfl (lv_at hl 1 rfl) ?_
    obtain ⟨hwt, hwf⟩ := hw
    refine lv_icmp_le (tgt := 63) X.1 X.2.1 dX11_dropFrom_5 (by decide) (fun hq => ?_) (fun hq => ?_)
    · have hw := hwt hq
      exact mx_vret X hr hk M dX11_dropFrom_63 (by decide) (by decide) hw
    · have hw := hwf hq
      refine lv_aload_n X.1 X.2.1 dX11_dropFrom_8 rfl (lv_at hl 0 rfl) ?_
      refine lv_dup X.1 X.2.1 dX11_dropFrom_9 rfl ?_
      refine mm_geti X M 26 (by decide) rfl kw_991 dX11_dropFrom_10 ?_
      refine lv_iconst (v := 1) X.1 X.2.1 dX11_dropFrom_13 (by decide) ?_
      refine lv_isub X.1 X.2.1 dX11_dropFrom_14 ?_
      refine mm_puti X M 26 (by decide) rfl kw_991 rfl dX11_dropFrom_15 rfl rfl (fun σ1 H locs eσ1 M => ?_)
      replace hw := hw σ1 eσ1
      refine lv_aload_n X.1 X.2.1 dX11_dropFrom_18 rfl (lv_at hl 0 rfl) ?_
      refine lv_dup X.1 X.2.1 dX11_dropFrom_19 rfl ?_
      refine mm_geti X M 47 (by decide) rfl kw_1012 dX11_dropFrom_20 ?_
      refine lv_aload_n X.1 X.2.1 dX11_dropFrom_23 rfl (lv_at hl 0 rfl) ?_
      refine lv_aload_n X.1 X.2.1 dX11_dropFrom_24 rfl (lv_at hl 0 rfl) ?_
      refine mm_geti X M 26 (by decide) rfl kw_991 dX11_dropFrom_25 ?_
      refine mx_ci M (mx_runV (n := 1) (As := [.int (mi σ1 26)]) (rest := [.int (mi σ1 47), .ref o]) X M (c_X11_sizeOf l T B μ0 o A σ1 (mi σ1 26) _ hw) (mm_recv X M) kw_1214 kw_1216 kw_40 kw_74 kw_1217 (by decide +kernel) rfl rfl ⟨Nat.le_of_ble_eq_true rfl, Nat.le_of_ble_eq_true rfl⟩ rfl hl.1 (Nat.le_of_ble_eq_true rfl) dX11_dropFrom_28 ⟨by decide, by decide⟩) (fun r3 σ2 H locs hw M => ?_)
      refine lv_isub X.1 X.2.1 dX11_dropFrom_31 ?_
      refine mm_puti X M 47 (by decide) rfl kw_1012 rfl dX11_dropFrom_32 rfl rfl (fun σ4 H locs eσ4 M => ?_)
      replace hw := hw σ4 eσ4
      refine lv_aload_n X.1 X.2.1 dX11_dropFrom_35 rfl (lv_at hl 0 rfl) ?_
      refine mm_geta X M 27 (by decide) rfl (by decide) kw_992 dX11_dropFrom_36 ?_
      refine lv_aload_n X.1 X.2.1 dX11_dropFrom_39 rfl (lv_at hl 0 rfl) ?_
      refine mm_geti X M 26 (by decide) rfl kw_991 dX11_dropFrom_40 ?_
      obtain ⟨hi, hw⟩ := hw
      refine mm_zld X M 27 rfl dX11_dropFrom_43 hi ?_
      obtain ⟨hwt, hwf⟩ := hw
      refine lv_if_eq (tgt := 0) X.1 X.2.1 dX11_dropFrom_44 (by decide) (fun hq => ?_) (fun hq => ?_)
      · have hw := hwt hq
        exact ih σ4 x1 _ _ _ hw M (lv_sub hl [0, 1] rfl)
      · have hw := hwf hq
        refine lv_aload_n X.1 X.2.1 dX11_dropFrom_47 rfl (lv_at hl 0 rfl) ?_
        refine lv_aload_n X.1 X.2.1 dX11_dropFrom_48 rfl (lv_at hl 0 rfl) ?_
        refine mm_geta X M 29 (by decide) rfl (by decide) kw_994 dX11_dropFrom_49 ?_
        refine lv_aload_n X.1 X.2.1 dX11_dropFrom_52 rfl (lv_at hl 0 rfl) ?_
        refine mm_geti X M 26 (by decide) rfl kw_991 dX11_dropFrom_53 ?_
        obtain ⟨hi, hw⟩ := hw
        refine mm_ald X M 29 rfl dX11_dropFrom_56 hi ?_
        refine mm_puti X M 40 (by decide) rfl kw_1005 rfl dX11_dropFrom_57 rfl rfl (fun σ5 H locs eσ5 M => ?_)
        replace hw := hw σ5 eσ5
        refine lv_goto (tgt := 0) X.1 X.2.1 dX11_dropFrom_60 (by decide) ?_
        exact ih σ5 x1 _ _ _ hw M (lv_sub hl [0, 1] rfl)
set_option maxRecDepth 100000 in
set_option maxHeartbeats 4000000 in
theorem c_X11_dropFrom (l : Launch) (T : Tb) (B : Nat) (μ0 : Mem) (o : Nat) (A : Nat → Nat) (σ : MSt) (a1 : Int32) (post : MSt → Prop) (hw : wp_X11_dropFrom σ a1 post) : Met l yX11_dropFrom (.code yX11_dropFrom cX11_dropFrom 2 none :: G) rm_X11_dropFrom (Pm (WM T B μ0 o A) T B σ [.ref o, .int a1]) (va_Qv post (Bm (WM T B μ0 o A)) (Ai B)) 0 0 (Ai B) := by
  refine mx_of RX11 rfl (by decide) (Nat.le_of_ble_eq_true rfl) ?_
  intro p e s m below meth c0 X hr hk hnm M ls hl
  have hl : lv_has ls 2 [(0, .ref o), (1, .int a1)] := hl
  unfold wp_X11_dropFrom at hw
  obtain ⟨n6, hw⟩ := hw
  exact b_X11_dropFrom_0 X hr hk n6 σ a1 _ _ _ hw M (lv_sub hl [0, 1] rfl)

abbrev rm_X11_redos : Room := { frames := 0, cells := 0, slots := 0, locals := 0 }
def wp_X11_redos_4 (post : Int32 → MSt → Prop) : Nat → MSt → Int32 → Int32 → Prop
  | 0, _, _, _ => False
  | n + 1, σ, x1, x2 =>
    ((mi σ 26) ≤ x2 →
     post x1 σ) ∧ (¬ (mi σ 26) ≤ x2 →
     vp_in x2 7000 ∧
     ((ma σ 27 (Int32.toNatClampNeg x2)) = 0 →
      ∀ v1 : Int32, v1 = (x1 + 1) →
      ∀ v2 : Int32, v2 = x2 + 1 →
      wp_X11_redos_4 post n σ v1 v2) ∧ (¬ (ma σ 27 (Int32.toNatClampNeg x2)) = 0 →
      ∀ v3 : Int32, v3 = (x1 + 0) →
      ∀ v4 : Int32, v4 = x2 + 1 →
      wp_X11_redos_4 post n σ v3 v4))
def wp_X11_redos (σ : MSt) (post : Int32 → MSt → Prop) : Prop :=
  ∃ n5, wp_X11_redos_4 post n5 σ 0 0
set_option maxRecDepth 100000 in
set_option maxHeartbeats 4000000 in
theorem b_X11_redos_4 {T : Tb} {B : Nat} {p : Program} {l : Launch} {e : Env} {s : State} {m : MethodId} {args : Array Value} {below : List Frame} {meth : Method} {c0 : Code} {post : Int32 → MSt → Prop} {μ0 : Mem} {o : Nat} {A : Nat → Nat} (X : CX T B p m c0 cX11_redos 3 s args RX11) (hr : meth.sig.returnType = (some .int)) (hk : meth.locks = false) : ∀ (n : Nat) (σ : MSt) (x1 : Int32) (x2 : Int32) (H : Heap) (locs : List Loc) (ls : Array Slot), wp_X11_redos_4 post n σ x1 x2 → MG (WM T B μ0 o A) B s σ H locs → lv_has ls 3 [(0, .ref o), (1, .int x1), (2, .int x2)] → W p l e rm_X11_redos s m args below meth c0 H locs 0 0 (MQ below (va_Qi post (Bm (WM T B μ0 o A)) (Ai B)) args s 0 0 (Ai B)) (F0 m 4 ls []) := by
  intro n
  induction n with
  | zero =>
    intro σ x1 x2 H locs ls hw
    exact hw.elim
  | succ n ih =>
    intro σ x1 x2 H locs ls hw M hl
    rw [wp_X11_redos_4] at hw
    refine lv_iload_n X.1 X.2.1 dX11_redos_4 rfl (lv_at hl 2 rfl) ?_
    refine lv_aload_n X.1 X.2.1 dX11_redos_5 rfl (lv_at hl 0 rfl) ?_
    refine mm_geti X M 26 (by decide) rfl kw_991 dX11_redos_6 ?_
    obtain ⟨hwt, hwf⟩ := hw
    refine lv_icmp_ge (tgt := 35) X.1 X.2.1 dX11_redos_9 (by decide) (fun hq => ?_) (fun hq => ?_)
    · have hw := hwt hq
      refine lv_iload_n X.1 X.2.1 dX11_redos_35 rfl (lv_at hl 1 rfl) ?_
      exact mx_iret X hr hk M dX11_redos_36 (by decide) (by decide) hw
    · have hw := hwf hq
      refine lv_iload_n X.1 X.2.1 dX11_redos_12 rfl (lv_at hl 1 rfl) ?_
      refine lv_aload_n X.1 X.2.1 dX11_redos_13 rfl (lv_at hl 0 rfl) ?_
      refine mm_geta X M 27 (by decide) rfl (by decide) kw_992 dX11_redos_14 ?_
      refine lv_iload_n X.1 X.2.1 dX11_redos_17 rfl (lv_at hl 2 rfl) ?_
      obtain ⟨hi, hw⟩ := hw
      refine mm_zld X M 27 rfl dX11_redos_18 hi ?_
      obtain ⟨hwt, hwf⟩ := hw
      refine lv_if_eq (tgt := 26) X.1 X.2.1 dX11_redos_19 (by decide) (fun hq => ?_) (fun hq => ?_)
      · have hw := hwt hq
        refine lv_iconst (v := 1) X.1 X.2.1 dX11_redos_26 (by decide) ?_
        refine lv_iadd X.1 X.2.1 dX11_redos_27 ?_
        refine lv_topi (fun v1 ev1 => ?_)
        replace hw := hw v1 ev1
        refine lv_istore_n (lv' := [(1, .int v1), (0, .ref o), (2, .int x2)]) X.1 X.2.1 dX11_redos_28 rfl hl (by decide) rfl (fun ls hl => ?_)
        obtain ⟨v2, ev2⟩ : ∃ y : Int32, y = x2 + 1 := ⟨_, rfl⟩
        replace hw := hw v2 ev2
        refine lv_iinc (v := v2) (lv' := [(2, .int v2), (1, .int v1), (0, .ref o)]) X.1 X.2.1 dX11_redos_29 hl (k := 2) rfl (by rw [ev2]; rfl) (by decide) rfl (fun ls hl => ?_)
        refine lv_goto (tgt := 4) X.1 X.2.1 dX11_redos_32 (by decide) ?_
        exact ih σ v1 v2 _ _ _ hw M (lv_sub hl [2, 1, 0] rfl)
      · have hw := hwf hq
        refine lv_iconst (v := 0) X.1 X.2.1 dX11_redos_22 (by decide) ?_
        refine lv_goto (tgt := 27) X.1 X.2.1 dX11_redos_23 (by decide) ?_
        refine lv_iadd X.1 X.2.1 dX11_redos_27 ?_
        refine lv_topi (fun v3 ev3 => ?_)
        replace hw := hw v3 ev3
        refine lv_istore_n (lv' := [(1, .int v3), (0, .ref o), (2, .int x2)]) X.1 X.2.1 dX11_redos_28 rfl hl (by decide) rfl (fun ls hl => ?_)
        obtain ⟨v4, ev4⟩ : ∃ y : Int32, y = x2 + 1 := ⟨_, rfl⟩
        replace hw := hw v4 ev4
        refine lv_iinc (v := v4) (lv' := [(2, .int v4), (1, .int v3), (0, .ref o)]) X.1 X.2.1 dX11_redos_29 hl (k := 2) rfl (by rw [ev4]; rfl) (by decide) rfl (fun ls hl => ?_)
        refine lv_goto (tgt := 4) X.1 X.2.1 dX11_redos_32 (by decide) ?_
        exact ih σ v3 v4 _ _ _ hw M (lv_sub hl [2, 1, 0] rfl)
set_option maxRecDepth 100000 in
set_option maxHeartbeats 4000000 in
theorem c_X11_redos (l : Launch) (T : Tb) (B : Nat) (μ0 : Mem) (o : Nat) (A : Nat → Nat) (σ : MSt) (post : Int32 → MSt → Prop) (hw : wp_X11_redos σ  post) : Met l yX11_redos (.code yX11_redos cX11_redos 3 (some .int) :: G) rm_X11_redos (Pm (WM T B μ0 o A) T B σ [.ref o]) (va_Qi post (Bm (WM T B μ0 o A)) (Ai B)) 0 0 (Ai B) := by
  refine mx_of RX11 rfl (by decide) (Nat.le_of_ble_eq_true rfl) ?_
  intro p e s m below meth c0 X hr hk hnm M ls hl
  have hl : lv_has ls 3 [(0, .ref o)] := hl
  unfold wp_X11_redos at hw
  refine lv_iconst (v := 0) X.1 X.2.1 dX11_redos_0 (by decide) ?_
  refine lv_istore_n (lv' := [(1, .int 0), (0, .ref o)]) X.1 X.2.1 dX11_redos_1 rfl hl (by decide) rfl (fun ls hl => ?_)
  refine lv_iconst (v := 0) X.1 X.2.1 dX11_redos_2 (by decide) ?_
  refine lv_istore_n (lv' := [(2, .int 0), (1, .int 0), (0, .ref o)]) X.1 X.2.1 dX11_redos_3 rfl hl (by decide) rfl (fun ls hl => ?_)
  obtain ⟨n5, hw⟩ := hw
  exact b_X11_redos_4 X hr hk n5 σ 0 0 _ _ _ hw M (lv_sub hl [2, 1, 0] rfl)

abbrev rm_X11_redoAt : Room := { frames := 0, cells := 0, slots := 0, locals := 0 }
def wp_X11_redoAt_4 (post : Int32 → MSt → Prop) : Nat → MSt → Int32 → Int32 → Int32 → Prop
  | 0, _, _, _, _ => False
  | n + 1, σ, x1, x2, x3 =>
    ((mi σ 26) ≤ x3 →
     post (-1) σ) ∧ (¬ (mi σ 26) ≤ x3 →
     vp_in x3 7000 ∧
     ((ma σ 27 (Int32.toNatClampNeg x3)) = 0 →
      (x2 = x1 →
       post x3 σ) ∧ (¬ x2 = x1 →
       ∀ v1 : Int32, v1 = x2 + 1 →
       ∀ v2 : Int32, v2 = x3 + 1 →
       wp_X11_redoAt_4 post n σ x1 v1 v2)) ∧ (¬ (ma σ 27 (Int32.toNatClampNeg x3)) = 0 →
      ∀ v3 : Int32, v3 = x3 + 1 →
      wp_X11_redoAt_4 post n σ x1 x2 v3))
def wp_X11_redoAt (σ : MSt) (a1 : Int32) (post : Int32 → MSt → Prop) : Prop :=
  ∃ n4, wp_X11_redoAt_4 post n4 σ a1 0 0
set_option maxRecDepth 100000 in
set_option maxHeartbeats 4000000 in
theorem b_X11_redoAt_4 {T : Tb} {B : Nat} {p : Program} {l : Launch} {e : Env} {s : State} {m : MethodId} {args : Array Value} {below : List Frame} {meth : Method} {c0 : Code} {post : Int32 → MSt → Prop} {μ0 : Mem} {o : Nat} {A : Nat → Nat} (X : CX T B p m c0 cX11_redoAt 4 s args RX11) (hr : meth.sig.returnType = (some .int)) (hk : meth.locks = false) : ∀ (n : Nat) (σ : MSt) (x1 : Int32) (x2 : Int32) (x3 : Int32) (H : Heap) (locs : List Loc) (ls : Array Slot), wp_X11_redoAt_4 post n σ x1 x2 x3 → MG (WM T B μ0 o A) B s σ H locs → lv_has ls 4 [(0, .ref o), (1, .int x1), (2, .int x2), (3, .int x3)] → W p l e rm_X11_redoAt s m args below meth c0 H locs 0 0 (MQ below (va_Qi post (Bm (WM T B μ0 o A)) (Ai B)) args s 0 0 (Ai B)) (F0 m 4 ls []) := by
  intro n
  induction n with
  | zero =>
    intro σ x1 x2 x3 H locs ls hw
    exact hw.elim
  | succ n ih =>
    intro σ x1 x2 x3 H locs ls hw M hl
    rw [wp_X11_redoAt_4] at hw
    refine lv_iload_n X.1 X.2.1 dX11_redoAt_4 rfl (lv_at hl 3 rfl) ?_
    refine lv_aload_n X.1 X.2.1 dX11_redoAt_5 rfl (lv_at hl 0 rfl) ?_
    refine mm_geti X M 26 (by decide) rfl kw_991 dX11_redoAt_6 ?_
    obtain ⟨hwt, hwf⟩ := hw
    refine lv_icmp_ge (tgt := 40) X.1 X.2.1 dX11_redoAt_9 (by decide) (fun hq => ?_) (fun hq => ?_)
    · have hw := hwt hq
      refine lv_iconst (v := (-1)) X.1 X.2.1 dX11_redoAt_40 (by decide) ?_
      exact mx_iret X hr hk M dX11_redoAt_41 (by decide) (by decide) hw
    · have hw := hwf hq
      refine lv_aload_n X.1 X.2.1 dX11_redoAt_12 rfl (lv_at hl 0 rfl) ?_
      refine mm_geta X M 27 (by decide) rfl (by decide) kw_992 dX11_redoAt_13 ?_
      refine lv_iload_n X.1 X.2.1 dX11_redoAt_16 rfl (lv_at hl 3 rfl) ?_
      obtain ⟨hi, hw⟩ := hw
      refine mm_zld X M 27 rfl dX11_redoAt_17 hi ?_
      obtain ⟨hwt, hwf⟩ := hw
      refine lv_if_eq (tgt := 24) X.1 X.2.1 dX11_redoAt_18 (by decide) (fun hq => ?_) (fun hq => ?_)
      · have hw := hwt hq
        refine lv_iload_n X.1 X.2.1 dX11_redoAt_24 rfl (lv_at hl 2 rfl) ?_
        refine lv_iload_n X.1 X.2.1 dX11_redoAt_25 rfl (lv_at hl 1 rfl) ?_
        obtain ⟨hwf, hwt⟩ := hw
        refine lv_icmp_ne (tgt := 31) X.1 X.2.1 dX11_redoAt_26 (by decide) (fun hq => ?_) (fun hq => ?_)
        · have hw := hwt hq
          obtain ⟨v1, ev1⟩ : ∃ y : Int32, y = x2 + 1 := ⟨_, rfl⟩
          replace hw := hw v1 ev1
          refine lv_iinc (v := v1) (lv' := [(2, .int v1), (0, .ref o), (1, .int x1), (3, .int x3)]) X.1 X.2.1 dX11_redoAt_31 hl (k := 2) rfl (by rw [ev1]; rfl) (by decide) rfl (fun ls hl => ?_)
          obtain ⟨v2, ev2⟩ : ∃ y : Int32, y = x3 + 1 := ⟨_, rfl⟩
          replace hw := hw v2 ev2
          refine lv_iinc (v := v2) (lv' := [(3, .int v2), (2, .int v1), (0, .ref o), (1, .int x1)]) X.1 X.2.1 dX11_redoAt_34 hl (k := 3) rfl (by rw [ev2]; rfl) (by decide) rfl (fun ls hl => ?_)
          refine lv_goto (tgt := 4) X.1 X.2.1 dX11_redoAt_37 (by decide) ?_
          exact ih σ x1 v1 v2 _ _ _ hw M (lv_sub hl [2, 3, 1, 0] rfl)
        · have hw := hwf hq
          refine lv_iload_n X.1 X.2.1 dX11_redoAt_29 rfl (lv_at hl 3 rfl) ?_
          exact mx_iret X hr hk M dX11_redoAt_30 (by decide) (by decide) hw
      · have hw := hwf hq
        refine lv_goto (tgt := 34) X.1 X.2.1 dX11_redoAt_21 (by decide) ?_
        obtain ⟨v3, ev3⟩ : ∃ y : Int32, y = x3 + 1 := ⟨_, rfl⟩
        replace hw := hw v3 ev3
        refine lv_iinc (v := v3) (lv' := [(3, .int v3), (0, .ref o), (1, .int x1), (2, .int x2)]) X.1 X.2.1 dX11_redoAt_34 hl (k := 3) rfl (by rw [ev3]; rfl) (by decide) rfl (fun ls hl => ?_)
        refine lv_goto (tgt := 4) X.1 X.2.1 dX11_redoAt_37 (by decide) ?_
        exact ih σ x1 x2 v3 _ _ _ hw M (lv_sub hl [1, 2, 3, 0] rfl)
set_option maxRecDepth 100000 in
set_option maxHeartbeats 4000000 in
theorem c_X11_redoAt (l : Launch) (T : Tb) (B : Nat) (μ0 : Mem) (o : Nat) (A : Nat → Nat) (σ : MSt) (a1 : Int32) (post : Int32 → MSt → Prop) (hw : wp_X11_redoAt σ a1 post) : Met l yX11_redoAt (.code yX11_redoAt cX11_redoAt 4 (some .int) :: G) rm_X11_redoAt (Pm (WM T B μ0 o A) T B σ [.ref o, .int a1]) (va_Qi post (Bm (WM T B μ0 o A)) (Ai B)) 0 0 (Ai B) := by
  refine mx_of RX11 rfl (by decide) (Nat.le_of_ble_eq_true rfl) ?_
  intro p e s m below meth c0 X hr hk hnm M ls hl
  have hl : lv_has ls 4 [(0, .ref o), (1, .int a1)] := hl
  unfold wp_X11_redoAt at hw
  refine lv_iconst (v := 0) X.1 X.2.1 dX11_redoAt_0 (by decide) ?_
  refine lv_istore_n (lv' := [(2, .int 0), (0, .ref o), (1, .int a1)]) X.1 X.2.1 dX11_redoAt_1 rfl hl (by decide) rfl (fun ls hl => ?_)
  refine lv_iconst (v := 0) X.1 X.2.1 dX11_redoAt_2 (by decide) ?_
  refine lv_istore_n (lv' := [(3, .int 0), (2, .int 0), (0, .ref o), (1, .int a1)]) X.1 X.2.1 dX11_redoAt_3 rfl hl (by decide) rfl (fun ls hl => ?_)
  obtain ⟨n4, hw⟩ := hw
  exact b_X11_redoAt_4 X hr hk n4 σ a1 0 0 _ _ _ hw M (lv_sub hl [2, 3, 1, 0] rfl)

abbrev rm_X11_lastRedo : Room := { frames := 0, cells := 0, slots := 0, locals := 0 }
def wp_X11_lastRedo_7 (post : Int32 → MSt → Prop) : Nat → MSt → Int32 → Prop
  | 0, _, _ => False
  | n + 1, σ, x1 =>
    (x1 < 0 →
     post x1 σ) ∧ (¬ x1 < 0 →
     vp_in x1 7000 ∧
     ((ma σ 27 (Int32.toNatClampNeg x1)) = 0 →
      post x1 σ) ∧ (¬ (ma σ 27 (Int32.toNatClampNeg x1)) = 0 →
      ∀ v2 : Int32, v2 = x1 + (-1) →
      wp_X11_lastRedo_7 post n σ v2))
def wp_X11_lastRedo (σ : MSt) (post : Int32 → MSt → Prop) : Prop :=
  ∀ v1 : Int32, v1 = ((mi σ 26) - 1) →
  ∃ n3, wp_X11_lastRedo_7 post n3 σ v1
set_option maxRecDepth 100000 in
set_option maxHeartbeats 4000000 in
theorem b_X11_lastRedo_7 {T : Tb} {B : Nat} {p : Program} {l : Launch} {e : Env} {s : State} {m : MethodId} {args : Array Value} {below : List Frame} {meth : Method} {c0 : Code} {post : Int32 → MSt → Prop} {μ0 : Mem} {o : Nat} {A : Nat → Nat} (X : CX T B p m c0 cX11_lastRedo 2 s args RX11) (hr : meth.sig.returnType = (some .int)) (hk : meth.locks = false) : ∀ (n : Nat) (σ : MSt) (x1 : Int32) (H : Heap) (locs : List Loc) (ls : Array Slot), wp_X11_lastRedo_7 post n σ x1 → MG (WM T B μ0 o A) B s σ H locs → lv_has ls 2 [(0, .ref o), (1, .int x1)] → W p l e rm_X11_lastRedo s m args below meth c0 H locs 0 0 (MQ below (va_Qi post (Bm (WM T B μ0 o A)) (Ai B)) args s 0 0 (Ai B)) (F0 m 7 ls []) := by
  intro n
  induction n with
  | zero =>
    intro σ x1 H locs ls hw
    exact hw.elim
  | succ n ih =>
    intro σ x1 H locs ls hw M hl
    rw [wp_X11_lastRedo_7] at hw
    refine lv_iload_n X.1 X.2.1 dX11_lastRedo_7 rfl (lv_at hl 1 rfl) ?_
    obtain ⟨hwt, hwf⟩ := hw
    refine lv_if_lt (tgt := 26) X.1 X.2.1 dX11_lastRedo_8 (by decide) (fun hq => ?_) (fun hq => ?_)
    · have hw := hwt hq
      refine lv_iload_n X.1 X.2.1 dX11_lastRedo_26 rfl (lv_at hl 1 rfl) ?_
      exact mx_iret X hr hk M dX11_lastRedo_27 (by decide) (by decide) hw
    · have hw := hwf hq
      refine lv_aload_n X.1 X.2.1 dX11_lastRedo_11 rfl (lv_at hl 0 rfl) ?_
      refine mm_geta X M 27 (by decide) rfl (by decide) kw_992 dX11_lastRedo_12 ?_
      refine lv_iload_n X.1 X.2.1 dX11_lastRedo_15 rfl (lv_at hl 1 rfl) ?_
      obtain ⟨hi, hw⟩ := hw
      refine mm_zld X M 27 rfl dX11_lastRedo_16 hi ?_
      obtain ⟨hwt, hwf⟩ := hw
      refine lv_if_eq (tgt := 26) X.1 X.2.1 dX11_lastRedo_17 (by decide) (fun hq => ?_) (fun hq => ?_)
      · have hw := hwt hq
        refine lv_iload_n X.1 X.2.1 dX11_lastRedo_26 rfl (lv_at hl 1 rfl) ?_
        exact mx_iret X hr hk M dX11_lastRedo_27 (by decide) (by decide) hw
      · have hw := hwf hq
        obtain ⟨v2, ev2⟩ : ∃ y : Int32, y = x1 + (-1) := ⟨_, rfl⟩
        replace hw := hw v2 ev2
        refine lv_iinc (v := v2) (lv' := [(1, .int v2), (0, .ref o)]) X.1 X.2.1 dX11_lastRedo_20 hl (k := 1) rfl (by rw [ev2]; rfl) (by decide) rfl (fun ls hl => ?_)
        refine lv_goto (tgt := 7) X.1 X.2.1 dX11_lastRedo_23 (by decide) ?_
        exact ih σ v2 _ _ _ hw M (lv_sub hl [1, 0] rfl)
set_option maxRecDepth 100000 in
set_option maxHeartbeats 4000000 in
theorem c_X11_lastRedo (l : Launch) (T : Tb) (B : Nat) (μ0 : Mem) (o : Nat) (A : Nat → Nat) (σ : MSt) (post : Int32 → MSt → Prop) (hw : wp_X11_lastRedo σ  post) : Met l yX11_lastRedo (.code yX11_lastRedo cX11_lastRedo 2 (some .int) :: G) rm_X11_lastRedo (Pm (WM T B μ0 o A) T B σ [.ref o]) (va_Qi post (Bm (WM T B μ0 o A)) (Ai B)) 0 0 (Ai B) := by
  refine mx_of RX11 rfl (by decide) (Nat.le_of_ble_eq_true rfl) ?_
  intro p e s m below meth c0 X hr hk hnm M ls hl
  have hl : lv_has ls 2 [(0, .ref o)] := hl
  unfold wp_X11_lastRedo at hw
  refine lv_aload_n X.1 X.2.1 dX11_lastRedo_0 rfl (lv_at hl 0 rfl) ?_
  refine mm_geti X M 26 (by decide) rfl kw_991 dX11_lastRedo_1 ?_
  refine lv_iconst (v := 1) X.1 X.2.1 dX11_lastRedo_4 (by decide) ?_
  refine lv_isub X.1 X.2.1 dX11_lastRedo_5 ?_
  refine lv_topi (fun v1 ev1 => ?_)
  replace hw := hw v1 ev1
  refine lv_istore_n (lv' := [(1, .int v1), (0, .ref o)]) X.1 X.2.1 dX11_lastRedo_6 rfl hl (by decide) rfl (fun ls hl => ?_)
  obtain ⟨n3, hw⟩ := hw
  exact b_X11_lastRedo_7 X hr hk n3 σ v1 _ _ _ hw M (lv_sub hl [1, 0] rfl)

abbrev rm_X11_pushFrame : Room := { frames := 1, cells := 0, slots := 0, locals := 22 }
def wp_X11_pushFrame_71 (post : MSt → Prop) : Nat → MSt → Int32 → Int32 → Prop
  | 0, _, _, _ => False
  | n + 1, σ, x1, x5 =>
    vp_in x1 60 ∧
    ((ma σ 5 (Int32.toNatClampNeg x1)) ≤ x5 →
     vp_in x1 60 ∧
     ∀ σ11 : MSt, σ11 = smi σ 40 ((mi σ 40) + (ma σ 5 (Int32.toNatClampNeg x1))) →
     ∀ σ12 : MSt, σ12 = smi σ11 26 ((mi σ11 26) + 1) →
     vp_in x1 60 ∧
     wp_X11_grow σ12 ((2 : Int32) + (ma σ12 5 (Int32.toNatClampNeg x1))) (fun (σ13 : MSt) =>
     post σ13)) ∧ (¬ (ma σ 5 (Int32.toNatClampNeg x1)) ≤ x5 →
     vp_in ((mi σ 40) + x5) 20100 ∧ ∀ σ14 : MSt, σ14 = sml σ 39 (Int32.toNatClampNeg ((mi σ 40) + x5)) 0 →
     ∀ v15 : Int32, v15 = x5 + 1 →
     wp_X11_pushFrame_71 post n σ14 x1 v15)
def wp_X11_pushFrame (σ : MSt) (a1 : Int32) (a2 : Int32) (a3 : Int32) (post : MSt → Prop) : Prop :=
  ∀ v1 : Int32, v1 = (mi σ 26) →
  vp_in v1 7000 ∧ ∀ σ2 : MSt, σ2 = sma σ 27 (Int32.toNatClampNeg v1) (vp_nar .boolean 1) →
  vp_in v1 7000 ∧ ∀ σ3 : MSt, σ3 = sma σ2 28 (Int32.toNatClampNeg v1) a1 →
  vp_in v1 7000 ∧ ∀ σ4 : MSt, σ4 = sma σ3 29 (Int32.toNatClampNeg v1) (mi σ3 40) →
  vp_in v1 7000 ∧ ∀ σ5 : MSt, σ5 = sma σ4 30 (Int32.toNatClampNeg v1) 0 →
  vp_in v1 7000 ∧ ∀ σ6 : MSt, σ6 = sma σ5 31 (Int32.toNatClampNeg v1) a2 →
  vp_in v1 7000 ∧ ∀ σ7 : MSt, σ7 = sma σ6 32 (Int32.toNatClampNeg v1) a3 →
  wp_X11_redos σ7 (fun (r9 : Int32) (σ8 : MSt) =>
  vp_in v1 7000 ∧ ∀ σ10 : MSt, σ10 = sma σ8 33 (Int32.toNatClampNeg v1) r9 →
  ∃ n16, wp_X11_pushFrame_71 post n16 σ10 a1 0)
set_option maxRecDepth 100000 in
set_option maxHeartbeats 4000000 in
theorem b_X11_pushFrame_71 {T : Tb} {B : Nat} {p : Program} {l : Launch} {e : Env} {s : State} {m : MethodId} {args : Array Value} {below : List Frame} {meth : Method} {c0 : Code} {post : MSt → Prop} {μ0 : Mem} {o : Nat} {A : Nat → Nat} (X : CX T B p m c0 cX11_pushFrame 6 s args RX11) (hr : meth.sig.returnType = none) (hk : meth.locks = false) : ∀ (n : Nat) (σ : MSt) (x1 : Int32) (x5 : Int32) (H : Heap) (locs : List Loc) (ls : Array Slot), wp_X11_pushFrame_71 post n σ x1 x5 → MG (WM T B μ0 o A) B s σ H locs → lv_has ls 6 [(0, .ref o), (1, .int x1), (5, .int x5)] → W p l e rm_X11_pushFrame s m args below meth c0 H locs 0 0 (MQ below (va_Qv post (Bm (WM T B μ0 o A)) (Ai B)) args s 0 0 (Ai B)) (F0 m 71 ls []) := by
  intro n
  induction n with
  | zero =>
    intro σ x1 x5 H locs ls hw
    exact hw.elim
  | succ n ih =>
    intro σ x1 x5 H locs ls hw M hl
    rw [wp_X11_pushFrame_71] at hw
    refine lv_iload X.1 X.2.1 dX11_pushFrame_71 (lv_at hl 2 rfl) ?_
    refine lv_aload_n X.1 X.2.1 dX11_pushFrame_73 rfl (lv_at hl 0 rfl) ?_
    refine mm_geta X M 5 (by decide) rfl (by decide) kw_970 dX11_pushFrame_74 ?_
    refine lv_iload_n X.1 X.2.1 dX11_pushFrame_77 rfl (lv_at hl 1 rfl) ?_
    obtain ⟨hi, hw⟩ := hw
    refine mm_ald X M 5 rfl dX11_pushFrame_78 hi ?_
    obtain ⟨hwt, hwf⟩ := hw
    refine lv_icmp_ge (tgt := 101) X.1 X.2.1 dX11_pushFrame_79 (by decide) (fun hq => ?_) (fun hq => ?_)
    · have hw := hwt hq
      refine lv_aload_n X.1 X.2.1 dX11_pushFrame_101 rfl (lv_at hl 0 rfl) ?_
      refine lv_dup X.1 X.2.1 dX11_pushFrame_102 rfl ?_
      refine mm_geti X M 40 (by decide) rfl kw_1005 dX11_pushFrame_103 ?_
      refine lv_aload_n X.1 X.2.1 dX11_pushFrame_106 rfl (lv_at hl 0 rfl) ?_
      refine mm_geta X M 5 (by decide) rfl (by decide) kw_970 dX11_pushFrame_107 ?_
      refine lv_iload_n X.1 X.2.1 dX11_pushFrame_110 rfl (lv_at hl 1 rfl) ?_
      obtain ⟨hi, hw⟩ := hw
      refine mm_ald X M 5 rfl dX11_pushFrame_111 hi ?_
      refine lv_iadd X.1 X.2.1 dX11_pushFrame_112 ?_
      refine mm_puti X M 40 (by decide) rfl kw_1005 rfl dX11_pushFrame_113 rfl rfl (fun σ11 H locs eσ11 M => ?_)
      replace hw := hw σ11 eσ11
      refine lv_aload_n X.1 X.2.1 dX11_pushFrame_116 rfl (lv_at hl 0 rfl) ?_
      refine lv_dup X.1 X.2.1 dX11_pushFrame_117 rfl ?_
      refine mm_geti X M 26 (by decide) rfl kw_991 dX11_pushFrame_118 ?_
      refine lv_iconst (v := 1) X.1 X.2.1 dX11_pushFrame_121 (by decide) ?_
      refine lv_iadd X.1 X.2.1 dX11_pushFrame_122 ?_
      refine mm_puti X M 26 (by decide) rfl kw_991 rfl dX11_pushFrame_123 rfl rfl (fun σ12 H locs eσ12 M => ?_)
      replace hw := hw σ12 eσ12
      refine lv_aload_n X.1 X.2.1 dX11_pushFrame_126 rfl (lv_at hl 0 rfl) ?_
      refine lv_iconst (v := 2) X.1 X.2.1 dX11_pushFrame_127 (by decide) ?_
      refine lv_aload_n X.1 X.2.1 dX11_pushFrame_128 rfl (lv_at hl 0 rfl) ?_
      refine mm_geta X M 5 (by decide) rfl (by decide) kw_970 dX11_pushFrame_129 ?_
      refine lv_iload_n X.1 X.2.1 dX11_pushFrame_132 rfl (lv_at hl 1 rfl) ?_
      obtain ⟨hi, hw⟩ := hw
      refine mm_ald X M 5 rfl dX11_pushFrame_133 hi ?_
      refine lv_iadd X.1 X.2.1 dX11_pushFrame_134 ?_
      refine mx_cv M (mx_runV (n := 1) (As := [.int ((2 : Int32) + (ma σ12 5 (Int32.toNatClampNeg x1)))]) (rest := []) X M (c_X11_grow l T B μ0 o A σ12 ((2 : Int32) + (ma σ12 5 (Int32.toNatClampNeg x1))) _ hw) (mm_recv X M) kw_1194 kw_1196 kw_36 kw_74 kw_1197 (by decide +kernel) rfl rfl ⟨Nat.le_of_ble_eq_true rfl, Nat.le_of_ble_eq_true rfl⟩ rfl hl.1 (Nat.le_of_ble_eq_true rfl) dX11_pushFrame_135 ⟨by decide, by decide⟩) (fun σ13 H locs hw M => ?_)
      exact mx_vret X hr hk M dX11_pushFrame_138 (by decide) (by decide) hw
    · have hw := hwf hq
      refine lv_aload_n X.1 X.2.1 dX11_pushFrame_82 rfl (lv_at hl 0 rfl) ?_
      refine mm_geta X M 39 (by decide) rfl (by decide) kw_1004 dX11_pushFrame_83 ?_
      refine lv_aload_n X.1 X.2.1 dX11_pushFrame_86 rfl (lv_at hl 0 rfl) ?_
      refine mm_geti X M 40 (by decide) rfl kw_1005 dX11_pushFrame_87 ?_
      refine lv_iload X.1 X.2.1 dX11_pushFrame_90 (lv_at hl 2 rfl) ?_
      refine lv_iadd X.1 X.2.1 dX11_pushFrame_92 ?_
      refine lv_lconst (v := 0) X.1 X.2.1 dX11_pushFrame_93 (by decide) ?_
      obtain ⟨hi, hw⟩ := hw
      refine mm_jst X M 39 rfl dX11_pushFrame_94 hi (fun σ14 H locs eσ14 M => ?_)
      replace hw := hw σ14 eσ14
      obtain ⟨v15, ev15⟩ : ∃ y : Int32, y = x5 + 1 := ⟨_, rfl⟩
      replace hw := hw v15 ev15
      refine lv_iinc (v := v15) (lv' := [(5, .int v15), (0, .ref o), (1, .int x1)]) X.1 X.2.1 dX11_pushFrame_95 hl (k := 2) rfl (by rw [ev15]; rfl) (by decide) rfl (fun ls hl => ?_)
      refine lv_goto (tgt := 71) X.1 X.2.1 dX11_pushFrame_98 (by decide) ?_
      exact ih σ14 x1 v15 _ _ _ hw M (lv_sub hl [1, 2, 0] rfl)
set_option maxRecDepth 100000 in
set_option maxHeartbeats 4000000 in
theorem c_X11_pushFrame (l : Launch) (T : Tb) (B : Nat) (μ0 : Mem) (o : Nat) (A : Nat → Nat) (σ : MSt) (a1 : Int32) (a2 : Int32) (a3 : Int32) (post : MSt → Prop) (hw : wp_X11_pushFrame σ a1 a2 a3 post) : Met l yX11_pushFrame (.code yX11_pushFrame cX11_pushFrame 6 none :: G) rm_X11_pushFrame (Pm (WM T B μ0 o A) T B σ [.ref o, .int a1, .int a2, .int a3]) (va_Qv post (Bm (WM T B μ0 o A)) (Ai B)) 0 0 (Ai B) := by
  refine mx_of RX11 rfl (by decide) (Nat.le_of_ble_eq_true rfl) ?_
  intro p e s m below meth c0 X hr hk hnm M ls hl
  have hl : lv_has ls 6 [(0, .ref o), (1, .int a1), (2, .int a2), (3, .int a3)] := hl
  unfold wp_X11_pushFrame at hw
  refine lv_aload_n X.1 X.2.1 dX11_pushFrame_0 rfl (lv_at hl 0 rfl) ?_
  refine mm_geti X M 26 (by decide) rfl kw_991 dX11_pushFrame_1 ?_
  refine lv_topi (fun v1 ev1 => ?_)
  replace hw := hw v1 ev1
  refine lv_istore (lv' := [(4, .int v1), (0, .ref o), (1, .int a1), (2, .int a2), (3, .int a3)]) X.1 X.2.1 dX11_pushFrame_4 hl (by decide) rfl (fun ls hl => ?_)
  refine lv_aload_n X.1 X.2.1 dX11_pushFrame_6 rfl (lv_at hl 1 rfl) ?_
  refine mm_geta X M 27 (by decide) rfl (by decide) kw_992 dX11_pushFrame_7 ?_
  refine lv_iload X.1 X.2.1 dX11_pushFrame_10 (lv_at hl 0 rfl) ?_
  refine lv_iconst (v := 1) X.1 X.2.1 dX11_pushFrame_12 (by decide) ?_
  obtain ⟨hi, hw⟩ := hw
  refine mm_zst X M 27 rfl dX11_pushFrame_13 hi (fun σ2 H locs eσ2 M => ?_)
  replace hw := hw σ2 eσ2
  refine lv_aload_n X.1 X.2.1 dX11_pushFrame_14 rfl (lv_at hl 1 rfl) ?_
  refine mm_geta X M 28 (by decide) rfl (by decide) kw_993 dX11_pushFrame_15 ?_
  refine lv_iload X.1 X.2.1 dX11_pushFrame_18 (lv_at hl 0 rfl) ?_
  refine lv_iload_n X.1 X.2.1 dX11_pushFrame_20 rfl (lv_at hl 2 rfl) ?_
  obtain ⟨hi, hw⟩ := hw
  refine mm_ast X M 28 rfl dX11_pushFrame_21 hi (fun σ3 H locs eσ3 M => ?_)
  replace hw := hw σ3 eσ3
  refine lv_aload_n X.1 X.2.1 dX11_pushFrame_22 rfl (lv_at hl 1 rfl) ?_
  refine mm_geta X M 29 (by decide) rfl (by decide) kw_994 dX11_pushFrame_23 ?_
  refine lv_iload X.1 X.2.1 dX11_pushFrame_26 (lv_at hl 0 rfl) ?_
  refine lv_aload_n X.1 X.2.1 dX11_pushFrame_28 rfl (lv_at hl 1 rfl) ?_
  refine mm_geti X M 40 (by decide) rfl kw_1005 dX11_pushFrame_29 ?_
  obtain ⟨hi, hw⟩ := hw
  refine mm_ast X M 29 rfl dX11_pushFrame_32 hi (fun σ4 H locs eσ4 M => ?_)
  replace hw := hw σ4 eσ4
  refine lv_aload_n X.1 X.2.1 dX11_pushFrame_33 rfl (lv_at hl 1 rfl) ?_
  refine mm_geta X M 30 (by decide) rfl (by decide) kw_995 dX11_pushFrame_34 ?_
  refine lv_iload X.1 X.2.1 dX11_pushFrame_37 (lv_at hl 0 rfl) ?_
  refine lv_iconst (v := 0) X.1 X.2.1 dX11_pushFrame_39 (by decide) ?_
  obtain ⟨hi, hw⟩ := hw
  refine mm_ast X M 30 rfl dX11_pushFrame_40 hi (fun σ5 H locs eσ5 M => ?_)
  replace hw := hw σ5 eσ5
  refine lv_aload_n X.1 X.2.1 dX11_pushFrame_41 rfl (lv_at hl 1 rfl) ?_
  refine mm_geta X M 31 (by decide) rfl (by decide) kw_996 dX11_pushFrame_42 ?_
  refine lv_iload X.1 X.2.1 dX11_pushFrame_45 (lv_at hl 0 rfl) ?_
  refine lv_iload_n X.1 X.2.1 dX11_pushFrame_47 rfl (lv_at hl 3 rfl) ?_
  obtain ⟨hi, hw⟩ := hw
  refine mm_ast X M 31 rfl dX11_pushFrame_48 hi (fun σ6 H locs eσ6 M => ?_)
  replace hw := hw σ6 eσ6
  refine lv_aload_n X.1 X.2.1 dX11_pushFrame_49 rfl (lv_at hl 1 rfl) ?_
  refine mm_geta X M 32 (by decide) rfl (by decide) kw_997 dX11_pushFrame_50 ?_
  refine lv_iload X.1 X.2.1 dX11_pushFrame_53 (lv_at hl 0 rfl) ?_
  refine lv_iload_n X.1 X.2.1 dX11_pushFrame_55 rfl (lv_at hl 4 rfl) ?_
  obtain ⟨hi, hw⟩ := hw
  refine mm_ast X M 32 rfl dX11_pushFrame_56 hi (fun σ7 H locs eσ7 M => ?_)
  replace hw := hw σ7 eσ7
  refine lv_aload_n X.1 X.2.1 dX11_pushFrame_57 rfl (lv_at hl 1 rfl) ?_
  refine mm_geta X M 33 (by decide) rfl (by decide) kw_998 dX11_pushFrame_58 ?_
  refine lv_iload X.1 X.2.1 dX11_pushFrame_61 (lv_at hl 0 rfl) ?_
  refine lv_aload_n X.1 X.2.1 dX11_pushFrame_63 rfl (lv_at hl 1 rfl) ?_
  refine mx_ci M (mx_runV (n := 0) (As := []) (rest := [.int v1, .ref (A 33)]) X M (c_X11_redos l T B μ0 o A σ7 _ hw) (mm_recv X M) kw_1190 kw_1192 kw_35 kw_74 kw_1193 (by decide +kernel) rfl rfl ⟨Nat.le_of_ble_eq_true rfl, Nat.le_of_ble_eq_true rfl⟩ rfl hl.1 (Nat.le_of_ble_eq_true rfl) dX11_pushFrame_64 ⟨by decide, by decide⟩) (fun r9 σ8 H locs hw M => ?_)
  obtain ⟨hi, hw⟩ := hw
  refine mm_ast X M 33 rfl dX11_pushFrame_67 hi (fun σ10 H locs eσ10 M => ?_)
  replace hw := hw σ10 eσ10
  refine lv_iconst (v := 0) X.1 X.2.1 dX11_pushFrame_68 (by decide) ?_
  refine lv_istore (lv' := [(5, .int 0), (4, .int v1), (0, .ref o), (1, .int a1), (2, .int a2), (3, .int a3)]) X.1 X.2.1 dX11_pushFrame_69 hl (by decide) rfl (fun ls hl => ?_)
  obtain ⟨n16, hw⟩ := hw
  exact b_X11_pushFrame_71 X hr hk n16 σ10 a1 0 _ _ _ hw M (lv_sub hl [2, 3, 0] rfl)

abbrev rm_X11_isMoved : Room := { frames := 0, cells := 0, slots := 0, locals := 0 }
def wp_X11_isMoved (σ : MSt) (a1 : Int32) (a2 : Int32) (post : Int32 → MSt → Prop) : Prop :=
  (a1 < (mi σ 58) →
   post 0 σ) ∧ (¬ a1 < (mi σ 58) →
   (a2 ≤ a1 →
    post 0 σ) ∧ (¬ a2 ≤ a1 →
    post 1 σ))
set_option maxRecDepth 100000 in
set_option maxHeartbeats 4000000 in
theorem c_X11_isMoved (l : Launch) (T : Tb) (B : Nat) (μ0 : Mem) (o : Nat) (A : Nat → Nat) (σ : MSt) (a1 : Int32) (a2 : Int32) (post : Int32 → MSt → Prop) (hw : wp_X11_isMoved σ a1 a2 post) : Met l yX11_isMoved (.code yX11_isMoved cX11_isMoved 3 (some .boolean) :: G) rm_X11_isMoved (Pm (WM T B μ0 o A) T B σ [.ref o, .int a1, .int a2]) (va_Qi post (Bm (WM T B μ0 o A)) (Ai B)) 0 0 (Ai B) := by
  refine mx_of RX11 rfl (by decide) (Nat.le_of_ble_eq_true rfl) ?_
  intro p e s m below meth c0 X hr hk hnm M ls hl
  have hl : lv_has ls 3 [(0, .ref o), (1, .int a1), (2, .int a2)] := hl
  unfold wp_X11_isMoved at hw
  refine lv_iload_n X.1 X.2.1 dX11_isMoved_0 rfl (lv_at hl 1 rfl) ?_
  refine lv_aload_n X.1 X.2.1 dX11_isMoved_1 rfl (lv_at hl 0 rfl) ?_
  refine mm_geti X M 58 (by decide) rfl kw_1023 dX11_isMoved_2 ?_
  obtain ⟨hwt, hwf⟩ := hw
  refine lv_icmp_lt (tgt := 17) X.1 X.2.1 dX11_isMoved_5 (by decide) (fun hq => ?_) (fun hq => ?_)
  · have hw := hwt hq
    refine lv_iconst (v := 0) X.1 X.2.1 dX11_isMoved_17 (by decide) ?_
    exact mx_zret X hr hk M dX11_isMoved_18 (by decide) (by decide) (by decide) hw
  · have hw := hwf hq
    refine lv_iload_n X.1 X.2.1 dX11_isMoved_8 rfl (lv_at hl 1 rfl) ?_
    refine lv_iload_n X.1 X.2.1 dX11_isMoved_9 rfl (lv_at hl 2 rfl) ?_
    obtain ⟨hwt, hwf⟩ := hw
    refine lv_icmp_ge (tgt := 17) X.1 X.2.1 dX11_isMoved_10 (by decide) (fun hq => ?_) (fun hq => ?_)
    · have hw := hwt hq
      refine lv_iconst (v := 0) X.1 X.2.1 dX11_isMoved_17 (by decide) ?_
      exact mx_zret X hr hk M dX11_isMoved_18 (by decide) (by decide) (by decide) hw
    · have hw := hwf hq
      refine lv_iconst (v := 1) X.1 X.2.1 dX11_isMoved_13 (by decide) ?_
      refine lv_goto (tgt := 18) X.1 X.2.1 dX11_isMoved_14 (by decide) ?_
      exact mx_zret X hr hk M dX11_isMoved_18 (by decide) (by decide) (by decide) hw

abbrev rm_X11_copyFrame : Room := { frames := 1, cells := 0, slots := 0, locals := 22 }
def wp_X11_copyFrame (σ : MSt) (a1 : Int32) (a2 : Int32) (post : MSt → Prop) : Prop :=
  vp_in a2 7000 ∧ ∀ σ1 : MSt, σ1 = sma σ 27 (Int32.toNatClampNeg a2) (vp_nar .boolean 1) →
  vp_in a1 7000 ∧
  vp_in a2 7000 ∧ ∀ σ2 : MSt, σ2 = sma σ1 28 (Int32.toNatClampNeg a2) (ma σ1 28 (Int32.toNatClampNeg a1)) →
  vp_in a1 7000 ∧
  vp_in a2 7000 ∧ ∀ σ3 : MSt, σ3 = sma σ2 29 (Int32.toNatClampNeg a2) (ma σ2 29 (Int32.toNatClampNeg a1)) →
  vp_in a1 7000 ∧
  vp_in a2 7000 ∧ ∀ σ4 : MSt, σ4 = sma σ3 30 (Int32.toNatClampNeg a2) (ma σ3 30 (Int32.toNatClampNeg a1)) →
  vp_in a1 7000 ∧
  vp_in a2 7000 ∧ ∀ σ5 : MSt, σ5 = sma σ4 32 (Int32.toNatClampNeg a2) (ma σ4 32 (Int32.toNatClampNeg a1)) →
  vp_in a1 7000 ∧
  vp_in a2 7000 ∧ ∀ σ6 : MSt, σ6 = sma σ5 33 (Int32.toNatClampNeg a2) (ma σ5 33 (Int32.toNatClampNeg a1)) →
  vp_in a1 7000 ∧
  ∀ v7 : Int32, v7 = (ma σ6 31 (Int32.toNatClampNeg a1)) →
  (v7 = (-1) →
   vp_in a2 7000 ∧ ∀ σ8 : MSt, σ8 = sma σ6 31 (Int32.toNatClampNeg a2) v7 →
   post σ8) ∧ (¬ v7 = (-1) →
   wp_X11_isMoved σ6 v7 a1 (fun (r10 : Int32) (σ9 : MSt) =>
   (r10 = 0 →
    vp_in a2 7000 ∧ ∀ σ11 : MSt, σ11 = sma σ9 31 (Int32.toNatClampNeg a2) v7 →
    post σ11) ∧ (¬ r10 = 0 →
    vp_in v7 7000 ∧
    vp_in a2 7000 ∧ ∀ σ12 : MSt, σ12 = sma σ9 31 (Int32.toNatClampNeg a2) (ma σ9 57 (Int32.toNatClampNeg v7)) →
    post σ12)))
set_option maxRecDepth 100000 in
set_option maxHeartbeats 4000000 in
theorem c_X11_copyFrame (l : Launch) (T : Tb) (B : Nat) (μ0 : Mem) (o : Nat) (A : Nat → Nat) (σ : MSt) (a1 : Int32) (a2 : Int32) (post : MSt → Prop) (hw : wp_X11_copyFrame σ a1 a2 post) : Met l yX11_copyFrame (.code yX11_copyFrame cX11_copyFrame 4 none :: G) rm_X11_copyFrame (Pm (WM T B μ0 o A) T B σ [.ref o, .int a1, .int a2]) (va_Qv post (Bm (WM T B μ0 o A)) (Ai B)) 0 0 (Ai B) := by
  refine mx_of RX11 rfl (by decide) (Nat.le_of_ble_eq_true rfl) ?_
  intro p e s m below meth c0 X hr hk hnm M ls hl
  have hl : lv_has ls 4 [(0, .ref o), (1, .int a1), (2, .int a2)] := hl
  unfold wp_X11_copyFrame at hw
  refine lv_aload_n X.1 X.2.1 dX11_copyFrame_0 rfl (lv_at hl 0 rfl) ?_
  refine mm_geta X M 27 (by decide) rfl (by decide) kw_992 dX11_copyFrame_1 ?_
  refine lv_iload_n X.1 X.2.1 dX11_copyFrame_4 rfl (lv_at hl 2 rfl) ?_
  refine lv_iconst (v := 1) X.1 X.2.1 dX11_copyFrame_5 (by decide) ?_
  obtain ⟨hi, hw⟩ := hw
  refine mm_zst X M 27 rfl dX11_copyFrame_6 hi (fun σ1 H locs eσ1 M => ?_)
  replace hw := hw σ1 eσ1
  refine lv_aload_n X.1 X.2.1 dX11_copyFrame_7 rfl (lv_at hl 0 rfl) ?_
  refine mm_geta X M 28 (by decide) rfl (by decide) kw_993 dX11_copyFrame_8 ?_
  refine lv_iload_n X.1 X.2.1 dX11_copyFrame_11 rfl (lv_at hl 2 rfl) ?_
  refine lv_aload_n X.1 X.2.1 dX11_copyFrame_12 rfl (lv_at hl 0 rfl) ?_
  refine mm_geta X M 28 (by decide) rfl (by decide) kw_993 dX11_copyFrame_13 ?_
  refine lv_iload_n X.1 X.2.1 dX11_copyFrame_16 rfl (lv_at hl 1 rfl) ?_
  obtain ⟨hi, hw⟩ := hw
  refine mm_ald X M 28 rfl dX11_copyFrame_17 hi ?_
  obtain ⟨hi, hw⟩ := hw
  refine mm_ast X M 28 rfl dX11_copyFrame_18 hi (fun σ2 H locs eσ2 M => ?_)
  replace hw := hw σ2 eσ2
  refine lv_aload_n X.1 X.2.1 dX11_copyFrame_19 rfl (lv_at hl 0 rfl) ?_
  refine mm_geta X M 29 (by decide) rfl (by decide) kw_994 dX11_copyFrame_20 ?_
  refine lv_iload_n X.1 X.2.1 dX11_copyFrame_23 rfl (lv_at hl 2 rfl) ?_
  refine lv_aload_n X.1 X.2.1 dX11_copyFrame_24 rfl (lv_at hl 0 rfl) ?_
  refine mm_geta X M 29 (by decide) rfl (by decide) kw_994 dX11_copyFrame_25 ?_
  refine lv_iload_n X.1 X.2.1 dX11_copyFrame_28 rfl (lv_at hl 1 rfl) ?_
  obtain ⟨hi, hw⟩ := hw
  refine mm_ald X M 29 rfl dX11_copyFrame_29 hi ?_
  obtain ⟨hi, hw⟩ := hw
  refine mm_ast X M 29 rfl dX11_copyFrame_30 hi (fun σ3 H locs eσ3 M => ?_)
  replace hw := hw σ3 eσ3
  refine lv_aload_n X.1 X.2.1 dX11_copyFrame_31 rfl (lv_at hl 0 rfl) ?_
  refine mm_geta X M 30 (by decide) rfl (by decide) kw_995 dX11_copyFrame_32 ?_
  refine lv_iload_n X.1 X.2.1 dX11_copyFrame_35 rfl (lv_at hl 2 rfl) ?_
  refine lv_aload_n X.1 X.2.1 dX11_copyFrame_36 rfl (lv_at hl 0 rfl) ?_
  refine mm_geta X M 30 (by decide) rfl (by decide) kw_995 dX11_copyFrame_37 ?_
  refine lv_iload_n X.1 X.2.1 dX11_copyFrame_40 rfl (lv_at hl 1 rfl) ?_
  obtain ⟨hi, hw⟩ := hw
  refine mm_ald X M 30 rfl dX11_copyFrame_41 hi ?_
  obtain ⟨hi, hw⟩ := hw
  refine mm_ast X M 30 rfl dX11_copyFrame_42 hi (fun σ4 H locs eσ4 M => ?_)
  replace hw := hw σ4 eσ4
  refine lv_aload_n X.1 X.2.1 dX11_copyFrame_43 rfl (lv_at hl 0 rfl) ?_
  refine mm_geta X M 32 (by decide) rfl (by decide) kw_997 dX11_copyFrame_44 ?_
  refine lv_iload_n X.1 X.2.1 dX11_copyFrame_47 rfl (lv_at hl 2 rfl) ?_
  refine lv_aload_n X.1 X.2.1 dX11_copyFrame_48 rfl (lv_at hl 0 rfl) ?_
  refine mm_geta X M 32 (by decide) rfl (by decide) kw_997 dX11_copyFrame_49 ?_
  refine lv_iload_n X.1 X.2.1 dX11_copyFrame_52 rfl (lv_at hl 1 rfl) ?_
  obtain ⟨hi, hw⟩ := hw
  refine mm_ald X M 32 rfl dX11_copyFrame_53 hi ?_
  obtain ⟨hi, hw⟩ := hw
  refine mm_ast X M 32 rfl dX11_copyFrame_54 hi (fun σ5 H locs eσ5 M => ?_)
  replace hw := hw σ5 eσ5
  refine lv_aload_n X.1 X.2.1 dX11_copyFrame_55 rfl (lv_at hl 0 rfl) ?_
  refine mm_geta X M 33 (by decide) rfl (by decide) kw_998 dX11_copyFrame_56 ?_
  refine lv_iload_n X.1 X.2.1 dX11_copyFrame_59 rfl (lv_at hl 2 rfl) ?_
  refine lv_aload_n X.1 X.2.1 dX11_copyFrame_60 rfl (lv_at hl 0 rfl) ?_
  refine mm_geta X M 33 (by decide) rfl (by decide) kw_998 dX11_copyFrame_61 ?_
  refine lv_iload_n X.1 X.2.1 dX11_copyFrame_64 rfl (lv_at hl 1 rfl) ?_
  obtain ⟨hi, hw⟩ := hw
  refine mm_ald X M 33 rfl dX11_copyFrame_65 hi ?_
  obtain ⟨hi, hw⟩ := hw
  refine mm_ast X M 33 rfl dX11_copyFrame_66 hi (fun σ6 H locs eσ6 M => ?_)
  replace hw := hw σ6 eσ6
  refine lv_aload_n X.1 X.2.1 dX11_copyFrame_67 rfl (lv_at hl 0 rfl) ?_
  refine mm_geta X M 31 (by decide) rfl (by decide) kw_996 dX11_copyFrame_68 ?_
  refine lv_iload_n X.1 X.2.1 dX11_copyFrame_71 rfl (lv_at hl 1 rfl) ?_
  obtain ⟨hi, hw⟩ := hw
  refine mm_ald X M 31 rfl dX11_copyFrame_72 hi ?_
  refine lv_topi (fun v7 ev7 => ?_)
  replace hw := hw v7 ev7
  refine lv_istore_n (lv' := [(3, .int v7), (0, .ref o), (1, .int a1), (2, .int a2)]) X.1 X.2.1 dX11_copyFrame_73 rfl hl (by decide) rfl (fun ls hl => ?_)
  refine lv_aload_n X.1 X.2.1 dX11_copyFrame_74 rfl (lv_at hl 1 rfl) ?_
  refine mm_geta X M 31 (by decide) rfl (by decide) kw_996 dX11_copyFrame_75 ?_
  refine lv_iload_n X.1 X.2.1 dX11_copyFrame_78 rfl (lv_at hl 3 rfl) ?_
  refine lv_iload_n X.1 X.2.1 dX11_copyFrame_79 rfl (lv_at hl 0 rfl) ?_
  refine lv_iconst (v := (-1)) X.1 X.2.1 dX11_copyFrame_80 (by decide) ?_
  obtain ⟨hwt, hwf⟩ := hw
  refine lv_icmp_eq (tgt := 102) X.1 X.2.1 dX11_copyFrame_81 (by decide) (fun hq => ?_) (fun hq => ?_)
  · have hw := hwt hq
    refine lv_iload_n X.1 X.2.1 dX11_copyFrame_102 rfl (lv_at hl 0 rfl) ?_
    obtain ⟨hi, hw⟩ := hw
    refine mm_ast X M 31 rfl dX11_copyFrame_103 hi (fun σ8 H locs eσ8 M => ?_)
    replace hw := hw σ8 eσ8
    exact mx_vret X hr hk M dX11_copyFrame_104 (by decide) (by decide) hw
  · have hw := hwf hq
    refine lv_aload_n X.1 X.2.1 dX11_copyFrame_84 rfl (lv_at hl 1 rfl) ?_
    refine lv_iload_n X.1 X.2.1 dX11_copyFrame_85 rfl (lv_at hl 0 rfl) ?_
    refine lv_iload_n X.1 X.2.1 dX11_copyFrame_86 rfl (lv_at hl 2 rfl) ?_
    refine mx_ci M (mx_runV (n := 2) (As := [.int v7, .int a1]) (rest := [.int a2, .ref (A 31)]) X M (c_X11_isMoved l T B μ0 o A σ6 v7 a1 _ hw) (mm_recv X M) kw_1297 kw_1299 kw_59 kw_74 kw_1300 (by decide +kernel) rfl rfl ⟨Nat.le_of_ble_eq_true rfl, Nat.le_of_ble_eq_true rfl⟩ rfl hl.1 (Nat.le_of_ble_eq_true rfl) dX11_copyFrame_87 ⟨by decide, by decide⟩) (fun r10 σ9 H locs hw M => ?_)
    obtain ⟨hwt, hwf⟩ := hw
    refine lv_if_eq (tgt := 102) X.1 X.2.1 dX11_copyFrame_90 (by decide) (fun hq => ?_) (fun hq => ?_)
    · have hw := hwt hq
      refine lv_iload_n X.1 X.2.1 dX11_copyFrame_102 rfl (lv_at hl 0 rfl) ?_
      obtain ⟨hi, hw⟩ := hw
      refine mm_ast X M 31 rfl dX11_copyFrame_103 hi (fun σ11 H locs eσ11 M => ?_)
      replace hw := hw σ11 eσ11
      exact mx_vret X hr hk M dX11_copyFrame_104 (by decide) (by decide) hw
    · have hw := hwf hq
      refine lv_aload_n X.1 X.2.1 dX11_copyFrame_93 rfl (lv_at hl 1 rfl) ?_
      refine mm_geta X M 57 (by decide) rfl (by decide) kw_1022 dX11_copyFrame_94 ?_
      refine lv_iload_n X.1 X.2.1 dX11_copyFrame_97 rfl (lv_at hl 0 rfl) ?_
      obtain ⟨hi, hw⟩ := hw
      refine mm_ald X M 57 rfl dX11_copyFrame_98 hi ?_
      refine lv_goto (tgt := 103) X.1 X.2.1 dX11_copyFrame_99 (by decide) ?_
      obtain ⟨hi, hw⟩ := hw
      refine mm_ast X M 31 rfl dX11_copyFrame_103 hi (fun σ12 H locs eσ12 M => ?_)
      replace hw := hw σ12 eσ12
      exact mx_vret X hr hk M dX11_copyFrame_104 (by decide) (by decide) hw
