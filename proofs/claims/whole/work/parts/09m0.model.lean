abbrev rm_X11_thrown : Room := { frames := 0, cells := 0, slots := 0, locals := 0 }
def wp_X11_thrown (σ : MSt) (post : Int32 → MSt → Prop) : Prop :=
  post (mi σ 0) σ
set_option maxRecDepth 100000 in
set_option maxHeartbeats 4000000 in
theorem c_X11_thrown (l : Launch) (T : Tb) (B : Nat) (μ0 : Mem) (o : Nat) (A : Nat → Nat) (σ : MSt) (post : Int32 → MSt → Prop) (hw : wp_X11_thrown σ  post) : Met l yX11_thrown (.code yX11_thrown cX11_thrown 1 (some .int) :: G) rm_X11_thrown (Pm (WM T B μ0 o A) T B σ [.ref o]) (va_Qi post (Bm (WM T B μ0 o A)) (Ai B)) 0 0 (Ai B) := by
  refine mx_of RX11 rfl (by decide) (Nat.le_of_ble_eq_true rfl) ?_
  intro p e s m below meth c0 X hr hk hnm M ls hl
  have hl : lv_has ls 1 [(0, .ref o)] := hl
  unfold wp_X11_thrown at hw
  refine lv_aload_n X.1 X.2.1 dX11_thrown_0 rfl (lv_at hl 0 rfl) ?_
  refine mm_geti X M 0 (by decide) rfl kw_965 dX11_thrown_1 ?_
  exact mx_iret X hr hk M dX11_thrown_4 (by decide) (by decide) hw

abbrev rm_X11_put : Room := { frames := 0, cells := 0, slots := 0, locals := 0 }
def wp_X11_put (σ : MSt) (a1 : Int32) (post : Int32 → MSt → Prop) : Prop :=
  ∀ σ1 : MSt, σ1 = smi σ 0 0 →
  ((mi σ1 2) = 10 →
   post 0 σ1) ∧ (¬ (mi σ1 2) = 10 →
   vp_in (mi σ1 2) 10 ∧ ∀ σ2 : MSt, σ2 = sma σ1 1 (Int32.toNatClampNeg (mi σ1 2)) a1 →
   ∀ σ3 : MSt, σ3 = smi σ2 2 ((mi σ2 2) + 1) →
   post 1 σ3)
set_option maxRecDepth 100000 in
set_option maxHeartbeats 4000000 in
theorem c_X11_put (l : Launch) (T : Tb) (B : Nat) (μ0 : Mem) (o : Nat) (A : Nat → Nat) (σ : MSt) (a1 : Int32) (post : Int32 → MSt → Prop) (hw : wp_X11_put σ a1 post) : Met l yX11_put (.code yX11_put cX11_put 2 (some .boolean) :: G) rm_X11_put (Pm (WM T B μ0 o A) T B σ [.ref o, .int a1]) (va_Qi post (Bm (WM T B μ0 o A)) (Ai B)) 0 0 (Ai B) := by
  refine mx_of RX11 rfl (by decide) (Nat.le_of_ble_eq_true rfl) ?_
  intro p e s m below meth c0 X hr hk hnm M ls hl
  have hl : lv_has ls 2 [(0, .ref o), (1, .int a1)] := hl
  unfold wp_X11_put at hw
  refine lv_aload_n X.1 X.2.1 dX11_put_0 rfl (lv_at hl 0 rfl) ?_
  refine lv_iconst (v := 0) X.1 X.2.1 dX11_put_1 (by decide) ?_
  refine mm_puti X M 0 (by decide) rfl kw_965 rfl dX11_put_2 rfl rfl (fun σ1 H locs eσ1 M => ?_)
  replace hw := hw σ1 eσ1
  refine lv_aload_n X.1 X.2.1 dX11_put_5 rfl (lv_at hl 0 rfl) ?_
  refine mm_geti X M 2 (by decide) rfl kw_967 dX11_put_6 ?_
  refine lv_bipush (v := 10) X.1 X.2.1 dX11_put_9 (by decide) ?_
  obtain ⟨hwf, hwt⟩ := hw
  refine lv_icmp_ne (tgt := 16) X.1 X.2.1 dX11_put_11 (by decide) (fun hq => ?_) (fun hq => ?_)
  · have hw := hwt hq
    refine lv_aload_n X.1 X.2.1 dX11_put_16 rfl (lv_at hl 0 rfl) ?_
    refine mm_geta X M 1 (by decide) rfl (by decide) kw_966 dX11_put_17 ?_
    refine lv_aload_n X.1 X.2.1 dX11_put_20 rfl (lv_at hl 0 rfl) ?_
    refine mm_geti X M 2 (by decide) rfl kw_967 dX11_put_21 ?_
    refine lv_iload_n X.1 X.2.1 dX11_put_24 rfl (lv_at hl 1 rfl) ?_
    obtain ⟨hi, hw⟩ := hw
    refine mm_ast X M 1 rfl dX11_put_25 hi (fun σ2 H locs eσ2 M => ?_)
    replace hw := hw σ2 eσ2
    refine lv_aload_n X.1 X.2.1 dX11_put_26 rfl (lv_at hl 0 rfl) ?_
    refine lv_dup X.1 X.2.1 dX11_put_27 rfl ?_
    refine mm_geti X M 2 (by decide) rfl kw_967 dX11_put_28 ?_
    refine lv_iconst (v := 1) X.1 X.2.1 dX11_put_31 (by decide) ?_
    refine lv_iadd X.1 X.2.1 dX11_put_32 ?_
    refine mm_puti X M 2 (by decide) rfl kw_967 rfl dX11_put_33 rfl rfl (fun σ3 H locs eσ3 M => ?_)
    replace hw := hw σ3 eσ3
    refine lv_iconst (v := 1) X.1 X.2.1 dX11_put_36 (by decide) ?_
    exact mx_zret X hr hk M dX11_put_37 (by decide) (by decide) (by decide) hw
  · have hw := hwf hq
    refine lv_iconst (v := 0) X.1 X.2.1 dX11_put_14 (by decide) ?_
    exact mx_zret X hr hk M dX11_put_15 (by decide) (by decide) (by decide) hw

abbrev rm_X11_taken : Room := { frames := 0, cells := 0, slots := 0, locals := 0 }
def wp_X11_taken (σ : MSt) (post : Int32 → MSt → Prop) : Prop :=
  ∀ v1 : Int32, v1 = (mi σ 2) →
  ∀ σ2 : MSt, σ2 = smi σ 2 0 →
  post v1 σ2
set_option maxRecDepth 100000 in
set_option maxHeartbeats 4000000 in
theorem c_X11_taken (l : Launch) (T : Tb) (B : Nat) (μ0 : Mem) (o : Nat) (A : Nat → Nat) (σ : MSt) (post : Int32 → MSt → Prop) (hw : wp_X11_taken σ  post) : Met l yX11_taken (.code yX11_taken cX11_taken 2 (some .int) :: G) rm_X11_taken (Pm (WM T B μ0 o A) T B σ [.ref o]) (va_Qi post (Bm (WM T B μ0 o A)) (Ai B)) 0 0 (Ai B) := by
  refine mx_of RX11 rfl (by decide) (Nat.le_of_ble_eq_true rfl) ?_
  intro p e s m below meth c0 X hr hk hnm M ls hl
  have hl : lv_has ls 2 [(0, .ref o)] := hl
  unfold wp_X11_taken at hw
  refine lv_aload_n X.1 X.2.1 dX11_taken_0 rfl (lv_at hl 0 rfl) ?_
  refine mm_geti X M 2 (by decide) rfl kw_967 dX11_taken_1 ?_
  refine lv_topi (fun v1 ev1 => ?_)
  replace hw := hw v1 ev1
  refine lv_istore_n (lv' := [(1, .int v1), (0, .ref o)]) X.1 X.2.1 dX11_taken_4 rfl hl (by decide) rfl (fun ls hl => ?_)
  refine lv_aload_n X.1 X.2.1 dX11_taken_5 rfl (lv_at hl 1 rfl) ?_
  refine lv_iconst (v := 0) X.1 X.2.1 dX11_taken_6 (by decide) ?_
  refine mm_puti X M 2 (by decide) rfl kw_967 rfl dX11_taken_7 rfl rfl (fun σ2 H locs eσ2 M => ?_)
  replace hw := hw σ2 eσ2
  refine lv_iload_n X.1 X.2.1 dX11_taken_10 rfl (lv_at hl 0 rfl) ?_
  exact mx_iret X hr hk M dX11_taken_11 (by decide) (by decide) hw

abbrev rm_X11_isWithin : Room := { frames := 0, cells := 0, slots := 0, locals := 0 }
def wp_X11_isWithin (σ : MSt) (a1 : Int32) (a2 : Int32) (a3 : Int32) (post : Int32 → MSt → Prop) : Prop :=
  (a1 < a2 →
   post 0 σ) ∧ (¬ a1 < a2 →
   (a3 < a1 →
    post 0 σ) ∧ (¬ a3 < a1 →
    post 1 σ))
set_option maxRecDepth 100000 in
set_option maxHeartbeats 4000000 in
theorem c_X11_isWithin (l : Launch) (T : Tb) (B : Nat) (μ0 : Mem) (o : Nat) (A : Nat → Nat) (σ : MSt) (a1 : Int32) (a2 : Int32) (a3 : Int32) (post : Int32 → MSt → Prop) (hw : wp_X11_isWithin σ a1 a2 a3 post) : Met l yX11_isWithin (.code yX11_isWithin cX11_isWithin 3 (some .boolean) :: G) rm_X11_isWithin (Pm (WM T B μ0 o A) T B σ [.int a1, .int a2, .int a3]) (va_Qi post (Bm (WM T B μ0 o A)) (Ai B)) 0 0 (Ai B) := by
  refine mx_of RX11 rfl (by decide) (Nat.le_of_ble_eq_true rfl) ?_
  intro p e s m below meth c0 X hr hk hnm M ls hl
  have hl : lv_has ls 3 [(0, .int a1), (1, .int a2), (2, .int a3)] := hl
  unfold wp_X11_isWithin at hw
  refine lv_iload_n X.1 X.2.1 dX11_isWithin_0 rfl (lv_at hl 0 rfl) ?_
  refine lv_iload_n X.1 X.2.1 dX11_isWithin_1 rfl (lv_at hl 1 rfl) ?_
  obtain ⟨hwt, hwf⟩ := hw
  refine lv_icmp_lt (tgt := 14) X.1 X.2.1 dX11_isWithin_2 (by decide) (fun hq => ?_) (fun hq => ?_)
  · have hw := hwt hq
    refine lv_iconst (v := 0) X.1 X.2.1 dX11_isWithin_14 (by decide) ?_
    exact mx_zret X hr hk M dX11_isWithin_15 (by decide) (by decide) (by decide) hw
  · have hw := hwf hq
    refine lv_iload_n X.1 X.2.1 dX11_isWithin_5 rfl (lv_at hl 0 rfl) ?_
    refine lv_iload_n X.1 X.2.1 dX11_isWithin_6 rfl (lv_at hl 2 rfl) ?_
    obtain ⟨hwt, hwf⟩ := hw
    refine lv_icmp_gt (tgt := 14) X.1 X.2.1 dX11_isWithin_7 (by decide) (fun hq => ?_) (fun hq => ?_)
    · have hw := hwt hq
      refine lv_iconst (v := 0) X.1 X.2.1 dX11_isWithin_14 (by decide) ?_
      exact mx_zret X hr hk M dX11_isWithin_15 (by decide) (by decide) (by decide) hw
    · have hw := hwf hq
      refine lv_iconst (v := 1) X.1 X.2.1 dX11_isWithin_10 (by decide) ?_
      refine lv_goto (tgt := 15) X.1 X.2.1 dX11_isWithin_11 (by decide) ?_
      exact mx_zret X hr hk M dX11_isWithin_15 (by decide) (by decide) (by decide) hw

abbrev rm_X11_areSlots : Room := { frames := 1, cells := 0, slots := 0, locals := 22 }
def wp_X11_areSlots_2 (post : Int32 → MSt → Prop) : Nat → MSt → Int32 → Int32 → Int32 → Prop
  | 0, _, _, _, _ => False
  | n + 1, σ, x1, x2, x3 =>
    (x1 ≤ x3 →
     post 1 σ) ∧ (¬ x1 ≤ x3 →
     vp_in x3 10 ∧
     wp_X11_isWithin σ (ma σ 1 (Int32.toNatClampNeg x3)) 0 (x2 - 1) (fun (r2 : Int32) (σ1 : MSt) =>
     (r2 = 0 →
      post 0 σ1) ∧ (¬ r2 = 0 →
      ∀ v3 : Int32, v3 = x3 + 1 →
      wp_X11_areSlots_2 post n σ1 x1 x2 v3)))
def wp_X11_areSlots (σ : MSt) (a1 : Int32) (a2 : Int32) (post : Int32 → MSt → Prop) : Prop :=
  ∃ n4, wp_X11_areSlots_2 post n4 σ a1 a2 0
set_option maxRecDepth 100000 in
set_option maxHeartbeats 4000000 in
theorem b_X11_areSlots_2 {T : Tb} {B : Nat} {p : Program} {l : Launch} {e : Env} {s : State} {m : MethodId} {args : Array Value} {below : List Frame} {meth : Method} {c0 : Code} {post : Int32 → MSt → Prop} {μ0 : Mem} {o : Nat} {A : Nat → Nat} (X : CX T B p m c0 cX11_areSlots 4 s args RX11) (hr : meth.sig.returnType = (some .boolean)) (hk : meth.locks = false) : ∀ (n : Nat) (σ : MSt) (x1 : Int32) (x2 : Int32) (x3 : Int32) (H : Heap) (locs : List Loc) (ls : Array Slot), wp_X11_areSlots_2 post n σ x1 x2 x3 → MG (WM T B μ0 o A) B s σ H locs → lv_has ls 4 [(0, .ref o), (1, .int x1), (2, .int x2), (3, .int x3)] → W p l e rm_X11_areSlots s m args below meth c0 H locs 0 0 (MQ below (va_Qi post (Bm (WM T B μ0 o A)) (Ai B)) args s 0 0 (Ai B)) (F0 m 2 ls []) := by
  intro n
  induction n with
  | zero =>
    intro σ x1 x2 x3 H locs ls hw
    exact hw.elim
  | succ n ih =>
    intro σ x1 x2 x3 H locs ls hw M hl
    rw [wp_X11_areSlots_2] at hw
    refine lv_iload_n X.1 X.2.1 dX11_areSlots_2 rfl (lv_at hl 3 rfl) ?_
    refine lv_iload_n X.1 X.2.1 dX11_areSlots_3 rfl (lv_at hl 1 rfl) ?_
    obtain ⟨hwt, hwf⟩ := hw
    refine lv_icmp_ge (tgt := 31) X.1 X.2.1 dX11_areSlots_4 (by decide) (fun hq => ?_) (fun hq => ?_)
    · have hw := hwt hq
      refine lv_iconst (v := 1) X.1 X.2.1 dX11_areSlots_31 (by decide) ?_
      exact mx_zret X hr hk M dX11_areSlots_32 (by decide) (by decide) (by decide) hw
    · have hw := hwf hq
      refine lv_aload_n X.1 X.2.1 dX11_areSlots_7 rfl (lv_at hl 0 rfl) ?_
      refine mm_geta X M 1 (by decide) rfl (by decide) kw_966 dX11_areSlots_8 ?_
      refine lv_iload_n X.1 X.2.1 dX11_areSlots_11 rfl (lv_at hl 3 rfl) ?_
      obtain ⟨hi, hw⟩ := hw
      refine mm_ald X M 1 rfl dX11_areSlots_12 hi ?_
      refine lv_iconst (v := 0) X.1 X.2.1 dX11_areSlots_13 (by decide) ?_
      refine lv_iload_n X.1 X.2.1 dX11_areSlots_14 rfl (lv_at hl 2 rfl) ?_
      refine lv_iconst (v := 1) X.1 X.2.1 dX11_areSlots_15 (by decide) ?_
      refine lv_isub X.1 X.2.1 dX11_areSlots_16 ?_
      refine mx_ci M (mx_runS (n := 3) (As := [.int (ma σ 1 (Int32.toNatClampNeg x3)), .int 0, .int (x2 - 1)]) (rest := []) X M (c_X11_isWithin l T B μ0 o A σ (ma σ 1 (Int32.toNatClampNeg x3)) 0 (x2 - 1) _ hw) kw_1160 kw_1161 kw_74 kw_1162 (by decide +kernel) rfl rfl ⟨Nat.le_of_ble_eq_true rfl, Nat.le_of_ble_eq_true rfl⟩ rfl hl.1 (Nat.le_of_ble_eq_true rfl) dX11_areSlots_17 ⟨by decide, by decide⟩) (fun r2 σ1 H locs hw M => ?_)
      obtain ⟨hwf, hwt⟩ := hw
      refine lv_if_ne (tgt := 25) X.1 X.2.1 dX11_areSlots_20 (by decide) (fun hq => ?_) (fun hq => ?_)
      · have hw := hwt hq
        obtain ⟨v3, ev3⟩ : ∃ y : Int32, y = x3 + 1 := ⟨_, rfl⟩
        replace hw := hw v3 ev3
        refine lv_iinc (v := v3) (lv' := [(3, .int v3), (0, .ref o), (1, .int x1), (2, .int x2)]) X.1 X.2.1 dX11_areSlots_25 hl (k := 3) rfl (by rw [ev3]; rfl) (by decide) rfl (fun ls hl => ?_)
        refine lv_goto (tgt := 2) X.1 X.2.1 dX11_areSlots_28 (by decide) ?_
        exact ih σ1 x1 x2 v3 _ _ _ hw M (lv_sub hl [1, 2, 3, 0] rfl)
      · have hw := hwf hq
        refine lv_iconst (v := 0) X.1 X.2.1 dX11_areSlots_23 (by decide) ?_
        exact mx_zret X hr hk M dX11_areSlots_24 (by decide) (by decide) (by decide) hw
set_option maxRecDepth 100000 in
set_option maxHeartbeats 4000000 in
theorem c_X11_areSlots (l : Launch) (T : Tb) (B : Nat) (μ0 : Mem) (o : Nat) (A : Nat → Nat) (σ : MSt) (a1 : Int32) (a2 : Int32) (post : Int32 → MSt → Prop) (hw : wp_X11_areSlots σ a1 a2 post) : Met l yX11_areSlots (.code yX11_areSlots cX11_areSlots 4 (some .boolean) :: G) rm_X11_areSlots (Pm (WM T B μ0 o A) T B σ [.ref o, .int a1, .int a2]) (va_Qi post (Bm (WM T B μ0 o A)) (Ai B)) 0 0 (Ai B) := by
  refine mx_of RX11 rfl (by decide) (Nat.le_of_ble_eq_true rfl) ?_
  intro p e s m below meth c0 X hr hk hnm M ls hl
  have hl : lv_has ls 4 [(0, .ref o), (1, .int a1), (2, .int a2)] := hl
  unfold wp_X11_areSlots at hw
  refine lv_iconst (v := 0) X.1 X.2.1 dX11_areSlots_0 (by decide) ?_
  refine lv_istore_n (lv' := [(3, .int 0), (0, .ref o), (1, .int a1), (2, .int a2)]) X.1 X.2.1 dX11_areSlots_1 rfl hl (by decide) rfl (fun ls hl => ?_)
  obtain ⟨n4, hw⟩ := hw
  exact b_X11_areSlots_2 X hr hk n4 σ a1 a2 0 _ _ _ hw M (lv_sub hl [1, 2, 3, 0] rfl)

abbrev rm_X11_procedure : Room := { frames := 2, cells := 0, slots := 0, locals := 45 }
def wp_X11_procedure_121 (post : Int32 → MSt → Prop) : Nat → MSt → Int32 → Int32 → Int32 → Prop
  | 0, _, _, _, _ => False
  | n + 1, σ, x4, x6, x7 =>
    (x4 ≤ x7 →
     vp_in x6 60 ∧ ∀ σ9 : MSt, σ9 = sma σ 9 (Int32.toNatClampNeg x6) 0 →
     ∀ σ10 : MSt, σ10 = smi σ9 3 ((mi σ9 3) + 1) →
     post x6 σ10) ∧ (¬ x4 ≤ x7 →
     vp_in x7 10 ∧
     vp_in (((8 : Int32) * x6) + x7) 480 ∧ ∀ σ11 : MSt, σ11 = sma σ 8 (Int32.toNatClampNeg (((8 : Int32) * x6) + x7)) (ma σ 1 (Int32.toNatClampNeg x7)) →
     ∀ v12 : Int32, v12 = x7 + 1 →
     wp_X11_procedure_121 post n σ11 x4 x6 v12)
def wp_X11_procedure_70 (post : Int32 → MSt → Prop) (σ : MSt) (x1 : Int32) (x2 : Int32) (x3 : Int32) (x4 : Int32) (t0 : Int32) : Prop :=
  (t0 = 0 →
   post (-1) σ) ∧ (¬ t0 = 0 →
   ∀ v4 : Int32, v4 = (mi σ 3) →
   vp_in v4 60 ∧ ∀ σ5 : MSt, σ5 = sma σ 4 (Int32.toNatClampNeg v4) (vp_nar .boolean x1) →
   vp_in v4 60 ∧ ∀ σ6 : MSt, σ6 = sma σ5 5 (Int32.toNatClampNeg v4) x2 →
   vp_in v4 60 ∧ ∀ σ7 : MSt, σ7 = sma σ6 6 (Int32.toNatClampNeg v4) x3 →
   vp_in v4 60 ∧ ∀ σ8 : MSt, σ8 = sma σ7 7 (Int32.toNatClampNeg v4) x4 →
   ∃ n13, wp_X11_procedure_121 post n13 σ8 x4 v4 0)
def wp_X11_procedure (σ : MSt) (a1 : Int32) (a2 : Int32) (a3 : Int32) (post : Int32 → MSt → Prop) : Prop :=
  ∀ σ1 : MSt, σ1 = smi σ 0 0 →
  wp_X11_taken σ1 (fun (r3 : Int32) (σ2 : MSt) =>
  (60 ≤ (mi σ2 3) →
   wp_X11_procedure_70 post σ2 a1 a2 a3 r3 0) ∧ (¬ 60 ≤ (mi σ2 3) →
   wp_X11_isWithin σ2 a2 1 40 (fun (r15 : Int32) (σ14 : MSt) =>
   (r15 = 0 →
    wp_X11_procedure_70 post σ14 a1 a2 a3 r3 0) ∧ (¬ r15 = 0 →
    wp_X11_isWithin σ14 a3 0 a2 (fun (r17 : Int32) (σ16 : MSt) =>
    (r17 = 0 →
     wp_X11_procedure_70 post σ16 a1 a2 a3 r3 0) ∧ (¬ r17 = 0 →
     (9 ≤ r3 →
      wp_X11_procedure_70 post σ16 a1 a2 a3 r3 0) ∧ (¬ 9 ≤ r3 →
      (11 ≤ (r3 + a3) →
       wp_X11_procedure_70 post σ16 a1 a2 a3 r3 0) ∧ (¬ 11 ≤ (r3 + a3) →
       wp_X11_areSlots σ16 r3 a2 (fun (r19 : Int32) (σ18 : MSt) =>
       (r19 = 0 →
        wp_X11_procedure_70 post σ18 a1 a2 a3 r3 0) ∧ (¬ r19 = 0 →
        wp_X11_procedure_70 post σ18 a1 a2 a3 r3 1))))))))))
set_option maxRecDepth 100000 in
set_option maxHeartbeats 4000000 in
theorem b_X11_procedure_121 {T : Tb} {B : Nat} {p : Program} {l : Launch} {e : Env} {s : State} {m : MethodId} {args : Array Value} {below : List Frame} {meth : Method} {c0 : Code} {post : Int32 → MSt → Prop} {μ0 : Mem} {o : Nat} {A : Nat → Nat} (X : CX T B p m c0 cX11_procedure 8 s args RX11) (hr : meth.sig.returnType = (some .int)) (hk : meth.locks = false) : ∀ (n : Nat) (σ : MSt) (x4 : Int32) (x6 : Int32) (x7 : Int32) (H : Heap) (locs : List Loc) (ls : Array Slot), wp_X11_procedure_121 post n σ x4 x6 x7 → MG (WM T B μ0 o A) B s σ H locs → lv_has ls 8 [(0, .ref o), (4, .int x4), (6, .int x6), (7, .int x7)] → W p l e rm_X11_procedure s m args below meth c0 H locs 0 0 (MQ below (va_Qi post (Bm (WM T B μ0 o A)) (Ai B)) args s 0 0 (Ai B)) (F0 m 121 ls []) := by
  intro n
  induction n with
  | zero =>
    intro σ x4 x6 x7 H locs ls hw
    exact hw.elim
  | succ n ih =>
    intro σ x4 x6 x7 H locs ls hw M hl
    rw [wp_X11_procedure_121] at hw
    refine lv_iload X.1 X.2.1 dX11_procedure_121 (lv_at hl 3 rfl) ?_
    refine lv_iload X.1 X.2.1 dX11_procedure_123 (lv_at hl 1 rfl) ?_
    obtain ⟨hwt, hwf⟩ := hw
    refine lv_icmp_ge (tgt := 154) X.1 X.2.1 dX11_procedure_125 (by decide) (fun hq => ?_) (fun hq => ?_)
    · have hw := hwt hq
      refine lv_aload_n X.1 X.2.1 dX11_procedure_154 rfl (lv_at hl 0 rfl) ?_
      refine mm_geta X M 9 (by decide) rfl (by decide) kw_974 dX11_procedure_155 ?_
      refine lv_iload X.1 X.2.1 dX11_procedure_158 (lv_at hl 2 rfl) ?_
      refine lv_iconst (v := 0) X.1 X.2.1 dX11_procedure_160 (by decide) ?_
      obtain ⟨hi, hw⟩ := hw
      refine mm_ast X M 9 rfl dX11_procedure_161 hi (fun σ9 H locs eσ9 M => ?_)
      replace hw := hw σ9 eσ9
      refine lv_aload_n X.1 X.2.1 dX11_procedure_162 rfl (lv_at hl 0 rfl) ?_
      refine lv_dup X.1 X.2.1 dX11_procedure_163 rfl ?_
      refine mm_geti X M 3 (by decide) rfl kw_968 dX11_procedure_164 ?_
      refine lv_iconst (v := 1) X.1 X.2.1 dX11_procedure_167 (by decide) ?_
      refine lv_iadd X.1 X.2.1 dX11_procedure_168 ?_
      refine mm_puti X M 3 (by decide) rfl kw_968 rfl dX11_procedure_169 rfl rfl (fun σ10 H locs eσ10 M => ?_)
      replace hw := hw σ10 eσ10
      refine lv_iload X.1 X.2.1 dX11_procedure_172 (lv_at hl 2 rfl) ?_
      exact mx_iret X hr hk M dX11_procedure_174 (by decide) (by decide) hw
    · have hw := hwf hq
      refine lv_aload_n X.1 X.2.1 dX11_procedure_128 rfl (lv_at hl 0 rfl) ?_
      refine mm_geta X M 8 (by decide) rfl (by decide) kw_973 dX11_procedure_129 ?_
      refine lv_bipush (v := 8) X.1 X.2.1 dX11_procedure_132 (by decide) ?_
      refine lv_iload X.1 X.2.1 dX11_procedure_134 (lv_at hl 2 rfl) ?_
      refine lv_imul X.1 X.2.1 dX11_procedure_136 ?_
      refine lv_iload X.1 X.2.1 dX11_procedure_137 (lv_at hl 3 rfl) ?_
      refine lv_iadd X.1 X.2.1 dX11_procedure_139 ?_
      refine lv_aload_n X.1 X.2.1 dX11_procedure_140 rfl (lv_at hl 0 rfl) ?_
      refine mm_geta X M 1 (by decide) rfl (by decide) kw_966 dX11_procedure_141 ?_
      refine lv_iload X.1 X.2.1 dX11_procedure_144 (lv_at hl 3 rfl) ?_
      obtain ⟨hi, hw⟩ := hw
      refine mm_ald X M 1 rfl dX11_procedure_146 hi ?_
      obtain ⟨hi, hw⟩ := hw
      refine mm_ast X M 8 rfl dX11_procedure_147 hi (fun σ11 H locs eσ11 M => ?_)
      replace hw := hw σ11 eσ11
      obtain ⟨v12, ev12⟩ : ∃ y : Int32, y = x7 + 1 := ⟨_, rfl⟩
      replace hw := hw v12 ev12
      refine lv_iinc (v := v12) (lv' := [(7, .int v12), (0, .ref o), (4, .int x4), (6, .int x6)]) X.1 X.2.1 dX11_procedure_148 hl (k := 3) rfl (by rw [ev12]; rfl) (by decide) rfl (fun ls hl => ?_)
      refine lv_goto (tgt := 121) X.1 X.2.1 dX11_procedure_151 (by decide) ?_
      exact ih σ11 x4 x6 v12 _ _ _ hw M (lv_sub hl [1, 2, 3, 0] rfl)
set_option maxRecDepth 100000 in
set_option maxHeartbeats 4000000 in
theorem b_X11_procedure_70 {T : Tb} {B : Nat} {p : Program} {l : Launch} {e : Env} {s : State} {m : MethodId} {args : Array Value} {below : List Frame} {meth : Method} {c0 : Code} {post : Int32 → MSt → Prop} {μ0 : Mem} {o : Nat} {A : Nat → Nat} (X : CX T B p m c0 cX11_procedure 8 s args RX11) (hr : meth.sig.returnType = (some .int)) (hk : meth.locks = false) : ∀ (σ : MSt) (x1 : Int32) (x2 : Int32) (x3 : Int32) (x4 : Int32) (t0 : Int32) (H : Heap) (locs : List Loc) (ls : Array Slot), wp_X11_procedure_70 post σ x1 x2 x3 x4 t0 → MG (WM T B μ0 o A) B s σ H locs → lv_has ls 8 [(0, .ref o), (1, .int x1), (2, .int x2), (3, .int x3), (4, .int x4)] → W p l e rm_X11_procedure s m args below meth c0 H locs 0 0 (MQ below (va_Qi post (Bm (WM T B μ0 o A)) (Ai B)) args s 0 0 (Ai B)) (F0 m 70 ls [.int t0]) := by
  intro σ x1 x2 x3 x4 t0 H locs ls hw M hl
  unfold wp_X11_procedure_70 at hw
  refine lv_istore (lv' := [(5, .int t0), (0, .ref o), (1, .int x1), (2, .int x2), (3, .int x3), (4, .int x4)]) X.1 X.2.1 dX11_procedure_70 hl (by decide) rfl (fun ls hl => ?_)
  refine lv_iload X.1 X.2.1 dX11_procedure_72 (lv_at hl 0 rfl) ?_
  obtain ⟨hwf, hwt⟩ := hw
  refine lv_if_ne (tgt := 79) X.1 X.2.1 dX11_procedure_74 (by decide) (fun hq => ?_) (fun hq => ?_)
  · have hw := hwt hq
    refine lv_aload_n X.1 X.2.1 dX11_procedure_79 rfl (lv_at hl 1 rfl) ?_
    refine mm_geti X M 3 (by decide) rfl kw_968 dX11_procedure_80 ?_
    refine lv_topi (fun v4 ev4 => ?_)
    replace hw := hw v4 ev4
    refine lv_istore (lv' := [(6, .int v4), (5, .int t0), (0, .ref o), (1, .int x1), (2, .int x2), (3, .int x3), (4, .int x4)]) X.1 X.2.1 dX11_procedure_83 hl (by decide) rfl (fun ls hl => ?_)
    refine lv_aload_n X.1 X.2.1 dX11_procedure_85 rfl (lv_at hl 2 rfl) ?_
    refine mm_geta X M 4 (by decide) rfl (by decide) kw_969 dX11_procedure_86 ?_
    refine lv_iload X.1 X.2.1 dX11_procedure_89 (lv_at hl 0 rfl) ?_
    refine lv_iload_n X.1 X.2.1 dX11_procedure_91 rfl (lv_at hl 3 rfl) ?_
    obtain ⟨hi, hw⟩ := hw
    refine mm_zst X M 4 rfl dX11_procedure_92 hi (fun σ5 H locs eσ5 M => ?_)
    replace hw := hw σ5 eσ5
    refine lv_aload_n X.1 X.2.1 dX11_procedure_93 rfl (lv_at hl 2 rfl) ?_
    refine mm_geta X M 5 (by decide) rfl (by decide) kw_970 dX11_procedure_94 ?_
    refine lv_iload X.1 X.2.1 dX11_procedure_97 (lv_at hl 0 rfl) ?_
    refine lv_iload_n X.1 X.2.1 dX11_procedure_99 rfl (lv_at hl 4 rfl) ?_
    obtain ⟨hi, hw⟩ := hw
    refine mm_ast X M 5 rfl dX11_procedure_100 hi (fun σ6 H locs eσ6 M => ?_)
    replace hw := hw σ6 eσ6
    refine lv_aload_n X.1 X.2.1 dX11_procedure_101 rfl (lv_at hl 2 rfl) ?_
    refine mm_geta X M 6 (by decide) rfl (by decide) kw_971 dX11_procedure_102 ?_
    refine lv_iload X.1 X.2.1 dX11_procedure_105 (lv_at hl 0 rfl) ?_
    refine lv_iload_n X.1 X.2.1 dX11_procedure_107 rfl (lv_at hl 5 rfl) ?_
    obtain ⟨hi, hw⟩ := hw
    refine mm_ast X M 6 rfl dX11_procedure_108 hi (fun σ7 H locs eσ7 M => ?_)
    replace hw := hw σ7 eσ7
    refine lv_aload_n X.1 X.2.1 dX11_procedure_109 rfl (lv_at hl 2 rfl) ?_
    refine mm_geta X M 7 (by decide) rfl (by decide) kw_972 dX11_procedure_110 ?_
    refine lv_iload X.1 X.2.1 dX11_procedure_113 (lv_at hl 0 rfl) ?_
    refine lv_iload X.1 X.2.1 dX11_procedure_115 (lv_at hl 6 rfl) ?_
    obtain ⟨hi, hw⟩ := hw
    refine mm_ast X M 7 rfl dX11_procedure_117 hi (fun σ8 H locs eσ8 M => ?_)
    replace hw := hw σ8 eσ8
    refine lv_iconst (v := 0) X.1 X.2.1 dX11_procedure_118 (by decide) ?_
    refine lv_istore (lv' := [(7, .int 0), (6, .int v4), (5, .int t0), (0, .ref o), (1, .int x1), (2, .int x2), (3, .int x3), (4, .int x4)]) X.1 X.2.1 dX11_procedure_119 hl (by decide) rfl (fun ls hl => ?_)
    obtain ⟨n13, hw⟩ := hw
    exact b_X11_procedure_121 X hr hk n13 σ8 x4 v4 0 _ _ _ hw M (lv_sub hl [3, 7, 1, 0] rfl)
  · have hw := hwf hq
    refine lv_iconst (v := (-1)) X.1 X.2.1 dX11_procedure_77 (by decide) ?_
    exact mx_iret X hr hk M dX11_procedure_78 (by decide) (by decide) hw
set_option maxRecDepth 100000 in
set_option maxHeartbeats 4000000 in
theorem c_X11_procedure (l : Launch) (T : Tb) (B : Nat) (μ0 : Mem) (o : Nat) (A : Nat → Nat) (σ : MSt) (a1 : Int32) (a2 : Int32) (a3 : Int32) (post : Int32 → MSt → Prop) (hw : wp_X11_procedure σ a1 a2 a3 post) : Met l yX11_procedure (.code yX11_procedure cX11_procedure 8 (some .int) :: G) rm_X11_procedure (Pm (WM T B μ0 o A) T B σ [.ref o, .int a1, .int a2, .int a3]) (va_Qi post (Bm (WM T B μ0 o A)) (Ai B)) 0 0 (Ai B) := by
  refine mx_of RX11 rfl (by decide) (Nat.le_of_ble_eq_true rfl) ?_
  intro p e s m below meth c0 X hr hk hnm M ls hl
  have hl : lv_has ls 8 [(0, .ref o), (1, .int a1), (2, .int a2), (3, .int a3)] := hl
  unfold wp_X11_procedure at hw
  refine lv_aload_n X.1 X.2.1 dX11_procedure_0 rfl (lv_at hl 0 rfl) ?_
  refine lv_iconst (v := 0) X.1 X.2.1 dX11_procedure_1 (by decide) ?_
  refine mm_puti X M 0 (by decide) rfl kw_965 rfl dX11_procedure_2 rfl rfl (fun σ1 H locs eσ1 M => ?_)
  replace hw := hw σ1 eσ1
  refine lv_aload_n X.1 X.2.1 dX11_procedure_5 rfl (lv_at hl 0 rfl) ?_
  refine mx_ci M (mx_runV (n := 0) (As := []) (rest := []) X M (c_X11_taken l T B μ0 o A σ1 _ hw) (mm_recv X M) kw_1156 kw_1158 kw_30 kw_74 kw_1159 (by decide +kernel) rfl rfl ⟨Nat.le_of_ble_eq_true rfl, Nat.le_of_ble_eq_true rfl⟩ rfl hl.1 (Nat.le_of_ble_eq_true rfl) dX11_procedure_6 ⟨by decide, by decide⟩) (fun r3 σ2 H locs hw M => ?_)
  refine lv_istore (lv' := [(4, .int r3), (0, .ref o), (1, .int a1), (2, .int a2), (3, .int a3)]) X.1 X.2.1 dX11_procedure_9 hl (by decide) rfl (fun ls hl => ?_)
  refine lv_aload_n X.1 X.2.1 dX11_procedure_11 rfl (lv_at hl 1 rfl) ?_
  refine mm_geti X M 3 (by decide) rfl kw_968 dX11_procedure_12 ?_
  refine lv_bipush (v := 60) X.1 X.2.1 dX11_procedure_15 (by decide) ?_
  obtain ⟨hwt, hwf⟩ := hw
  refine lv_icmp_ge (tgt := 69) X.1 X.2.1 dX11_procedure_17 (by decide) (fun hq => ?_) (fun hq => ?_)
  · have hw := hwt hq
    refine lv_iconst (v := 0) X.1 X.2.1 dX11_procedure_69 (by decide) ?_
    exact b_X11_procedure_70 X hr hk σ2 a1 a2 a3 r3 0 _ _ _ hw M (lv_sub hl [1, 2, 3, 4, 0] rfl)
  · have hw := hwf hq
    refine lv_iload_n X.1 X.2.1 dX11_procedure_20 rfl (lv_at hl 3 rfl) ?_
    refine lv_iconst (v := 1) X.1 X.2.1 dX11_procedure_21 (by decide) ?_
    refine lv_bipush (v := 40) X.1 X.2.1 dX11_procedure_22 (by decide) ?_
    refine mx_ci M (mx_runS (n := 3) (As := [.int a2, .int 1, .int 40]) (rest := []) X M (c_X11_isWithin l T B μ0 o A σ2 a2 1 40 _ hw) kw_1160 kw_1161 kw_74 kw_1162 (by decide +kernel) rfl rfl ⟨Nat.le_of_ble_eq_true rfl, Nat.le_of_ble_eq_true rfl⟩ rfl hl.1 (Nat.le_of_ble_eq_true rfl) dX11_procedure_24 ⟨by decide, by decide⟩) (fun r15 σ14 H locs hw M => ?_)
    obtain ⟨hwt, hwf⟩ := hw
    refine lv_if_eq (tgt := 69) X.1 X.2.1 dX11_procedure_27 (by decide) (fun hq => ?_) (fun hq => ?_)
    · have hw := hwt hq
      refine lv_iconst (v := 0) X.1 X.2.1 dX11_procedure_69 (by decide) ?_
      exact b_X11_procedure_70 X hr hk σ14 a1 a2 a3 r3 0 _ _ _ hw M (lv_sub hl [1, 2, 3, 4, 0] rfl)
    · have hw := hwf hq
      refine lv_iload_n X.1 X.2.1 dX11_procedure_30 rfl (lv_at hl 4 rfl) ?_
      refine lv_iconst (v := 0) X.1 X.2.1 dX11_procedure_31 (by decide) ?_
      refine lv_iload_n X.1 X.2.1 dX11_procedure_32 rfl (lv_at hl 3 rfl) ?_
      refine mx_ci M (mx_runS (n := 3) (As := [.int a3, .int 0, .int a2]) (rest := []) X M (c_X11_isWithin l T B μ0 o A σ14 a3 0 a2 _ hw) kw_1160 kw_1161 kw_74 kw_1162 (by decide +kernel) rfl rfl ⟨Nat.le_of_ble_eq_true rfl, Nat.le_of_ble_eq_true rfl⟩ rfl hl.1 (Nat.le_of_ble_eq_true rfl) dX11_procedure_33 ⟨by decide, by decide⟩) (fun r17 σ16 H locs hw M => ?_)
      obtain ⟨hwt, hwf⟩ := hw
      refine lv_if_eq (tgt := 69) X.1 X.2.1 dX11_procedure_36 (by decide) (fun hq => ?_) (fun hq => ?_)
      · have hw := hwt hq
        refine lv_iconst (v := 0) X.1 X.2.1 dX11_procedure_69 (by decide) ?_
        exact b_X11_procedure_70 X hr hk σ16 a1 a2 a3 r3 0 _ _ _ hw M (lv_sub hl [1, 2, 3, 4, 0] rfl)
      · have hw := hwf hq
        refine lv_iload X.1 X.2.1 dX11_procedure_39 (lv_at hl 0 rfl) ?_
        refine lv_bipush (v := 9) X.1 X.2.1 dX11_procedure_41 (by decide) ?_
        obtain ⟨hwt, hwf⟩ := hw
        refine lv_icmp_ge (tgt := 69) X.1 X.2.1 dX11_procedure_43 (by decide) (fun hq => ?_) (fun hq => ?_)
        · have hw := hwt hq
          refine lv_iconst (v := 0) X.1 X.2.1 dX11_procedure_69 (by decide) ?_
          exact b_X11_procedure_70 X hr hk σ16 a1 a2 a3 r3 0 _ _ _ hw M (lv_sub hl [1, 2, 3, 4, 0] rfl)
        · have hw := hwf hq
          refine lv_iload X.1 X.2.1 dX11_procedure_46 (lv_at hl 0 rfl) ?_
          refine lv_iload_n X.1 X.2.1 dX11_procedure_48 rfl (lv_at hl 4 rfl) ?_
          refine lv_iadd X.1 X.2.1 dX11_procedure_49 ?_
          refine lv_bipush (v := 11) X.1 X.2.1 dX11_procedure_50 (by decide) ?_
          obtain ⟨hwt, hwf⟩ := hw
          refine lv_icmp_ge (tgt := 69) X.1 X.2.1 dX11_procedure_52 (by decide) (fun hq => ?_) (fun hq => ?_)
          · have hw := hwt hq
            refine lv_iconst (v := 0) X.1 X.2.1 dX11_procedure_69 (by decide) ?_
            exact b_X11_procedure_70 X hr hk σ16 a1 a2 a3 r3 0 _ _ _ hw M (lv_sub hl [1, 2, 3, 4, 0] rfl)
          · have hw := hwf hq
            refine lv_aload_n X.1 X.2.1 dX11_procedure_55 rfl (lv_at hl 1 rfl) ?_
            refine lv_iload X.1 X.2.1 dX11_procedure_56 (lv_at hl 0 rfl) ?_
            refine lv_iload_n X.1 X.2.1 dX11_procedure_58 rfl (lv_at hl 3 rfl) ?_
            refine mx_ci M (mx_runV (n := 2) (As := [.int r3, .int a2]) (rest := []) X M (c_X11_areSlots l T B μ0 o A σ16 r3 a2 _ hw) (mm_recv X M) kw_1163 kw_1165 kw_31 kw_74 kw_1166 (by decide +kernel) rfl rfl ⟨Nat.le_of_ble_eq_true rfl, Nat.le_of_ble_eq_true rfl⟩ rfl hl.1 (Nat.le_of_ble_eq_true rfl) dX11_procedure_59 ⟨by decide, by decide⟩) (fun r19 σ18 H locs hw M => ?_)
            obtain ⟨hwt, hwf⟩ := hw
            refine lv_if_eq (tgt := 69) X.1 X.2.1 dX11_procedure_62 (by decide) (fun hq => ?_) (fun hq => ?_)
            · have hw := hwt hq
              refine lv_iconst (v := 0) X.1 X.2.1 dX11_procedure_69 (by decide) ?_
              exact b_X11_procedure_70 X hr hk σ18 a1 a2 a3 r3 0 _ _ _ hw M (lv_sub hl [1, 2, 3, 4, 0] rfl)
            · have hw := hwf hq
              refine lv_iconst (v := 1) X.1 X.2.1 dX11_procedure_65 (by decide) ?_
              refine lv_goto (tgt := 70) X.1 X.2.1 dX11_procedure_66 (by decide) ?_
              exact b_X11_procedure_70 X hr hk σ18 a1 a2 a3 r3 1 _ _ _ hw M (lv_sub hl [1, 2, 3, 4, 0] rfl)

abbrev rm_X11_isSlot : Room := { frames := 1, cells := 0, slots := 0, locals := 22 }
def wp_X11_isSlot (σ : MSt) (a1 : Int32) (a2 : Int32) (post : Int32 → MSt → Prop) : Prop :=
  vp_in a1 60 ∧
  wp_X11_isWithin σ a2 0 ((ma σ 5 (Int32.toNatClampNeg a1)) - 1) (fun (r2 : Int32) (σ1 : MSt) =>
  narrow .boolean (.int r2) = .int r2 ∧ post r2 σ1)
set_option maxRecDepth 100000 in
set_option maxHeartbeats 4000000 in
theorem c_X11_isSlot (l : Launch) (T : Tb) (B : Nat) (μ0 : Mem) (o : Nat) (A : Nat → Nat) (σ : MSt) (a1 : Int32) (a2 : Int32) (post : Int32 → MSt → Prop) (hw : wp_X11_isSlot σ a1 a2 post) : Met l yX11_isSlot (.code yX11_isSlot cX11_isSlot 3 (some .boolean) :: G) rm_X11_isSlot (Pm (WM T B μ0 o A) T B σ [.ref o, .int a1, .int a2]) (va_Qi post (Bm (WM T B μ0 o A)) (Ai B)) 0 0 (Ai B) := by
  refine mx_of RX11 rfl (by decide) (Nat.le_of_ble_eq_true rfl) ?_
  intro p e s m below meth c0 X hr hk hnm M ls hl
  have hl : lv_has ls 3 [(0, .ref o), (1, .int a1), (2, .int a2)] := hl
  unfold wp_X11_isSlot at hw
  refine lv_iload_n X.1 X.2.1 dX11_isSlot_0 rfl (lv_at hl 2 rfl) ?_
  refine lv_iconst (v := 0) X.1 X.2.1 dX11_isSlot_1 (by decide) ?_
  refine lv_aload_n X.1 X.2.1 dX11_isSlot_2 rfl (lv_at hl 0 rfl) ?_
  refine mm_geta X M 5 (by decide) rfl (by decide) kw_970 dX11_isSlot_3 ?_
  refine lv_iload_n X.1 X.2.1 dX11_isSlot_6 rfl (lv_at hl 1 rfl) ?_
  obtain ⟨hi, hw⟩ := hw
  refine mm_ald X M 5 rfl dX11_isSlot_7 hi ?_
  refine lv_iconst (v := 1) X.1 X.2.1 dX11_isSlot_8 (by decide) ?_
  refine lv_isub X.1 X.2.1 dX11_isSlot_9 ?_
  refine mx_ci M (mx_runS (n := 3) (As := [.int a2, .int 0, .int ((ma σ 5 (Int32.toNatClampNeg a1)) - 1)]) (rest := []) X M (c_X11_isWithin l T B μ0 o A σ a2 0 ((ma σ 5 (Int32.toNatClampNeg a1)) - 1) _ hw) kw_1160 kw_1161 kw_74 kw_1162 (by decide +kernel) rfl rfl ⟨Nat.le_of_ble_eq_true rfl, Nat.le_of_ble_eq_true rfl⟩ rfl hl.1 (Nat.le_of_ble_eq_true rfl) dX11_isSlot_10 ⟨by decide, by decide⟩) (fun r2 σ1 H locs hw M => ?_)
  exact mx_zret X hr hk M dX11_isSlot_13 (by decide) (by decide) hw.1 hw.2

abbrev rm_X11_isTo : Room := { frames := 1, cells := 0, slots := 0, locals := 22 }
def wp_X11_isTo (σ : MSt) (a1 : Int32) (post : Int32 → MSt → Prop) : Prop :=
  wp_X11_isWithin σ a1 0 1999 (fun (r2 : Int32) (σ1 : MSt) =>
  narrow .boolean (.int r2) = .int r2 ∧ post r2 σ1)
set_option maxRecDepth 100000 in
set_option maxHeartbeats 4000000 in
theorem c_X11_isTo (l : Launch) (T : Tb) (B : Nat) (μ0 : Mem) (o : Nat) (A : Nat → Nat) (σ : MSt) (a1 : Int32) (post : Int32 → MSt → Prop) (hw : wp_X11_isTo σ a1 post) : Met l yX11_isTo (.code yX11_isTo cX11_isTo 1 (some .boolean) :: G) rm_X11_isTo (Pm (WM T B μ0 o A) T B σ [.int a1]) (va_Qi post (Bm (WM T B μ0 o A)) (Ai B)) 0 0 (Ai B) := by
  refine mx_of RX11 rfl (by decide) (Nat.le_of_ble_eq_true rfl) ?_
  intro p e s m below meth c0 X hr hk hnm M ls hl
  have hl : lv_has ls 1 [(0, .int a1)] := hl
  unfold wp_X11_isTo at hw
  refine lv_iload_n X.1 X.2.1 dX11_isTo_0 rfl (lv_at hl 0 rfl) ?_
  refine lv_iconst (v := 0) X.1 X.2.1 dX11_isTo_1 (by decide) ?_
  refine lv_sipush (v := 1999) X.1 X.2.1 dX11_isTo_2 (by decide) ?_
  refine mx_ci M (mx_runS (n := 3) (As := [.int a1, .int 0, .int 1999]) (rest := []) X M (c_X11_isWithin l T B μ0 o A σ a1 0 1999 _ hw) kw_1160 kw_1161 kw_74 kw_1162 (by decide +kernel) rfl rfl ⟨Nat.le_of_ble_eq_true rfl, Nat.le_of_ble_eq_true rfl⟩ rfl hl.1 (Nat.le_of_ble_eq_true rfl) dX11_isTo_5 ⟨by decide, by decide⟩) (fun r2 σ1 H locs hw M => ?_)
  exact mx_zret X hr hk M dX11_isTo_8 (by decide) (by decide) hw.1 hw.2

abbrev rm_X11_isRight : Room := { frames := 2, cells := 0, slots := 0, locals := 45 }
def wp_X11_isRight_79 (post : Int32 → MSt → Prop) (σ : MSt) (x1 : Int32) (x3 : Int32) (x4 : Int32) : Prop :=
  wp_X11_isSlot σ x1 x3 (fun (r4 : Int32) (σ3 : MSt) =>
  (r4 = 0 →
   post 0 σ3) ∧ (¬ r4 = 0 →
   wp_X11_isSlot σ3 x1 x4 (fun (r6 : Int32) (σ5 : MSt) =>
   (r6 = 0 →
    post 0 σ5) ∧ (¬ r6 = 0 →
    post 1 σ5))))
def wp_X11_isRight_104 (post : Int32 → MSt → Prop) (σ : MSt) (x1 : Int32) (x3 : Int32) (x4 : Int32) (x7 : Int32) : Prop :=
  wp_X11_isSlot σ x1 x3 (fun (r8 : Int32) (σ7 : MSt) =>
  (r8 = 0 →
   post 0 σ7) ∧ (¬ r8 = 0 →
   wp_X11_isWithin σ7 x4 0 31 (fun (r10 : Int32) (σ9 : MSt) =>
   (r10 = 0 →
    post 0 σ9) ∧ (¬ r10 = 0 →
    (5 ≤ x7 →
     post 0 σ9) ∧ (¬ 5 ≤ x7 →
     vp_in x1 60 ∧
     wp_X11_areSlots σ9 x7 (ma σ9 5 (Int32.toNatClampNeg x1)) (fun (r12 : Int32) (σ11 : MSt) =>
     (r12 = 0 →
      post 0 σ11) ∧ (¬ r12 = 0 →
      post 1 σ11)))))))
def wp_X11_isRight (σ : MSt) (a1 : Int32) (a2 : Int32) (a3 : Int32) (a4 : Int32) (a5 : Int32) (a6 : Int32) (a7 : Int32) (post : Int32 → MSt → Prop) : Prop :=
  (a2 = 0 →
   wp_X11_isSlot σ a1 a3 (fun (r2 : Int32) (σ1 : MSt) =>
   narrow .boolean (.int r2) = .int r2 ∧ post r2 σ1)) ∧
  (a2 = 1 →
   wp_X11_isRight_79 post σ a1 a3 a4) ∧
  (a2 = 2 →
   wp_X11_isRight_104 post σ a1 a3 a4 a7) ∧
  (a2 = 3 →
   wp_X11_isRight_104 post σ a1 a3 a4 a7) ∧
  (a2 = 4 →
   wp_X11_isRight_79 post σ a1 a3 a4) ∧
  (a2 = 5 →
   wp_X11_isSlot σ a1 a3 (fun (r14 : Int32) (σ13 : MSt) =>
   (r14 = 0 →
    post 0 σ13) ∧ (¬ r14 = 0 →
    wp_X11_isSlot σ13 a1 a4 (fun (r16 : Int32) (σ15 : MSt) =>
    (r16 = 0 →
     post 0 σ15) ∧ (¬ r16 = 0 →
     wp_X11_isSlot σ15 a1 a5 (fun (r18 : Int32) (σ17 : MSt) =>
     (r18 = 0 →
      post 0 σ17) ∧ (¬ r18 = 0 →
      wp_X11_isWithin σ17 a6 0 4 (fun (r20 : Int32) (σ19 : MSt) =>
      (r20 = 0 →
       post 0 σ19) ∧ (¬ r20 = 0 →
       post 1 σ19))))))))) ∧
  (a2 = 6 →
   wp_X11_isSlot σ a1 a3 (fun (r22 : Int32) (σ21 : MSt) =>
   (r22 = 0 →
    post 0 σ21) ∧ (¬ r22 = 0 →
    wp_X11_isSlot σ21 a1 a4 (fun (r24 : Int32) (σ23 : MSt) =>
    (r24 = 0 →
     post 0 σ23) ∧ (¬ r24 = 0 →
     wp_X11_isWithin σ23 a5 0 5 (fun (r26 : Int32) (σ25 : MSt) =>
     (r26 = 0 →
      post 0 σ25) ∧ (¬ r26 = 0 →
      post 1 σ25))))))) ∧
  (a2 = 7 →
   wp_X11_isTo σ a3 (fun (r28 : Int32) (σ27 : MSt) =>
   narrow .boolean (.int r28) = .int r28 ∧ post r28 σ27)) ∧
  (a2 = 8 →
   wp_X11_isSlot σ a1 a3 (fun (r30 : Int32) (σ29 : MSt) =>
   (r30 = 0 →
    post 0 σ29) ∧ (¬ r30 = 0 →
    wp_X11_isWithin σ29 a4 0 31 (fun (r32 : Int32) (σ31 : MSt) =>
    (r32 = 0 →
     post 0 σ31) ∧ (¬ r32 = 0 →
     wp_X11_isTo σ31 a5 (fun (r34 : Int32) (σ33 : MSt) =>
     (r34 = 0 →
      post 0 σ33) ∧ (¬ r34 = 0 →
      post 1 σ33))))))) ∧
  (a2 = 9 →
   wp_X11_isTo σ a3 (fun (r36 : Int32) (σ35 : MSt) =>
   narrow .boolean (.int r36) = .int r36 ∧ post r36 σ35)) ∧
  (a2 = 10 →
   wp_X11_isWithin σ a3 0 ((mi σ 3) - 1) (fun (r38 : Int32) (σ37 : MSt) =>
   (r38 = 0 →
    post 0 σ37) ∧ (¬ r38 = 0 →
    vp_in a3 60 ∧
    vp_in a3 60 ∧
    (a7 = ((ma σ37 6 (Int32.toNatClampNeg a3)) + (ma σ37 7 (Int32.toNatClampNeg a3))) →
     vp_in a1 60 ∧
     wp_X11_areSlots σ37 a7 (ma σ37 5 (Int32.toNatClampNeg a1)) (fun (r40 : Int32) (σ39 : MSt) =>
     (r40 = 0 →
      post 0 σ39) ∧ (¬ r40 = 0 →
      post 1 σ39))) ∧ (¬ a7 = ((ma σ37 6 (Int32.toNatClampNeg a3)) + (ma σ37 7 (Int32.toNatClampNeg a3))) →
     post 0 σ37)))) ∧
  (a2 = 11 →
   wp_X11_isSlot σ a1 a3 (fun (r42 : Int32) (σ41 : MSt) =>
   narrow .boolean (.int r42) = .int r42 ∧ post r42 σ41)) ∧
  (a2 = 12 →
   wp_X11_isSlot σ a1 a3 (fun (r44 : Int32) (σ43 : MSt) =>
   narrow .boolean (.int r44) = .int r44 ∧ post r44 σ43)) ∧
  (a2 = 13 →
   wp_X11_isSlot σ a1 a3 (fun (r46 : Int32) (σ45 : MSt) =>
   narrow .boolean (.int r46) = .int r46 ∧ post r46 σ45)) ∧
  (¬ a2 = 0 → ¬ a2 = 1 → ¬ a2 = 2 → ¬ a2 = 3 → ¬ a2 = 4 → ¬ a2 = 5 → ¬ a2 = 6 → ¬ a2 = 7 → ¬ a2 = 8 → ¬ a2 = 9 → ¬ a2 = 10 → ¬ a2 = 11 → ¬ a2 = 12 → ¬ a2 = 13 → 
   (a2 = 14 →
    post 1 σ) ∧ (¬ a2 = 14 →
    (a2 = 15 →
     post 1 σ) ∧ (¬ a2 = 15 →
     post 0 σ)))
set_option maxRecDepth 100000 in
set_option maxHeartbeats 4000000 in
theorem b_X11_isRight_79 {T : Tb} {B : Nat} {p : Program} {l : Launch} {e : Env} {s : State} {m : MethodId} {args : Array Value} {below : List Frame} {meth : Method} {c0 : Code} {post : Int32 → MSt → Prop} {μ0 : Mem} {o : Nat} {A : Nat → Nat} (X : CX T B p m c0 cX11_isRight 8 s args RX11) (hr : meth.sig.returnType = (some .boolean)) (hk : meth.locks = false) : ∀ (σ : MSt) (x1 : Int32) (x3 : Int32) (x4 : Int32) (H : Heap) (locs : List Loc) (ls : Array Slot), wp_X11_isRight_79 post σ x1 x3 x4 → MG (WM T B μ0 o A) B s σ H locs → lv_has ls 8 [(0, .ref o), (1, .int x1), (3, .int x3), (4, .int x4)] → W p l e rm_X11_isRight s m args below meth c0 H locs 0 0 (MQ below (va_Qi post (Bm (WM T B μ0 o A)) (Ai B)) args s 0 0 (Ai B)) (F0 m 79 ls []) := by
  intro σ x1 x3 x4 H locs ls hw M hl
  unfold wp_X11_isRight_79 at hw
  refine lv_aload_n X.1 X.2.1 dX11_isRight_79 rfl (lv_at hl 0 rfl) ?_
  refine lv_iload_n X.1 X.2.1 dX11_isRight_80 rfl (lv_at hl 1 rfl) ?_
  refine lv_iload_n X.1 X.2.1 dX11_isRight_81 rfl (lv_at hl 2 rfl) ?_
  refine mx_ci M (mx_runV (n := 2) (As := [.int x1, .int x3]) (rest := []) X M (c_X11_isSlot l T B μ0 o A σ x1 x3 _ hw) (mm_recv X M) kw_1175 kw_1177 kw_33 kw_74 kw_1178 (by decide +kernel) rfl rfl ⟨Nat.le_of_ble_eq_true rfl, Nat.le_of_ble_eq_true rfl⟩ rfl hl.1 (Nat.le_of_ble_eq_true rfl) dX11_isRight_82 ⟨by decide, by decide⟩) (fun r4 σ3 H locs hw M => ?_)
  obtain ⟨hwt, hwf⟩ := hw
  refine lv_if_eq (tgt := 102) X.1 X.2.1 dX11_isRight_85 (by decide) (fun hq => ?_) (fun hq => ?_)
  · have hw := hwt hq
    refine lv_iconst (v := 0) X.1 X.2.1 dX11_isRight_102 (by decide) ?_
    exact mx_zret X hr hk M dX11_isRight_103 (by decide) (by decide) (by decide) hw
  · have hw := hwf hq
    refine lv_aload_n X.1 X.2.1 dX11_isRight_88 rfl (lv_at hl 0 rfl) ?_
    refine lv_iload_n X.1 X.2.1 dX11_isRight_89 rfl (lv_at hl 1 rfl) ?_
    refine lv_iload X.1 X.2.1 dX11_isRight_90 (lv_at hl 3 rfl) ?_
    refine mx_ci M (mx_runV (n := 2) (As := [.int x1, .int x4]) (rest := []) X M (c_X11_isSlot l T B μ0 o A σ3 x1 x4 _ hw) (mm_recv X M) kw_1175 kw_1177 kw_33 kw_74 kw_1178 (by decide +kernel) rfl rfl ⟨Nat.le_of_ble_eq_true rfl, Nat.le_of_ble_eq_true rfl⟩ rfl hl.1 (Nat.le_of_ble_eq_true rfl) dX11_isRight_92 ⟨by decide, by decide⟩) (fun r6 σ5 H locs hw M => ?_)
    obtain ⟨hwt, hwf⟩ := hw
    refine lv_if_eq (tgt := 102) X.1 X.2.1 dX11_isRight_95 (by decide) (fun hq => ?_) (fun hq => ?_)
    · have hw := hwt hq
      refine lv_iconst (v := 0) X.1 X.2.1 dX11_isRight_102 (by decide) ?_
      exact mx_zret X hr hk M dX11_isRight_103 (by decide) (by decide) (by decide) hw
    · have hw := hwf hq
      refine lv_iconst (v := 1) X.1 X.2.1 dX11_isRight_98 (by decide) ?_
      refine lv_goto (tgt := 103) X.1 X.2.1 dX11_isRight_99 (by decide) ?_
      exact mx_zret X hr hk M dX11_isRight_103 (by decide) (by decide) (by decide) hw
set_option maxRecDepth 100000 in
set_option maxHeartbeats 4000000 in
theorem b_X11_isRight_104 {T : Tb} {B : Nat} {p : Program} {l : Launch} {e : Env} {s : State} {m : MethodId} {args : Array Value} {below : List Frame} {meth : Method} {c0 : Code} {post : Int32 → MSt → Prop} {μ0 : Mem} {o : Nat} {A : Nat → Nat} (X : CX T B p m c0 cX11_isRight 8 s args RX11) (hr : meth.sig.returnType = (some .boolean)) (hk : meth.locks = false) : ∀ (σ : MSt) (x1 : Int32) (x3 : Int32) (x4 : Int32) (x7 : Int32) (H : Heap) (locs : List Loc) (ls : Array Slot), wp_X11_isRight_104 post σ x1 x3 x4 x7 → MG (WM T B μ0 o A) B s σ H locs → lv_has ls 8 [(0, .ref o), (1, .int x1), (3, .int x3), (4, .int x4), (7, .int x7)] → W p l e rm_X11_isRight s m args below meth c0 H locs 0 0 (MQ below (va_Qi post (Bm (WM T B μ0 o A)) (Ai B)) args s 0 0 (Ai B)) (F0 m 104 ls []) := by
  intro σ x1 x3 x4 x7 H locs ls hw M hl
  unfold wp_X11_isRight_104 at hw
  refine lv_aload_n X.1 X.2.1 dX11_isRight_104 rfl (lv_at hl 0 rfl) ?_
  refine lv_iload_n X.1 X.2.1 dX11_isRight_105 rfl (lv_at hl 1 rfl) ?_
  refine lv_iload_n X.1 X.2.1 dX11_isRight_106 rfl (lv_at hl 2 rfl) ?_
  refine mx_ci M (mx_runV (n := 2) (As := [.int x1, .int x3]) (rest := []) X M (c_X11_isSlot l T B μ0 o A σ x1 x3 _ hw) (mm_recv X M) kw_1175 kw_1177 kw_33 kw_74 kw_1178 (by decide +kernel) rfl rfl ⟨Nat.le_of_ble_eq_true rfl, Nat.le_of_ble_eq_true rfl⟩ rfl hl.1 (Nat.le_of_ble_eq_true rfl) dX11_isRight_107 ⟨by decide, by decide⟩) (fun r8 σ7 H locs hw M => ?_)
  obtain ⟨hwt, hwf⟩ := hw
  refine lv_if_eq (tgt := 149) X.1 X.2.1 dX11_isRight_110 (by decide) (fun hq => ?_) (fun hq => ?_)
  · have hw := hwt hq
    refine lv_iconst (v := 0) X.1 X.2.1 dX11_isRight_149 (by decide) ?_
    exact mx_zret X hr hk M dX11_isRight_150 (by decide) (by decide) (by decide) hw
  · have hw := hwf hq
    refine lv_iload X.1 X.2.1 dX11_isRight_113 (lv_at hl 3 rfl) ?_
    refine lv_iconst (v := 0) X.1 X.2.1 dX11_isRight_115 (by decide) ?_
    refine lv_bipush (v := 31) X.1 X.2.1 dX11_isRight_116 (by decide) ?_
    refine mx_ci M (mx_runS (n := 3) (As := [.int x4, .int 0, .int 31]) (rest := []) X M (c_X11_isWithin l T B μ0 o A σ7 x4 0 31 _ hw) kw_1160 kw_1161 kw_74 kw_1162 (by decide +kernel) rfl rfl ⟨Nat.le_of_ble_eq_true rfl, Nat.le_of_ble_eq_true rfl⟩ rfl hl.1 (Nat.le_of_ble_eq_true rfl) dX11_isRight_118 ⟨by decide, by decide⟩) (fun r10 σ9 H locs hw M => ?_)
    obtain ⟨hwt, hwf⟩ := hw
    refine lv_if_eq (tgt := 149) X.1 X.2.1 dX11_isRight_121 (by decide) (fun hq => ?_) (fun hq => ?_)
    · have hw := hwt hq
      refine lv_iconst (v := 0) X.1 X.2.1 dX11_isRight_149 (by decide) ?_
      exact mx_zret X hr hk M dX11_isRight_150 (by decide) (by decide) (by decide) hw
    · have hw := hwf hq
      refine lv_iload X.1 X.2.1 dX11_isRight_124 (lv_at hl 4 rfl) ?_
      refine lv_iconst (v := 5) X.1 X.2.1 dX11_isRight_126 (by decide) ?_
      obtain ⟨hwt, hwf⟩ := hw
      refine lv_icmp_ge (tgt := 149) X.1 X.2.1 dX11_isRight_127 (by decide) (fun hq => ?_) (fun hq => ?_)
      · have hw := hwt hq
        refine lv_iconst (v := 0) X.1 X.2.1 dX11_isRight_149 (by decide) ?_
        exact mx_zret X hr hk M dX11_isRight_150 (by decide) (by decide) (by decide) hw
      · have hw := hwf hq
        refine lv_aload_n X.1 X.2.1 dX11_isRight_130 rfl (lv_at hl 0 rfl) ?_
        refine lv_iload X.1 X.2.1 dX11_isRight_131 (lv_at hl 4 rfl) ?_
        refine lv_aload_n X.1 X.2.1 dX11_isRight_133 rfl (lv_at hl 0 rfl) ?_
        refine mm_geta X M 5 (by decide) rfl (by decide) kw_970 dX11_isRight_134 ?_
        refine lv_iload_n X.1 X.2.1 dX11_isRight_137 rfl (lv_at hl 1 rfl) ?_
        obtain ⟨hi, hw⟩ := hw
        refine mm_ald X M 5 rfl dX11_isRight_138 hi ?_
        refine mx_ci M (mx_runV (n := 2) (As := [.int x7, .int (ma σ9 5 (Int32.toNatClampNeg x1))]) (rest := []) X M (c_X11_areSlots l T B μ0 o A σ9 x7 (ma σ9 5 (Int32.toNatClampNeg x1)) _ hw) (mm_recv X M) kw_1163 kw_1165 kw_31 kw_74 kw_1166 (by decide +kernel) rfl rfl ⟨Nat.le_of_ble_eq_true rfl, Nat.le_of_ble_eq_true rfl⟩ rfl hl.1 (Nat.le_of_ble_eq_true rfl) dX11_isRight_139 ⟨by decide, by decide⟩) (fun r12 σ11 H locs hw M => ?_)
        obtain ⟨hwt, hwf⟩ := hw
        refine lv_if_eq (tgt := 149) X.1 X.2.1 dX11_isRight_142 (by decide) (fun hq => ?_) (fun hq => ?_)
        · have hw := hwt hq
          refine lv_iconst (v := 0) X.1 X.2.1 dX11_isRight_149 (by decide) ?_
          exact mx_zret X hr hk M dX11_isRight_150 (by decide) (by decide) (by decide) hw
        · have hw := hwf hq
          refine lv_iconst (v := 1) X.1 X.2.1 dX11_isRight_145 (by decide) ?_
          refine lv_goto (tgt := 150) X.1 X.2.1 dX11_isRight_146 (by decide) ?_
          exact mx_zret X hr hk M dX11_isRight_150 (by decide) (by decide) (by decide) hw
set_option maxRecDepth 100000 in
set_option maxHeartbeats 4000000 in
theorem c_X11_isRight (l : Launch) (T : Tb) (B : Nat) (μ0 : Mem) (o : Nat) (A : Nat → Nat) (σ : MSt) (a1 : Int32) (a2 : Int32) (a3 : Int32) (a4 : Int32) (a5 : Int32) (a6 : Int32) (a7 : Int32) (post : Int32 → MSt → Prop) (hw : wp_X11_isRight σ a1 a2 a3 a4 a5 a6 a7 post) : Met l yX11_isRight (.code yX11_isRight cX11_isRight 8 (some .boolean) :: G) rm_X11_isRight (Pm (WM T B μ0 o A) T B σ [.ref o, .int a1, .int a2, .int a3, .int a4, .int a5, .int a6, .int a7]) (va_Qi post (Bm (WM T B μ0 o A)) (Ai B)) 0 0 (Ai B) := by
  refine mx_of RX11 rfl (by decide) (Nat.le_of_ble_eq_true rfl) ?_
  intro p e s m below meth c0 X hr hk hnm M ls hl
  have hl : lv_has ls 8 [(0, .ref o), (1, .int a1), (2, .int a2), (3, .int a3), (4, .int a4), (5, .int a5), (6, .int a6), (7, .int a7)] := hl
  unfold wp_X11_isRight at hw
  refine lv_iload_n X.1 X.2.1 dX11_isRight_0 rfl (lv_at hl 2 rfl) ?_
  obtain ⟨hw_0, hw_1, hw_2, hw_3, hw_4, hw_5, hw_6, hw_7, hw_8, hw_9, hw_10, hw_11, hw_12, hw_13, hw_d⟩ := hw
  by_cases q_0 : a2 = 0
  · have hw := hw_0 q_0
    refine lv_tableIn (off := 71) (tgt := 72) X.1 X.2.1 dX11_isRight_1 (by rw [q_0]; decide) (by rw [q_0]; decide) (by rw [q_0]; rfl) (by decide) ?_
    refine lv_aload_n X.1 X.2.1 dX11_isRight_72 rfl (lv_at hl 0 rfl) ?_
    refine lv_iload_n X.1 X.2.1 dX11_isRight_73 rfl (lv_at hl 1 rfl) ?_
    refine lv_iload_n X.1 X.2.1 dX11_isRight_74 rfl (lv_at hl 3 rfl) ?_
    refine mx_ci M (mx_runV (n := 2) (As := [.int a1, .int a3]) (rest := []) X M (c_X11_isSlot l T B μ0 o A σ a1 a3 _ hw) (mm_recv X M) kw_1175 kw_1177 kw_33 kw_74 kw_1178 (by decide +kernel) rfl rfl ⟨Nat.le_of_ble_eq_true rfl, Nat.le_of_ble_eq_true rfl⟩ rfl hl.1 (Nat.le_of_ble_eq_true rfl) dX11_isRight_75 ⟨by decide, by decide⟩) (fun r2 σ1 H locs hw M => ?_)
    exact mx_zret X hr hk M dX11_isRight_78 (by decide) (by decide) hw.1 hw.2
  by_cases q_1 : a2 = 1
  · have hw := hw_1 q_1
    refine lv_tableIn (off := 78) (tgt := 79) X.1 X.2.1 dX11_isRight_1 (by rw [q_1]; decide) (by rw [q_1]; decide) (by rw [q_1]; rfl) (by decide) ?_
    exact b_X11_isRight_79 X hr hk σ a1 a3 a4 _ _ _ hw M (lv_sub hl [0, 1, 3, 4] rfl)
  by_cases q_2 : a2 = 2
  · have hw := hw_2 q_2
    refine lv_tableIn (off := 103) (tgt := 104) X.1 X.2.1 dX11_isRight_1 (by rw [q_2]; decide) (by rw [q_2]; decide) (by rw [q_2]; rfl) (by decide) ?_
    exact b_X11_isRight_104 X hr hk σ a1 a3 a4 a7 _ _ _ hw M (lv_sub hl [0, 1, 3, 4, 7] rfl)
  by_cases q_3 : a2 = 3
  · have hw := hw_3 q_3
    refine lv_tableIn (off := 103) (tgt := 104) X.1 X.2.1 dX11_isRight_1 (by rw [q_3]; decide) (by rw [q_3]; decide) (by rw [q_3]; rfl) (by decide) ?_
    exact b_X11_isRight_104 X hr hk σ a1 a3 a4 a7 _ _ _ hw M (lv_sub hl [0, 1, 3, 4, 7] rfl)
  by_cases q_4 : a2 = 4
  · have hw := hw_4 q_4
    refine lv_tableIn (off := 78) (tgt := 79) X.1 X.2.1 dX11_isRight_1 (by rw [q_4]; decide) (by rw [q_4]; decide) (by rw [q_4]; rfl) (by decide) ?_
    exact b_X11_isRight_79 X hr hk σ a1 a3 a4 _ _ _ hw M (lv_sub hl [0, 1, 3, 4] rfl)
  by_cases q_5 : a2 = 5
  · have hw := hw_5 q_5
    refine lv_tableIn (off := 150) (tgt := 151) X.1 X.2.1 dX11_isRight_1 (by rw [q_5]; decide) (by rw [q_5]; decide) (by rw [q_5]; rfl) (by decide) ?_
    refine lv_aload_n X.1 X.2.1 dX11_isRight_151 rfl (lv_at hl 0 rfl) ?_
    refine lv_iload_n X.1 X.2.1 dX11_isRight_152 rfl (lv_at hl 1 rfl) ?_
    refine lv_iload_n X.1 X.2.1 dX11_isRight_153 rfl (lv_at hl 3 rfl) ?_
    refine mx_ci M (mx_runV (n := 2) (As := [.int a1, .int a3]) (rest := []) X M (c_X11_isSlot l T B μ0 o A σ a1 a3 _ hw) (mm_recv X M) kw_1175 kw_1177 kw_33 kw_74 kw_1178 (by decide +kernel) rfl rfl ⟨Nat.le_of_ble_eq_true rfl, Nat.le_of_ble_eq_true rfl⟩ rfl hl.1 (Nat.le_of_ble_eq_true rfl) dX11_isRight_154 ⟨by decide, by decide⟩) (fun r14 σ13 H locs hw M => ?_)
    obtain ⟨hwt, hwf⟩ := hw
    refine lv_if_eq (tgt := 194) X.1 X.2.1 dX11_isRight_157 (by decide) (fun hq => ?_) (fun hq => ?_)
    · have hw := hwt hq
      refine lv_iconst (v := 0) X.1 X.2.1 dX11_isRight_194 (by decide) ?_
      exact mx_zret X hr hk M dX11_isRight_195 (by decide) (by decide) (by decide) hw
    · have hw := hwf hq
      refine lv_aload_n X.1 X.2.1 dX11_isRight_160 rfl (lv_at hl 0 rfl) ?_
      refine lv_iload_n X.1 X.2.1 dX11_isRight_161 rfl (lv_at hl 1 rfl) ?_
      refine lv_iload X.1 X.2.1 dX11_isRight_162 (lv_at hl 4 rfl) ?_
      refine mx_ci M (mx_runV (n := 2) (As := [.int a1, .int a4]) (rest := []) X M (c_X11_isSlot l T B μ0 o A σ13 a1 a4 _ hw) (mm_recv X M) kw_1175 kw_1177 kw_33 kw_74 kw_1178 (by decide +kernel) rfl rfl ⟨Nat.le_of_ble_eq_true rfl, Nat.le_of_ble_eq_true rfl⟩ rfl hl.1 (Nat.le_of_ble_eq_true rfl) dX11_isRight_164 ⟨by decide, by decide⟩) (fun r16 σ15 H locs hw M => ?_)
      obtain ⟨hwt, hwf⟩ := hw
      refine lv_if_eq (tgt := 194) X.1 X.2.1 dX11_isRight_167 (by decide) (fun hq => ?_) (fun hq => ?_)
      · have hw := hwt hq
        refine lv_iconst (v := 0) X.1 X.2.1 dX11_isRight_194 (by decide) ?_
        exact mx_zret X hr hk M dX11_isRight_195 (by decide) (by decide) (by decide) hw
      · have hw := hwf hq
        refine lv_aload_n X.1 X.2.1 dX11_isRight_170 rfl (lv_at hl 0 rfl) ?_
        refine lv_iload_n X.1 X.2.1 dX11_isRight_171 rfl (lv_at hl 1 rfl) ?_
        refine lv_iload X.1 X.2.1 dX11_isRight_172 (lv_at hl 5 rfl) ?_
        refine mx_ci M (mx_runV (n := 2) (As := [.int a1, .int a5]) (rest := []) X M (c_X11_isSlot l T B μ0 o A σ15 a1 a5 _ hw) (mm_recv X M) kw_1175 kw_1177 kw_33 kw_74 kw_1178 (by decide +kernel) rfl rfl ⟨Nat.le_of_ble_eq_true rfl, Nat.le_of_ble_eq_true rfl⟩ rfl hl.1 (Nat.le_of_ble_eq_true rfl) dX11_isRight_174 ⟨by decide, by decide⟩) (fun r18 σ17 H locs hw M => ?_)
        obtain ⟨hwt, hwf⟩ := hw
        refine lv_if_eq (tgt := 194) X.1 X.2.1 dX11_isRight_177 (by decide) (fun hq => ?_) (fun hq => ?_)
        · have hw := hwt hq
          refine lv_iconst (v := 0) X.1 X.2.1 dX11_isRight_194 (by decide) ?_
          exact mx_zret X hr hk M dX11_isRight_195 (by decide) (by decide) (by decide) hw
        · have hw := hwf hq
          refine lv_iload X.1 X.2.1 dX11_isRight_180 (lv_at hl 6 rfl) ?_
          refine lv_iconst (v := 0) X.1 X.2.1 dX11_isRight_182 (by decide) ?_
          refine lv_iconst (v := 4) X.1 X.2.1 dX11_isRight_183 (by decide) ?_
          refine mx_ci M (mx_runS (n := 3) (As := [.int a6, .int 0, .int 4]) (rest := []) X M (c_X11_isWithin l T B μ0 o A σ17 a6 0 4 _ hw) kw_1160 kw_1161 kw_74 kw_1162 (by decide +kernel) rfl rfl ⟨Nat.le_of_ble_eq_true rfl, Nat.le_of_ble_eq_true rfl⟩ rfl hl.1 (Nat.le_of_ble_eq_true rfl) dX11_isRight_184 ⟨by decide, by decide⟩) (fun r20 σ19 H locs hw M => ?_)
          obtain ⟨hwt, hwf⟩ := hw
          refine lv_if_eq (tgt := 194) X.1 X.2.1 dX11_isRight_187 (by decide) (fun hq => ?_) (fun hq => ?_)
          · have hw := hwt hq
            refine lv_iconst (v := 0) X.1 X.2.1 dX11_isRight_194 (by decide) ?_
            exact mx_zret X hr hk M dX11_isRight_195 (by decide) (by decide) (by decide) hw
          · have hw := hwf hq
            refine lv_iconst (v := 1) X.1 X.2.1 dX11_isRight_190 (by decide) ?_
            refine lv_goto (tgt := 195) X.1 X.2.1 dX11_isRight_191 (by decide) ?_
            exact mx_zret X hr hk M dX11_isRight_195 (by decide) (by decide) (by decide) hw
  by_cases q_6 : a2 = 6
  · have hw := hw_6 q_6
    refine lv_tableIn (off := 195) (tgt := 196) X.1 X.2.1 dX11_isRight_1 (by rw [q_6]; decide) (by rw [q_6]; decide) (by rw [q_6]; rfl) (by decide) ?_
    refine lv_aload_n X.1 X.2.1 dX11_isRight_196 rfl (lv_at hl 0 rfl) ?_
    refine lv_iload_n X.1 X.2.1 dX11_isRight_197 rfl (lv_at hl 1 rfl) ?_
    refine lv_iload_n X.1 X.2.1 dX11_isRight_198 rfl (lv_at hl 3 rfl) ?_
    refine mx_ci M (mx_runV (n := 2) (As := [.int a1, .int a3]) (rest := []) X M (c_X11_isSlot l T B μ0 o A σ a1 a3 _ hw) (mm_recv X M) kw_1175 kw_1177 kw_33 kw_74 kw_1178 (by decide +kernel) rfl rfl ⟨Nat.le_of_ble_eq_true rfl, Nat.le_of_ble_eq_true rfl⟩ rfl hl.1 (Nat.le_of_ble_eq_true rfl) dX11_isRight_199 ⟨by decide, by decide⟩) (fun r22 σ21 H locs hw M => ?_)
    obtain ⟨hwt, hwf⟩ := hw
    refine lv_if_eq (tgt := 229) X.1 X.2.1 dX11_isRight_202 (by decide) (fun hq => ?_) (fun hq => ?_)
    · have hw := hwt hq
      refine lv_iconst (v := 0) X.1 X.2.1 dX11_isRight_229 (by decide) ?_
      exact mx_zret X hr hk M dX11_isRight_230 (by decide) (by decide) (by decide) hw
    · have hw := hwf hq
      refine lv_aload_n X.1 X.2.1 dX11_isRight_205 rfl (lv_at hl 0 rfl) ?_
      refine lv_iload_n X.1 X.2.1 dX11_isRight_206 rfl (lv_at hl 1 rfl) ?_
      refine lv_iload X.1 X.2.1 dX11_isRight_207 (lv_at hl 4 rfl) ?_
      refine mx_ci M (mx_runV (n := 2) (As := [.int a1, .int a4]) (rest := []) X M (c_X11_isSlot l T B μ0 o A σ21 a1 a4 _ hw) (mm_recv X M) kw_1175 kw_1177 kw_33 kw_74 kw_1178 (by decide +kernel) rfl rfl ⟨Nat.le_of_ble_eq_true rfl, Nat.le_of_ble_eq_true rfl⟩ rfl hl.1 (Nat.le_of_ble_eq_true rfl) dX11_isRight_209 ⟨by decide, by decide⟩) (fun r24 σ23 H locs hw M => ?_)
      obtain ⟨hwt, hwf⟩ := hw
      refine lv_if_eq (tgt := 229) X.1 X.2.1 dX11_isRight_212 (by decide) (fun hq => ?_) (fun hq => ?_)
      · have hw := hwt hq
        refine lv_iconst (v := 0) X.1 X.2.1 dX11_isRight_229 (by decide) ?_
        exact mx_zret X hr hk M dX11_isRight_230 (by decide) (by decide) (by decide) hw
      · have hw := hwf hq
        refine lv_iload X.1 X.2.1 dX11_isRight_215 (lv_at hl 5 rfl) ?_
        refine lv_iconst (v := 0) X.1 X.2.1 dX11_isRight_217 (by decide) ?_
        refine lv_iconst (v := 5) X.1 X.2.1 dX11_isRight_218 (by decide) ?_
        refine mx_ci M (mx_runS (n := 3) (As := [.int a5, .int 0, .int 5]) (rest := []) X M (c_X11_isWithin l T B μ0 o A σ23 a5 0 5 _ hw) kw_1160 kw_1161 kw_74 kw_1162 (by decide +kernel) rfl rfl ⟨Nat.le_of_ble_eq_true rfl, Nat.le_of_ble_eq_true rfl⟩ rfl hl.1 (Nat.le_of_ble_eq_true rfl) dX11_isRight_219 ⟨by decide, by decide⟩) (fun r26 σ25 H locs hw M => ?_)
        obtain ⟨hwt, hwf⟩ := hw
        refine lv_if_eq (tgt := 229) X.1 X.2.1 dX11_isRight_222 (by decide) (fun hq => ?_) (fun hq => ?_)
        · have hw := hwt hq
          refine lv_iconst (v := 0) X.1 X.2.1 dX11_isRight_229 (by decide) ?_
          exact mx_zret X hr hk M dX11_isRight_230 (by decide) (by decide) (by decide) hw
        · have hw := hwf hq
          refine lv_iconst (v := 1) X.1 X.2.1 dX11_isRight_225 (by decide) ?_
          refine lv_goto (tgt := 230) X.1 X.2.1 dX11_isRight_226 (by decide) ?_
          exact mx_zret X hr hk M dX11_isRight_230 (by decide) (by decide) (by decide) hw
  by_cases q_7 : a2 = 7
  · have hw := hw_7 q_7
    refine lv_tableIn (off := 230) (tgt := 231) X.1 X.2.1 dX11_isRight_1 (by rw [q_7]; decide) (by rw [q_7]; decide) (by rw [q_7]; rfl) (by decide) ?_
    refine lv_iload_n X.1 X.2.1 dX11_isRight_231 rfl (lv_at hl 3 rfl) ?_
    refine mx_ci M (mx_runS (n := 1) (As := [.int a3]) (rest := []) X M (c_X11_isTo l T B μ0 o A σ a3 _ hw) kw_1179 kw_1180 kw_74 kw_1181 (by decide +kernel) rfl rfl ⟨Nat.le_of_ble_eq_true rfl, Nat.le_of_ble_eq_true rfl⟩ rfl hl.1 (Nat.le_of_ble_eq_true rfl) dX11_isRight_232 ⟨by decide, by decide⟩) (fun r28 σ27 H locs hw M => ?_)
    exact mx_zret X hr hk M dX11_isRight_235 (by decide) (by decide) hw.1 hw.2
  by_cases q_8 : a2 = 8
  · have hw := hw_8 q_8
    refine lv_tableIn (off := 235) (tgt := 236) X.1 X.2.1 dX11_isRight_1 (by rw [q_8]; decide) (by rw [q_8]; decide) (by rw [q_8]; rfl) (by decide) ?_
    refine lv_aload_n X.1 X.2.1 dX11_isRight_236 rfl (lv_at hl 0 rfl) ?_
    refine lv_iload_n X.1 X.2.1 dX11_isRight_237 rfl (lv_at hl 1 rfl) ?_
    refine lv_iload_n X.1 X.2.1 dX11_isRight_238 rfl (lv_at hl 3 rfl) ?_
    refine mx_ci M (mx_runV (n := 2) (As := [.int a1, .int a3]) (rest := []) X M (c_X11_isSlot l T B μ0 o A σ a1 a3 _ hw) (mm_recv X M) kw_1175 kw_1177 kw_33 kw_74 kw_1178 (by decide +kernel) rfl rfl ⟨Nat.le_of_ble_eq_true rfl, Nat.le_of_ble_eq_true rfl⟩ rfl hl.1 (Nat.le_of_ble_eq_true rfl) dX11_isRight_239 ⟨by decide, by decide⟩) (fun r30 σ29 H locs hw M => ?_)
    obtain ⟨hwt, hwf⟩ := hw
    refine lv_if_eq (tgt := 268) X.1 X.2.1 dX11_isRight_242 (by decide) (fun hq => ?_) (fun hq => ?_)
    · have hw := hwt hq
      refine lv_iconst (v := 0) X.1 X.2.1 dX11_isRight_268 (by decide) ?_
      exact mx_zret X hr hk M dX11_isRight_269 (by decide) (by decide) (by decide) hw
    · have hw := hwf hq
      refine lv_iload X.1 X.2.1 dX11_isRight_245 (lv_at hl 4 rfl) ?_
      refine lv_iconst (v := 0) X.1 X.2.1 dX11_isRight_247 (by decide) ?_
      refine lv_bipush (v := 31) X.1 X.2.1 dX11_isRight_248 (by decide) ?_
      refine mx_ci M (mx_runS (n := 3) (As := [.int a4, .int 0, .int 31]) (rest := []) X M (c_X11_isWithin l T B μ0 o A σ29 a4 0 31 _ hw) kw_1160 kw_1161 kw_74 kw_1162 (by decide +kernel) rfl rfl ⟨Nat.le_of_ble_eq_true rfl, Nat.le_of_ble_eq_true rfl⟩ rfl hl.1 (Nat.le_of_ble_eq_true rfl) dX11_isRight_250 ⟨by decide, by decide⟩) (fun r32 σ31 H locs hw M => ?_)
      obtain ⟨hwt, hwf⟩ := hw
      refine lv_if_eq (tgt := 268) X.1 X.2.1 dX11_isRight_253 (by decide) (fun hq => ?_) (fun hq => ?_)
      · have hw := hwt hq
        refine lv_iconst (v := 0) X.1 X.2.1 dX11_isRight_268 (by decide) ?_
        exact mx_zret X hr hk M dX11_isRight_269 (by decide) (by decide) (by decide) hw
      · have hw := hwf hq
        refine lv_iload X.1 X.2.1 dX11_isRight_256 (lv_at hl 5 rfl) ?_
        refine mx_ci M (mx_runS (n := 1) (As := [.int a5]) (rest := []) X M (c_X11_isTo l T B μ0 o A σ31 a5 _ hw) kw_1179 kw_1180 kw_74 kw_1181 (by decide +kernel) rfl rfl ⟨Nat.le_of_ble_eq_true rfl, Nat.le_of_ble_eq_true rfl⟩ rfl hl.1 (Nat.le_of_ble_eq_true rfl) dX11_isRight_258 ⟨by decide, by decide⟩) (fun r34 σ33 H locs hw M => ?_)
        obtain ⟨hwt, hwf⟩ := hw
        refine lv_if_eq (tgt := 268) X.1 X.2.1 dX11_isRight_261 (by decide) (fun hq => ?_) (fun hq => ?_)
        · have hw := hwt hq
          refine lv_iconst (v := 0) X.1 X.2.1 dX11_isRight_268 (by decide) ?_
          exact mx_zret X hr hk M dX11_isRight_269 (by decide) (by decide) (by decide) hw
        · have hw := hwf hq
          refine lv_iconst (v := 1) X.1 X.2.1 dX11_isRight_264 (by decide) ?_
          refine lv_goto (tgt := 269) X.1 X.2.1 dX11_isRight_265 (by decide) ?_
          exact mx_zret X hr hk M dX11_isRight_269 (by decide) (by decide) (by decide) hw
  by_cases q_9 : a2 = 9
  · have hw := hw_9 q_9
    refine lv_tableIn (off := 230) (tgt := 231) X.1 X.2.1 dX11_isRight_1 (by rw [q_9]; decide) (by rw [q_9]; decide) (by rw [q_9]; rfl) (by decide) ?_
    refine lv_iload_n X.1 X.2.1 dX11_isRight_231 rfl (lv_at hl 3 rfl) ?_
    refine mx_ci M (mx_runS (n := 1) (As := [.int a3]) (rest := []) X M (c_X11_isTo l T B μ0 o A σ a3 _ hw) kw_1179 kw_1180 kw_74 kw_1181 (by decide +kernel) rfl rfl ⟨Nat.le_of_ble_eq_true rfl, Nat.le_of_ble_eq_true rfl⟩ rfl hl.1 (Nat.le_of_ble_eq_true rfl) dX11_isRight_232 ⟨by decide, by decide⟩) (fun r36 σ35 H locs hw M => ?_)
    exact mx_zret X hr hk M dX11_isRight_235 (by decide) (by decide) hw.1 hw.2
  by_cases q_10 : a2 = 10
  · have hw := hw_10 q_10
    refine lv_tableIn (off := 269) (tgt := 270) X.1 X.2.1 dX11_isRight_1 (by rw [q_10]; decide) (by rw [q_10]; decide) (by rw [q_10]; rfl) (by decide) ?_
    refine lv_iload_n X.1 X.2.1 dX11_isRight_270 rfl (lv_at hl 3 rfl) ?_
    refine lv_iconst (v := 0) X.1 X.2.1 dX11_isRight_271 (by decide) ?_
    refine lv_aload_n X.1 X.2.1 dX11_isRight_272 rfl (lv_at hl 0 rfl) ?_
    refine mm_geti X M 3 (by decide) rfl kw_968 dX11_isRight_273 ?_
    refine lv_iconst (v := 1) X.1 X.2.1 dX11_isRight_276 (by decide) ?_
    refine lv_isub X.1 X.2.1 dX11_isRight_277 ?_
    refine mx_ci M (mx_runS (n := 3) (As := [.int a3, .int 0, .int ((mi σ 3) - 1)]) (rest := []) X M (c_X11_isWithin l T B μ0 o A σ a3 0 ((mi σ 3) - 1) _ hw) kw_1160 kw_1161 kw_74 kw_1162 (by decide +kernel) rfl rfl ⟨Nat.le_of_ble_eq_true rfl, Nat.le_of_ble_eq_true rfl⟩ rfl hl.1 (Nat.le_of_ble_eq_true rfl) dX11_isRight_278 ⟨by decide, by decide⟩) (fun r38 σ37 H locs hw M => ?_)
    obtain ⟨hwt, hwf⟩ := hw
    refine lv_if_eq (tgt := 321) X.1 X.2.1 dX11_isRight_281 (by decide) (fun hq => ?_) (fun hq => ?_)
    · have hw := hwt hq
      refine lv_iconst (v := 0) X.1 X.2.1 dX11_isRight_321 (by decide) ?_
      exact mx_zret X hr hk M dX11_isRight_322 (by decide) (by decide) (by decide) hw
    · have hw := hwf hq
      refine lv_iload X.1 X.2.1 dX11_isRight_284 (lv_at hl 7 rfl) ?_
      refine lv_aload_n X.1 X.2.1 dX11_isRight_286 rfl (lv_at hl 0 rfl) ?_
      refine mm_geta X M 6 (by decide) rfl (by decide) kw_971 dX11_isRight_287 ?_
      refine lv_iload_n X.1 X.2.1 dX11_isRight_290 rfl (lv_at hl 3 rfl) ?_
      obtain ⟨hi, hw⟩ := hw
      refine mm_ald X M 6 rfl dX11_isRight_291 hi ?_
      refine lv_aload_n X.1 X.2.1 dX11_isRight_292 rfl (lv_at hl 0 rfl) ?_
      refine mm_geta X M 7 (by decide) rfl (by decide) kw_972 dX11_isRight_293 ?_
      refine lv_iload_n X.1 X.2.1 dX11_isRight_296 rfl (lv_at hl 3 rfl) ?_
      obtain ⟨hi, hw⟩ := hw
      refine mm_ald X M 7 rfl dX11_isRight_297 hi ?_
      refine lv_iadd X.1 X.2.1 dX11_isRight_298 ?_
      obtain ⟨hwf, hwt⟩ := hw
      refine lv_icmp_ne (tgt := 321) X.1 X.2.1 dX11_isRight_299 (by decide) (fun hq => ?_) (fun hq => ?_)
      · have hw := hwt hq
        refine lv_iconst (v := 0) X.1 X.2.1 dX11_isRight_321 (by decide) ?_
        exact mx_zret X hr hk M dX11_isRight_322 (by decide) (by decide) (by decide) hw
      · have hw := hwf hq
        refine lv_aload_n X.1 X.2.1 dX11_isRight_302 rfl (lv_at hl 0 rfl) ?_
        refine lv_iload X.1 X.2.1 dX11_isRight_303 (lv_at hl 7 rfl) ?_
        refine lv_aload_n X.1 X.2.1 dX11_isRight_305 rfl (lv_at hl 0 rfl) ?_
        refine mm_geta X M 5 (by decide) rfl (by decide) kw_970 dX11_isRight_306 ?_
        refine lv_iload_n X.1 X.2.1 dX11_isRight_309 rfl (lv_at hl 1 rfl) ?_
        obtain ⟨hi, hw⟩ := hw
        refine mm_ald X M 5 rfl dX11_isRight_310 hi ?_
        refine mx_ci M (mx_runV (n := 2) (As := [.int a7, .int (ma σ37 5 (Int32.toNatClampNeg a1))]) (rest := []) X M (c_X11_areSlots l T B μ0 o A σ37 a7 (ma σ37 5 (Int32.toNatClampNeg a1)) _ hw) (mm_recv X M) kw_1163 kw_1165 kw_31 kw_74 kw_1166 (by decide +kernel) rfl rfl ⟨Nat.le_of_ble_eq_true rfl, Nat.le_of_ble_eq_true rfl⟩ rfl hl.1 (Nat.le_of_ble_eq_true rfl) dX11_isRight_311 ⟨by decide, by decide⟩) (fun r40 σ39 H locs hw M => ?_)
        obtain ⟨hwt, hwf⟩ := hw
        refine lv_if_eq (tgt := 321) X.1 X.2.1 dX11_isRight_314 (by decide) (fun hq => ?_) (fun hq => ?_)
        · have hw := hwt hq
          refine lv_iconst (v := 0) X.1 X.2.1 dX11_isRight_321 (by decide) ?_
          exact mx_zret X hr hk M dX11_isRight_322 (by decide) (by decide) (by decide) hw
        · have hw := hwf hq
          refine lv_iconst (v := 1) X.1 X.2.1 dX11_isRight_317 (by decide) ?_
          refine lv_goto (tgt := 322) X.1 X.2.1 dX11_isRight_318 (by decide) ?_
          exact mx_zret X hr hk M dX11_isRight_322 (by decide) (by decide) (by decide) hw
  by_cases q_11 : a2 = 11
  · have hw := hw_11 q_11
    refine lv_tableIn (off := 71) (tgt := 72) X.1 X.2.1 dX11_isRight_1 (by rw [q_11]; decide) (by rw [q_11]; decide) (by rw [q_11]; rfl) (by decide) ?_
    refine lv_aload_n X.1 X.2.1 dX11_isRight_72 rfl (lv_at hl 0 rfl) ?_
    refine lv_iload_n X.1 X.2.1 dX11_isRight_73 rfl (lv_at hl 1 rfl) ?_
    refine lv_iload_n X.1 X.2.1 dX11_isRight_74 rfl (lv_at hl 3 rfl) ?_
    refine mx_ci M (mx_runV (n := 2) (As := [.int a1, .int a3]) (rest := []) X M (c_X11_isSlot l T B μ0 o A σ a1 a3 _ hw) (mm_recv X M) kw_1175 kw_1177 kw_33 kw_74 kw_1178 (by decide +kernel) rfl rfl ⟨Nat.le_of_ble_eq_true rfl, Nat.le_of_ble_eq_true rfl⟩ rfl hl.1 (Nat.le_of_ble_eq_true rfl) dX11_isRight_75 ⟨by decide, by decide⟩) (fun r42 σ41 H locs hw M => ?_)
    exact mx_zret X hr hk M dX11_isRight_78 (by decide) (by decide) hw.1 hw.2
  by_cases q_12 : a2 = 12
  · have hw := hw_12 q_12
    refine lv_tableIn (off := 71) (tgt := 72) X.1 X.2.1 dX11_isRight_1 (by rw [q_12]; decide) (by rw [q_12]; decide) (by rw [q_12]; rfl) (by decide) ?_
    refine lv_aload_n X.1 X.2.1 dX11_isRight_72 rfl (lv_at hl 0 rfl) ?_
    refine lv_iload_n X.1 X.2.1 dX11_isRight_73 rfl (lv_at hl 1 rfl) ?_
    refine lv_iload_n X.1 X.2.1 dX11_isRight_74 rfl (lv_at hl 3 rfl) ?_
    refine mx_ci M (mx_runV (n := 2) (As := [.int a1, .int a3]) (rest := []) X M (c_X11_isSlot l T B μ0 o A σ a1 a3 _ hw) (mm_recv X M) kw_1175 kw_1177 kw_33 kw_74 kw_1178 (by decide +kernel) rfl rfl ⟨Nat.le_of_ble_eq_true rfl, Nat.le_of_ble_eq_true rfl⟩ rfl hl.1 (Nat.le_of_ble_eq_true rfl) dX11_isRight_75 ⟨by decide, by decide⟩) (fun r44 σ43 H locs hw M => ?_)
    exact mx_zret X hr hk M dX11_isRight_78 (by decide) (by decide) hw.1 hw.2
  by_cases q_13 : a2 = 13
  · have hw := hw_13 q_13
    refine lv_tableIn (off := 71) (tgt := 72) X.1 X.2.1 dX11_isRight_1 (by rw [q_13]; decide) (by rw [q_13]; decide) (by rw [q_13]; rfl) (by decide) ?_
    refine lv_aload_n X.1 X.2.1 dX11_isRight_72 rfl (lv_at hl 0 rfl) ?_
    refine lv_iload_n X.1 X.2.1 dX11_isRight_73 rfl (lv_at hl 1 rfl) ?_
    refine lv_iload_n X.1 X.2.1 dX11_isRight_74 rfl (lv_at hl 3 rfl) ?_
    refine mx_ci M (mx_runV (n := 2) (As := [.int a1, .int a3]) (rest := []) X M (c_X11_isSlot l T B μ0 o A σ a1 a3 _ hw) (mm_recv X M) kw_1175 kw_1177 kw_33 kw_74 kw_1178 (by decide +kernel) rfl rfl ⟨Nat.le_of_ble_eq_true rfl, Nat.le_of_ble_eq_true rfl⟩ rfl hl.1 (Nat.le_of_ble_eq_true rfl) dX11_isRight_75 ⟨by decide, by decide⟩) (fun r46 σ45 H locs hw M => ?_)
    exact mx_zret X hr hk M dX11_isRight_78 (by decide) (by decide) hw.1 hw.2
  have hw := hw_d q_0 q_1 q_2 q_3 q_4 q_5 q_6 q_7 q_8 q_9 q_10 q_11 q_12 q_13
  have g_0 := lv_neT q_0 (by decide : (0 : Int32).toInt = 0)
  have g_1 := lv_neT q_1 (by decide : (1 : Int32).toInt = 1)
  have g_2 := lv_neT q_2 (by decide : (2 : Int32).toInt = 2)
  have g_3 := lv_neT q_3 (by decide : (3 : Int32).toInt = 3)
  have g_4 := lv_neT q_4 (by decide : (4 : Int32).toInt = 4)
  have g_5 := lv_neT q_5 (by decide : (5 : Int32).toInt = 5)
  have g_6 := lv_neT q_6 (by decide : (6 : Int32).toInt = 6)
  have g_7 := lv_neT q_7 (by decide : (7 : Int32).toInt = 7)
  have g_8 := lv_neT q_8 (by decide : (8 : Int32).toInt = 8)
  have g_9 := lv_neT q_9 (by decide : (9 : Int32).toInt = 9)
  have g_10 := lv_neT q_10 (by decide : (10 : Int32).toInt = 10)
  have g_11 := lv_neT q_11 (by decide : (11 : Int32).toInt = 11)
  have g_12 := lv_neT q_12 (by decide : (12 : Int32).toInt = 12)
  have g_13 := lv_neT q_13 (by decide : (13 : Int32).toInt = 13)
  refine lv_tableOut (tgt := 323) X.1 X.2.1 dX11_isRight_1 (by omega) (by decide) ?_
  refine lv_iload_n X.1 X.2.1 dX11_isRight_323 rfl (lv_at hl 2 rfl) ?_
  refine lv_bipush (v := 14) X.1 X.2.1 dX11_isRight_324 (by decide) ?_
  obtain ⟨hwt, hwf⟩ := hw
  refine lv_icmp_eq (tgt := 335) X.1 X.2.1 dX11_isRight_326 (by decide) (fun hq => ?_) (fun hq => ?_)
  · have hw := hwt hq
    refine lv_iconst (v := 1) X.1 X.2.1 dX11_isRight_335 (by decide) ?_
    refine lv_goto (tgt := 340) X.1 X.2.1 dX11_isRight_336 (by decide) ?_
    exact mx_zret X hr hk M dX11_isRight_340 (by decide) (by decide) (by decide) hw
  · have hw := hwf hq
    refine lv_iload_n X.1 X.2.1 dX11_isRight_329 rfl (lv_at hl 2 rfl) ?_
    refine lv_bipush (v := 15) X.1 X.2.1 dX11_isRight_330 (by decide) ?_
    obtain ⟨hwf, hwt⟩ := hw
    refine lv_icmp_ne (tgt := 339) X.1 X.2.1 dX11_isRight_332 (by decide) (fun hq => ?_) (fun hq => ?_)
    · have hw := hwt hq
      refine lv_iconst (v := 0) X.1 X.2.1 dX11_isRight_339 (by decide) ?_
      exact mx_zret X hr hk M dX11_isRight_340 (by decide) (by decide) (by decide) hw
    · have hw := hwf hq
      refine lv_iconst (v := 1) X.1 X.2.1 dX11_isRight_335 (by decide) ?_
      refine lv_goto (tgt := 340) X.1 X.2.1 dX11_isRight_336 (by decide) ?_
      exact mx_zret X hr hk M dX11_isRight_340 (by decide) (by decide) (by decide) hw
