abbrev rm_X11_dropAbove : Room := { frames := 2, cells := 0, slots := 0, locals := 42 }
def wp_X11_dropAbove (σ : MSt) (post : MSt → Prop) : Prop :=
  wp_X11_lastRedo σ (fun (r2 : Int32) (σ1 : MSt) =>
  ((mi σ1 45) ≤ r2 →
   wp_X11_dropFrom σ1 ((1 : Int32) + r2) (fun (σ3 : MSt) =>
   post σ3)) ∧ (¬ (mi σ1 45) ≤ r2 →
   wp_X11_dropFrom σ1 ((1 : Int32) + (mi σ1 45)) (fun (σ4 : MSt) =>
   post σ4)))
set_option maxRecDepth 100000 in
set_option maxHeartbeats 4000000 in
theorem c_X11_dropAbove (l : Launch) (T : Tb) (B : Nat) (μ0 : Mem) (o : Nat) (A : Nat → Nat) (σ : MSt) (post : MSt → Prop) (hw : wp_X11_dropAbove σ  post) : Met l yX11_dropAbove (.code yX11_dropAbove cX11_dropAbove 2 none :: G) rm_X11_dropAbove (Pm (WM T B μ0 o A) T B σ [.ref o]) (va_Qv post (Bm (WM T B μ0 o A)) (Ai B)) 0 0 (Ai B) := by
  refine mx_of RX11 rfl (by decide) (Nat.le_of_ble_eq_true rfl) ?_
  intro p e s m below meth c0 X hr hk hnm M ls hl
  have hl : lv_has ls 2 [(0, .ref o)] := hl
  unfold wp_X11_dropAbove at hw
  refine lv_aload_n X.1 X.2.1 dX11_dropAbove_0 rfl (lv_at hl 0 rfl) ?_
  refine mx_ci M (mx_runV (n := 0) (As := []) (rest := []) X M (c_X11_lastRedo l T B μ0 o A σ _ hw) (mm_recv X M) kw_1206 kw_1208 kw_38 kw_74 kw_1209 (by decide +kernel) rfl rfl ⟨Nat.le_of_ble_eq_true rfl, Nat.le_of_ble_eq_true rfl⟩ rfl hl.1 (Nat.le_of_ble_eq_true rfl) dX11_dropAbove_1 ⟨by decide, by decide⟩) (fun r2 σ1 H locs hw M => ?_)
  refine lv_istore_n (lv' := [(1, .int r2), (0, .ref o)]) X.1 X.2.1 dX11_dropAbove_4 rfl hl (by decide) rfl (fun ls hl => ?_)
  refine lv_aload_n X.1 X.2.1 dX11_dropAbove_5 rfl (lv_at hl 1 rfl) ?_
  refine lv_iconst (v := 1) X.1 X.2.1 dX11_dropAbove_6 (by decide) ?_
  refine lv_aload_n X.1 X.2.1 dX11_dropAbove_7 rfl (lv_at hl 1 rfl) ?_
  refine mm_geti X M 45 (by decide) rfl kw_1010 dX11_dropAbove_8 ?_
  refine lv_iload_n X.1 X.2.1 dX11_dropAbove_11 rfl (lv_at hl 0 rfl) ?_
  obtain ⟨hwt, hwf⟩ := hw
  refine lv_icmp_le (tgt := 22) X.1 X.2.1 dX11_dropAbove_12 (by decide) (fun hq => ?_) (fun hq => ?_)
  · have hw := hwt hq
    refine lv_iload_n X.1 X.2.1 dX11_dropAbove_22 rfl (lv_at hl 0 rfl) ?_
    refine lv_iadd X.1 X.2.1 dX11_dropAbove_23 ?_
    refine mx_cv M (mx_runV (n := 1) (As := [.int ((1 : Int32) + r2)]) (rest := []) X M (c_X11_dropFrom l T B μ0 o A σ1 ((1 : Int32) + r2) _ hw) (mm_recv X M) kw_1210 kw_1212 kw_39 kw_74 kw_1213 (by decide +kernel) rfl rfl ⟨Nat.le_of_ble_eq_true rfl, Nat.le_of_ble_eq_true rfl⟩ rfl hl.1 (Nat.le_of_ble_eq_true rfl) dX11_dropAbove_24 ⟨by decide, by decide⟩) (fun σ3 H locs hw M => ?_)
    exact mx_vret X hr hk M dX11_dropAbove_27 (by decide) (by decide) hw
  · have hw := hwf hq
    refine lv_aload_n X.1 X.2.1 dX11_dropAbove_15 rfl (lv_at hl 1 rfl) ?_
    refine mm_geti X M 45 (by decide) rfl kw_1010 dX11_dropAbove_16 ?_
    refine lv_goto (tgt := 23) X.1 X.2.1 dX11_dropAbove_19 (by decide) ?_
    refine lv_iadd X.1 X.2.1 dX11_dropAbove_23 ?_
    refine mx_cv M (mx_runV (n := 1) (As := [.int ((1 : Int32) + (mi σ1 45))]) (rest := []) X M (c_X11_dropFrom l T B μ0 o A σ1 ((1 : Int32) + (mi σ1 45)) _ hw) (mm_recv X M) kw_1210 kw_1212 kw_39 kw_74 kw_1213 (by decide +kernel) rfl rfl ⟨Nat.le_of_ble_eq_true rfl, Nat.le_of_ble_eq_true rfl⟩ rfl hl.1 (Nat.le_of_ble_eq_true rfl) dX11_dropAbove_24 ⟨by decide, by decide⟩) (fun σ4 H locs hw M => ?_)
    exact mx_vret X hr hk M dX11_dropAbove_27 (by decide) (by decide) hw

abbrev rm_X11_cut : Room := { frames := 3, cells := 0, slots := 0, locals := 63 }
def wp_X11_cut_37 (post : MSt → Prop) : Nat → MSt → Int32 → Int32 → Int32 → Prop
  | 0, _, _, _, _ => False
  | n + 1, σ, x3, x4, x5 =>
    ((mi σ 26) ≤ x5 →
     ∀ σ4 : MSt, σ4 = smi σ 26 x4 →
     (x3 ≤ (mi σ4 45) →
      vp_in (mi σ4 45) 7000 ∧
      ∀ σ5 : MSt, σ5 = smi σ4 45 (ma σ4 57 (Int32.toNatClampNeg (mi σ4 45))) →
      wp_X11_dropAbove σ5 (fun (σ6 : MSt) =>
      post σ6)) ∧ (¬ x3 ≤ (mi σ4 45) →
      ∀ σ7 : MSt, σ7 = smi σ4 45 (mi σ4 45) →
      wp_X11_dropAbove σ7 (fun (σ8 : MSt) =>
      post σ8))) ∧ (¬ (mi σ 26) ≤ x5 →
     vp_in x5 7000 ∧ ∀ σ9 : MSt, σ9 = sma σ 57 (Int32.toNatClampNeg x5) x4 →
     vp_in x5 7000 ∧
     ((ma σ9 27 (Int32.toNatClampNeg x5)) = 0 →
      ∀ σ13 : MSt, σ13 = smi σ9 47 ((mi σ9 47) - 3) →
      ∀ v14 : Int32, v14 = x5 + 1 →
      wp_X11_cut_37 post n σ13 x3 x4 v14) ∧ (¬ (ma σ9 27 (Int32.toNatClampNeg x5)) = 0 →
      wp_X11_copyFrame σ9 x5 x4 (fun (σ10 : MSt) =>
      ∀ v11 : Int32, v11 = x4 + 1 →
      ∀ v12 : Int32, v12 = x5 + 1 →
      wp_X11_cut_37 post n σ10 x3 v11 v12)))
def wp_X11_cut_9 (post : MSt → Prop) (σ : MSt) (t0 : Int32) : Prop :=
  wp_X11_redoAt σ t0 (fun (r2 : Int32) (σ1 : MSt) =>
  (r2 = (-1) →
   wp_X11_dropAbove σ1 (fun (σ16 : MSt) =>
   post σ16)) ∧ (¬ r2 = (-1) →
   ∀ σ3 : MSt, σ3 = smi σ1 58 r2 →
   ∃ n15, wp_X11_cut_37 post n15 σ3 r2 r2 r2))
def wp_X11_cut (σ : MSt) (a1 : Int32) (post : MSt → Prop) : Prop :=
  (0 ≤ a1 →
   wp_X11_cut_9 post σ a1) ∧ (¬ 0 ≤ a1 →
   wp_X11_cut_9 post σ 0)
set_option maxRecDepth 100000 in
set_option maxHeartbeats 4000000 in
theorem b_X11_cut_37 {T : Tb} {B : Nat} {p : Program} {l : Launch} {e : Env} {s : State} {m : MethodId} {args : Array Value} {below : List Frame} {meth : Method} {c0 : Code} {post : MSt → Prop} {μ0 : Mem} {o : Nat} {A : Nat → Nat} (X : CX T B p m c0 cX11_cut 6 s args RX11) (hr : meth.sig.returnType = none) (hk : meth.locks = false) : ∀ (n : Nat) (σ : MSt) (x3 : Int32) (x4 : Int32) (x5 : Int32) (H : Heap) (locs : List Loc) (ls : Array Slot), wp_X11_cut_37 post n σ x3 x4 x5 → MG (WM T B μ0 o A) B s σ H locs → lv_has ls 6 [(0, .ref o), (3, .int x3), (4, .int x4), (5, .int x5)] → W p l e rm_X11_cut s m args below meth c0 H locs 0 0 (MQ below (va_Qv post (Bm (WM T B μ0 o A)) (Ai B)) args s 0 0 (Ai B)) (F0 m 37 ls []) := by
  intro n
  induction n with
  | zero =>
    intro σ x3 x4 x5 H locs ls hw
    exact hw.elim
  | succ n ih =>
    intro σ x3 x4 x5 H locs ls hw M hl
    rw [wp_X11_cut_37] at hw
    refine lv_iload X.1 X.2.1 dX11_cut_37 (lv_at hl 3 rfl) ?_
    refine lv_aload_n X.1 X.2.1 dX11_cut_39 rfl (lv_at hl 0 rfl) ?_
    refine mm_geti X M 26 (by decide) rfl kw_991 dX11_cut_40 ?_
    obtain ⟨hwt, hwf⟩ := hw
    refine lv_icmp_ge (tgt := 95) X.1 X.2.1 dX11_cut_43 (by decide) (fun hq => ?_) (fun hq => ?_)
    · have hw := hwt hq
      refine lv_aload_n X.1 X.2.1 dX11_cut_95 rfl (lv_at hl 0 rfl) ?_
      refine lv_iload X.1 X.2.1 dX11_cut_96 (lv_at hl 2 rfl) ?_
      refine mm_puti X M 26 (by decide) rfl kw_991 rfl dX11_cut_98 rfl rfl (fun σ4 H locs eσ4 M => ?_)
      replace hw := hw σ4 eσ4
      refine lv_aload_n X.1 X.2.1 dX11_cut_101 rfl (lv_at hl 0 rfl) ?_
      refine lv_aload_n X.1 X.2.1 dX11_cut_102 rfl (lv_at hl 0 rfl) ?_
      refine mm_geti X M 45 (by decide) rfl kw_1010 dX11_cut_103 ?_
      refine lv_iload_n X.1 X.2.1 dX11_cut_106 rfl (lv_at hl 1 rfl) ?_
      obtain ⟨hwt, hwf⟩ := hw
      refine lv_icmp_ge (tgt := 117) X.1 X.2.1 dX11_cut_107 (by decide) (fun hq => ?_) (fun hq => ?_)
      · have hw := hwt hq
        refine lv_aload_n X.1 X.2.1 dX11_cut_117 rfl (lv_at hl 0 rfl) ?_
        refine mm_geta X M 57 (by decide) rfl (by decide) kw_1022 dX11_cut_118 ?_
        refine lv_aload_n X.1 X.2.1 dX11_cut_121 rfl (lv_at hl 0 rfl) ?_
        refine mm_geti X M 45 (by decide) rfl kw_1010 dX11_cut_122 ?_
        obtain ⟨hi, hw⟩ := hw
        refine mm_ald X M 57 rfl dX11_cut_125 hi ?_
        refine mm_puti X M 45 (by decide) rfl kw_1010 rfl dX11_cut_126 rfl rfl (fun σ5 H locs eσ5 M => ?_)
        replace hw := hw σ5 eσ5
        refine lv_aload_n X.1 X.2.1 dX11_cut_129 rfl (lv_at hl 0 rfl) ?_
        refine mx_cv M (mx_runV (n := 0) (As := []) (rest := []) X M (c_X11_dropAbove l T B μ0 o A σ5 _ hw) (mm_recv X M) kw_1289 kw_1291 kw_57 kw_74 kw_1292 (by decide +kernel) rfl rfl ⟨Nat.le_of_ble_eq_true rfl, Nat.le_of_ble_eq_true rfl⟩ rfl hl.1 (Nat.le_of_ble_eq_true rfl) dX11_cut_130 ⟨by decide, by decide⟩) (fun σ6 H locs hw M => ?_)
        exact mx_vret X hr hk M dX11_cut_133 (by decide) (by decide) hw
      · have hw := hwf hq
        refine lv_aload_n X.1 X.2.1 dX11_cut_110 rfl (lv_at hl 0 rfl) ?_
        refine mm_geti X M 45 (by decide) rfl kw_1010 dX11_cut_111 ?_
        refine lv_goto (tgt := 126) X.1 X.2.1 dX11_cut_114 (by decide) ?_
        refine mm_puti X M 45 (by decide) rfl kw_1010 rfl dX11_cut_126 rfl rfl (fun σ7 H locs eσ7 M => ?_)
        replace hw := hw σ7 eσ7
        refine lv_aload_n X.1 X.2.1 dX11_cut_129 rfl (lv_at hl 0 rfl) ?_
        refine mx_cv M (mx_runV (n := 0) (As := []) (rest := []) X M (c_X11_dropAbove l T B μ0 o A σ7 _ hw) (mm_recv X M) kw_1289 kw_1291 kw_57 kw_74 kw_1292 (by decide +kernel) rfl rfl ⟨Nat.le_of_ble_eq_true rfl, Nat.le_of_ble_eq_true rfl⟩ rfl hl.1 (Nat.le_of_ble_eq_true rfl) dX11_cut_130 ⟨by decide, by decide⟩) (fun σ8 H locs hw M => ?_)
        exact mx_vret X hr hk M dX11_cut_133 (by decide) (by decide) hw
    · have hw := hwf hq
      refine lv_aload_n X.1 X.2.1 dX11_cut_46 rfl (lv_at hl 0 rfl) ?_
      refine mm_geta X M 57 (by decide) rfl (by decide) kw_1022 dX11_cut_47 ?_
      refine lv_iload X.1 X.2.1 dX11_cut_50 (lv_at hl 3 rfl) ?_
      refine lv_iload X.1 X.2.1 dX11_cut_52 (lv_at hl 2 rfl) ?_
      obtain ⟨hi, hw⟩ := hw
      refine mm_ast X M 57 rfl dX11_cut_54 hi (fun σ9 H locs eσ9 M => ?_)
      replace hw := hw σ9 eσ9
      refine lv_aload_n X.1 X.2.1 dX11_cut_55 rfl (lv_at hl 0 rfl) ?_
      refine mm_geta X M 27 (by decide) rfl (by decide) kw_992 dX11_cut_56 ?_
      refine lv_iload X.1 X.2.1 dX11_cut_59 (lv_at hl 3 rfl) ?_
      obtain ⟨hi, hw⟩ := hw
      refine mm_zld X M 27 rfl dX11_cut_61 hi ?_
      obtain ⟨hwf, hwt⟩ := hw
      refine lv_if_ne (tgt := 78) X.1 X.2.1 dX11_cut_62 (by decide) (fun hq => ?_) (fun hq => ?_)
      · have hw := hwt hq
        refine lv_aload_n X.1 X.2.1 dX11_cut_78 rfl (lv_at hl 0 rfl) ?_
        refine lv_iload X.1 X.2.1 dX11_cut_79 (lv_at hl 3 rfl) ?_
        refine lv_iload X.1 X.2.1 dX11_cut_81 (lv_at hl 2 rfl) ?_
        refine mx_cv M (mx_runV (n := 2) (As := [.int x5, .int x4]) (rest := []) X M (c_X11_copyFrame l T B μ0 o A σ9 x5 x4 _ hw) (mm_recv X M) kw_1293 kw_1295 kw_58 kw_74 kw_1296 (by decide +kernel) rfl rfl ⟨Nat.le_of_ble_eq_true rfl, Nat.le_of_ble_eq_true rfl⟩ rfl hl.1 (Nat.le_of_ble_eq_true rfl) dX11_cut_83 ⟨by decide, by decide⟩) (fun σ10 H locs hw M => ?_)
        obtain ⟨v11, ev11⟩ : ∃ y : Int32, y = x4 + 1 := ⟨_, rfl⟩
        replace hw := hw v11 ev11
        refine lv_iinc (v := v11) (lv' := [(4, .int v11), (0, .ref o), (3, .int x3), (5, .int x5)]) X.1 X.2.1 dX11_cut_86 hl (k := 2) rfl (by rw [ev11]; rfl) (by decide) rfl (fun ls hl => ?_)
        obtain ⟨v12, ev12⟩ : ∃ y : Int32, y = x5 + 1 := ⟨_, rfl⟩
        replace hw := hw v12 ev12
        refine lv_iinc (v := v12) (lv' := [(5, .int v12), (4, .int v11), (0, .ref o), (3, .int x3)]) X.1 X.2.1 dX11_cut_89 hl (k := 3) rfl (by rw [ev12]; rfl) (by decide) rfl (fun ls hl => ?_)
        refine lv_goto (tgt := 37) X.1 X.2.1 dX11_cut_92 (by decide) ?_
        exact ih σ10 x3 v11 v12 _ _ _ hw M (lv_sub hl [2, 3, 1, 0] rfl)
      · have hw := hwf hq
        refine lv_aload_n X.1 X.2.1 dX11_cut_65 rfl (lv_at hl 0 rfl) ?_
        refine lv_dup X.1 X.2.1 dX11_cut_66 rfl ?_
        refine mm_geti X M 47 (by decide) rfl kw_1012 dX11_cut_67 ?_
        refine lv_iconst (v := 3) X.1 X.2.1 dX11_cut_70 (by decide) ?_
        refine lv_isub X.1 X.2.1 dX11_cut_71 ?_
        refine mm_puti X M 47 (by decide) rfl kw_1012 rfl dX11_cut_72 rfl rfl (fun σ13 H locs eσ13 M => ?_)
        replace hw := hw σ13 eσ13
        refine lv_goto (tgt := 89) X.1 X.2.1 dX11_cut_75 (by decide) ?_
        obtain ⟨v14, ev14⟩ : ∃ y : Int32, y = x5 + 1 := ⟨_, rfl⟩
        replace hw := hw v14 ev14
        refine lv_iinc (v := v14) (lv' := [(5, .int v14), (0, .ref o), (3, .int x3), (4, .int x4)]) X.1 X.2.1 dX11_cut_89 hl (k := 3) rfl (by rw [ev14]; rfl) (by decide) rfl (fun ls hl => ?_)
        refine lv_goto (tgt := 37) X.1 X.2.1 dX11_cut_92 (by decide) ?_
        exact ih σ13 x3 x4 v14 _ _ _ hw M (lv_sub hl [1, 2, 3, 0] rfl)
set_option maxRecDepth 100000 in
set_option maxHeartbeats 4000000 in
theorem b_X11_cut_9 {T : Tb} {B : Nat} {p : Program} {l : Launch} {e : Env} {s : State} {m : MethodId} {args : Array Value} {below : List Frame} {meth : Method} {c0 : Code} {post : MSt → Prop} {μ0 : Mem} {o : Nat} {A : Nat → Nat} (X : CX T B p m c0 cX11_cut 6 s args RX11) (hr : meth.sig.returnType = none) (hk : meth.locks = false) : ∀ (σ : MSt) (t0 : Int32) (H : Heap) (locs : List Loc) (ls : Array Slot), wp_X11_cut_9 post σ t0 → MG (WM T B μ0 o A) B s σ H locs → lv_has ls 6 [(0, .ref o)] → W p l e rm_X11_cut s m args below meth c0 H locs 0 0 (MQ below (va_Qv post (Bm (WM T B μ0 o A)) (Ai B)) args s 0 0 (Ai B)) (F0 m 9 ls [.int t0]) := by
  intro σ t0 H locs ls hw M hl
  unfold wp_X11_cut_9 at hw
  refine lv_istore_n (lv' := [(2, .int t0), (0, .ref o)]) X.1 X.2.1 dX11_cut_9 rfl hl (by decide) rfl (fun ls hl => ?_)
  refine lv_aload_n X.1 X.2.1 dX11_cut_10 rfl (lv_at hl 1 rfl) ?_
  refine lv_iload_n X.1 X.2.1 dX11_cut_11 rfl (lv_at hl 0 rfl) ?_
  refine mx_ci M (mx_runV (n := 1) (As := [.int t0]) (rest := []) X M (c_X11_redoAt l T B μ0 o A σ t0 _ hw) (mm_recv X M) kw_1285 kw_1287 kw_56 kw_74 kw_1288 (by decide +kernel) rfl rfl ⟨Nat.le_of_ble_eq_true rfl, Nat.le_of_ble_eq_true rfl⟩ rfl hl.1 (Nat.le_of_ble_eq_true rfl) dX11_cut_12 ⟨by decide, by decide⟩) (fun r2 σ1 H locs hw M => ?_)
  refine lv_istore_n (lv' := [(3, .int r2), (2, .int t0), (0, .ref o)]) X.1 X.2.1 dX11_cut_15 rfl hl (by decide) rfl (fun ls hl => ?_)
  refine lv_iload_n X.1 X.2.1 dX11_cut_16 rfl (lv_at hl 0 rfl) ?_
  refine lv_iconst (v := (-1)) X.1 X.2.1 dX11_cut_17 (by decide) ?_
  obtain ⟨hwf, hwt⟩ := hw
  refine lv_icmp_ne (tgt := 26) X.1 X.2.1 dX11_cut_18 (by decide) (fun hq => ?_) (fun hq => ?_)
  · have hw := hwt hq
    refine lv_aload_n X.1 X.2.1 dX11_cut_26 rfl (lv_at hl 2 rfl) ?_
    refine lv_iload_n X.1 X.2.1 dX11_cut_27 rfl (lv_at hl 0 rfl) ?_
    refine mm_puti X M 58 (by decide) rfl kw_1023 rfl dX11_cut_28 rfl rfl (fun σ3 H locs eσ3 M => ?_)
    replace hw := hw σ3 eσ3
    refine lv_iload_n X.1 X.2.1 dX11_cut_31 rfl (lv_at hl 0 rfl) ?_
    refine lv_istore (lv' := [(4, .int r2), (3, .int r2), (2, .int t0), (0, .ref o)]) X.1 X.2.1 dX11_cut_32 hl (by decide) rfl (fun ls hl => ?_)
    refine lv_iload_n X.1 X.2.1 dX11_cut_34 rfl (lv_at hl 1 rfl) ?_
    refine lv_istore (lv' := [(5, .int r2), (4, .int r2), (3, .int r2), (2, .int t0), (0, .ref o)]) X.1 X.2.1 dX11_cut_35 hl (by decide) rfl (fun ls hl => ?_)
    obtain ⟨n15, hw⟩ := hw
    exact b_X11_cut_37 X hr hk n15 σ3 r2 r2 r2 _ _ _ hw M (lv_sub hl [4, 2, 1, 0] rfl)
  · have hw := hwf hq
    refine lv_aload_n X.1 X.2.1 dX11_cut_21 rfl (lv_at hl 2 rfl) ?_
    refine mx_cv M (mx_runV (n := 0) (As := []) (rest := []) X M (c_X11_dropAbove l T B μ0 o A σ1 _ hw) (mm_recv X M) kw_1289 kw_1291 kw_57 kw_74 kw_1292 (by decide +kernel) rfl rfl ⟨Nat.le_of_ble_eq_true rfl, Nat.le_of_ble_eq_true rfl⟩ rfl hl.1 (Nat.le_of_ble_eq_true rfl) dX11_cut_22 ⟨by decide, by decide⟩) (fun σ16 H locs hw M => ?_)
    exact mx_vret X hr hk M dX11_cut_25 (by decide) (by decide) hw
set_option maxRecDepth 100000 in
set_option maxHeartbeats 4000000 in
theorem c_X11_cut (l : Launch) (T : Tb) (B : Nat) (μ0 : Mem) (o : Nat) (A : Nat → Nat) (σ : MSt) (a1 : Int32) (post : MSt → Prop) (hw : wp_X11_cut σ a1 post) : Met l yX11_cut (.code yX11_cut cX11_cut 6 none :: G) rm_X11_cut (Pm (WM T B μ0 o A) T B σ [.ref o, .int a1]) (va_Qv post (Bm (WM T B μ0 o A)) (Ai B)) 0 0 (Ai B) := by
  refine mx_of RX11 rfl (by decide) (Nat.le_of_ble_eq_true rfl) ?_
  intro p e s m below meth c0 X hr hk hnm M ls hl
  have hl : lv_has ls 6 [(0, .ref o), (1, .int a1)] := hl
  unfold wp_X11_cut at hw
  refine lv_iload_n X.1 X.2.1 dX11_cut_0 rfl (lv_at hl 1 rfl) ?_
  obtain ⟨hwt, hwf⟩ := hw
  refine lv_if_ge (tgt := 8) X.1 X.2.1 dX11_cut_1 (by decide) (fun hq => ?_) (fun hq => ?_)
  · have hw := hwt hq
    refine lv_iload_n X.1 X.2.1 dX11_cut_8 rfl (lv_at hl 1 rfl) ?_
    exact b_X11_cut_9 X hr hk σ a1 _ _ _ hw M (lv_sub hl [0] rfl)
  · have hw := hwf hq
    refine lv_iconst (v := 0) X.1 X.2.1 dX11_cut_4 (by decide) ?_
    refine lv_goto (tgt := 9) X.1 X.2.1 dX11_cut_5 (by decide) ?_
    exact b_X11_cut_9 X hr hk σ 0 _ _ _ hw M (lv_sub hl [0] rfl)

abbrev rm_X11_isCell : Room := { frames := 0, cells := 0, slots := 0, locals := 0 }
def wp_X11_isCell (σ : MSt) (a1 : Int64) (post : Int32 → MSt → Prop) : Prop :=
  ((lg_cmp a1 1099511627776) < 0 →
   post 0 σ) ∧ (¬ (lg_cmp a1 1099511627776) < 0 →
   post 1 σ)
set_option maxRecDepth 100000 in
set_option maxHeartbeats 4000000 in
theorem c_X11_isCell (l : Launch) (T : Tb) (B : Nat) (μ0 : Mem) (o : Nat) (A : Nat → Nat) (σ : MSt) (a1 : Int64) (post : Int32 → MSt → Prop) (hw : wp_X11_isCell σ a1 post) : Met l yX11_isCell (.code yX11_isCell cX11_isCell 2 (some .boolean) :: G) rm_X11_isCell (Pm (WM T B μ0 o A) T B σ [.long a1]) (va_Qi post (Bm (WM T B μ0 o A)) (Ai B)) 0 0 (Ai B) := by
  refine mx_of RX11 rfl (by decide) (Nat.le_of_ble_eq_true rfl) ?_
  intro p e s m below meth c0 X hr hk hnm M ls hl
  have hl : lv_has ls 2 [(0, .long a1)] := hl
  unfold wp_X11_isCell at hw
  refine lv_lload_n X.1 X.2.1 dX11_isCell_0 rfl (lv_at hl 0 rfl) ?_
  refine lv_ldc2 (v := 1099511627776) X.1 X.2.1 X.2.2.2.1 (X.2.2.2.2.1 _ kw_1238) dX11_isCell_1 ?_
  refine W.lcmp X.1 X.2.1 dX11_isCell_4 ?_
  obtain ⟨hwt, hwf⟩ := hw
  refine lv_if_lt (tgt := 12) X.1 X.2.1 dX11_isCell_5 (by decide) (fun hq => ?_) (fun hq => ?_)
  · have hw := hwt hq
    refine lv_iconst (v := 0) X.1 X.2.1 dX11_isCell_12 (by decide) ?_
    exact mx_zret X hr hk M dX11_isCell_13 (by decide) (by decide) (by decide) hw
  · have hw := hwf hq
    refine lv_iconst (v := 1) X.1 X.2.1 dX11_isCell_8 (by decide) ?_
    refine lv_goto (tgt := 13) X.1 X.2.1 dX11_isCell_9 (by decide) ?_
    exact mx_zret X hr hk M dX11_isCell_13 (by decide) (by decide) (by decide) hw

abbrev rm_X11_get : Room := { frames := 0, cells := 0, slots := 0, locals := 0 }
def wp_X11_get (σ : MSt) (a1 : Int32) (post : Int64 → MSt → Prop) : Prop :=
  vp_in (mi σ 45) 7000 ∧
  vp_in ((ma σ 29 (Int32.toNatClampNeg (mi σ 45))) + a1) 20100 ∧
  post (ml σ 39 (Int32.toNatClampNeg ((ma σ 29 (Int32.toNatClampNeg (mi σ 45))) + a1))) σ
set_option maxRecDepth 100000 in
set_option maxHeartbeats 4000000 in
theorem c_X11_get (l : Launch) (T : Tb) (B : Nat) (μ0 : Mem) (o : Nat) (A : Nat → Nat) (σ : MSt) (a1 : Int32) (post : Int64 → MSt → Prop) (hw : wp_X11_get σ a1 post) : Met l yX11_get (.code yX11_get cX11_get 2 (some .long) :: G) rm_X11_get (Pm (WM T B μ0 o A) T B σ [.ref o, .int a1]) (va_Ql post (Bm (WM T B μ0 o A)) (Ai B)) 0 0 (Ai B) := by
  refine mx_of RX11 rfl (by decide) (Nat.le_of_ble_eq_true rfl) ?_
  intro p e s m below meth c0 X hr hk hnm M ls hl
  have hl : lv_has ls 2 [(0, .ref o), (1, .int a1)] := hl
  unfold wp_X11_get at hw
  refine lv_aload_n X.1 X.2.1 dX11_get_0 rfl (lv_at hl 0 rfl) ?_
  refine mm_geta X M 39 (by decide) rfl (by decide) kw_1004 dX11_get_1 ?_
  refine lv_aload_n X.1 X.2.1 dX11_get_4 rfl (lv_at hl 0 rfl) ?_
  refine mm_geta X M 29 (by decide) rfl (by decide) kw_994 dX11_get_5 ?_
  refine lv_aload_n X.1 X.2.1 dX11_get_8 rfl (lv_at hl 0 rfl) ?_
  refine mm_geti X M 45 (by decide) rfl kw_1010 dX11_get_9 ?_
  obtain ⟨hi, hw⟩ := hw
  refine mm_ald X M 29 rfl dX11_get_12 hi ?_
  refine lv_iload_n X.1 X.2.1 dX11_get_13 rfl (lv_at hl 1 rfl) ?_
  refine lv_iadd X.1 X.2.1 dX11_get_14 ?_
  obtain ⟨hi, hw⟩ := hw
  refine mm_jld X M 39 rfl dX11_get_15 hi ?_
  exact mx_lret X hr hk M dX11_get_16 (by decide) (by decide) hw

abbrev rm_X11_write : Room := { frames := 0, cells := 0, slots := 0, locals := 0 }
def wp_X11_write (σ : MSt) (a1 : Int32) (a2 : Int32) (a3 : Int64) (post : MSt → Prop) : Prop :=
  vp_in a1 7000 ∧
  ∀ v1 : Int32, v1 = ((ma σ 29 (Int32.toNatClampNeg a1)) + a2) →
  vp_in (mi σ 41) 200000 ∧ ∀ σ2 : MSt, σ2 = sma σ 42 (Int32.toNatClampNeg (mi σ 41)) v1 →
  vp_in v1 20100 ∧
  vp_in (mi σ2 41) 200000 ∧ ∀ σ3 : MSt, σ3 = sml σ2 43 (Int32.toNatClampNeg (mi σ2 41)) (ml σ2 39 (Int32.toNatClampNeg v1)) →
  ∀ σ4 : MSt, σ4 = smi σ3 41 ((mi σ3 41) + 1) →
  vp_in v1 20100 ∧ ∀ σ5 : MSt, σ5 = sml σ4 39 (Int32.toNatClampNeg v1) a3 →
  post σ5
set_option maxRecDepth 100000 in
set_option maxHeartbeats 4000000 in
theorem c_X11_write (l : Launch) (T : Tb) (B : Nat) (μ0 : Mem) (o : Nat) (A : Nat → Nat) (σ : MSt) (a1 : Int32) (a2 : Int32) (a3 : Int64) (post : MSt → Prop) (hw : wp_X11_write σ a1 a2 a3 post) : Met l yX11_write (.code yX11_write cX11_write 6 none :: G) rm_X11_write (Pm (WM T B μ0 o A) T B σ [.ref o, .int a1, .int a2, .long a3]) (va_Qv post (Bm (WM T B μ0 o A)) (Ai B)) 0 0 (Ai B) := by
  refine mx_of RX11 rfl (by decide) (Nat.le_of_ble_eq_true rfl) ?_
  intro p e s m below meth c0 X hr hk hnm M ls hl
  have hl : lv_has ls 6 [(0, .ref o), (1, .int a1), (2, .int a2), (3, .long a3)] := hl
  unfold wp_X11_write at hw
  refine lv_aload_n X.1 X.2.1 dX11_write_0 rfl (lv_at hl 0 rfl) ?_
  refine mm_geta X M 29 (by decide) rfl (by decide) kw_994 dX11_write_1 ?_
  refine lv_iload_n X.1 X.2.1 dX11_write_4 rfl (lv_at hl 1 rfl) ?_
  obtain ⟨hi, hw⟩ := hw
  refine mm_ald X M 29 rfl dX11_write_5 hi ?_
  refine lv_iload_n X.1 X.2.1 dX11_write_6 rfl (lv_at hl 2 rfl) ?_
  refine lv_iadd X.1 X.2.1 dX11_write_7 ?_
  refine lv_topi (fun v1 ev1 => ?_)
  replace hw := hw v1 ev1
  refine lv_istore (lv' := [(5, .int v1), (0, .ref o), (1, .int a1), (2, .int a2), (3, .long a3)]) X.1 X.2.1 dX11_write_8 hl (by decide) rfl (fun ls hl => ?_)
  refine lv_aload_n X.1 X.2.1 dX11_write_10 rfl (lv_at hl 1 rfl) ?_
  refine mm_geta X M 42 (by decide) rfl (by decide) kw_1007 dX11_write_11 ?_
  refine lv_aload_n X.1 X.2.1 dX11_write_14 rfl (lv_at hl 1 rfl) ?_
  refine mm_geti X M 41 (by decide) rfl kw_1006 dX11_write_15 ?_
  refine lv_iload X.1 X.2.1 dX11_write_18 (lv_at hl 0 rfl) ?_
  obtain ⟨hi, hw⟩ := hw
  refine mm_ast X M 42 rfl dX11_write_20 hi (fun σ2 H locs eσ2 M => ?_)
  replace hw := hw σ2 eσ2
  refine lv_aload_n X.1 X.2.1 dX11_write_21 rfl (lv_at hl 1 rfl) ?_
  refine mm_geta X M 43 (by decide) rfl (by decide) kw_1008 dX11_write_22 ?_
  refine lv_aload_n X.1 X.2.1 dX11_write_25 rfl (lv_at hl 1 rfl) ?_
  refine mm_geti X M 41 (by decide) rfl kw_1006 dX11_write_26 ?_
  refine lv_aload_n X.1 X.2.1 dX11_write_29 rfl (lv_at hl 1 rfl) ?_
  refine mm_geta X M 39 (by decide) rfl (by decide) kw_1004 dX11_write_30 ?_
  refine lv_iload X.1 X.2.1 dX11_write_33 (lv_at hl 0 rfl) ?_
  obtain ⟨hi, hw⟩ := hw
  refine mm_jld X M 39 rfl dX11_write_35 hi ?_
  obtain ⟨hi, hw⟩ := hw
  refine mm_jst X M 43 rfl dX11_write_36 hi (fun σ3 H locs eσ3 M => ?_)
  replace hw := hw σ3 eσ3
  refine lv_aload_n X.1 X.2.1 dX11_write_37 rfl (lv_at hl 1 rfl) ?_
  refine lv_dup X.1 X.2.1 dX11_write_38 rfl ?_
  refine mm_geti X M 41 (by decide) rfl kw_1006 dX11_write_39 ?_
  refine lv_iconst (v := 1) X.1 X.2.1 dX11_write_42 (by decide) ?_
  refine lv_iadd X.1 X.2.1 dX11_write_43 ?_
  refine mm_puti X M 41 (by decide) rfl kw_1006 rfl dX11_write_44 rfl rfl (fun σ4 H locs eσ4 M => ?_)
  replace hw := hw σ4 eσ4
  refine lv_aload_n X.1 X.2.1 dX11_write_47 rfl (lv_at hl 1 rfl) ?_
  refine mm_geta X M 39 (by decide) rfl (by decide) kw_1004 dX11_write_48 ?_
  refine lv_iload X.1 X.2.1 dX11_write_51 (lv_at hl 0 rfl) ?_
  refine lv_lload_n X.1 X.2.1 dX11_write_53 rfl (lv_at hl 4 rfl) ?_
  obtain ⟨hi, hw⟩ := hw
  refine mm_jst X M 39 rfl dX11_write_54 hi (fun σ5 H locs eσ5 M => ?_)
  replace hw := hw σ5 eσ5
  exact mx_vret X hr hk M dX11_write_55 (by decide) (by decide) hw

abbrev rm_X11_set : Room := { frames := 1, cells := 0, slots := 0, locals := 25 }
def wp_X11_set (σ : MSt) (a1 : Int32) (a2 : Int64) (post : MSt → Prop) : Prop :=
  wp_X11_write σ (mi σ 45) a1 a2 (fun (σ1 : MSt) =>
  post σ1)
set_option maxRecDepth 100000 in
set_option maxHeartbeats 4000000 in
theorem c_X11_set (l : Launch) (T : Tb) (B : Nat) (μ0 : Mem) (o : Nat) (A : Nat → Nat) (σ : MSt) (a1 : Int32) (a2 : Int64) (post : MSt → Prop) (hw : wp_X11_set σ a1 a2 post) : Met l yX11_set (.code yX11_set cX11_set 4 none :: G) rm_X11_set (Pm (WM T B μ0 o A) T B σ [.ref o, .int a1, .long a2]) (va_Qv post (Bm (WM T B μ0 o A)) (Ai B)) 0 0 (Ai B) := by
  refine mx_of RX11 rfl (by decide) (Nat.le_of_ble_eq_true rfl) ?_
  intro p e s m below meth c0 X hr hk hnm M ls hl
  have hl : lv_has ls 4 [(0, .ref o), (1, .int a1), (2, .long a2)] := hl
  unfold wp_X11_set at hw
  refine lv_aload_n X.1 X.2.1 dX11_set_0 rfl (lv_at hl 0 rfl) ?_
  refine lv_aload_n X.1 X.2.1 dX11_set_1 rfl (lv_at hl 0 rfl) ?_
  refine mm_geti X M 45 (by decide) rfl kw_1010 dX11_set_2 ?_
  refine lv_iload_n X.1 X.2.1 dX11_set_5 rfl (lv_at hl 1 rfl) ?_
  refine lv_lload_n X.1 X.2.1 dX11_set_6 rfl (lv_at hl 2 rfl) ?_
  refine mx_cv M (mx_runV (n := 3) (As := [.int (mi σ 45), .int a1, .long a2]) (rest := []) X M (c_X11_write l T B μ0 o A σ (mi σ 45) a1 a2 _ hw) (mm_recv X M) kw_1226 kw_1228 kw_43 kw_74 kw_1229 (by decide +kernel) rfl rfl ⟨Nat.le_of_ble_eq_true rfl, Nat.le_of_ble_eq_true rfl⟩ rfl hl.1 (Nat.le_of_ble_eq_true rfl) dX11_set_7 ⟨by decide, by decide⟩) (fun σ1 H locs hw M => ?_)
  exact mx_vret X hr hk M dX11_set_10 (by decide) (by decide) hw

abbrev rm_X11_has : Room := { frames := 1, cells := 0, slots := 0, locals := 21 }
def wp_X11_has (σ : MSt) (a1 : Int64) (a2 : Int32) (a3 : Int32) (post : Int32 → MSt → Prop) : Prop :=
  wp_X11_isCell σ a1 (fun (r2 : Int32) (σ1 : MSt) =>
  (r2 = 0 →
   post 0 σ1) ∧ (¬ r2 = 0 →
   ∀ v3 : Int32, v3 = (Int64.toInt32 (a1 - 1099511627776)) →
   vp_in v3 20100 ∧
   ((ma σ1 20 (Int32.toNatClampNeg v3)) = a2 →
    (a3 = (-1) →
     post 1 σ1) ∧ (¬ a3 = (-1) →
     vp_in v3 20100 ∧
     ((ma σ1 21 (Int32.toNatClampNeg v3)) = a3 →
      post 1 σ1) ∧ (¬ (ma σ1 21 (Int32.toNatClampNeg v3)) = a3 →
      post 0 σ1))) ∧ (¬ (ma σ1 20 (Int32.toNatClampNeg v3)) = a2 →
    post 0 σ1)))
set_option maxRecDepth 100000 in
set_option maxHeartbeats 4000000 in
theorem c_X11_has (l : Launch) (T : Tb) (B : Nat) (μ0 : Mem) (o : Nat) (A : Nat → Nat) (σ : MSt) (a1 : Int64) (a2 : Int32) (a3 : Int32) (post : Int32 → MSt → Prop) (hw : wp_X11_has σ a1 a2 a3 post) : Met l yX11_has (.code yX11_has cX11_has 6 (some .boolean) :: G) rm_X11_has (Pm (WM T B μ0 o A) T B σ [.ref o, .long a1, .int a2, .int a3]) (va_Qi post (Bm (WM T B μ0 o A)) (Ai B)) 0 0 (Ai B) := by
  refine mx_of RX11 rfl (by decide) (Nat.le_of_ble_eq_true rfl) ?_
  intro p e s m below meth c0 X hr hk hnm M ls hl
  have hl : lv_has ls 6 [(0, .ref o), (1, .long a1), (3, .int a2), (4, .int a3)] := hl
  unfold wp_X11_has at hw
  refine lv_lload_n X.1 X.2.1 dX11_has_0 rfl (lv_at hl 1 rfl) ?_
  refine mx_ci M (mx_runS (n := 1) (As := [.long a1]) (rest := []) X M (c_X11_isCell l T B μ0 o A σ a1 _ hw) kw_1243 kw_1244 kw_74 kw_1245 (by decide +kernel) rfl rfl ⟨Nat.le_of_ble_eq_true rfl, Nat.le_of_ble_eq_true rfl⟩ rfl hl.1 (Nat.le_of_ble_eq_true rfl) dX11_has_1 ⟨by decide, by decide⟩) (fun r2 σ1 H locs hw M => ?_)
  obtain ⟨hwf, hwt⟩ := hw
  refine lv_if_ne (tgt := 9) X.1 X.2.1 dX11_has_4 (by decide) (fun hq => ?_) (fun hq => ?_)
  · have hw := hwt hq
    refine lv_lload_n X.1 X.2.1 dX11_has_9 rfl (lv_at hl 1 rfl) ?_
    refine lv_ldc2 (v := 1099511627776) X.1 X.2.1 X.2.2.2.1 (X.2.2.2.2.1 _ kw_1238) dX11_has_10 ?_
    refine lv_lsub X.1 X.2.1 dX11_has_13 ?_
    refine lv_l2i X.1 X.2.1 dX11_has_14 rfl ?_
    refine lv_topi (fun v3 ev3 => ?_)
    replace hw := hw v3 ev3
    refine lv_istore (lv' := [(5, .int v3), (0, .ref o), (1, .long a1), (3, .int a2), (4, .int a3)]) X.1 X.2.1 dX11_has_15 hl (by decide) rfl (fun ls hl => ?_)
    refine lv_aload_n X.1 X.2.1 dX11_has_17 rfl (lv_at hl 1 rfl) ?_
    refine mm_geta X M 20 (by decide) rfl (by decide) kw_985 dX11_has_18 ?_
    refine lv_iload X.1 X.2.1 dX11_has_21 (lv_at hl 0 rfl) ?_
    obtain ⟨hi, hw⟩ := hw
    refine mm_ald X M 20 rfl dX11_has_23 hi ?_
    refine lv_iload_n X.1 X.2.1 dX11_has_24 rfl (lv_at hl 3 rfl) ?_
    obtain ⟨hwf, hwt⟩ := hw
    refine lv_icmp_ne (tgt := 50) X.1 X.2.1 dX11_has_25 (by decide) (fun hq => ?_) (fun hq => ?_)
    · have hw := hwt hq
      refine lv_iconst (v := 0) X.1 X.2.1 dX11_has_50 (by decide) ?_
      exact mx_zret X hr hk M dX11_has_51 (by decide) (by decide) (by decide) hw
    · have hw := hwf hq
      refine lv_iload X.1 X.2.1 dX11_has_28 (lv_at hl 4 rfl) ?_
      refine lv_iconst (v := (-1)) X.1 X.2.1 dX11_has_30 (by decide) ?_
      obtain ⟨hwt, hwf⟩ := hw
      refine lv_icmp_eq (tgt := 46) X.1 X.2.1 dX11_has_31 (by decide) (fun hq => ?_) (fun hq => ?_)
      · have hw := hwt hq
        refine lv_iconst (v := 1) X.1 X.2.1 dX11_has_46 (by decide) ?_
        refine lv_goto (tgt := 51) X.1 X.2.1 dX11_has_47 (by decide) ?_
        exact mx_zret X hr hk M dX11_has_51 (by decide) (by decide) (by decide) hw
      · have hw := hwf hq
        refine lv_aload_n X.1 X.2.1 dX11_has_34 rfl (lv_at hl 1 rfl) ?_
        refine mm_geta X M 21 (by decide) rfl (by decide) kw_986 dX11_has_35 ?_
        refine lv_iload X.1 X.2.1 dX11_has_38 (lv_at hl 0 rfl) ?_
        obtain ⟨hi, hw⟩ := hw
        refine mm_ald X M 21 rfl dX11_has_40 hi ?_
        refine lv_iload X.1 X.2.1 dX11_has_41 (lv_at hl 4 rfl) ?_
        obtain ⟨hwf, hwt⟩ := hw
        refine lv_icmp_ne (tgt := 50) X.1 X.2.1 dX11_has_43 (by decide) (fun hq => ?_) (fun hq => ?_)
        · have hw := hwt hq
          refine lv_iconst (v := 0) X.1 X.2.1 dX11_has_50 (by decide) ?_
          exact mx_zret X hr hk M dX11_has_51 (by decide) (by decide) (by decide) hw
        · have hw := hwf hq
          refine lv_iconst (v := 1) X.1 X.2.1 dX11_has_46 (by decide) ?_
          refine lv_goto (tgt := 51) X.1 X.2.1 dX11_has_47 (by decide) ?_
          exact mx_zret X hr hk M dX11_has_51 (by decide) (by decide) (by decide) hw
  · have hw := hwf hq
    refine lv_iconst (v := 0) X.1 X.2.1 dX11_has_7 (by decide) ?_
    exact mx_zret X hr hk M dX11_has_8 (by decide) (by decide) (by decide) hw

abbrev rm_X11_compare : Room := { frames := 1, cells := 0, slots := 0, locals := 21 }
def wp_X11_compare_150 (post : Int32 → MSt → Prop) (K20 : MSt → Int32 → Int32 → Prop) : Nat → MSt → Int32 → Int32 → Int32 → Int32 → Int32 → Prop
  | 0, _, _, _, _, _, _ => False
  | n + 1, σ, x5, x6, x11, x12, x13 =>
    (x13 < 0 →
     K20 σ x5 x6) ∧ (¬ x13 < 0 →
     vp_in x11 20100 ∧
     vp_in ((ma σ 22 (Int32.toNatClampNeg x11)) + x13) 20100 ∧
     vp_in x5 20100 ∧ ∀ σ14 : MSt, σ14 = sml σ 55 (Int32.toNatClampNeg x5) (ml σ 23 (Int32.toNatClampNeg ((ma σ 22 (Int32.toNatClampNeg x11)) + x13))) →
     vp_in x12 20100 ∧
     vp_in ((ma σ14 22 (Int32.toNatClampNeg x12)) + x13) 20100 ∧
     vp_in x5 20100 ∧ ∀ σ15 : MSt, σ15 = sml σ14 56 (Int32.toNatClampNeg x5) (ml σ14 23 (Int32.toNatClampNeg ((ma σ14 22 (Int32.toNatClampNeg x12)) + x13))) →
     ∀ v16 : Int32, v16 = x5 + 1 →
     ∀ v17 : Int32, v17 = x13 + (-1) →
     wp_X11_compare_150 post K20 n σ15 v16 x6 x11 x12 v17)
def wp_X11_compare_20 (post : Int32 → MSt → Prop) : Nat → MSt → Int32 → Int32 → Prop
  | 0, _, _, _ => False
  | n + 1, σ, x5, x6 =>
    (x5 ≤ 0 →
     post 0 σ) ∧ (¬ x5 ≤ 0 →
     (x6 = 5000 →
      post 2 σ) ∧ (¬ x6 = 5000 →
      ∀ v3 : Int32, v3 = x6 + 1 →
      ∀ v4 : Int32, v4 = x5 + (-1) →
      vp_in v4 20100 ∧
      ∀ v5 : Int64, v5 = (ml σ 55 (Int32.toNatClampNeg v4)) →
      vp_in v4 20100 ∧
      ∀ v6 : Int64, v6 = (ml σ 56 (Int32.toNatClampNeg v4)) →
      wp_X11_isCell σ v5 (fun (r8 : Int32) (σ7 : MSt) =>
      (r8 = 0 →
       ((lg_cmp v5 v6) = 0 →
        wp_X11_compare_20 post n σ7 v4 v3) ∧ (¬ (lg_cmp v5 v6) = 0 →
        post 1 σ7)) ∧ (¬ r8 = 0 →
       wp_X11_isCell σ7 v6 (fun (r10 : Int32) (σ9 : MSt) =>
       (r10 = 0 →
        ((lg_cmp v5 v6) = 0 →
         wp_X11_compare_20 post n σ9 v4 v3) ∧ (¬ (lg_cmp v5 v6) = 0 →
         post 1 σ9)) ∧ (¬ r10 = 0 →
        ∀ v11 : Int32, v11 = (Int64.toInt32 (v5 - 1099511627776)) →
        ∀ v12 : Int32, v12 = (Int64.toInt32 (v6 - 1099511627776)) →
        vp_in v11 20100 ∧
        vp_in v12 20100 ∧
        ((ma σ9 20 (Int32.toNatClampNeg v11)) = (ma σ9 20 (Int32.toNatClampNeg v12)) →
         vp_in v11 20100 ∧
         vp_in v12 20100 ∧
         ((ma σ9 21 (Int32.toNatClampNeg v11)) = (ma σ9 21 (Int32.toNatClampNeg v12)) →
          vp_in v11 20100 ∧
          ∀ v13 : Int32, v13 = ((ma σ9 21 (Int32.toNatClampNeg v11)) - 1) →
          ∃ n18, wp_X11_compare_150 post (fun s0 y0 y1 => wp_X11_compare_20 post n s0 y0 y1) n18 σ9 v4 v3 v11 v12 v13) ∧ (¬ (ma σ9 21 (Int32.toNatClampNeg v11)) = (ma σ9 21 (Int32.toNatClampNeg v12)) →
          post 1 σ9)) ∧ (¬ (ma σ9 20 (Int32.toNatClampNeg v11)) = (ma σ9 20 (Int32.toNatClampNeg v12)) →
         post 1 σ9)))))))
def wp_X11_compare (σ : MSt) (a1 : Int64) (a2 : Int64) (post : Int32 → MSt → Prop) : Prop :=
  vp_in 0 20100 ∧ ∀ σ1 : MSt, σ1 = sml σ 55 (Int32.toNatClampNeg 0) a1 →
  vp_in 0 20100 ∧ ∀ σ2 : MSt, σ2 = sml σ1 56 (Int32.toNatClampNeg 0) a2 →
  ∃ n19, wp_X11_compare_20 post n19 σ2 1 0
set_option maxRecDepth 100000 in
set_option maxHeartbeats 4000000 in
theorem b_X11_compare_150 {T : Tb} {B : Nat} {p : Program} {l : Launch} {e : Env} {s : State} {m : MethodId} {args : Array Value} {below : List Frame} {meth : Method} {c0 : Code} {post : Int32 → MSt → Prop} {K20 : MSt → Int32 → Int32 → Prop} {μ0 : Mem} {o : Nat} {A : Nat → Nat} (X : CX T B p m c0 cX11_compare 14 s args RX11) (hr : meth.sig.returnType = (some .int)) (hk : meth.locks = false) (hK20 : ∀ (σ : MSt) (x5 : Int32) (x6 : Int32) (H : Heap) (locs : List Loc) (ls : Array Slot), K20 σ x5 x6 → MG (WM T B μ0 o A) B s σ H locs → lv_has ls 14 [(0, .ref o), (5, .int x5), (6, .int x6)] → W p l e rm_X11_compare s m args below meth c0 H locs 0 0 (MQ below (va_Qi post (Bm (WM T B μ0 o A)) (Ai B)) args s 0 0 (Ai B)) (F0 m 20 ls [])) : ∀ (n : Nat) (σ : MSt) (x5 : Int32) (x6 : Int32) (x11 : Int32) (x12 : Int32) (x13 : Int32) (H : Heap) (locs : List Loc) (ls : Array Slot), wp_X11_compare_150 post K20 n σ x5 x6 x11 x12 x13 → MG (WM T B μ0 o A) B s σ H locs → lv_has ls 14 [(0, .ref o), (5, .int x5), (6, .int x6), (11, .int x11), (12, .int x12), (13, .int x13)] → W p l e rm_X11_compare s m args below meth c0 H locs 0 0 (MQ below (va_Qi post (Bm (WM T B μ0 o A)) (Ai B)) args s 0 0 (Ai B)) (F0 m 150 ls []) := by
  intro n
  induction n with
  | zero =>
    intro σ x5 x6 x11 x12 x13 H locs ls hw
    exact hw.elim
  | succ n ih =>
    intro σ x5 x6 x11 x12 x13 H locs ls hw M hl
    rw [wp_X11_compare_150] at hw
    refine lv_iload X.1 X.2.1 dX11_compare_150 (lv_at hl 5 rfl) ?_
    obtain ⟨hwt, hwf⟩ := hw
    refine lv_if_lt (tgt := 208) X.1 X.2.1 dX11_compare_152 (by decide) (fun hq => ?_) (fun hq => ?_)
    · have hw := hwt hq
      refine lv_goto (tgt := 20) X.1 X.2.1 dX11_compare_208 (by decide) ?_
      exact hK20 σ x5 x6 _ _ _ hw M (lv_sub hl [0, 1, 2] rfl)
    · have hw := hwf hq
      refine lv_aload_n X.1 X.2.1 dX11_compare_155 rfl (lv_at hl 0 rfl) ?_
      refine mm_geta X M 55 (by decide) rfl (by decide) kw_1020 dX11_compare_156 ?_
      refine lv_iload X.1 X.2.1 dX11_compare_159 (lv_at hl 1 rfl) ?_
      refine lv_aload_n X.1 X.2.1 dX11_compare_161 rfl (lv_at hl 0 rfl) ?_
      refine mm_geta X M 23 (by decide) rfl (by decide) kw_988 dX11_compare_162 ?_
      refine lv_aload_n X.1 X.2.1 dX11_compare_165 rfl (lv_at hl 0 rfl) ?_
      refine mm_geta X M 22 (by decide) rfl (by decide) kw_987 dX11_compare_166 ?_
      refine lv_iload X.1 X.2.1 dX11_compare_169 (lv_at hl 3 rfl) ?_
      obtain ⟨hi, hw⟩ := hw
      refine mm_ald X M 22 rfl dX11_compare_171 hi ?_
      refine lv_iload X.1 X.2.1 dX11_compare_172 (lv_at hl 5 rfl) ?_
      refine lv_iadd X.1 X.2.1 dX11_compare_174 ?_
      obtain ⟨hi, hw⟩ := hw
      refine mm_jld X M 23 rfl dX11_compare_175 hi ?_
      obtain ⟨hi, hw⟩ := hw
      refine mm_jst X M 55 rfl dX11_compare_176 hi (fun σ14 H locs eσ14 M => ?_)
      replace hw := hw σ14 eσ14
      refine lv_aload_n X.1 X.2.1 dX11_compare_177 rfl (lv_at hl 0 rfl) ?_
      refine mm_geta X M 56 (by decide) rfl (by decide) kw_1021 dX11_compare_178 ?_
      refine lv_iload X.1 X.2.1 dX11_compare_181 (lv_at hl 1 rfl) ?_
      refine lv_aload_n X.1 X.2.1 dX11_compare_183 rfl (lv_at hl 0 rfl) ?_
      refine mm_geta X M 23 (by decide) rfl (by decide) kw_988 dX11_compare_184 ?_
      refine lv_aload_n X.1 X.2.1 dX11_compare_187 rfl (lv_at hl 0 rfl) ?_
      refine mm_geta X M 22 (by decide) rfl (by decide) kw_987 dX11_compare_188 ?_
      refine lv_iload X.1 X.2.1 dX11_compare_191 (lv_at hl 4 rfl) ?_
      obtain ⟨hi, hw⟩ := hw
      refine mm_ald X M 22 rfl dX11_compare_193 hi ?_
      refine lv_iload X.1 X.2.1 dX11_compare_194 (lv_at hl 5 rfl) ?_
      refine lv_iadd X.1 X.2.1 dX11_compare_196 ?_
      obtain ⟨hi, hw⟩ := hw
      refine mm_jld X M 23 rfl dX11_compare_197 hi ?_
      obtain ⟨hi, hw⟩ := hw
      refine mm_jst X M 56 rfl dX11_compare_198 hi (fun σ15 H locs eσ15 M => ?_)
      replace hw := hw σ15 eσ15
      obtain ⟨v16, ev16⟩ : ∃ y : Int32, y = x5 + 1 := ⟨_, rfl⟩
      replace hw := hw v16 ev16
      refine lv_iinc (v := v16) (lv' := [(5, .int v16), (0, .ref o), (6, .int x6), (11, .int x11), (12, .int x12), (13, .int x13)]) X.1 X.2.1 dX11_compare_199 hl (k := 1) rfl (by rw [ev16]; rfl) (by decide) rfl (fun ls hl => ?_)
      obtain ⟨v17, ev17⟩ : ∃ y : Int32, y = x13 + (-1) := ⟨_, rfl⟩
      replace hw := hw v17 ev17
      refine lv_iinc (v := v17) (lv' := [(13, .int v17), (5, .int v16), (0, .ref o), (6, .int x6), (11, .int x11), (12, .int x12)]) X.1 X.2.1 dX11_compare_202 hl (k := 5) rfl (by rw [ev17]; rfl) (by decide) rfl (fun ls hl => ?_)
      refine lv_goto (tgt := 150) X.1 X.2.1 dX11_compare_205 (by decide) ?_
      exact ih σ15 v16 x6 x11 x12 v17 _ _ _ hw M (lv_sub hl [2, 1, 3, 4, 5, 0] rfl)
set_option maxRecDepth 100000 in
set_option maxHeartbeats 4000000 in
theorem b_X11_compare_20 {T : Tb} {B : Nat} {p : Program} {l : Launch} {e : Env} {s : State} {m : MethodId} {args : Array Value} {below : List Frame} {meth : Method} {c0 : Code} {post : Int32 → MSt → Prop} {μ0 : Mem} {o : Nat} {A : Nat → Nat} (X : CX T B p m c0 cX11_compare 14 s args RX11) (hr : meth.sig.returnType = (some .int)) (hk : meth.locks = false) : ∀ (n : Nat) (σ : MSt) (x5 : Int32) (x6 : Int32) (H : Heap) (locs : List Loc) (ls : Array Slot), wp_X11_compare_20 post n σ x5 x6 → MG (WM T B μ0 o A) B s σ H locs → lv_has ls 14 [(0, .ref o), (5, .int x5), (6, .int x6)] → W p l e rm_X11_compare s m args below meth c0 H locs 0 0 (MQ below (va_Qi post (Bm (WM T B μ0 o A)) (Ai B)) args s 0 0 (Ai B)) (F0 m 20 ls []) := by
  intro n
  induction n with
  | zero =>
    intro σ x5 x6 H locs ls hw
    exact hw.elim
  | succ n ih =>
    intro σ x5 x6 H locs ls hw M hl
    rw [wp_X11_compare_20] at hw
    refine lv_iload X.1 X.2.1 dX11_compare_20 (lv_at hl 1 rfl) ?_
    obtain ⟨hwt, hwf⟩ := hw
    refine lv_if_le (tgt := 211) X.1 X.2.1 dX11_compare_22 (by decide) (fun hq => ?_) (fun hq => ?_)
    · have hw := hwt hq
      refine lv_iconst (v := 0) X.1 X.2.1 dX11_compare_211 (by decide) ?_
      exact mx_iret X hr hk M dX11_compare_212 (by decide) (by decide) hw
    · have hw := hwf hq
      refine lv_iload X.1 X.2.1 dX11_compare_25 (lv_at hl 2 rfl) ?_
      refine lv_sipush (v := 5000) X.1 X.2.1 dX11_compare_27 (by decide) ?_
      obtain ⟨hwf, hwt⟩ := hw
      refine lv_icmp_ne (tgt := 35) X.1 X.2.1 dX11_compare_30 (by decide) (fun hq => ?_) (fun hq => ?_)
      · have hw := hwt hq
        obtain ⟨v3, ev3⟩ : ∃ y : Int32, y = x6 + 1 := ⟨_, rfl⟩
        replace hw := hw v3 ev3
        refine lv_iinc (v := v3) (lv' := [(6, .int v3), (0, .ref o), (5, .int x5)]) X.1 X.2.1 dX11_compare_35 hl (k := 2) rfl (by rw [ev3]; rfl) (by decide) rfl (fun ls hl => ?_)
        obtain ⟨v4, ev4⟩ : ∃ y : Int32, y = x5 + (-1) := ⟨_, rfl⟩
        replace hw := hw v4 ev4
        refine lv_iinc (v := v4) (lv' := [(5, .int v4), (6, .int v3), (0, .ref o)]) X.1 X.2.1 dX11_compare_38 hl (k := 2) rfl (by rw [ev4]; rfl) (by decide) rfl (fun ls hl => ?_)
        refine lv_aload_n X.1 X.2.1 dX11_compare_41 rfl (lv_at hl 2 rfl) ?_
        refine mm_geta X M 55 (by decide) rfl (by decide) kw_1020 dX11_compare_42 ?_
        refine lv_iload X.1 X.2.1 dX11_compare_45 (lv_at hl 0 rfl) ?_
        obtain ⟨hi, hw⟩ := hw
        refine mm_jld X M 55 rfl dX11_compare_47 hi ?_
        refine lv_topl (fun v5 ev5 => ?_)
        replace hw := hw v5 ev5
        refine lv_lstore (lv' := [(7, .long v5), (5, .int v4), (6, .int v3), (0, .ref o)]) X.1 X.2.1 dX11_compare_48 hl (by decide) rfl (fun ls hl => ?_)
        refine lv_aload_n X.1 X.2.1 dX11_compare_50 rfl (lv_at hl 3 rfl) ?_
        refine mm_geta X M 56 (by decide) rfl (by decide) kw_1021 dX11_compare_51 ?_
        refine lv_iload X.1 X.2.1 dX11_compare_54 (lv_at hl 1 rfl) ?_
        obtain ⟨hi, hw⟩ := hw
        refine mm_jld X M 56 rfl dX11_compare_56 hi ?_
        refine lv_topl (fun v6 ev6 => ?_)
        replace hw := hw v6 ev6
        refine lv_lstore (lv' := [(9, .long v6), (7, .long v5), (5, .int v4), (6, .int v3), (0, .ref o)]) X.1 X.2.1 dX11_compare_57 hl (by decide) rfl (fun ls hl => ?_)
        refine lv_lload X.1 X.2.1 dX11_compare_59 (lv_at hl 1 rfl) ?_
        refine mx_ci M (mx_runS (n := 1) (As := [.long v5]) (rest := []) X M (c_X11_isCell l T B μ0 o A σ v5 _ hw) kw_1243 kw_1244 kw_74 kw_1245 (by decide +kernel) rfl rfl ⟨Nat.le_of_ble_eq_true rfl, Nat.le_of_ble_eq_true rfl⟩ rfl hl.1 (Nat.le_of_ble_eq_true rfl) dX11_compare_61 ⟨by decide, by decide⟩) (fun r8 σ7 H locs hw M => ?_)
        obtain ⟨hwt, hwf⟩ := hw
        refine lv_if_eq (tgt := 75) X.1 X.2.1 dX11_compare_64 (by decide) (fun hq => ?_) (fun hq => ?_)
        · have hw := hwt hq
          refine lv_lload X.1 X.2.1 dX11_compare_75 (lv_at hl 1 rfl) ?_
          refine lv_lload X.1 X.2.1 dX11_compare_77 (lv_at hl 0 rfl) ?_
          refine W.lcmp X.1 X.2.1 dX11_compare_79 ?_
          obtain ⟨hwt, hwf⟩ := hw
          refine lv_if_eq (tgt := 20) X.1 X.2.1 dX11_compare_80 (by decide) (fun hq => ?_) (fun hq => ?_)
          · have hw := hwt hq
            exact ih σ7 v4 v3 _ _ _ hw M (lv_sub hl [4, 2, 3] rfl)
          · have hw := hwf hq
            refine lv_iconst (v := 1) X.1 X.2.1 dX11_compare_83 (by decide) ?_
            exact mx_iret X hr hk M dX11_compare_84 (by decide) (by decide) hw
        · have hw := hwf hq
          refine lv_lload X.1 X.2.1 dX11_compare_67 (lv_at hl 0 rfl) ?_
          refine mx_ci M (mx_runS (n := 1) (As := [.long v6]) (rest := []) X M (c_X11_isCell l T B μ0 o A σ7 v6 _ hw) kw_1243 kw_1244 kw_74 kw_1245 (by decide +kernel) rfl rfl ⟨Nat.le_of_ble_eq_true rfl, Nat.le_of_ble_eq_true rfl⟩ rfl hl.1 (Nat.le_of_ble_eq_true rfl) dX11_compare_69 ⟨by decide, by decide⟩) (fun r10 σ9 H locs hw M => ?_)
          obtain ⟨hwf, hwt⟩ := hw
          refine lv_if_ne (tgt := 85) X.1 X.2.1 dX11_compare_72 (by decide) (fun hq => ?_) (fun hq => ?_)
          · have hw := hwt hq
            refine lv_lload X.1 X.2.1 dX11_compare_85 (lv_at hl 1 rfl) ?_
            refine lv_ldc2 (v := 1099511627776) X.1 X.2.1 X.2.2.2.1 (X.2.2.2.2.1 _ kw_1238) dX11_compare_87 ?_
            refine lv_lsub X.1 X.2.1 dX11_compare_90 ?_
            refine lv_l2i X.1 X.2.1 dX11_compare_91 rfl ?_
            refine lv_topi (fun v11 ev11 => ?_)
            replace hw := hw v11 ev11
            refine lv_istore (lv' := [(11, .int v11), (9, .long v6), (7, .long v5), (5, .int v4), (6, .int v3), (0, .ref o)]) X.1 X.2.1 dX11_compare_92 hl (by decide) rfl (fun ls hl => ?_)
            refine lv_lload X.1 X.2.1 dX11_compare_94 (lv_at hl 1 rfl) ?_
            refine lv_ldc2 (v := 1099511627776) X.1 X.2.1 X.2.2.2.1 (X.2.2.2.2.1 _ kw_1238) dX11_compare_96 ?_
            refine lv_lsub X.1 X.2.1 dX11_compare_99 ?_
            refine lv_l2i X.1 X.2.1 dX11_compare_100 rfl ?_
            refine lv_topi (fun v12 ev12 => ?_)
            replace hw := hw v12 ev12
            refine lv_istore (lv' := [(12, .int v12), (11, .int v11), (9, .long v6), (7, .long v5), (5, .int v4), (6, .int v3), (0, .ref o)]) X.1 X.2.1 dX11_compare_101 hl (by decide) rfl (fun ls hl => ?_)
            refine lv_aload_n X.1 X.2.1 dX11_compare_103 rfl (lv_at hl 6 rfl) ?_
            refine mm_geta X M 20 (by decide) rfl (by decide) kw_985 dX11_compare_104 ?_
            refine lv_iload X.1 X.2.1 dX11_compare_107 (lv_at hl 1 rfl) ?_
            obtain ⟨hi, hw⟩ := hw
            refine mm_ald X M 20 rfl dX11_compare_109 hi ?_
            refine lv_aload_n X.1 X.2.1 dX11_compare_110 rfl (lv_at hl 6 rfl) ?_
            refine mm_geta X M 20 (by decide) rfl (by decide) kw_985 dX11_compare_111 ?_
            refine lv_iload X.1 X.2.1 dX11_compare_114 (lv_at hl 0 rfl) ?_
            obtain ⟨hi, hw⟩ := hw
            refine mm_ald X M 20 rfl dX11_compare_116 hi ?_
            obtain ⟨hwf, hwt⟩ := hw
            refine lv_icmp_ne (tgt := 137) X.1 X.2.1 dX11_compare_117 (by decide) (fun hq => ?_) (fun hq => ?_)
            · have hw := hwt hq
              refine lv_iconst (v := 1) X.1 X.2.1 dX11_compare_137 (by decide) ?_
              exact mx_iret X hr hk M dX11_compare_138 (by decide) (by decide) hw
            · have hw := hwf hq
              refine lv_aload_n X.1 X.2.1 dX11_compare_120 rfl (lv_at hl 6 rfl) ?_
              refine mm_geta X M 21 (by decide) rfl (by decide) kw_986 dX11_compare_121 ?_
              refine lv_iload X.1 X.2.1 dX11_compare_124 (lv_at hl 1 rfl) ?_
              obtain ⟨hi, hw⟩ := hw
              refine mm_ald X M 21 rfl dX11_compare_126 hi ?_
              refine lv_aload_n X.1 X.2.1 dX11_compare_127 rfl (lv_at hl 6 rfl) ?_
              refine mm_geta X M 21 (by decide) rfl (by decide) kw_986 dX11_compare_128 ?_
              refine lv_iload X.1 X.2.1 dX11_compare_131 (lv_at hl 0 rfl) ?_
              obtain ⟨hi, hw⟩ := hw
              refine mm_ald X M 21 rfl dX11_compare_133 hi ?_
              obtain ⟨hwt, hwf⟩ := hw
              refine lv_icmp_eq (tgt := 139) X.1 X.2.1 dX11_compare_134 (by decide) (fun hq => ?_) (fun hq => ?_)
              · have hw := hwt hq
                refine lv_aload_n X.1 X.2.1 dX11_compare_139 rfl (lv_at hl 6 rfl) ?_
                refine mm_geta X M 21 (by decide) rfl (by decide) kw_986 dX11_compare_140 ?_
                refine lv_iload X.1 X.2.1 dX11_compare_143 (lv_at hl 1 rfl) ?_
                obtain ⟨hi, hw⟩ := hw
                refine mm_ald X M 21 rfl dX11_compare_145 hi ?_
                refine lv_iconst (v := 1) X.1 X.2.1 dX11_compare_146 (by decide) ?_
                refine lv_isub X.1 X.2.1 dX11_compare_147 ?_
                refine lv_topi (fun v13 ev13 => ?_)
                replace hw := hw v13 ev13
                refine lv_istore (lv' := [(13, .int v13), (12, .int v12), (11, .int v11), (9, .long v6), (7, .long v5), (5, .int v4), (6, .int v3), (0, .ref o)]) X.1 X.2.1 dX11_compare_148 hl (by decide) rfl (fun ls hl => ?_)
                obtain ⟨n18, hw⟩ := hw
                exact b_X11_compare_150 X hr hk (K20 := fun s0 y0 y1 => wp_X11_compare_20 post n s0 y0 y1) ih n18 σ9 v4 v3 v11 v12 v13 _ _ _ hw M (lv_sub hl [7, 5, 6, 2, 1, 0] rfl)
              · have hw := hwf hq
                refine lv_iconst (v := 1) X.1 X.2.1 dX11_compare_137 (by decide) ?_
                exact mx_iret X hr hk M dX11_compare_138 (by decide) (by decide) hw
          · have hw := hwf hq
            refine lv_lload X.1 X.2.1 dX11_compare_75 (lv_at hl 1 rfl) ?_
            refine lv_lload X.1 X.2.1 dX11_compare_77 (lv_at hl 0 rfl) ?_
            refine W.lcmp X.1 X.2.1 dX11_compare_79 ?_
            obtain ⟨hwt, hwf⟩ := hw
            refine lv_if_eq (tgt := 20) X.1 X.2.1 dX11_compare_80 (by decide) (fun hq => ?_) (fun hq => ?_)
            · have hw := hwt hq
              exact ih σ9 v4 v3 _ _ _ hw M (lv_sub hl [4, 2, 3] rfl)
            · have hw := hwf hq
              refine lv_iconst (v := 1) X.1 X.2.1 dX11_compare_83 (by decide) ?_
              exact mx_iret X hr hk M dX11_compare_84 (by decide) (by decide) hw
      · have hw := hwf hq
        refine lv_iconst (v := 2) X.1 X.2.1 dX11_compare_33 (by decide) ?_
        exact mx_iret X hr hk M dX11_compare_34 (by decide) (by decide) hw
set_option maxRecDepth 100000 in
set_option maxHeartbeats 4000000 in
theorem c_X11_compare (l : Launch) (T : Tb) (B : Nat) (μ0 : Mem) (o : Nat) (A : Nat → Nat) (σ : MSt) (a1 : Int64) (a2 : Int64) (post : Int32 → MSt → Prop) (hw : wp_X11_compare σ a1 a2 post) : Met l yX11_compare (.code yX11_compare cX11_compare 14 (some .int) :: G) rm_X11_compare (Pm (WM T B μ0 o A) T B σ [.ref o, .long a1, .long a2]) (va_Qi post (Bm (WM T B μ0 o A)) (Ai B)) 0 0 (Ai B) := by
  refine mx_of RX11 rfl (by decide) (Nat.le_of_ble_eq_true rfl) ?_
  intro p e s m below meth c0 X hr hk hnm M ls hl
  have hl : lv_has ls 14 [(0, .ref o), (1, .long a1), (3, .long a2)] := hl
  unfold wp_X11_compare at hw
  refine lv_iconst (v := 1) X.1 X.2.1 dX11_compare_0 (by decide) ?_
  refine lv_istore (lv' := [(5, .int 1), (0, .ref o), (1, .long a1), (3, .long a2)]) X.1 X.2.1 dX11_compare_1 hl (by decide) rfl (fun ls hl => ?_)
  refine lv_iconst (v := 0) X.1 X.2.1 dX11_compare_3 (by decide) ?_
  refine lv_istore (lv' := [(6, .int 0), (5, .int 1), (0, .ref o), (1, .long a1), (3, .long a2)]) X.1 X.2.1 dX11_compare_4 hl (by decide) rfl (fun ls hl => ?_)
  refine lv_aload_n X.1 X.2.1 dX11_compare_6 rfl (lv_at hl 2 rfl) ?_
  refine mm_geta X M 55 (by decide) rfl (by decide) kw_1020 dX11_compare_7 ?_
  refine lv_iconst (v := 0) X.1 X.2.1 dX11_compare_10 (by decide) ?_
  refine lv_lload_n X.1 X.2.1 dX11_compare_11 rfl (lv_at hl 3 rfl) ?_
  obtain ⟨hi, hw⟩ := hw
  refine mm_jst X M 55 rfl dX11_compare_12 hi (fun σ1 H locs eσ1 M => ?_)
  replace hw := hw σ1 eσ1
  refine lv_aload_n X.1 X.2.1 dX11_compare_13 rfl (lv_at hl 2 rfl) ?_
  refine mm_geta X M 56 (by decide) rfl (by decide) kw_1021 dX11_compare_14 ?_
  refine lv_iconst (v := 0) X.1 X.2.1 dX11_compare_17 (by decide) ?_
  refine lv_lload_n X.1 X.2.1 dX11_compare_18 rfl (lv_at hl 4 rfl) ?_
  obtain ⟨hi, hw⟩ := hw
  refine mm_jst X M 56 rfl dX11_compare_19 hi (fun σ2 H locs eσ2 M => ?_)
  replace hw := hw σ2 eσ2
  obtain ⟨n19, hw⟩ := hw
  exact b_X11_compare_20 X hr hk n19 σ2 1 0 _ _ _ hw M (lv_sub hl [2, 1, 0] rfl)

abbrev rm_X11_makeCell : Room := { frames := 2, cells := 0, slots := 0, locals := 48 }
def wp_X11_makeCell_89 (post : MSt → Prop) : Nat → MSt → Int32 → Int32 → Int32 → Int32 → Int32 → Prop
  | 0, _, _, _, _, _, _ => False
  | n + 1, σ, x1, x2, x3, x4, x5 =>
    (x2 ≤ x5 →
     ∀ σ7 : MSt, σ7 = smi σ 24 ((mi σ 24) + x2) →
     ∀ σ8 : MSt, σ8 = smi σ7 25 ((mi σ7 25) + x3) →
     ((mi σ8 25) ≤ (mi σ8 49) →
      ∀ σ9 : MSt, σ9 = smi σ8 49 (mi σ8 49) →
      vp_in x1 2000 ∧
      wp_X11_set σ9 (ma σ9 13 (Int32.toNatClampNeg x1)) ((1099511627776 : Int64) + (Int32.toInt64 x4)) (fun (σ10 : MSt) =>
      post σ10)) ∧ (¬ (mi σ8 25) ≤ (mi σ8 49) →
      ∀ σ11 : MSt, σ11 = smi σ8 49 (mi σ8 25) →
      vp_in x1 2000 ∧
      wp_X11_set σ11 (ma σ11 13 (Int32.toNatClampNeg x1)) ((1099511627776 : Int64) + (Int32.toInt64 x4)) (fun (σ12 : MSt) =>
      post σ12))) ∧ (¬ x2 ≤ x5 →
     vp_in (((10 : Int32) * x1) + x5) 20000 ∧
     wp_X11_get σ (ma σ 18 (Int32.toNatClampNeg (((10 : Int32) * x1) + x5))) (fun (r14 : Int64) (σ13 : MSt) =>
     vp_in ((mi σ 24) + x5) 20100 ∧ ∀ σ15 : MSt, σ15 = sml σ13 23 (Int32.toNatClampNeg ((mi σ 24) + x5)) r14 →
     ∀ v16 : Int32, v16 = x5 + 1 →
     wp_X11_makeCell_89 post n σ15 x1 x2 x3 x4 v16))
def wp_X11_makeCell_18 (post : MSt → Prop) (σ : MSt) (x1 : Int32) (x2 : Int32) (t0 : Int32) : Prop :=
  (((mi σ 25) + t0) ≤ (mi σ 52) →
   ∀ v2 : Int32, v2 = (mi σ 19) →
   ∀ σ3 : MSt, σ3 = smi σ 19 ((mi σ 19) + 1) →
   vp_in x1 2000 ∧
   vp_in v2 20100 ∧ ∀ σ4 : MSt, σ4 = sma σ3 20 (Int32.toNatClampNeg v2) (ma σ3 14 (Int32.toNatClampNeg x1)) →
   vp_in v2 20100 ∧ ∀ σ5 : MSt, σ5 = sma σ4 21 (Int32.toNatClampNeg v2) x2 →
   vp_in v2 20100 ∧ ∀ σ6 : MSt, σ6 = sma σ5 22 (Int32.toNatClampNeg v2) (mi σ5 24) →
   ∃ n17, wp_X11_makeCell_89 post n17 σ6 x1 x2 t0 v2 0) ∧ (¬ ((mi σ 25) + t0) ≤ (mi σ 52) →
   ∀ σ18 : MSt, σ18 = smi σ 44 5 →
   post σ18)
def wp_X11_makeCell (σ : MSt) (a1 : Int32) (post : MSt → Prop) : Prop :=
  vp_in a1 2000 ∧
  ∀ v1 : Int32, v1 = (ma σ 17 (Int32.toNatClampNeg a1)) →
  (v1 = 0 →
   wp_X11_makeCell_18 post σ a1 v1 0) ∧ (¬ v1 = 0 →
   wp_X11_makeCell_18 post σ a1 v1 (v1 + 1))
set_option maxRecDepth 100000 in
set_option maxHeartbeats 4000000 in
theorem b_X11_makeCell_89 {T : Tb} {B : Nat} {p : Program} {l : Launch} {e : Env} {s : State} {m : MethodId} {args : Array Value} {below : List Frame} {meth : Method} {c0 : Code} {post : MSt → Prop} {μ0 : Mem} {o : Nat} {A : Nat → Nat} (X : CX T B p m c0 cX11_makeCell 6 s args RX11) (hr : meth.sig.returnType = none) (hk : meth.locks = false) : ∀ (n : Nat) (σ : MSt) (x1 : Int32) (x2 : Int32) (x3 : Int32) (x4 : Int32) (x5 : Int32) (H : Heap) (locs : List Loc) (ls : Array Slot), wp_X11_makeCell_89 post n σ x1 x2 x3 x4 x5 → MG (WM T B μ0 o A) B s σ H locs → lv_has ls 6 [(0, .ref o), (1, .int x1), (2, .int x2), (3, .int x3), (4, .int x4), (5, .int x5)] → W p l e rm_X11_makeCell s m args below meth c0 H locs 0 0 (MQ below (va_Qv post (Bm (WM T B μ0 o A)) (Ai B)) args s 0 0 (Ai B)) (F0 m 89 ls []) := by
  intro n
  induction n with
  | zero =>
    intro σ x1 x2 x3 x4 x5 H locs ls hw
    exact hw.elim
  | succ n ih =>
    intro σ x1 x2 x3 x4 x5 H locs ls hw M hl
    rw [wp_X11_makeCell_89] at hw
    refine lv_iload X.1 X.2.1 dX11_makeCell_89 (lv_at hl 5 rfl) ?_
    refine lv_iload_n X.1 X.2.1 dX11_makeCell_91 rfl (lv_at hl 2 rfl) ?_
    obtain ⟨hwt, hwf⟩ := hw
    refine lv_icmp_ge (tgt := 129) X.1 X.2.1 dX11_makeCell_92 (by decide) (fun hq => ?_) (fun hq => ?_)
    · have hw := hwt hq
      refine lv_aload_n X.1 X.2.1 dX11_makeCell_129 rfl (lv_at hl 0 rfl) ?_
      refine lv_dup X.1 X.2.1 dX11_makeCell_130 rfl ?_
      refine mm_geti X M 24 (by decide) rfl kw_989 dX11_makeCell_131 ?_
      refine lv_iload_n X.1 X.2.1 dX11_makeCell_134 rfl (lv_at hl 2 rfl) ?_
      refine lv_iadd X.1 X.2.1 dX11_makeCell_135 ?_
      refine mm_puti X M 24 (by decide) rfl kw_989 rfl dX11_makeCell_136 rfl rfl (fun σ7 H locs eσ7 M => ?_)
      replace hw := hw σ7 eσ7
      refine lv_aload_n X.1 X.2.1 dX11_makeCell_139 rfl (lv_at hl 0 rfl) ?_
      refine lv_dup X.1 X.2.1 dX11_makeCell_140 rfl ?_
      refine mm_geti X M 25 (by decide) rfl kw_990 dX11_makeCell_141 ?_
      refine lv_iload_n X.1 X.2.1 dX11_makeCell_144 rfl (lv_at hl 3 rfl) ?_
      refine lv_iadd X.1 X.2.1 dX11_makeCell_145 ?_
      refine mm_puti X M 25 (by decide) rfl kw_990 rfl dX11_makeCell_146 rfl rfl (fun σ8 H locs eσ8 M => ?_)
      replace hw := hw σ8 eσ8
      refine lv_aload_n X.1 X.2.1 dX11_makeCell_149 rfl (lv_at hl 0 rfl) ?_
      refine lv_aload_n X.1 X.2.1 dX11_makeCell_150 rfl (lv_at hl 0 rfl) ?_
      refine mm_geti X M 25 (by decide) rfl kw_990 dX11_makeCell_151 ?_
      refine lv_aload_n X.1 X.2.1 dX11_makeCell_154 rfl (lv_at hl 0 rfl) ?_
      refine mm_geti X M 49 (by decide) rfl kw_1014 dX11_makeCell_155 ?_
      obtain ⟨hwt, hwf⟩ := hw
      refine lv_icmp_le (tgt := 168) X.1 X.2.1 dX11_makeCell_158 (by decide) (fun hq => ?_) (fun hq => ?_)
      · have hw := hwt hq
        refine lv_aload_n X.1 X.2.1 dX11_makeCell_168 rfl (lv_at hl 0 rfl) ?_
        refine mm_geti X M 49 (by decide) rfl kw_1014 dX11_makeCell_169 ?_
        refine mm_puti X M 49 (by decide) rfl kw_1014 rfl dX11_makeCell_172 rfl rfl (fun σ9 H locs eσ9 M => ?_)
        replace hw := hw σ9 eσ9
        refine lv_aload_n X.1 X.2.1 dX11_makeCell_175 rfl (lv_at hl 0 rfl) ?_
        refine lv_aload_n X.1 X.2.1 dX11_makeCell_176 rfl (lv_at hl 0 rfl) ?_
        refine mm_geta X M 13 (by decide) rfl (by decide) kw_978 dX11_makeCell_177 ?_
        refine lv_iload_n X.1 X.2.1 dX11_makeCell_180 rfl (lv_at hl 1 rfl) ?_
        obtain ⟨hi, hw⟩ := hw
        refine mm_ald X M 13 rfl dX11_makeCell_181 hi ?_
        refine lv_ldc2 (v := 1099511627776) X.1 X.2.1 X.2.2.2.1 (X.2.2.2.2.1 _ kw_1238) dX11_makeCell_182 ?_
        refine lv_iload X.1 X.2.1 dX11_makeCell_185 (lv_at hl 4 rfl) ?_
        refine lv_i2l X.1 X.2.1 dX11_makeCell_187 rfl ?_
        refine lv_ladd X.1 X.2.1 dX11_makeCell_188 ?_
        refine mx_cv M (mx_runV (n := 2) (As := [.int (ma σ9 13 (Int32.toNatClampNeg x1)), .long ((1099511627776 : Int64) + (Int32.toInt64 x4))]) (rest := []) X M (c_X11_set l T B μ0 o A σ9 (ma σ9 13 (Int32.toNatClampNeg x1)) ((1099511627776 : Int64) + (Int32.toInt64 x4)) _ hw) (mm_recv X M) kw_1222 kw_1224 kw_42 kw_74 kw_1225 (by decide +kernel) rfl rfl ⟨Nat.le_of_ble_eq_true rfl, Nat.le_of_ble_eq_true rfl⟩ rfl hl.1 (Nat.le_of_ble_eq_true rfl) dX11_makeCell_189 ⟨by decide, by decide⟩) (fun σ10 H locs hw M => ?_)
        exact mx_vret X hr hk M dX11_makeCell_192 (by decide) (by decide) hw
      · have hw := hwf hq
        refine lv_aload_n X.1 X.2.1 dX11_makeCell_161 rfl (lv_at hl 0 rfl) ?_
        refine mm_geti X M 25 (by decide) rfl kw_990 dX11_makeCell_162 ?_
        refine lv_goto (tgt := 172) X.1 X.2.1 dX11_makeCell_165 (by decide) ?_
        refine mm_puti X M 49 (by decide) rfl kw_1014 rfl dX11_makeCell_172 rfl rfl (fun σ11 H locs eσ11 M => ?_)
        replace hw := hw σ11 eσ11
        refine lv_aload_n X.1 X.2.1 dX11_makeCell_175 rfl (lv_at hl 0 rfl) ?_
        refine lv_aload_n X.1 X.2.1 dX11_makeCell_176 rfl (lv_at hl 0 rfl) ?_
        refine mm_geta X M 13 (by decide) rfl (by decide) kw_978 dX11_makeCell_177 ?_
        refine lv_iload_n X.1 X.2.1 dX11_makeCell_180 rfl (lv_at hl 1 rfl) ?_
        obtain ⟨hi, hw⟩ := hw
        refine mm_ald X M 13 rfl dX11_makeCell_181 hi ?_
        refine lv_ldc2 (v := 1099511627776) X.1 X.2.1 X.2.2.2.1 (X.2.2.2.2.1 _ kw_1238) dX11_makeCell_182 ?_
        refine lv_iload X.1 X.2.1 dX11_makeCell_185 (lv_at hl 4 rfl) ?_
        refine lv_i2l X.1 X.2.1 dX11_makeCell_187 rfl ?_
        refine lv_ladd X.1 X.2.1 dX11_makeCell_188 ?_
        refine mx_cv M (mx_runV (n := 2) (As := [.int (ma σ11 13 (Int32.toNatClampNeg x1)), .long ((1099511627776 : Int64) + (Int32.toInt64 x4))]) (rest := []) X M (c_X11_set l T B μ0 o A σ11 (ma σ11 13 (Int32.toNatClampNeg x1)) ((1099511627776 : Int64) + (Int32.toInt64 x4)) _ hw) (mm_recv X M) kw_1222 kw_1224 kw_42 kw_74 kw_1225 (by decide +kernel) rfl rfl ⟨Nat.le_of_ble_eq_true rfl, Nat.le_of_ble_eq_true rfl⟩ rfl hl.1 (Nat.le_of_ble_eq_true rfl) dX11_makeCell_189 ⟨by decide, by decide⟩) (fun σ12 H locs hw M => ?_)
        exact mx_vret X hr hk M dX11_makeCell_192 (by decide) (by decide) hw
    · have hw := hwf hq
      refine lv_aload_n X.1 X.2.1 dX11_makeCell_95 rfl (lv_at hl 0 rfl) ?_
      refine mm_geta X M 23 (by decide) rfl (by decide) kw_988 dX11_makeCell_96 ?_
      refine lv_aload_n X.1 X.2.1 dX11_makeCell_99 rfl (lv_at hl 0 rfl) ?_
      refine mm_geti X M 24 (by decide) rfl kw_989 dX11_makeCell_100 ?_
      refine lv_iload X.1 X.2.1 dX11_makeCell_103 (lv_at hl 5 rfl) ?_
      refine lv_iadd X.1 X.2.1 dX11_makeCell_105 ?_
      refine lv_aload_n X.1 X.2.1 dX11_makeCell_106 rfl (lv_at hl 0 rfl) ?_
      refine lv_aload_n X.1 X.2.1 dX11_makeCell_107 rfl (lv_at hl 0 rfl) ?_
      refine mm_geta X M 18 (by decide) rfl (by decide) kw_983 dX11_makeCell_108 ?_
      refine lv_bipush (v := 10) X.1 X.2.1 dX11_makeCell_111 (by decide) ?_
      refine lv_iload_n X.1 X.2.1 dX11_makeCell_113 rfl (lv_at hl 1 rfl) ?_
      refine lv_imul X.1 X.2.1 dX11_makeCell_114 ?_
      refine lv_iload X.1 X.2.1 dX11_makeCell_115 (lv_at hl 5 rfl) ?_
      refine lv_iadd X.1 X.2.1 dX11_makeCell_117 ?_
      obtain ⟨hi, hw⟩ := hw
      refine mm_ald X M 18 rfl dX11_makeCell_118 hi ?_
      refine mx_cl M (mx_runV (n := 1) (As := [.int (ma σ 18 (Int32.toNatClampNeg (((10 : Int32) * x1) + x5)))]) (rest := [.int ((mi σ 24) + x5), .ref (A 23)]) X M (c_X11_get l T B μ0 o A σ (ma σ 18 (Int32.toNatClampNeg (((10 : Int32) * x1) + x5))) _ hw) (mm_recv X M) kw_1230 kw_1232 kw_44 kw_74 kw_1233 (by decide +kernel) rfl rfl ⟨Nat.le_of_ble_eq_true rfl, Nat.le_of_ble_eq_true rfl⟩ rfl hl.1 (Nat.le_of_ble_eq_true rfl) dX11_makeCell_119 ⟨by decide, by decide⟩) (fun r14 σ13 H locs hw M => ?_)
      obtain ⟨hi, hw⟩ := hw
      refine mm_jst X M 23 rfl dX11_makeCell_122 hi (fun σ15 H locs eσ15 M => ?_)
      replace hw := hw σ15 eσ15
      obtain ⟨v16, ev16⟩ : ∃ y : Int32, y = x5 + 1 := ⟨_, rfl⟩
      replace hw := hw v16 ev16
      refine lv_iinc (v := v16) (lv' := [(5, .int v16), (0, .ref o), (1, .int x1), (2, .int x2), (3, .int x3), (4, .int x4)]) X.1 X.2.1 dX11_makeCell_123 hl (k := 5) rfl (by rw [ev16]; rfl) (by decide) rfl (fun ls hl => ?_)
      refine lv_goto (tgt := 89) X.1 X.2.1 dX11_makeCell_126 (by decide) ?_
      exact ih σ15 x1 x2 x3 x4 v16 _ _ _ hw M (lv_sub hl [1, 2, 3, 4, 5, 0] rfl)
set_option maxRecDepth 100000 in
set_option maxHeartbeats 4000000 in
theorem b_X11_makeCell_18 {T : Tb} {B : Nat} {p : Program} {l : Launch} {e : Env} {s : State} {m : MethodId} {args : Array Value} {below : List Frame} {meth : Method} {c0 : Code} {post : MSt → Prop} {μ0 : Mem} {o : Nat} {A : Nat → Nat} (X : CX T B p m c0 cX11_makeCell 6 s args RX11) (hr : meth.sig.returnType = none) (hk : meth.locks = false) : ∀ (σ : MSt) (x1 : Int32) (x2 : Int32) (t0 : Int32) (H : Heap) (locs : List Loc) (ls : Array Slot), wp_X11_makeCell_18 post σ x1 x2 t0 → MG (WM T B μ0 o A) B s σ H locs → lv_has ls 6 [(0, .ref o), (1, .int x1), (2, .int x2)] → W p l e rm_X11_makeCell s m args below meth c0 H locs 0 0 (MQ below (va_Qv post (Bm (WM T B μ0 o A)) (Ai B)) args s 0 0 (Ai B)) (F0 m 18 ls [.int t0]) := by
  intro σ x1 x2 t0 H locs ls hw M hl
  unfold wp_X11_makeCell_18 at hw
  refine lv_istore_n (lv' := [(3, .int t0), (0, .ref o), (1, .int x1), (2, .int x2)]) X.1 X.2.1 dX11_makeCell_18 rfl hl (by decide) rfl (fun ls hl => ?_)
  refine lv_aload_n X.1 X.2.1 dX11_makeCell_19 rfl (lv_at hl 1 rfl) ?_
  refine mm_geti X M 25 (by decide) rfl kw_990 dX11_makeCell_20 ?_
  refine lv_iload_n X.1 X.2.1 dX11_makeCell_23 rfl (lv_at hl 0 rfl) ?_
  refine lv_iadd X.1 X.2.1 dX11_makeCell_24 ?_
  refine lv_aload_n X.1 X.2.1 dX11_makeCell_25 rfl (lv_at hl 1 rfl) ?_
  refine mm_geti X M 52 (by decide) rfl kw_1017 dX11_makeCell_26 ?_
  obtain ⟨hwt, hwf⟩ := hw
  refine lv_icmp_le (tgt := 38) X.1 X.2.1 dX11_makeCell_29 (by decide) (fun hq => ?_) (fun hq => ?_)
  · have hw := hwt hq
    refine lv_aload_n X.1 X.2.1 dX11_makeCell_38 rfl (lv_at hl 1 rfl) ?_
    refine mm_geti X M 19 (by decide) rfl kw_984 dX11_makeCell_39 ?_
    refine lv_topi (fun v2 ev2 => ?_)
    replace hw := hw v2 ev2
    refine lv_istore (lv' := [(4, .int v2), (3, .int t0), (0, .ref o), (1, .int x1), (2, .int x2)]) X.1 X.2.1 dX11_makeCell_42 hl (by decide) rfl (fun ls hl => ?_)
    refine lv_aload_n X.1 X.2.1 dX11_makeCell_44 rfl (lv_at hl 2 rfl) ?_
    refine lv_dup X.1 X.2.1 dX11_makeCell_45 rfl ?_
    refine mm_geti X M 19 (by decide) rfl kw_984 dX11_makeCell_46 ?_
    refine lv_iconst (v := 1) X.1 X.2.1 dX11_makeCell_49 (by decide) ?_
    refine lv_iadd X.1 X.2.1 dX11_makeCell_50 ?_
    refine mm_puti X M 19 (by decide) rfl kw_984 rfl dX11_makeCell_51 rfl rfl (fun σ3 H locs eσ3 M => ?_)
    replace hw := hw σ3 eσ3
    refine lv_aload_n X.1 X.2.1 dX11_makeCell_54 rfl (lv_at hl 2 rfl) ?_
    refine mm_geta X M 20 (by decide) rfl (by decide) kw_985 dX11_makeCell_55 ?_
    refine lv_iload X.1 X.2.1 dX11_makeCell_58 (lv_at hl 0 rfl) ?_
    refine lv_aload_n X.1 X.2.1 dX11_makeCell_60 rfl (lv_at hl 2 rfl) ?_
    refine mm_geta X M 14 (by decide) rfl (by decide) kw_979 dX11_makeCell_61 ?_
    refine lv_iload_n X.1 X.2.1 dX11_makeCell_64 rfl (lv_at hl 3 rfl) ?_
    obtain ⟨hi, hw⟩ := hw
    refine mm_ald X M 14 rfl dX11_makeCell_65 hi ?_
    obtain ⟨hi, hw⟩ := hw
    refine mm_ast X M 20 rfl dX11_makeCell_66 hi (fun σ4 H locs eσ4 M => ?_)
    replace hw := hw σ4 eσ4
    refine lv_aload_n X.1 X.2.1 dX11_makeCell_67 rfl (lv_at hl 2 rfl) ?_
    refine mm_geta X M 21 (by decide) rfl (by decide) kw_986 dX11_makeCell_68 ?_
    refine lv_iload X.1 X.2.1 dX11_makeCell_71 (lv_at hl 0 rfl) ?_
    refine lv_iload_n X.1 X.2.1 dX11_makeCell_73 rfl (lv_at hl 4 rfl) ?_
    obtain ⟨hi, hw⟩ := hw
    refine mm_ast X M 21 rfl dX11_makeCell_74 hi (fun σ5 H locs eσ5 M => ?_)
    replace hw := hw σ5 eσ5
    refine lv_aload_n X.1 X.2.1 dX11_makeCell_75 rfl (lv_at hl 2 rfl) ?_
    refine mm_geta X M 22 (by decide) rfl (by decide) kw_987 dX11_makeCell_76 ?_
    refine lv_iload X.1 X.2.1 dX11_makeCell_79 (lv_at hl 0 rfl) ?_
    refine lv_aload_n X.1 X.2.1 dX11_makeCell_81 rfl (lv_at hl 2 rfl) ?_
    refine mm_geti X M 24 (by decide) rfl kw_989 dX11_makeCell_82 ?_
    obtain ⟨hi, hw⟩ := hw
    refine mm_ast X M 22 rfl dX11_makeCell_85 hi (fun σ6 H locs eσ6 M => ?_)
    replace hw := hw σ6 eσ6
    refine lv_iconst (v := 0) X.1 X.2.1 dX11_makeCell_86 (by decide) ?_
    refine lv_istore (lv' := [(5, .int 0), (4, .int v2), (3, .int t0), (0, .ref o), (1, .int x1), (2, .int x2)]) X.1 X.2.1 dX11_makeCell_87 hl (by decide) rfl (fun ls hl => ?_)
    obtain ⟨n17, hw⟩ := hw
    exact b_X11_makeCell_89 X hr hk n17 σ6 x1 x2 t0 v2 0 _ _ _ hw M (lv_sub hl [3, 4, 5, 2, 1, 0] rfl)
  · have hw := hwf hq
    refine lv_aload_n X.1 X.2.1 dX11_makeCell_32 rfl (lv_at hl 1 rfl) ?_
    refine lv_iconst (v := 5) X.1 X.2.1 dX11_makeCell_33 (by decide) ?_
    refine mm_puti X M 44 (by decide) rfl kw_1009 rfl dX11_makeCell_34 rfl rfl (fun σ18 H locs eσ18 M => ?_)
    replace hw := hw σ18 eσ18
    exact mx_vret X hr hk M dX11_makeCell_37 (by decide) (by decide) hw
set_option maxRecDepth 100000 in
set_option maxHeartbeats 4000000 in
theorem c_X11_makeCell (l : Launch) (T : Tb) (B : Nat) (μ0 : Mem) (o : Nat) (A : Nat → Nat) (σ : MSt) (a1 : Int32) (post : MSt → Prop) (hw : wp_X11_makeCell σ a1 post) : Met l yX11_makeCell (.code yX11_makeCell cX11_makeCell 6 none :: G) rm_X11_makeCell (Pm (WM T B μ0 o A) T B σ [.ref o, .int a1]) (va_Qv post (Bm (WM T B μ0 o A)) (Ai B)) 0 0 (Ai B) := by
  refine mx_of RX11 rfl (by decide) (Nat.le_of_ble_eq_true rfl) ?_
  intro p e s m below meth c0 X hr hk hnm M ls hl
  have hl : lv_has ls 6 [(0, .ref o), (1, .int a1)] := hl
  unfold wp_X11_makeCell at hw
  refine lv_aload_n X.1 X.2.1 dX11_makeCell_0 rfl (lv_at hl 0 rfl) ?_
  refine mm_geta X M 17 (by decide) rfl (by decide) kw_982 dX11_makeCell_1 ?_
  refine lv_iload_n X.1 X.2.1 dX11_makeCell_4 rfl (lv_at hl 1 rfl) ?_
  obtain ⟨hi, hw⟩ := hw
  refine mm_ald X M 17 rfl dX11_makeCell_5 hi ?_
  refine lv_topi (fun v1 ev1 => ?_)
  replace hw := hw v1 ev1
  refine lv_istore_n (lv' := [(2, .int v1), (0, .ref o), (1, .int a1)]) X.1 X.2.1 dX11_makeCell_6 rfl hl (by decide) rfl (fun ls hl => ?_)
  refine lv_iload_n X.1 X.2.1 dX11_makeCell_7 rfl (lv_at hl 0 rfl) ?_
  obtain ⟨hwf, hwt⟩ := hw
  refine lv_if_ne (tgt := 15) X.1 X.2.1 dX11_makeCell_8 (by decide) (fun hq => ?_) (fun hq => ?_)
  · have hw := hwt hq
    refine lv_iload_n X.1 X.2.1 dX11_makeCell_15 rfl (lv_at hl 0 rfl) ?_
    refine lv_iconst (v := 1) X.1 X.2.1 dX11_makeCell_16 (by decide) ?_
    refine lv_iadd X.1 X.2.1 dX11_makeCell_17 ?_
    exact b_X11_makeCell_18 X hr hk σ a1 v1 (v1 + 1) _ _ _ hw M (lv_sub hl [1, 2, 0] rfl)
  · have hw := hwf hq
    refine lv_iconst (v := 0) X.1 X.2.1 dX11_makeCell_11 (by decide) ?_
    refine lv_goto (tgt := 18) X.1 X.2.1 dX11_makeCell_12 (by decide) ?_
    exact b_X11_makeCell_18 X hr hk σ a1 v1 0 _ _ _ hw M (lv_sub hl [1, 2, 0] rfl)
