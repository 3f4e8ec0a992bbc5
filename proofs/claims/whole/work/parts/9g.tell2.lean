/-! the class's tell, purely; the law's own tell -/
theorem okTel_v {S : Sp} {k : Int32} (hW : WF S) (hk : okTel S k) : okV (s0 S 3) (sv S 0 (s2 S 0 (s1 S 10 0) k.toNatClampNeg)) := by
  obtain ⟨h2, k0, k1⟩ := hk
  have hl : live S := Or.inr h2
  have hnf : 0 < s0 S 6 := by have := hW.2.2.1.2.2.1 hl; omega
  have hb0 := hW.2.2.1.1
  obtain ⟨b1, b2, -⟩ := hW.2.2.1.2.2.2 0 hnf
  obtain ⟨-, sl1, sl2, -, p5, -, -, p8, -⟩ := hW.1.2.2.1 _ b1
  obtain ⟨j, hj, ej⟩ := nI_of (Int32.not_lt.mpr k0)
  subst ej
  have hjl : j < s1 S 3 (s1 S 10 0) := by
    rw [Int32.lt_iff_toInt_lt, nI_toInt hj, nI_toInt (by omega)] at k1; omega
  have hsl := p8 j hjl
  have hbl := WF.bl hW.2.2.1 (i := 1) (j := s0 S 6) hnf (Nat.le_refl _)
  rw [nI_clamp hj]
  refine hW.2.2.2.2.1 _ ?_
  have : s1 S 11 1 = s1 S 11 0 + s1 S 1 (s1 S 10 0) := b2
  omega
theorem x_mtell {nm : Nat → Nat × Nat} {μ : Mem} {A : Ad} {S : Sp} {E tt : Nat → Nat} {k : Int32} {c z : Nat} {post : Int32 → Mem → Prop} {postX : Mem → Prop} (h : XX μ A nm S E tt) (hc : okTel S k → UC (tAll S (sv S 0 (s2 S 0 (s1 S 10 0) k.toNatClampNeg)) E).2.2.2 ≤ UC E + c ∨ 537396 ≤ UC E + c) (hz : okTel S k → UZ (tAll S (sv S 0 (s2 S 0 (s1 S 10 0) k.toNatClampNeg)) E).2.2.2 ≤ UZ E + z ∨ 1181512 ≤ UZ E + z) (hc1 : 1 ≤ c) (hz1 : 6 ≤ z)
    (hy : okTel S k → ∀ μ' A' nm', XX μ' A' nm' (sp_telS S k.toNatClampNeg) (tAll S (sv S 0 (s2 S 0 (s1 S 10 0) k.toNatClampNeg)) E).2.2.2 tt → A' 0 0 = A 0 0 → KP μ nm μ' nm' → post (nI (s0 (sp_telS S k.toNatClampNeg) 16)) μ')
    (hn : ¬ okTel S k → postX μ) : wp_X10_tell c z μ (A 0 0) k post postX := by
  obtain ⟨g1, g2, g3, g4, g5, g6, g7, -⟩ := id h.2.1
  obtain ⟨hN, hL, hK, hH, hP, hE⟩ := id h.1.1
  obtain ⟨l, m, u, hT, -, -⟩ := id h.2.2.1
  refine ⟨g1, A 0 1, g6, hE.1, x_hasOut h.1 (fun ok _ => nz1 ⟨A 0 4, g7, A 0 1, g6, hE.1, x_outValue h.1 ok fun _ => ⟨A 0 1, g6, hE.1, A 0 3, hE.2.2, hT.1, c, z, Nat.le_refl _, Nat.le_refl _, ?_⟩⟩) (fun no _ => nz0 ⟨hc1, hz1, hn no⟩)⟩
  exact x_mtext h (okTel_v h.1.2.2.1 ok) (hc ok) (hz ok) (fun μ' A' nm' X' e kp _ => hy ok μ' A' nm' X' e kp)
/-- the law's tell: 0 and the answer in the row, or 1 -/
abbrev lvH : List (Nat × Nat × Nat × Nat) := [(0, 9, 12, 13)]
theorem lw_in {w : Cond} (h : w ∈ lw_tbl) (g : goodWord w = true) : w ∈ G := List.mem_filter.mpr ⟨List.mem_append_left _ h, g⟩
theorem lt_w1 : Cond.methodLink RL 7 yX10_tell ∈ G := lw_in (by decide +kernel) (by decide +kernel)
theorem lt_w2 : Cond.instanceMethod yX10_tell ∈ G := lw_in (by decide +kernel) (by decide +kernel)
theorem lt_w3 : Cond.selects RX10 yX10_tell yX10_tell ∈ G := lw_in (by decide +kernel) (by decide +kernel)
theorem lt_w4 : Cond.initialized RX10 ∈ G := lw_in (by decide +kernel) (by decide +kernel)
theorem lt_w5 : Cond.code yX10_tell cX10_tell 2 (some .int) ∈ G := lw_in (by decide +kernel) (by decide +kernel)
theorem lt_w6 : Cond.classLink RL 13 vzE ∈ G := lw_in (by decide +kernel) (by decide +kernel)
theorem lt_w7 : Cond.castable vzE vzE ∈ NWl := List.mem_filter.mpr ⟨by decide +kernel, by decide +kernel⟩
theorem lt_w8 : Cond.codeWith yL_tell cL_tell 4 (some .int) lvH ∈ G := lw_in (by decide +kernel) (by decide +kernel)
set_option maxRecDepth 100000 in
set_option maxHeartbeats 4000000 in
theorem c_L_tell (l : Launch) (hst : l.stackTraces = false) (T : Tb) (B : Nat) (c z : Nat) (μ : Mem) (o b : Nat) (a1 : Int32) (post : Int32 → Mem → Prop) (hb : kd μ b = 103 ∧ al μ b = 1) (ho : kd μ o = 12)
    (hw : wp_X10_tell c z μ o a1 (fun r μ1 => al μ1 b = 1 ∧ post 0 (saj μ1 b 0 r.toInt64)) (fun μ1 => post 1 μ1)) :
    vx_Met l yL_tell (.codeWith yL_tell cL_tell 4 (some .int) lvH :: G) { frames := 10, cells := c, slots := z, locals := 240 } (Px T B μ [.ref o, .int a1, .ref b]) (va_Qi (fun r9 μ9 => post r9 μ9) (Bm (Rl T B)) (Ai B)) (vx_X (S := Mem) (fun _ => False) (fun _ _ _ => True) (Ai B)) c z (Ai B) := by
  refine vx_ofWH (cc := cL_tell) (maxL := 4) (ret := some .int) (hh := lvH) (by decide) rfl ?_
  intro p e s m args below meth c0 s₁ Y hml hv
  obtain ⟨rfl, hR, hB, hK, hF, hTX⟩ := hv
  have hts := atoms_spec (ws := Cond.codeWith yL_tell cL_tell 4 (some .int) lvH :: G) Y.pre
  have hown : s.vm.findClass RL = some m.cls := findClass_of_methodNamed Y.named
  have X : CX T B p m c0 cL_tell 4 s [Value.ref o, .int a1, .ref b].toArray RL := ⟨Y.exec, Y.bytes, hml, hown, fun w hw => hts w (List.mem_cons_of_mem _ hw), hK, hF⟩
  have hr := Y.returns
  have hk := Y.notSynchronized
  have M : MS T B s μ s.heap [] := ⟨hR, hB, va_S.rf⟩
  have htab := vx_table (x := yL_tell) Y (hts _ List.mem_cons_self)
  have hl := lv_entry [Value.ref o, .int a1, .ref b] (n := 4) (Nat.le_of_ble_eq_true rfl)
  rw [lg_entry_eq]
  generalize (lg_sl [Value.ref o, .int a1, .ref b] ++ List.replicate (4 - (lg_sl [Value.ref o, .int a1, .ref b]).length) Slot.unset).toArray = ls at hl ⊢
  have hl : lv_has ls 4 [(0, .ref o), (1, .int a1), (2, .ref b)] := hl
  refine lv_aload_n X.1 X.2.1 dL_tell_0 rfl (lv_at hl 2 rfl) ?_
  refine lv_iconst (v := 0) X.1 X.2.1 dL_tell_1 (by decide) ?_
  refine lv_aload_n X.1 X.2.1 dL_tell_2 rfl (lv_at hl 0 rfl) ?_
  refine lv_iload_n X.1 X.2.1 dL_tell_3 rfl (lv_at hl 1 rfl) ?_
  have hrun : vx_Run p l e { frames := 10, cells := c, slots := z, locals := 240 } s m [Value.ref o, .int a1, .ref b].toArray below meth c0 s.heap [] 0 0 c z (F0 m 4 ls ([Value.int a1].reverse ++ .ref o :: [.int 0, .ref b])) [.int 0, .ref b] (va_Qi (fun r9 μ9 => (al μ9 b = 1 ∧ post 0 (saj μ9 b 0 r9.toInt64)) ∧ KM μ μ9) (Bm (Rl T B)) (Ai B) (.ref o :: [.int a1]).toArray) (vx_X (fun μ9 => post 1 μ9 ∧ KM μ μ9) (fun E μ9 t => E = vzE ∧ Rl T B μ9 t.heap) (Ai B)) (Ai B) := by
    obtain ⟨hx, hb', hml', hown', hts', -⟩ := id X
    exact vx_runV (rm := rm_X10_tell c z) ⟨hx, hb', hml', hown', hts'⟩ (c_X10_tell l hst T B c z μ o a1 _ _ hw) ⟨callB_of 1 hts' (gG lt_w5) rfl rfl rfl (hts' _ lt_w4) (hts' _ lt_w1) (by decide +kernel) ⟨Nat.le_of_ble_eq_true rfl, Nat.le_of_ble_eq_true rfl⟩, hts' _ lt_w2, hts' _ lt_w3⟩ ⟨Px.blind, mx_recv (C := RX10) (F := TX10) (N := 6) (ci := 11) X M rfl (by decide) ho, Px.pre X hTX M⟩ rfl rfl hl.1 rfl (lv_room (Nat.le_of_ble_eq_true rfl)) dL_tell_4 ⟨by show 0 + c ≤ c; omega, by show 0 + z ≤ z; omega⟩
  refine vx_calli hrun M.2.2 (fun _ _ h => h) (fun _ h => h) (fun _ _ h => h) (fun E ce q9 u t H1 locs1 ht _ hp hB1 _ _ hS hce hcv hcl => ?_) (fun r u t H1 locs1 ht _ hp hB1 _ _ hS => ?_)
  · obtain ⟨rfl, hR1⟩ := hB1
    refine vz_catch (own := RL) (name := vzE) hown ⟨0, 9, 12, 13⟩ htab (by decide) (by decide) (X.2.2.2.2.1 _ lt_w6) (va_Nw.use rfl (X.2.2.2.2.2.1.2.1 _ lt_w7)) hce hcv hcl ?_
    refine lv_astore_n (lv' := [(3, .ref q9), (0, .ref o), (1, .int a1), (2, .ref b)]) X.1 X.2.1 dL_tell_12 rfl hl (by decide) rfl (fun ls hl => ?_)
    refine lv_iconst (v := 1) X.1 X.2.1 dL_tell_13 (by decide) ?_
    exact vx_ret (mx_iret X hr hk ⟨by rw [← ht]; exact hR1, hB, hS⟩ dL_tell_14 (by omega) (by omega) hp.1)
  · have M1 : MS T B s u H1 locs1 := ⟨by rw [← ht]; exact hB1, hB, hS⟩
    refine lv_i2l X.1 X.2.1 dL_tell_7 rfl ?_
    have kb : kd u b = 103 := hp.2.at hb.1
    refine mx_jst (i := 0) X M1 dL_tell_8 kb (by rw [hp.1.1]; exact vp_in_nI  (by decide) (by decide)) (fun H2 locs2 M2 => ?_)
    have M2 : MS T B s (saj u b 0 r.toInt64) H2 locs2 := M2
    refine lv_goto (tgt := 15) X.1 X.2.1 dL_tell_9 (by decide) ?_
    refine lv_iconst (v := 0) X.1 X.2.1 dL_tell_15 (by decide) ?_
    exact vx_ret (mx_iret X hr hk M2 dL_tell_16 (by omega) (by omega) hp.1.2)
