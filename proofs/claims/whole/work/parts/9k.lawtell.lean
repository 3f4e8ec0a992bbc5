/-! the law: tell -/
section LAWT
variable {l : Launch} {T : Tb} {B : Nat} {p : Program} {e : Env} {s : State} {m : MethodId} {below : List Frame} {meth : Method} {c : Code} {b L : Nat} {xs : Nat → Int32} {x o ao : Nat} {M : Nat → Nat} {i j : Nat}
variable {μ : Mem} {A : Ad} {nm : Nat → Nat × Nat} {S : Sp} {E tt : Nat → Nat} {σ : MSt} {H : Heap} {locs : List Loc} {cells slots : Nat} {ls : Array Slot}
theorem lt_good : GoodIn G (va_wsS RL 47 yL_tell (Cond.codeWith yL_tell cL_tell 4 (some .int) lvH :: G)) := fun v hv => by
  have hm : v ∈ G := by
    rcases List.mem_append.mp hv with h | h
    · rcases List.mem_cons.mp h with e | h
      · rw [e]; exact lk_tell1
      rcases List.mem_cons.mp h with e | h
      · rw [e]; exact lk_tell2
      rcases List.mem_cons.mp h with e | h
      · rw [e]; exact lk_tell4
      · exact absurd h (by simp)
    · rcases List.mem_cons.mp h with e | h
      · rw [e]; exact lt_w8
      · exact h
  exact ⟨hm, good_of_word (List.mem_filter.mp hm).2⟩
set_option maxRecDepth 100000 in
set_option maxHeartbeats 4000000 in
theorem law_tell (C : LCx l T B p m c s b L xs) (hi : i + 7 ≤ L) (hL : L ≤ 3584) (K : KT l T B p e s m below meth c b x o ao M i j) (MM : MS T B s μ H locs) (h : LW μ A nm S E tt x o ao M σ) (hr : Rk cells slots E (j + 1)) (hl : lv_has ls 7 [(0, .ref b), (1, .ref x), (2, .ref o), (3, .ref ao), (4, .int (nI i))]) : W p l e room_1 s m #[Value.ref b] below meth c H locs cells slots (lw_Z below #[Value.ref b] s) (F0 m 368 ls []) := by
  obtain ⟨X, hX, hbl, hbA, hst, hTX⟩ := C
  obtain ⟨S', E', tt', r0, c0, z0, w1, w2, rt, hno⟩ := l_tell h (xs (nI i + nI 1).toNatClampNeg)
  obtain ⟨⟨rc, rz⟩, rk⟩ := hr.step rt
  have kx : kd μ x = 12 := by rw [← h.2.1]; exact h.1.2.1.1
  have hao := h.2.2.2.2.2.1
  obtain ⟨k, ek⟩ : ∃ k, k = xs (nI i + nI 1).toNatClampNeg := ⟨_, rfl⟩
  rw [← ek] at w1 w2 hno
  have hw := w1 (fun r μ1 => al μ1 ao = 1 ∧ (fun (r : Int32) (u : Mem) => (∃ A1 nm1, PW u A1 nm1 S' E' tt' x o ao M σ) ∧ ((r = 0 ∧ okTel S k ∧ aj u ao 0 = r0.toInt64) ∨ (r = 1 ∧ ¬ okTel S k))) 0 (saj μ1 ao 0 r.toInt64)) (fun μ1 => (fun (r : Int32) (u : Mem) => (∃ A1 nm1, PW u A1 nm1 S' E' tt' x o ao M σ) ∧ ((r = 0 ∧ okTel S k ∧ aj u ao 0 = r0.toInt64) ∨ (r = 1 ∧ ¬ okTel S k))) 1 μ1)
    (fun ok μ' A' nm' P' => ⟨P'.2.2.2.2.1.2.1, ⟨A', nm', P'.out⟩, Or.inl ⟨rfl, ok, by rw [aj_saj, if_pos ⟨rfl, rfl⟩]⟩⟩) (fun n => ⟨⟨A, nm, hno n⟩, Or.inr ⟨rfl, n⟩⟩)
  refine lv_aload_n X.1 X.2.1 dL_law_368 rfl (lv_at hl 1 rfl) ?_
  refine lv_aload_n X.1 X.2.1 dL_law_369 rfl (lv_at hl 0 rfl) ?_
  refine lv_iload X.1 X.2.1 dL_law_370 (lv_at hl 4 rfl) ?_
  refine lv_iconst (v := nI 1) X.1 X.2.1 dL_law_372 (by decide) ?_
  refine lv_iadd X.1 X.2.1 dL_law_373 ?_
  refine va_sld X.1 X.2.1 hX hbl hbA MM.2.2 (in_k 1 (by decide) hi hL) dL_law_374 ?_
  rw [← ek]
  refine lv_aload_n X.1 X.2.1 dL_law_375 rfl (lv_at hl 3 rfl) ?_
  have hrun : vx_Run p l e room_1 s m #[Value.ref b] below meth c H locs cells slots c0 z0 (F0 m 376 ls ([Value.ref x, .int k, .ref ao].reverse ++ [])) [] (va_Qi (fun (r : Int32) (u : Mem) => (∃ A1 nm1, PW u A1 nm1 S' E' tt' x o ao M σ) ∧ ((r = 0 ∧ okTel S k ∧ aj u ao 0 = r0.toInt64) ∨ (r = 1 ∧ ¬ okTel S k))) (Bm (Rl T B)) (Ai B) [Value.ref x, .int k, .ref ao].toArray) (vx_X (S := Mem) (fun _ => False) (fun _ _ _ => True) (Ai B)) (Ai B) := by
    obtain ⟨hx, hb', hml', hown', hts', -⟩ := id X
    exact vx_runSX (hh := lvH) (rm := { frames := 10, cells := c0, slots := z0, locals := 240 }) ⟨hx, hb', hml', hown', hts'⟩ (c_L_tell l hst T B c0 z0 μ x ao k _ ⟨hao.1, hao.2.1⟩ kx hw) (vx_cwSW (ws' := G) 3 hts' lt_good rfl rfl rfl (by decide +kernel) ⟨Nat.le_of_ble_eq_true rfl, Nat.le_of_ble_eq_true rfl⟩) ⟨Px.blind, Px.pre X hTX MM⟩ rfl rfl hl.1 rfl (lv_room (Nat.le_of_ble_eq_true rfl)) dL_law_376 ⟨rc, rz⟩
  refine vx_calli hrun MM.2.2 (fun _ _ h => h) (fun _ h => h) (fun _ _ h => h) (fun E ce q9 u t H1 locs1 ht _ hp _ _ _ _ _ _ _ => hp.elim) (fun r u t H1 locs1 ht _ hp hB1 _ _ hS => ?_)
  have M1 : MS T B s u H1 locs1 := ⟨by rw [← ht]; exact hB1, MM.2.1, hS⟩
  obtain ⟨⟨A1, nm1, P1⟩, hcase⟩ := hp
  have WM1 := P1.wm M1
  refine lv_istore (lv' := [(5, .int r), (0, .ref b), (1, .ref x), (2, .ref o), (3, .ref ao), (4, .int (nI i))]) X.1 X.2.1 dL_law_379 hl (by decide) rfl (fun ls hl => ?_)
  refine lv_aload_n X.1 X.2.1 dL_law_381 rfl (lv_at hl 3 rfl) ?_
  refine lv_aload_n X.1 X.2.1 dL_law_382 rfl (lv_at hl 1 rfl) ?_
  refine lv_iload X.1 X.2.1 dL_law_383 (lv_at hl 5 rfl) ?_
  refine lv_iconst (v := nI 1) X.1 X.2.1 dL_law_385 (by decide) ?_
  refine lv_iadd X.1 X.2.1 dL_law_386 ?_
  refine va_sld X.1 X.2.1 hX hbl hbA M1.2.2 (in_k 1 (by decide) hi hL) dL_law_387 ?_
  rw [← ek]
  refine mx_ci WM1 (mx_runV (n := 1) (As := [.int k]) (rest := []) X WM1 (c_X11_tell l T B u o M σ _ _ w2) (mm_recv X WM1) lk_mtell1 lk_mtell2 lk_mtell3 lk_ini11 lk_mtell5 (by decide +kernel) rfl rfl ⟨Nat.le_of_ble_eq_true rfl, Nat.le_of_ble_eq_true rfl⟩ rfl hl.1 (Nat.le_of_ble_eq_true rfl) dL_law_388 ⟨rc, rz⟩) (fun r2 σ2 H2 locs2 hq2 M2 => ?_)
  obtain ⟨R2, hc2⟩ := hq2
  refine lv_istore (lv' := [(6, .int r2), (5, .int r), (0, .ref b), (1, .ref x), (2, .ref o), (3, .ref ao), (4, .int (nI i))]) X.1 X.2.1 dL_law_391 hl (by decide) rfl (fun ls hl => ?_)
  refine lv_aload_n X.1 X.2.1 dL_law_393 rfl (lv_at hl 4 rfl) ?_
  refine mx_ci M2 (mx_runV (n := 0) (As := []) (rest := []) X M2 (c_X11_thrown l T B u o M σ2 (fun r9 σ9 => r9 = mi σ2 0 ∧ σ9 = σ2) ⟨rfl, rfl⟩) (mm_recv X M2) lk_mthrown1 lk_mthrown2 lk_mthrown3 lk_ini11 lk_mthrown5 (by decide +kernel) rfl rfl ⟨Nat.le_of_ble_eq_true rfl, Nat.le_of_ble_eq_true rfl⟩ rfl hl.1 (Nat.le_of_ble_eq_true rfl) dL_law_394 ⟨rc, rz⟩) (fun r3 σ3 H3 locs3 hq3 M3 => ?_)
  obtain ⟨e3, rfl⟩ := hq3
  obtain ⟨⟨μ3, m1, m2, m3, m4⟩, m5⟩ := M3
  obtain ⟨LW3, hj3⟩ := P1.lw m2 m3 m4 R2
  have hl0 := lv_sub (l' := [(0, .ref b), (1, .ref x), (2, .ref o), (3, .ref ao), (4, .int (nI i))]) hl [2, 3, 4, 5, 6] rfl
  have fin := K μ3 A1 nm1 S' E' tt' σ3 H3 locs3 (cells + c0) (slots + z0) ls ⟨m1, m5⟩ LW3 (rk P1.1.1.2.2.2.2.1) hl0
  refine lv_iload X.1 X.2.1 dL_law_397 (lv_at hl 1 rfl) ?_
  refine lv_icmp_eq (tgt := 404) X.1 X.2.1 dL_law_399 (by decide) (fun _ => ?_) (fun z => ?_)
  · refine lv_iload X.1 X.2.1 dL_law_404 (lv_at hl 1 rfl) ?_
    refine lv_if_ne (tgt := 421) X.1 X.2.1 dL_law_406 (by decide) (fun _ => ?_) (fun z => ?_)
    · exact lv_goto (tgt := 475) X.1 X.2.1 dL_law_421 (by decide) fin
    · obtain ⟨ok, ej⟩ : okTel S k ∧ aj u ao 0 = r0.toInt64 := by
        rcases hcase with q | q
        · exact q.2
        · exact absurd (z.symm.trans q.1) (by decide)
      have e2 : r2 = r0 := by
        rcases hc2 with q | q
        · exact q.2.1
        · exact absurd ok q.1
      refine lv_aload_n X.1 X.2.1 dL_law_409 rfl (lv_at hl 5 rfl) ?_
      refine lv_iconst (v := 0) X.1 X.2.1 dL_law_410 (by decide) ?_
      refine mx_jld (i := 0) X ⟨m1, m5⟩ dL_law_411 LW3.2.2.2.2.2.1.1 (by rw [LW3.2.2.2.2.2.1.2.1]; exact vp_in_nI (by decide) (by decide)) ?_
      refine lv_iload X.1 X.2.1 dL_law_412 (lv_at hl 0 rfl) ?_
      refine lv_i2l X.1 X.2.1 dL_law_414 rfl ?_
      refine W.lcmp X.1 X.2.1 dL_law_415 ?_
      refine lv_if_eq (tgt := 421) X.1 X.2.1 dL_law_416 (by decide) (fun _ => ?_) (fun z => ?_)
      · exact lv_goto (tgt := 475) X.1 X.2.1 dL_law_421 (by decide) fin
      · refine absurd ?_ z
        have : aj μ3 ao (Int32.toNatClampNeg 0) = r2.toInt64 := (hj3 0).trans (by rw [ej, e2])
        rw [this]; exact cmp_rf _
  · refine absurd ?_ z
    rw [e3]
    rcases hcase with q | q
    · rcases hc2 with q2 | q2
      · rw [q.1, q2.2.2]
      · exact absurd q.2.1 q2.1
    · rcases hc2 with q2 | q2
      · exact absurd q2.1 q.2
      · rw [q.1, q2.2]
end LAWT
