/-! the law: its loop -/
theorem L_sub7 {i L : Nat} (hi : i ≤ 3600) (hL : L ≤ 3584) : ¬ Int32.ofNat L - 7 < nI i ↔ i + 7 ≤ L := by
  have e : (Int32.ofNat L - 7).toInt = (L : Int) - 7 := by
    rw [Int32.toInt_sub, show (Int32.ofNat L).toInt = (L : Int) from nI_toInt (by omega), show (7 : Int32).toInt = 7 by decide]
    apply Int.bmod_eq_of_le
    · omega
    · omega
  rw [Int32.lt_iff_toInt_lt, e, nI_toInt (by omega)]
  omega
section LOOP
variable {l : Launch} {T : Tb} {B : Nat} {p : Program} {e : Env} {s : State} {m : MethodId} {below : List Frame} {meth : Method} {c : Code} {b L : Nat} {xs : Nat → Int32} {x o ao : Nat} {M : Nat → Nat}
set_option maxRecDepth 100000 in
set_option maxHeartbeats 4000000 in
theorem law_loop (C : LCx l T B p m c s b L xs) (hrt : meth.sig.returnType = ret) (hlk : meth.locks = false) (hB : s.heap.size ≤ B) (hL : L ≤ 3584) :
    ∀ j i, L < i + 7 * j + 7 → i ≤ 3584 → ∀ (μ : Mem) (A : Ad) (nm : Nat → Nat × Nat) (S : Sp) (E tt : Nat → Nat) (σ : MSt) (H : Heap) (locs : List Loc) (cells slots : Nat) (ls : Array Slot), MS T B s μ H locs → LW μ A nm S E tt x o ao M σ → Rk cells slots E j → lv_has ls 7 [(0, .ref b), (1, .ref x), (2, .ref o), (3, .ref ao), (4, .int (nI i))] → W p l e room_1 s m #[Value.ref b] below meth c H locs cells slots (lw_Z below #[Value.ref b] s) (F0 m 23 ls []) := by
  obtain ⟨X, hX, hbl, hbA, hst, hTX⟩ := id C
  have quit : ∀ (μ : Mem) (A : Ad) (nm : Nat → Nat × Nat) (S : Sp) (E tt : Nat → Nat) (σ : MSt) (H : Heap) (locs : List Loc) (cells slots : Nat) (ls : Array Slot) (j : Nat), MS T B s μ H locs → LW μ A nm S E tt x o ao M σ → Rk cells slots E j → W p l e room_1 s m #[Value.ref b] below meth c H locs cells slots (lw_Z below #[Value.ref b] s) (F0 m 481 ls []) := by
    intro μ A nm S E tt σ H locs cells slots ls j MM h hr
    have hb := h.bd
    refine lv_iconst (v := 1) X.1 X.2.1 dL_law_481 (by decide) ?_
    refine va_forget (fun q hq => Nat.le_trans hB (MM.2.2.2.2 q hq)) ?_
    refine W.widen (k := 601024) (n := 7293034) (by have := hr.1; omega) (by have := hr.2; omega) ?_
    exact lw_ret X.1 X.2.1 hrt hlk dL_law_482
  intro j
  induction j with
  | zero =>
    intro i hj hi μ A nm S E tt σ H locs cells slots ls MM h hr hl
    refine lv_iload X.1 X.2.1 dL_law_23 (lv_at hl 4 rfl) ?_
    refine lv_aload_n X.1 X.2.1 dL_law_25 rfl (lv_at hl 0 rfl) ?_
    refine va_slen X.1 X.2.1 hX hbl hbA MM.2.2 dL_law_26 ?_
    refine lv_bipush (v := 7) X.1 X.2.1 dL_law_27 (by decide) ?_
    refine lv_isub X.1 X.2.1 dL_law_29 ?_
    refine lv_icmp_gt (tgt := 481) X.1 X.2.1 dL_law_30 (by decide) (fun _ => ?_) (fun z => ?_)
    · exact quit μ A nm S E tt σ H locs cells slots ls 0 MM h hr
    · have := (L_sub7 (by omega) hL).mp z
      omega
  | succ j ih =>
    intro i hj hi μ A nm S E tt σ H locs cells slots ls MM h hr hl
    refine lv_iload X.1 X.2.1 dL_law_23 (lv_at hl 4 rfl) ?_
    refine lv_aload_n X.1 X.2.1 dL_law_25 rfl (lv_at hl 0 rfl) ?_
    refine va_slen X.1 X.2.1 hX hbl hbA MM.2.2 dL_law_26 ?_
    refine lv_bipush (v := 7) X.1 X.2.1 dL_law_27 (by decide) ?_
    refine lv_isub X.1 X.2.1 dL_law_29 ?_
    refine lv_icmp_gt (tgt := 481) X.1 X.2.1 dL_law_30 (by decide) (fun _ => ?_) (fun z => ?_)
    · exact quit μ A nm S E tt σ H locs cells slots ls _ MM h hr
    have hi7 : i + 7 ≤ L := (L_sub7 (by omega) hL).mp z
    have K : KT l T B p e s m below meth c b x o ao M i j := by
      intro μ' A' nm' S' E' tt' σ' H' locs' cells' slots' ls' MM' h' hr' hl'
      refine lv_iinc (v := nI (i + 7)) (lv' := [(4, .int (nI (i + 7))), (0, .ref b), (1, .ref x), (2, .ref o), (3, .ref ao)]) X.1 X.2.1 dL_law_475 hl' (k := 4) rfl (by rw [show Int32.ofInt 7 = nI 7 from rfl, nI_add]) (by decide) rfl (fun ls9 hl9 => ?_)
      refine lv_goto (tgt := 23) X.1 X.2.1 dL_law_478 (by decide) ?_
      exact ih (i + 7) (by omega) (by omega) μ' A' nm' S' E' tt' σ' H' locs' cells' slots' ls9 MM' h' hr' (lv_sub hl9 [1, 2, 3, 4, 0] rfl)
    refine lv_aload_n X.1 X.2.1 dL_law_33 rfl (lv_at hl 0 rfl) ?_
    refine lv_iload X.1 X.2.1 dL_law_34 (lv_at hl 4 rfl) ?_
    refine va_sld X.1 X.2.1 hX hbl hbA MM.2.2 (vp_in_nI (by omega) (by omega)) dL_law_36 ?_
    refine lv_bipush (v := 15) X.1 X.2.1 dL_law_37 (by decide) ?_
    refine lv_iand X.1 X.2.1 dL_law_39 ?_
    generalize (xs (nI i).toNatClampNeg &&& 15) = v
    by_cases q_0 : v = 0
    · refine lv_tableIn (off := 52) (tgt := 92) X.1 X.2.1 dL_law_40 (by rw [q_0]; decide) (by rw [q_0]; decide) (by rw [q_0]; rfl) (by decide) ?_
      exact law_put C hi7 hL K MM h hr hl
    by_cases q_1 : v = 1
    · refine lv_tableIn (off := 77) (tgt := 117) X.1 X.2.1 dL_law_40 (by rw [q_1]; decide) (by rw [q_1]; decide) (by rw [q_1]; rfl) (by decide) ?_
      exact law_procedure C hi7 hL K MM h hr hl
    by_cases q_2 : v = 2
    · refine lv_tableIn (off := 142) (tgt := 182) X.1 X.2.1 dL_law_40 (by rw [q_2]; decide) (by rw [q_2]; decide) (by rw [q_2]; rfl) (by decide) ?_
      exact law_add C hi7 hL K MM h hr hl
    by_cases q_3 : v = 3
    · refine lv_tableIn (off := 229) (tgt := 269) X.1 X.2.1 dL_law_40 (by rw [q_3]; decide) (by rw [q_3]; decide) (by rw [q_3]; rfl) (by decide) ?_
      exact law_begin C hi7 hL K MM h hr hl
    by_cases q_4 : v = 4
    · refine lv_tableIn (off := 278) (tgt := 318) X.1 X.2.1 dL_law_40 (by rw [q_4]; decide) (by rw [q_4]; decide) (by rw [q_4]; rfl) (by decide) ?_
      exact law_run C hi7 hL K MM h hr hl
    by_cases q_5 : v = 5
    · refine lv_tableIn (off := 303) (tgt := 343) X.1 X.2.1 dL_law_40 (by rw [q_5]; decide) (by rw [q_5]; decide) (by rw [q_5]; rfl) (by decide) ?_
      exact law_told C hi7 hL K MM h hr hl
    by_cases q_6 : v = 6
    · refine lv_tableIn (off := 328) (tgt := 368) X.1 X.2.1 dL_law_40 (by rw [q_6]; decide) (by rw [q_6]; decide) (by rw [q_6]; rfl) (by decide) ?_
      exact law_tell C hi7 hL K MM h hr hl
    by_cases q_7 : v = 7
    · refine lv_tableIn (off := 384) (tgt := 424) X.1 X.2.1 dL_law_40 (by rw [q_7]; decide) (by rw [q_7]; decide) (by rw [q_7]; rfl) (by decide) ?_
      exact law_letter C hi7 hL K MM h hr hl
    by_cases q_8 : v = 8
    · refine lv_tableIn (off := 409) (tgt := 449) X.1 X.2.1 dL_law_40 (by rw [q_8]; decide) (by rw [q_8]; decide) (by rw [q_8]; rfl) (by decide) ?_
      exact law_slot C hi7 hL K MM h hr hl
    have g_0 := lv_neT q_0 (by decide : (0 : Int32).toInt = 0)
    have g_1 := lv_neT q_1 (by decide : (1 : Int32).toInt = 1)
    have g_2 := lv_neT q_2 (by decide : (2 : Int32).toInt = 2)
    have g_3 := lv_neT q_3 (by decide : (3 : Int32).toInt = 3)
    have g_4 := lv_neT q_4 (by decide : (4 : Int32).toInt = 4)
    have g_5 := lv_neT q_5 (by decide : (5 : Int32).toInt = 5)
    have g_6 := lv_neT q_6 (by decide : (6 : Int32).toInt = 6)
    have g_7 := lv_neT q_7 (by decide : (7 : Int32).toInt = 7)
    have g_8 := lv_neT q_8 (by decide : (8 : Int32).toInt = 8)
    refine lv_tableOut (tgt := 475) X.1 X.2.1 dL_law_40 (by omega) (by decide) ?_
    have hr0 : Rk cells slots E j := ⟨by have := hr.1; omega, by have := hr.2; omega⟩
    exact K μ A nm S E tt σ H locs cells slots ls MM h hr0 hl
end LOOP
