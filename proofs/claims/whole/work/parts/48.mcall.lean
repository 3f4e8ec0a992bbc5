/-! the reference takes a cell apart; calls; exits -/
theorem m_takeCell {σ : MSt} {S : Sp} {tb i : Nat} {post : MSt → Prop} (h : RMb σ S tb) (hl : live S) (htb : tb + 4 < 200000) (hi : i < s0 S 2) (hk : s1 S 5 i = 3) (ha : si S 1 i = nI (sa S 1 i)) (ha2 : sa S 1 i < s1 S 1 (s1 S 10 (s0 S 8))) (hn : s1 S 6 i ≤ 4) (hr : ∀ j, j < s1 S 6 i → s2 S 2 i j < s1 S 1 (s1 S 10 (s0 S 8))) (hv : okV (s0 S 3) (rdS S (sa S 1 i))) (hhas : hasV S (rdS S (sa S 1 i)) (si S 2 i) (nI (s1 S 6 i)))
    (hp : ∀ σ', RMb σ' (tkS S i (cix (rdS S (sa S 1 i))) (s1 S 6 i)) (tb + s1 S 6 i) → post σ') : wp_X11_takeCell σ (nI i) post := by
  obtain ⟨h1, h2, h3, h4, h5, h6⟩ := id h
  have hni : s0 S 2 ≤ 2000 := h2.2.2.2.1
  have hnc : s0 S 3 ≤ 20000 := h3.2.1
  obtain ⟨q1, q2, q3, q4, q5, q6, q7, q8, q9⟩ := h2.2.2.2.2.2 i hi
  have vi := vp_in_nI (n := i) (N := 2000) (by omega) (by decide)
  unfold wp_X11_takeCell
  rw [nI_clamp (show i < 2 ^ 31 by omega), q3, ha]
  refine ⟨vi, m_get' h4 h5.1 hl ha2 ⟨vi, vi, ?_⟩⟩
  rw [q4, q7]
  refine m_has h3 hv (fun _ => nz1 fun v5 e5 => ?_) (fun z => absurd hhas z)
  rcases hv with ⟨x, hx⟩ | ⟨c, hc, hx⟩
  · exact absurd (hx ▸ num_lt x) hhas.1
  · rw [hx, cell_ix] at e5
    subst e5
    have ec : cix (rdS S (sa S 1 i)) = c := by rw [hx]; exact cix_cell (by omega)
    have hm : s1 S 8 c = s1 S 6 i := by
      have := hhas.2.2
      rw [ec] at this
      rcases this with z | z
      · exact absurd z (nI_m1 (by omega))
      · have := (h3.2.2.2.2.2.2.1 c hc).2.2.2.1
        exact (nI_eq (by omega) (by omega)).mp z
    rw [ec] at hp
    exact ⟨_, m_take_loop hi hk hl htb hc hn hm hr hp (s1 S 6 i) 0 σ (Nat.zero_add _) h⟩
/-- a slot above all redo points' is written without the trail -/
theorem RM_free {σ : MSt} {S : Sp} {tb b : Nat} {v : Int64} (h : RMc σ S tb) (hb : ∀ i, i < s0 S 7 → s1 S 11 (s1 S 15 i) ≤ b) : RMc (sml σ 39 b v) (uv S 0 b v) tb := by
  obtain ⟨h1, h2, h3, h4, ⟨d0, tn, tt, d1, d2, d3, d4, d5⟩, h6⟩ := h
  refine ⟨h1, h2, h3, h4, ⟨fun k hk => ?_, tn, tt, d1, d2, d3, d4, fun i hi => ?_⟩, h6⟩
  · show (if 39 = 39 ∧ k = b then v else ml σ 39 k) = (if 0 = 0 ∧ k = b then v else sv S 0 k)
    by_cases e : k = b
    · simp [e]
    · simp [e]; exact d0 k hk
  · obtain ⟨b1, b2, b3⟩ := d5 i hi
    refine ⟨b1, b2, fun k hk => ?_⟩
    have hk : k < s1 S 11 (s1 S 15 i) := hk
    have := hb i hi
    rw [show sw (uv S 0 b v) 0 i k = sw S 0 i k from rfl, ← b3 k hk]
    refine undo_pt _ _ _ ?_
    show (if 39 = 39 ∧ k = b then v else ml σ 39 k) = ml σ 39 k
    rw [if_neg (by omega)]
def sp_callS (S : Sp) (i : Nat) : Sp :=
  if szS S + (2 + s1 S 1 (sa S 1 i)) ≤ s0 S 14 then u0 (u0 (wrL (sp_pushS S (sa S 1 i) (s0 S 8 + 1) (s0 S 9)) (fun k => s1 S 11 (s0 S 6) + k) (fun k T => sv T 0 (s1 S 11 (s0 S 8) + s2 S 2 i k)) (s1 S 2 (sa S 1 i))) 8 (s0 S 6)) 9 0 else u0 S 17 5
theorem m_call {σ : MSt} {S : Sp} {tb i : Nat} {post : MSt → Prop} (h : RMb σ S tb) (hl : live S) (hi : i < s0 S 2) (hk10 : s1 S 5 i = 10) (ha : si S 1 i = nI (sa S 1 i)) (ha2 : sa S 1 i < s0 S 1) (hn : s1 S 6 i = s1 S 2 (sa S 1 i) + s1 S 3 (sa S 1 i)) (hr : ∀ j, j < s1 S 6 i → s2 S 2 i j < s1 S 1 (s1 S 10 (s0 S 8)))
    (hp : ∀ σ', RMb σ' (sp_callS S i) tb → post σ') : wp_X11_call σ (nI i) post := by
  obtain ⟨h1, h2, h3, h4, h5, h6⟩ := id h
  obtain ⟨c1, c2, c3, c4, c5, c6, c7, c8, c9⟩ := id h4
  obtain ⟨g1, g2, g3, g4, g5, g6, g7, g8, g9, g10, g11, g12, -⟩ := id h6
  have hni : s0 S 2 ≤ 2000 := h2.2.2.2.1
  have hnp : s0 S 1 ≤ 60 := h2.2.1
  obtain ⟨q1, q2, q3, q4, q5, q6, q7, q8, q9⟩ := h2.2.2.2.2.2 i hi
  have hro := q9 (Or.inr (Or.inr hk10))
  obtain ⟨f1, f2, f3, f4, f5, f6, f7, -⟩ := h2.2.2.2.2.1 (sa S 1 i) ha2
  have vi := vp_in_nI (n := i) (N := 2000) (by omega) (by decide)
  have vq := vp_in_nI (n := sa S 1 i) (N := 60) (by omega) (by decide)
  have hszb : szS S ≤ 20000 := c2.2.2
  obtain ⟨hw, hwk⟩ := c8 hl
  obtain ⟨kw, hkw⟩ := FK_ex (s0 S 8) (s0 S 7) c1.2.2.1
  obtain ⟨hw45, hw30⟩ := hwk kw hkw
  have hkwn := hkw.1
  have h7 := c1.2.1
  unfold wp_X11_call
  rw [nI_clamp (show i < 2 ^ 31 by omega), q3, ha]
  refine ⟨vi, fun v1 e1 => ?_⟩
  subst e1
  have e47 : mi σ 47 + 2 + ma σ 5 (nI (sa S 1 i)).toNatClampNeg = nI (szS S + (2 + s1 S 1 (sa S 1 i))) := by
    rw [nI_clamp (by omega), f3, show mi σ 47 = nI (szS S) from c3, show (2 : Int32) = nI 2 from rfl, nI_add, nI_add, Nat.add_assoc]
  rw [e47, g11]
  refine ⟨vq, fun hq => ?_, fun hq σ9 e9 => ?_⟩
  · have hle : szS S + (2 + s1 S 1 (sa S 1 i)) ≤ s0 S 14 := by
      rcases Nat.lt_or_ge (s0 S 14) (szS S + (2 + s1 S 1 (sa S 1 i))) with q | q
      · exact absurd hq (nI_ge q (by omega))
      · exact q
    rw [sp_callS, if_pos hle] at hp
    intro v2 e2 v3 e3
    rw [hw45] at e2
    rw [c1.1] at e3
    subst e2; subst e3
    rw [nI_clamp (show s0 S 8 + kw < 2 ^ 31 by omega), hw30]
    refine ⟨vp_in_nI (by omega) (by decide), ?_⟩
    refine m_pushFrame (up := s0 S 8 + 1) (at' := s0 S 9) h.core ha2 (by omega) (fun z => absurd z (by omega)) (fun u ku hu hku => ?_) (fun _ => rfl) (fun σ4 h4' h45 h30 _ => ?_)
    · have eu : u = s0 S 8 := by omega
      subst eu
      exact ⟨hw, by rw [FK_uq hku hkw]⟩
    · have hbl : ∀ j, j ≤ s0 S 6 → s1 S 11 j ≤ s1 S 11 (s0 S 6) := fun j hj => RM_bl h.core.2.2.2.1 hj (Nat.le_refl _)
      have hwb : s1 S 11 (s0 S 8) + s1 S 1 (s1 S 10 (s0 S 8)) ≤ s1 S 11 (s0 S 6) := by
        rw [← (c2.2.1 (s0 S 8) hw).2.2]; exact hbl _ (by omega)
      have we := fun k => wrL_e (S := sp_pushS S (sa S 1 i) (s0 S 8 + 1) (s0 S 9)) (f := fun k => s1 S 11 (s0 S 6) + k) (g := fun k T => sv T 0 (s1 S 11 (s0 S 8) + s2 S 2 i k)) k
      generalize hT : wrL (sp_pushS S (sa S 1 i) (s0 S 8 + 1) (s0 S 9)) (fun k => s1 S 11 (s0 S 6) + k) (fun k T => sv T 0 (s1 S 11 (s0 S 8) + s2 S 2 i k)) = TT at hp we
      have hT0 : TT 0 = sp_pushS S (sa S 1 i) (s0 S 8 + 1) (s0 S 9) := by rw [← hT]; rfl
      have hTs : ∀ k, TT (k + 1) = uv (TT k) 0 (s1 S 11 (s0 S 6) + k) (sv (TT k) 0 (s1 S 11 (s0 S 8) + s2 S 2 i k)) := fun k => by rw [← hT]; rfl
      have x11 : ∀ j, j ≤ s0 S 6 → s1 (sp_pushS S (sa S 1 i) (s0 S 8 + 1) (s0 S 9)) 11 j = s1 S 11 j := fun j hj => by simp [s1, sp_pushS, up2, show ¬ j = s0 S 6 + 1 by omega]
      have y11 : s1 (sp_pushS S (sa S 1 i) (s0 S 8 + 1) (s0 S 9)) 11 (s0 S 6 + 1) = s1 S 11 (s0 S 6) + s1 S 1 (sa S 1 i) := by simp [s1, sp_pushS, up2]
      have nfk : FK (s0 S 7) (s1 S 15) (s0 S 6) (s0 S 7) := ⟨Nat.le_refl _, fun i hi => c1.2.2.1.2 i hi, fun i a b => absurd b (by omega)⟩
      have key : ∀ d k σ', k + d = s1 S 2 (sa S 1 i) → RMc σ' (TT k) tb → ma σ' 30 (s0 S 6 + s0 S 7) = 0 → wp_X11_call_59 post (d + 1) σ' (nI i) (nI (sa S 1 i)) (nI (s0 S 8 + kw)) (nI (s0 S 6 + s0 S 7)) (nI k) := by
        intro d
        induction d with
        | zero =>
          intro k σ' hk hR h30
          have ek : k = s1 S 2 (sa S 1 i) := by omega
          subst ek
          obtain ⟨e0, e1, e2, e3, -⟩ := we (s1 S 2 (sa S 1 i))
          have r2 := hR.2.1
          unfold RM2 at r2
          rw [e0, e1, e2, e3] at r2
          have r6 : ma σ' 6 (sa S 1 i) = nI (s1 S 2 (sa S 1 i)) := (r2.2.2.2.2.1 (sa S 1 i) ha2).2.2.2.2.2.1
          rw [wp_X11_call_59, nI_clamp (show sa S 1 i < 2 ^ 31 by omega), r6]
          refine ⟨vq, fun _ σ5 e5 => hp σ5 ?_, fun z => absurd (nI_le (Nat.le_refl _) (by omega)) z⟩
          rw [e5]
          have hR2 : RMc (smi σ' 45 (nI (s0 S 6 + s0 S 7))) (u0 (u0 (TT (s1 S 2 (sa S 1 i))) 8 (s0 S 6)) 9 0) tb := hR
          refine hR2.full fun _ => ⟨?_, fun k hk => ?_⟩
          · show s0 S 6 < s0 (TT (s1 S 2 (sa S 1 i))) 6
            rw [e0]
            show s0 S 6 < s0 S 6 + 1
            omega
          · have hk : FK (s0 (TT (s1 S 2 (sa S 1 i))) 7) (s1 (TT (s1 S 2 (sa S 1 i))) 15) (s0 S 6) k := hk
            rw [e0, e1] at hk
            have hk : FK (s0 S 7) (s1 S 15) (s0 S 6) k := hk
            have ek := FK_uq hk nfk
            subst ek
            exact ⟨rfl, h30⟩
        | succ d ih =>
          intro k σ' hk hR h30
          obtain ⟨e0, e1, e2, e3, -⟩ := we k
          have r2 := hR.2.1
          unfold RM2 at r2
          rw [e0, e1, e2, e3] at r2
          have r6 : ma σ' 6 (sa S 1 i) = nI (s1 S 2 (sa S 1 i)) := (r2.2.2.2.2.1 (sa S 1 i) ha2).2.2.2.2.2.1
          have r18 : ma σ' 18 (10 * i + k) = nI (s2 S 2 i k) := ((r2.2.2.2.2.2 i hi).2.2.2.2.2.2.2.2 (Or.inr (Or.inr hk10)) k (show k < s1 S 6 i by omega)).1
          have r4 := hR.2.2.2.1.2.1
          rw [e0, e1] at r4
          have r29f : ma σ' 29 (s0 S 6 + s0 S 7) = nI (s1 S 11 (s0 S 6)) := by
            have := (r4.1 (s0 S 6) (s0 S 7) (by show s0 S 6 < s0 S 6 + 1; omega) nfk).2
            rw [x11 _ (Nat.le_refl _)] at this; exact this
          have r29w : ma σ' 29 (s0 S 8 + kw) = nI (s1 S 11 (s0 S 8)) := by
            have := (r4.1 (s0 S 8) kw (by show s0 S 8 < s0 S 6 + 1; omega) hkw).2
            rw [x11 _ (by omega)] at this; exact this
          have hrk := hr k (by omega)
          have r5 : ml σ' 39 (s1 S 11 (s0 S 8) + s2 S 2 i k) = sv (TT k) 0 (s1 S 11 (s0 S 8) + s2 S 2 i k) := by
            refine hR.2.2.2.2.1.1 _ ?_
            rw [e0, e1]
            show _ < s1 (sp_pushS S (sa S 1 i) (s0 S 8 + 1) (s0 S 9)) 11 (s0 S 6 + 1)
            rw [y11]; omega
          have hszd : szS S = s1 S 11 (s0 S 6) + 2 * s0 S 6 + 3 * s0 S 7 := rfl
          rw [wp_X11_call_59, nI_clamp (show sa S 1 i < 2 ^ 31 by omega), r6]
          refine ⟨vq, fun z => absurd z (nI_ge (by omega) (by omega)), fun _ => ?_⟩
          rw [nI_10, nI_clamp (show 10 * i + k < 2 ^ 31 by omega), r18, nI_clamp (show s0 S 8 + kw < 2 ^ 31 by omega), r29w, nI_clamp (show s0 S 6 + s0 S 7 < 2 ^ 31 by omega), r29f, nI_add, nI_add, nI_clamp (show s1 S 11 (s0 S 8) + s2 S 2 i k < 2 ^ 31 by omega), nI_clamp (show s1 S 11 (s0 S 6) + k < 2 ^ 31 by omega), r5]
          refine ⟨vp_in_nI (by omega) (by decide), vp_in_nI (by omega) (by decide), vp_in_nI (by omega) (by decide), vp_in_nI (by omega) (by decide), vp_in_nI (by omega) (by decide), fun σ6 e6 v7 e7 => ?_⟩
          rw [e7, nI_1]
          refine ih (k + 1) σ6 (by omega) ?_ (by rw [e6]; exact h30)
          rw [e6, hTs k]
          refine RM_free hR fun l hl => ?_
          rw [e0] at hl
          have hl : l < s0 S 7 := hl
          rw [e1]
          show s1 (sp_pushS S (sa S 1 i) (s0 S 8 + 1) (s0 S 9)) 11 (s1 S 15 l) ≤ _
          rw [x11 _ (c1.2.2.1.2 l hl)]
          have := hbl _ (c1.2.2.1.2 l hl)
          omega
      exact ⟨_, key _ 0 σ4 (Nat.zero_add _) (by rw [hT0]; exact h4') h30⟩
  · have hle : ¬ szS S + (2 + s1 S 1 (sa S 1 i)) ≤ s0 S 14 := fun q => hq (nI_le q (by omega))
    rw [sp_callS, if_neg hle] at hp
    refine hp σ9 ?_
    rw [e9]
    exact ⟨h1, h2, h3, ⟨c1, c2, c3, c4, c5, c6, c7, fun q => absurd q (by rintro (q | q) <;> cases q), c9⟩, h5, rfl, by show 5 ≤ 7; omega, h6.2.2⟩
