/-! the reference exits -/
theorem RM_work {σ : MSt} {S : Sp} {tb u ku : Nat} (m : Nat) (h : RMc σ S tb) (hu : u < s0 S 6) (hku : FK (s0 S 7) (s1 S 15) u ku) : RMb (sma (smi σ 45 (nI (u + ku))) 30 (u + ku) (nI m)) (u0 (u0 S 8 u) 9 m) tb := by
  obtain ⟨h1, h2, h3, h4, h5, h6⟩ := h
  obtain ⟨c1, c2, c3, c4, c5, c6, c7, c9⟩ := h4
  refine ⟨h1, h2, h3, ⟨c1, c2, c3, c4, c5, c6, fun i k hi hk => ?_, fun _ => ⟨hu, fun k' hk' => ?_⟩, c9⟩, h5, h6⟩
  · have hi : i < s0 S 7 := hi
    obtain ⟨b1, b2, b3, b4⟩ := c7 i k hi hk
    refine ⟨b1, b2, ?_, b4⟩
    have n2 : ¬ s1 S 15 i + i = u + ku := by
      rcases Nat.lt_or_ge i ku with r | r
      · have := hku.2.1 i r; omega
      · have := hku.2.2 i r hi; omega
    show (if 30 = 30 ∧ s1 S 15 i + i = u + ku then _ else ma σ 30 (s1 S 15 i + i)) = _
    exact Eq.trans (if_neg (fun z => n2 z.2)) b3
  · have hk' : FK (s0 S 7) (s1 S 15) u k' := hk'
    have e : k' = ku := FK_uq hk' hku
    subst e
    refine ⟨rfl, ?_⟩
    show (if 30 = 30 ∧ u + k' = u + k' then nI m else _) = nI m
    simp
def exL (S : Sp) (p w u i : Nat) : Nat → Sp := wrL S (fun k => s1 S 11 u + s2 S 2 i (s1 S 2 p + k)) (fun k T => sv T 0 (s1 S 11 w + s2 S 0 p k))
/-- the call of the frame at work -/
def exI (S : Sp) : Nat := s2 S 1 (s1 S 10 (s1 S 12 (s0 S 8) - 1)) (s1 S 13 (s0 S 8))
def exT (S : Sp) : Sp := u0 (u0 (exL S (s1 S 10 (s0 S 8)) (s0 S 8) (s1 S 12 (s0 S 8) - 1) (exI S) (s1 S 3 (s1 S 10 (s0 S 8)))) 8 (s1 S 12 (s0 S 8) - 1)) 9 (s1 S 13 (s0 S 8) + 1)
def sp_exit2 (S : Sp) : Sp :=
  if s1 S 12 (s0 S 8) = 0 then u0 (u0 S 17 2) 13 (s0 S 13 + 1) else
  if s0 S 8 + 1 = s0 S 6 ∧ (s0 S 7 = 0 ∨ s1 S 15 (s0 S 7 - 1) ≤ s0 S 8) then sp_drop (exT S) (s0 S 8) (s0 S 7) else exT S
def sp_exitS (S : Sp) : Sp := sp_exit2 (if s1 S 0 (s1 S 10 (s0 S 8)) = 0 then sp_cutS S (s1 S 14 (s0 S 8)) else S)
def exOK (S : Sp) : Prop := s1 S 12 (s0 S 8) ≠ 0 → s1 S 12 (s0 S 8) - 1 < s0 S 8 ∧ s1 S 13 (s0 S 8) < s1 S 4 (s1 S 10 (s1 S 12 (s0 S 8) - 1)) ∧ exI S < s0 S 2 ∧ s1 S 5 (exI S) = 10 ∧ s1 S 6 (exI S) = s1 S 2 (s1 S 10 (s0 S 8)) + s1 S 3 (s1 S 10 (s0 S 8)) ∧ ∀ j, j < s1 S 6 (exI S) → s2 S 2 (exI S) j < s1 S 1 (s1 S 10 (s1 S 12 (s0 S 8) - 1))
theorem m_exit32 {σ : MSt} {S : Sp} {tb : Nat} {post : MSt → Prop} (h : RMb σ S tb) (hl : live S) (htb : tb + 8 < 200000) (hok : exOK S) (h13 : s0 S 13 < 20000) (hp : ∀ σ', RMb σ' (sp_exit2 S) (tb + 8) → post σ') : wp_X11_exit_32 post σ (nI (s1 S 10 (s0 S 8))) := by
  obtain ⟨h1, h2, h3, h4, h5, h6⟩ := id h
  obtain ⟨c1, c2, c3, c4, c5, c6, c7, c8, c9⟩ := id h4
  have hTR := c1.2.2.1
  have h7 := c1.2.1
  obtain ⟨hw, hwk⟩ := c8 hl
  obtain ⟨kw, hkw⟩ := FK_ex (s0 S 8) (s0 S 7) hTR
  obtain ⟨hw45, hw30⟩ := hwk kw hkw
  have hkwn := hkw.1
  have hnp : s0 S 1 ≤ 60 := h2.2.1
  have hni : s0 S 2 ≤ 2000 := h2.2.2.2.1
  have hpr := c9 (s0 S 8) hw
  obtain ⟨f1, f2, f3, f4, f5, f6, f7, f8, f9, f10, f11, f12, f13, f14⟩ := h2.2.2.2.2.1 _ hpr
  obtain ⟨a1, a2, a3, a4⟩ := c6 (s0 S 8) kw hw hkw
  have vw := vp_in_nI (n := s0 S 8 + kw) (N := 7000) (by omega) (by decide)
  intro v2 e2
  rw [hw45] at e2
  subst e2
  rw [nI_clamp (show s0 S 8 + kw < 2 ^ 31 by omega)]
  refine ⟨vw, fun hm σ11 e11 σ12 e12 => ?_, fun hm => ⟨vw, fun v3 e3 => ?_⟩⟩
  · have z : s1 S 12 (s0 S 8) = 0 := by
      rcases Nat.eq_zero_or_pos (s1 S 12 (s0 S 8)) with q | q
      · exact q
      · obtain ⟨ku, hku⟩ := FK_ex (s1 S 12 (s0 S 8) - 1) (s0 S 7) hTR
        obtain ⟨b1, b2⟩ := a2 (s1 S 12 (s0 S 8) - 1) ku (by omega) hku
        have := hku.1
        exact absurd (b2.symm.trans hm) (nI_m1 (by omega))
    rw [sp_exit2, if_pos z] at hp
    refine hp σ12 (RMb.le (tb := tb) ?_ (by omega))
    have e50 : mi σ11 50 = nI (s0 S 13) := by rw [e11]; exact h6.2.2.2.2.2.2.2.2.1
    rw [e50, nI_1] at e12
    rw [e12, e11]
    obtain ⟨g1, g2, g3, g4, g5, g6, g7, g8, g9, g10, g11⟩ := h6
    exact ⟨h1, h2, h3, ⟨c1, c2, c3, c4, c5, c6, c7, fun _ => ⟨hw, hwk⟩, c9⟩, h5, rfl, by show 2 ≤ 7; omega, g3, g4, g5, g6, g7, g8, rfl, by show s0 S 13 + 1 ≤ 20000; omega, g11⟩
  · have z : ¬ s1 S 12 (s0 S 8) = 0 := fun q => hm (a1 q)
    obtain ⟨o1, o2, o3, o4, o5, o6⟩ := hok z
    rw [sp_exit2, if_neg z] at hp
    unfold exT at hp
    have eI : s2 S 1 (s1 S 10 (s1 S 12 (s0 S 8) - 1)) (s1 S 13 (s0 S 8)) = exI S := rfl
    generalize exI S = i at o3 o4 o5 o6 eI hp
    obtain ⟨u, hu⟩ : ∃ u, s1 S 12 (s0 S 8) = u + 1 := ⟨s1 S 12 (s0 S 8) - 1, by omega⟩
    have eu : s1 S 12 (s0 S 8) - 1 = u := by omega
    rw [eu] at o1 o2 o6 eI hp
    obtain ⟨ku, hku⟩ := FK_ex u (s0 S 7) hTR
    obtain ⟨-, b2⟩ := a2 u ku hu hku
    have hkun := hku.1
    have hpu := c9 u (by omega)
    have vu := vp_in_nI (n := u + ku) (N := 7000) (by omega) (by decide)
    rw [b2] at e3
    subst e3
    obtain ⟨x1, x2, x3, x4, x5, x6, x7, x8, x9, x10, x11, x12, x13, x14⟩ := h2.2.2.2.2.1 _ hpu
    have e28 := (c2.1 u ku (by omega) hku).1
    have ix : ((2000 : Int32) * nI (s1 S 10 u)) + nI (s1 S 13 (s0 S 8)) = nI (2000 * s1 S 10 u + s1 S 13 (s0 S 8)) := by
      rw [show (2000 : Int32) = nI 2000 from rfl, pk_mul, nI_add]
    rw [nI_clamp (show u + ku < 2 ^ 31 by omega), e28, a3 z, ix]
    refine ⟨vu, vw, vp_in_nI (by omega) (by decide), fun v4 e4 => ?_⟩
    rw [nI_clamp (by omega), (x14 _ o2).1, eI] at e4
    subst e4
    generalize hP : s1 S 10 (s0 S 8) = p at *
    have we := fun k => wrL_e (S := S) (f := fun k => s1 S 11 u + s2 S 2 i (s1 S 2 p + k)) (g := fun k T => sv T 0 (s1 S 11 (s0 S 8) + s2 S 0 p k)) k
    have hub : s1 S 11 u + s1 S 1 (s1 S 10 u) ≤ s1 S 11 (s0 S 6) := by
      rw [← (c2.2.1 u (by omega)).2.2]; exact RM_bl h.core.2.2.2.1 (by omega) (Nat.le_refl _)
    have hwb : s1 S 11 (s0 S 8) + s1 S 1 p ≤ s1 S 11 (s0 S 6) := by
      have := (c2.2.1 (s0 S 8) hw).2.2
      rw [hP] at this
      rw [← this]; exact RM_bl h.core.2.2.2.1 (by omega) (Nat.le_refl _)
    have hszd : s1 S 11 (s0 S 6) + 2 * s0 S 6 + 3 * s0 S 7 ≤ 20000 := c2.2.2
    have v60 := vp_in_nI (n := p) (N := 60) (by omega) (by decide)
    have key : ∀ d k σ', k + d = s1 S 3 p → RMb σ' (exL S p (s0 S 8) u i k) (tb + k) → wp_X11_exit_97 post (d + 1) σ' (nI p) (nI (s0 S 8 + kw)) (nI (u + ku)) (nI i) (nI k) := by
      intro d
      induction d with
      | zero =>
        intro k σ' hk hR
        have ek : k = s1 S 3 p := by omega
        subst ek
        obtain ⟨e0, e1, e2, e3, -⟩ := we (s1 S 3 p)
        have e0 : s0 (exL S p (s0 S 8) u i (s1 S 3 p)) = s0 S := e0
        have e1 : s1 (exL S p (s0 S 8) u i (s1 S 3 p)) = s1 S := e1
        have e2 : s2 (exL S p (s0 S 8) u i (s1 S 3 p)) = s2 S := e2
        have e3 : si (exL S p (s0 S 8) u i (s1 S 3 p)) = si S := e3
        have r2 := hR.2.1
        unfold RM2 at r2
        rw [e0, e1, e2, e3] at r2
        have r7 := (r2.2.2.2.2.1 p hpr).2.2.2.2.2.2.2.1
        have r6 := hR.2.2.2.1.2.2.2.2.2.1
        rw [e0, e1] at r6
        have r32 := (r6 (s0 S 8) kw hw hkw).2.2.1 z
        rw [wp_X11_exit_97, nI_clamp (show p < 2 ^ 31 by omega), r7, nI_clamp (show s0 S 8 + kw < 2 ^ 31 by omega), nI_clamp (show u + ku < 2 ^ 31 by omega)]
        refine ⟨v60, fun _ σ5 e5 => ⟨vw, vu, fun σ6 e6 => ?_⟩, fun z => absurd (nI_le (Nat.le_refl _) (by omega)) z⟩
        have r32' : ma σ5 32 (s0 S 8 + kw) = nI (s1 S 13 (s0 S 8)) := by rw [e5]; exact r32
        rw [r32', nI_1, e5] at e6
        have hR6 := RM_work (u := u) (ku := ku) (s1 S 13 (s0 S 8) + 1) hR.core (by rw [e0]; omega) (by rw [e0, e1]; exact hku)
        rw [← e6] at hR6
        have hd := hR6.2.2.2.1
        have d1 : mi σ6 26 = nI (s0 S 6 + s0 S 7) := by
          have := hd.1.1
          rw [show s0 (u0 (u0 (exL S p (s0 S 8) u i (s1 S 3 p)) 8 u) 9 (s1 S 13 (s0 S 8) + 1)) 6 = s0 (exL S p (s0 S 8) u i (s1 S 3 p)) 6 from rfl, show s0 (u0 (u0 (exL S p (s0 S 8) u i (s1 S 3 p)) 8 u) 9 (s1 S 13 (s0 S 8) + 1)) 7 = s0 (exL S p (s0 S 8) u i (s1 S 3 p)) 7 from rfl, e0] at this
          exact this
        have em1 : nI (s0 S 6 + s0 S 7) - 1 = nI (s0 S 6 + s0 S 7 - 1) := by rw [show (1 : Int32) = nI 1 from rfl, pk_sub (by omega)]
        rw [d1, em1]
        have hkw2 : (∀ i, i < s0 S 7 → s1 S 15 i ≤ s0 S 8) ↔ (s0 S 7 = 0 ∨ s1 S 15 (s0 S 7 - 1) ≤ s0 S 8) := by
          constructor
          · intro q
            rcases Nat.eq_zero_or_pos (s0 S 7) with r | r
            · exact Or.inl r
            · exact Or.inr (q _ (by omega))
          · rintro (q | q) i hi
            · omega
            · rcases Nat.lt_or_ge i (s0 S 7 - 1) with r | r
              · have := hTR.1 i (s0 S 7 - 1) r (by omega); omega
              · rw [show i = s0 S 7 - 1 by omega]; exact q
        refine ⟨fun hq => ?_, fun hq => ?_⟩
        · have hq : s0 S 8 + kw = s0 S 6 + s0 S 7 - 1 := (nI_eq (by omega) (by omega)).mp hq
          have ekw : kw = s0 S 7 := by omega
          have hall : ∀ i, i < s0 S 7 → s1 S 15 i ≤ s0 S 8 := fun i hi => hkw.2.1 i (by omega)
          rw [if_pos ⟨by omega, hkw2.mp hall⟩] at hp
          subst ekw
          have hRK : RK (s0 S 7) (s1 S 15) (s0 S 8 + s0 S 7) (s0 S 7) := ⟨Nat.le_refl _, fun i hi => by have := hall i hi; omega, fun i a b => absurd b (by omega)⟩
          have q6 : s0 (u0 (u0 (exL S p (s0 S 8) u i (s1 S 3 p)) 8 u) 9 (s1 S 13 (s0 S 8) + 1)) 6 = s0 S 6 := congrFun e0 6
          have q7 : s0 (u0 (u0 (exL S p (s0 S 8) u i (s1 S 3 p)) 8 u) 9 (s1 S 13 (s0 S 8) + 1)) 7 = s0 S 7 := congrFun e0 7
          have q15 : s1 (u0 (u0 (exL S p (s0 S 8) u i (s1 S 3 p)) 8 u) 9 (s1 S 13 (s0 S 8) + 1)) = s1 S := e1
          refine m_dropFrom hd.1 hd.2.1 hd.2.2.1 hd.2.2.2.1 (k0 := s0 S 7) (by rw [q6, q7]; omega) (by rw [q7, q15]; exact hRK) (by omega) (hp _ (RMb.le ?_ (show tb + s1 S 3 p ≤ tb + 8 by omega)))
          have := RM_drop hR6 (n0 := s0 S 8 + s0 S 7) (k0 := s0 S 7) (by rw [q6, q7]; omega) (by rw [q7, q15]; exact hRK) (by omega) (by show u < _; omega)
          rw [show s0 S 8 + s0 S 7 - s0 S 7 = s0 S 8 by omega] at this ⊢
          exact this
        · have hq : ¬ s0 S 8 + kw = s0 S 6 + s0 S 7 - 1 := fun q => hq (by rw [q])
          rw [if_neg] at hp
          · exact hp _ (RMb.le hR6 (show tb + s1 S 3 p ≤ tb + 8 by omega))
          · rintro ⟨r1, r2⟩
            have hall := hkw2.mpr r2
            have : kw = s0 S 7 := by
              rcases Nat.lt_or_ge kw (s0 S 7) with r | r
              · have x := hkw.2.2 kw (Nat.le_refl _) r
                have y := hall kw r
                omega
              · omega
            omega
      | succ d ih =>
        intro k σ' hk hR
        obtain ⟨e0, e1, e2, e3, -⟩ := we k
        have e0 : s0 (exL S p (s0 S 8) u i k) = s0 S := e0
        have e1 : s1 (exL S p (s0 S 8) u i k) = s1 S := e1
        have e2 : s2 (exL S p (s0 S 8) u i k) = s2 S := e2
        have e3 : si (exL S p (s0 S 8) u i k) = si S := e3
        have r2 := hR.2.1
        unfold RM2 at r2
        rw [e0, e1, e2, e3] at r2
        obtain ⟨-, -, -, -, -, r6, -, r7, -, -, -, -, r8, -⟩ := r2.2.2.2.2.1 p hpr
        obtain ⟨r8, r8'⟩ := r8 k (by omega)
        obtain ⟨r18, -⟩ := (r2.2.2.2.2.2 i o3).2.2.2.2.2.2.2.2 (Or.inr (Or.inr o4)) (s1 S 2 p + k) (by omega)
        have o6k := o6 (s1 S 2 p + k) (by omega)
        have r4 := hR.2.2.2.1.2.1
        rw [e0, e1] at r4
        have r29 := (r4.1 (s0 S 8) kw hw hkw).2
        have r5 : ml σ' 39 (s1 S 11 (s0 S 8) + s2 S 0 p k) = sv (exL S p (s0 S 8) u i k) 0 (s1 S 11 (s0 S 8) + s2 S 0 p k) := by
          refine hR.2.2.2.2.1.1 _ ?_
          rw [e0, e1]; omega
        have i1 : ((10 : Int32) * nI i) + nI (s1 S 2 p) + nI k = nI (10 * i + (s1 S 2 p + k)) := by rw [nI_10, nI_add, Nat.add_assoc]
        have i2 : ((8 : Int32) * nI p) + nI k = nI (8 * p + k) := by rw [show (8 : Int32) = nI 8 from rfl, pk_mul, nI_add]
        rw [wp_X11_exit_97, nI_clamp (show p < 2 ^ 31 by omega), r7]
        refine ⟨v60, fun z => absurd z (nI_ge (by omega) (by omega)), fun _ => ⟨v60, ?_⟩⟩
        rw [r6, i1, i2, nI_clamp (show s0 S 8 + kw < 2 ^ 31 by omega), r29, nI_clamp (show 8 * p + k < 2 ^ 31 by omega), r8, nI_add, nI_clamp (show s1 S 11 (s0 S 8) + s2 S 0 p k < 2 ^ 31 by omega), r5, nI_clamp (show 10 * i + (s1 S 2 p + k) < 2 ^ 31 by omega), r18]
        refine ⟨vp_in_nI (by omega) (by decide), vw, vp_in_nI (by omega) (by decide), vp_in_nI (by omega) (by decide), ?_⟩
        refine m_write hR (by omega) (by rw [e0]; omega) (by rw [e0, e1]; exact hku) (by rw [e1]; exact o6k) (fun σ8 h8 v9 e9 => ?_)
        rw [e9, nI_1]
        refine ih (k + 1) σ8 (by omega) ?_
        rw [e1] at h8
        exact h8
    exact ⟨_, key _ 0 σ (Nat.zero_add _) h⟩
theorem m_exit {σ : MSt} {S : Sp} {tb : Nat} {post : MSt → Prop} (h : RMb σ S tb) (hl : live S) (htb : tb + 8 < 200000) (hok : exOK S) (h13 : s0 S 13 < 20000) (h14 : s1 S 14 (s0 S 8) ≤ 7000) (hp : ∀ σ', RMb σ' (sp_exitS S) (tb + 8) → post σ') : wp_X11_exit σ post := by
  obtain ⟨h1, h2, h3, h4, h5, h6⟩ := id h
  obtain ⟨c1, c2, c3, c4, c5, c6, c7, c8, c9⟩ := id h4
  have h7 := c1.2.1
  obtain ⟨hw, hwk⟩ := c8 hl
  obtain ⟨kw, hkw⟩ := FK_ex (s0 S 8) (s0 S 7) c1.2.2.1
  obtain ⟨hw45, hw30⟩ := hwk kw hkw
  have hkwn := hkw.1
  have hnp : s0 S 1 ≤ 60 := h2.2.1
  have hpr := c9 (s0 S 8) hw
  obtain ⟨f1, f2, -⟩ := h2.2.2.2.2.1 _ hpr
  have e28 := (c2.1 (s0 S 8) kw hw hkw).1
  have e33 := (c6 (s0 S 8) kw hw hkw).2.2.2
  have vw := vp_in_nI (n := s0 S 8 + kw) (N := 7000) (by omega) (by decide)
  unfold wp_X11_exit
  rw [hw45, nI_clamp (show s0 S 8 + kw < 2 ^ 31 by omega), e28, e33]
  refine ⟨vw, fun v1 e1 => ?_⟩
  subst e1
  rw [nI_clamp (show s1 S 10 (s0 S 8) < 2 ^ 31 by omega), f1]
  refine ⟨vp_in_nI (by omega) (by decide), fun hz => ⟨vw, ?_⟩, fun hz => ?_⟩
  · have z : s1 S 0 (s1 S 10 (s0 S 8)) = 0 := (nI_eq (by omega) (by decide)).mp hz
    rw [sp_exitS, if_pos z] at hp
    refine m_cut h hl (fun σ13 h13' => ?_)
    rw [nI_clamp (by omega)] at h13'
    exact m_exit32 (S := sp_cutS S (s1 S 14 (s0 S 8))) h13' hl htb hok h13 hp
  · have z : ¬ s1 S 0 (s1 S 10 (s0 S 8)) = 0 := fun q => hz (by rw [q]; rfl)
    rw [sp_exitS, if_neg z] at hp
    exact m_exit32 h hl htb hok h13 hp
