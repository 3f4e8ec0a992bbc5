/-! the reference leaves a redo point -/
def szS (S : Sp) : Nat := s1 S 11 (s0 S 6) + 2 * s0 S 6 + 3 * s0 S 7
def sp_tryS (S : Sp) (to : Nat) : Sp :=
  (va_up (va_up (va_up (s0 S) 7 (s0 S 7 + 1)) 9 (s0 S 9 + 1)) 11 (if s0 S 11 < szS S + 3 then szS S + 3 else s0 S 11),
   up2 (up2 (up2 (up2 (up2 (up2 (up2 (s1 S) 15 (s0 S 7) (s0 S 6)) 16 (s0 S 7) (s0 S 8)) 17 (s0 S 7) to) 18 (s0 S 7) 0) 19 (s0 S 7) (s0 S 5)) 20 (s0 S 7) (s0 S 3)) 21 (s0 S 7) (s0 S 4),
   s2 S, si S, sv S, fun k i j => if k = 0 ∧ i = s0 S 7 then sv S 0 j else sw S k i j)
theorem m_grow {σ : MSt} {sz ms d : Nat} {post : MSt → Prop} (h47 : mi σ 47 = nI sz) (h48 : mi σ 48 = nI ms) (b1 : sz + d < 2 ^ 31) (b2 : ms < 2 ^ 31) (hp : post (smi (smi σ 47 (nI (sz + d))) 48 (nI (if ms < sz + d then sz + d else ms)))) : wp_X11_grow σ (nI d) post := by
  intro σ1 e1
  rw [h47, nI_add] at e1
  have a : mi σ1 47 = nI (sz + d) := by rw [e1]; rfl
  have b : mi σ1 48 = nI ms := by rw [e1]; exact h48
  rw [a, b]
  refine ⟨fun h σ2 e2 => ?_, fun h σ2 e2 => ?_⟩
  · have : ¬ ms < sz + d := fun q => absurd h (nI_ge q b1)
    rw [if_neg this] at hp
    rw [e2, e1]; exact hp
  · have : ms < sz + d := by
      rcases Nat.lt_or_ge ms (sz + d) with q | q
      · exact q
      · exact absurd (nI_le q b2) h
    rw [if_pos this] at hp
    rw [e2, e1]; exact hp
/-- a frame's rank is the same with one redo point more on top -/
theorem FK_top {nf nr : Nat} {fb fb' : Nat → Nat} {j k : Nat} (hj : j < nf) (hn : fb' nr = nf) (ho : ∀ i, i < nr → fb' i = fb i) (h : FK (nr + 1) fb' j k) : FK nr fb j k := by
  obtain ⟨h1, h2, h3⟩ := h
  have hk : k ≤ nr := by
    rcases Nat.lt_or_ge nr k with q | q
    · have := h2 nr q; omega
    · exact q
  exact ⟨hk, fun i hi => by rw [← ho i (by omega)]; exact h2 i hi, fun i a b => by rw [← ho i b]; exact h3 i a (by omega)⟩
theorem m_tryLater {σ : MSt} {S : Sp} {tb i to : Nat} {post : MSt → Prop} (h : RMb σ S tb) (hf : live S) (hi : i < s0 S 2) (hto : si S 1 i = nI to) (hbg : s0 S 6 ≤ s1 S 11 (s0 S 6)) (hst : s0 S 14 ≤ 20000)
    (hy : szS S + 3 ≤ s0 S 14 → ∀ σ', RMb σ' (sp_tryS S to) tb → post σ') (hn : ¬ szS S + 3 ≤ s0 S 14 → ∀ σ', RMb σ' (u0 S 17 5) tb → post σ') : wp_X11_tryLater σ (nI i) post := by
  obtain ⟨h1, h2, h3, h4, h5, h6⟩ := id h
  obtain ⟨c1, c2, c3, c4, c5, c6, c7, c8, c9⟩ := id h4
  obtain ⟨g1, g2, g3, g4, g5, g6, g7, g8, g9, g10, g11, g12, g13⟩ := id h6
  obtain ⟨d0, tn, tt, d1, d2, d3, d4, d5⟩ := id h5
  have hni : s0 S 2 ≤ 2000 := h2.2.2.2.1
  have hsz : mi σ 47 = nI (szS S) := c3
  have hszb : szS S ≤ 20000 := c2.2.2
  have e47 : mi σ 47 + 3 = nI (szS S + 3) := by rw [hsz, show (3 : Int32) = nI 3 from rfl, nI_add]
  unfold wp_X11_tryLater
  rw [e47, g11]
  refine ⟨fun hq => ?_, fun hq σ13 e13 => ?_⟩
  · have hle : szS S + 3 ≤ s0 S 14 := by
      rcases Nat.lt_or_ge (s0 S 14) (szS S + 3) with q | q
      · exact absurd hq (nI_ge q (by omega))
      · exact q
    have ht7 : s0 S 6 + s0 S 7 + 1 < 7000 := by
      have : szS S = s1 S 11 (s0 S 6) + 2 * s0 S 6 + 3 * s0 S 7 := rfl
      omega
    intro v1 e1
    rw [c1.1] at e1
    subst e1
    have vp := vp_in_nI (n := s0 S 6 + s0 S 7) (N := 7000) (by omega) (by decide)
    have vi := vp_in_nI (n := i) (N := 2000) (by omega) (by decide)
    refine ⟨vp, fun σ2 e2 => ⟨vp, fun σ3 e3 => ⟨vi, vp, fun σ4 e4 => ⟨vp, fun σ5 e5 => ⟨vp, fun σ6 e6 => ⟨vp, fun σ7 e7 => ⟨vp, fun σ8 e8 => ⟨vp, fun σ9 e9 σ10 e10 => ?_⟩⟩⟩⟩⟩⟩⟩⟩
    rw [nI_clamp (by omega)] at e2 e3 e4 e5 e6 e7 e8 e9
    rw [nI_clamp (show i < 2 ^ 31 by omega)] at e4
    obtain ⟨hw, hwk⟩ := c8 hf
    obtain ⟨kw, hkw⟩ := FK_ex (s0 S 8) (s0 S 7) c1.2.2.1
    have hkn := hkw.1
    obtain ⟨hw45, hw30⟩ := hwk kw hkw
    have x26 : mi σ9 26 = nI (s0 S 6 + s0 S 7) := by rw [e9, e8, e7, e6, e5, e4, e3, e2]; exact c1.1
    rw [x26, nI_1] at e10
    have x47 : mi σ10 47 = nI (szS S) := by rw [e10, e9, e8, e7, e6, e5, e4, e3, e2]; exact hsz
    have x48 : mi σ10 48 = nI (s0 S 11) := by rw [e10, e9, e8, e7, e6, e5, e4, e3, e2]; exact g5
    have x45 : mi σ10 45 = nI (s0 S 8 + kw) := by rw [e10, e9, e8, e7, e6, e5, e4, e3, e2]; exact hw45
    have hne : ¬ s0 S 8 + kw = s0 S 6 + s0 S 7 := by omega
    have x30 : ma σ10 30 (s0 S 8 + kw) = nI (s0 S 9) := by
      rw [e10, e9, e8, e7, e6, e5, e4, e3, e2]
      show (if 30 = 30 ∧ s0 S 8 + kw = s0 S 6 + s0 S 7 then _ else ma σ 30 (s0 S 8 + kw)) = _
      rw [if_neg (fun q => hne q.2)]; exact hw30
    refine m_grow (d := 3) x47 x48 (by omega) (by omega) ?_
    generalize hm : (if s0 S 11 < szS S + 3 then szS S + 3 else s0 S 11) = mm
    have y45 : mi (smi (smi σ10 47 (nI (szS S + 3))) 48 (nI mm)) 45 = nI (s0 S 8 + kw) := x45
    have y30 : ma (smi (smi σ10 47 (nI (szS S + 3))) 48 (nI mm)) 30 (s0 S 8 + kw) = nI (s0 S 9) := x30
    rw [y45, nI_clamp (by omega), y30, nI_1]
    refine ⟨vp_in_nI (by omega) (by decide), vp_in_nI (by omega) (by decide), fun σ12 e12 => ?_⟩
    refine hy hle σ12 ?_
    have y31 : mi σ2 45 = nI (s0 S 8 + kw) := by rw [e2]; exact hw45
    rw [y31] at e3
    have y13 : ma σ3 13 i = nI to := by rw [e3, e2]; exact ((h2.2.2.2.2.2 i hi).2.2.1).trans hto
    rw [y13] at e4
    have y25 : mi σ5 25 = nI (s0 S 5) := by rw [e5, e4, e3, e2]; exact h3.2.2.2.2.1
    rw [y25] at e6
    have y19 : mi σ6 19 = nI (s0 S 3) := by rw [e6, e5, e4, e3, e2]; exact h3.1
    rw [y19] at e7
    have y24 : mi σ7 24 = nI (s0 S 4) := by rw [e7, e6, e5, e4, e3, e2]; exact h3.2.2.1
    rw [y24] at e8
    have y41 : mi σ8 41 = nI tn := by rw [e8, e7, e6, e5, e4, e3, e2]; exact d1
    rw [y41] at e9
    clear x26 x47 x48 x45 x30 y45 y30 y31 y13 y25 y19 y24 y41 hy hn
    subst e12; subst e10; subst e9; subst e8; subst e7; subst e6; subst e5; subst e4; subst e3; subst e2
    have hfn : s1 (sp_tryS S to) 15 (s0 S 7) = s0 S 6 := by simp [s1, sp_tryS, up2]
    have hfo : ∀ i, i < s0 S 7 → s1 (sp_tryS S to) 15 i = s1 S 15 i := fun i hi => by
      have : ¬ i = s0 S 7 := by omega
      simp [s1, sp_tryS, up2, this]
    have cv : ∀ j k, j < s0 S 6 → FK (s0 S 7 + 1) (s1 (sp_tryS S to) 15) j k → FK (s0 S 7) (s1 S 15) j k := fun j k hj hk => FK_top hj hfn hfo hk
    have hszd : szS S = s1 S 11 (s0 S 6) + 2 * s0 S 6 + 3 * s0 S 7 := rfl
    refine ⟨h1, h2, h3, ⟨⟨rfl, by show s0 S 6 + (s0 S 7 + 1) < 7000; omega, ⟨fun a b hab hb => ?_, fun a ha => ?_⟩, fun x hx => ?_⟩, ⟨fun j k hj hk => c2.1 j k hj (cv j k hj hk), c2.2.1, ?_⟩, ?_, c4, c5, fun j k hj hk => ?_, fun a ku ha hku => ?_, fun _ => ⟨hw, fun k hk => ?_⟩, c9⟩, ⟨d0, tn, va_up tt (s0 S 7) tn, d1, d2, d3, fun a b hab hb => ?_, fun a ha => ?_⟩, ⟨g1, g2, g3, g4, ?_, ?_, g7, g8, g9, g10, g11, g12, g13⟩⟩
    · have hb : b < s0 S 7 + 1 := hb
      rcases Nat.lt_or_ge b (s0 S 7) with q | q
      · rw [hfo a (by omega), hfo b q]; exact c1.2.2.1.1 a b hab q
      · rw [show b = s0 S 7 by omega, hfn, hfo a (by omega)]; exact c1.2.2.1.2 a (by omega)
    · have ha : a < s0 S 7 + 1 := ha
      rcases Nat.lt_or_ge a (s0 S 7) with q | q
      · rw [hfo a q]; exact c1.2.2.1.2 a q
      · rw [show a = s0 S 7 by omega, hfn]; exact Nat.le_refl _
    · have hx : x < s0 S 6 + (s0 S 7 + 1) := hx
      show ((if 27 = 27 ∧ x = s0 S 6 + s0 S 7 then vp_nar .boolean 0 else ma σ 27 x) = 0 ↔ ∃ i, i < s0 S 7 + 1 ∧ x = s1 (sp_tryS S to) 15 i + i)
      by_cases e : x = s0 S 6 + s0 S 7
      · rw [if_pos ⟨rfl, e⟩]
        exact ⟨fun _ => ⟨s0 S 7, by omega, by rw [hfn]; exact e⟩, fun _ => by decide⟩
      · rw [if_neg (fun q => e q.2), c1.2.2.2 x (by omega)]
        constructor
        · rintro ⟨i, hi, hxi⟩
          exact ⟨i, by omega, by rw [hfo i hi]; exact hxi⟩
        · rintro ⟨i, hi, hxi⟩
          rcases Nat.lt_or_ge i (s0 S 7) with q | q
          · exact ⟨i, q, by rw [← hfo i q]; exact hxi⟩
          · rw [show i = s0 S 7 by omega, hfn] at hxi
            exact absurd hxi e
    · show s1 S 11 (s0 S 6) + 2 * s0 S 6 + 3 * (s0 S 7 + 1) ≤ 20000; omega
    · show nI (szS S + 3) = nI (s1 S 11 (s0 S 6) + 2 * s0 S 6 + 3 * (s0 S 7 + 1))
      rw [hszd]; congr 1
    · have hk2 := cv j k hj hk
      obtain ⟨a1, a2, a3, a4⟩ := c6 j k hj hk2
      have hkn2 := hk2.1
      have hj' : j < s0 S 6 := hj
      have hne2 : ¬ j + k = s0 S 6 + s0 S 7 := by omega
      refine ⟨fun z => ?_, fun u ku hu hfk => ?_, a3, a4⟩
      · show (if 31 = 31 ∧ j + k = s0 S 6 + s0 S 7 then _ else ma σ 31 (j + k)) = -1
        rw [if_neg (fun q => hne2 q.2)]; exact a1 z
      · obtain ⟨k0, hk0⟩ := FK_ex u (s0 S 7) c1.2.2.1
        have hu2 := (a2 u k0 hu hk0).1
        have hc := cv u ku (by omega) hfk
        refine ⟨hu2, ?_⟩
        show (if 31 = 31 ∧ j + k = s0 S 6 + s0 S 7 then _ else ma σ 31 (j + k)) = nI (u + ku)
        rw [if_neg (fun q => hne2 q.2)]; exact (a2 u ku hu hc).2
    · have ha : a < s0 S 7 + 1 := ha
      rcases Nat.lt_or_ge a (s0 S 7) with q | q
      · have qn : ¬ a = s0 S 7 := by omega
        have e16 : s1 (sp_tryS S to) 16 a = s1 S 16 a := by simp [s1, sp_tryS, up2, qn]
        have e17 : s1 (sp_tryS S to) 17 a = s1 S 17 a := by simp [s1, sp_tryS, up2, qn]
        have e18 : s1 (sp_tryS S to) 18 a = s1 S 18 a := by simp [s1, sp_tryS, up2, qn]
        have e19 : s1 (sp_tryS S to) 19 a = s1 S 19 a := by simp [s1, sp_tryS, up2, qn]
        have e20 : s1 (sp_tryS S to) 20 a = s1 S 20 a := by simp [s1, sp_tryS, up2, qn]
        have e21 : s1 (sp_tryS S to) 21 a = s1 S 21 a := by simp [s1, sp_tryS, up2, qn]
        rw [e16] at hku
        rw [e16, e17, e18, e19, e20, e21, hfo a q]
        obtain ⟨k0, hk0⟩ := FK_ex (s1 S 16 a) (s0 S 7) c1.2.2.1
        have hlt := (c7 a k0 q hk0).1
        have hfa := c1.2.2.1.2 a q
        obtain ⟨b1, b2, b3, b4, b5, b6, b7⟩ := c7 a ku q (cv _ ku (by omega) hku)
        have n1 : ¬ s1 S 15 a + a = s0 S 6 + s0 S 7 := by omega
        have n2 : ¬ s1 S 15 a + a = s0 S 8 + kw := by
          rcases Nat.lt_or_ge a kw with r | r
          · have := hkw.2.1 a r; omega
          · have := hkw.2.2 a r q; omega
        refine ⟨b1, ?_, ?_, ?_, ?_, ?_, ?_⟩
        · show (if 31 = 31 ∧ s1 S 15 a + a = s0 S 6 + s0 S 7 then _ else ma σ 31 (s1 S 15 a + a)) = _
          rw [if_neg (fun z => n1 z.2)]; exact b2
        · show (if 30 = 30 ∧ s1 S 15 a + a = s0 S 8 + kw then _ else if 30 = 30 ∧ s1 S 15 a + a = s0 S 6 + s0 S 7 then _ else ma σ 30 (s1 S 15 a + a)) = _
          rw [if_neg (fun z => n2 z.2), if_neg (fun z => n1 z.2)]; exact b3
        · show (if 34 = 34 ∧ s1 S 15 a + a = s0 S 6 + s0 S 7 then _ else ma σ 34 (s1 S 15 a + a)) = _
          rw [if_neg (fun z => n1 z.2)]; exact b4
        · show (if 35 = 35 ∧ s1 S 15 a + a = s0 S 6 + s0 S 7 then _ else ma σ 35 (s1 S 15 a + a)) = _
          rw [if_neg (fun z => n1 z.2)]; exact b5
        · show (if 36 = 36 ∧ s1 S 15 a + a = s0 S 6 + s0 S 7 then _ else ma σ 36 (s1 S 15 a + a)) = _
          rw [if_neg (fun z => n1 z.2)]; exact b6
        · show (if 37 = 37 ∧ s1 S 15 a + a = s0 S 6 + s0 S 7 then _ else ma σ 37 (s1 S 15 a + a)) = _
          rw [if_neg (fun z => n1 z.2)]; exact b7
      · have qe : a = s0 S 7 := by omega
        subst qe
        have e16 : s1 (sp_tryS S to) 16 (s0 S 7) = s0 S 8 := by simp [s1, sp_tryS, up2]
        have e17 : s1 (sp_tryS S to) 17 (s0 S 7) = to := by simp [s1, sp_tryS, up2]
        have e18 : s1 (sp_tryS S to) 18 (s0 S 7) = 0 := by simp [s1, sp_tryS, up2]
        have e19 : s1 (sp_tryS S to) 19 (s0 S 7) = s0 S 5 := by simp [s1, sp_tryS, up2]
        have e20 : s1 (sp_tryS S to) 20 (s0 S 7) = s0 S 3 := by simp [s1, sp_tryS, up2]
        have e21 : s1 (sp_tryS S to) 21 (s0 S 7) = s0 S 4 := by simp [s1, sp_tryS, up2]
        rw [e16] at hku
        rw [e16, e17, e18, e19, e20, e21, hfn]
        have hq2 : ku = kw := FK_uq (cv _ ku hw hku) hkw
        subst hq2
        have n2 : ¬ s0 S 6 + s0 S 7 = s0 S 8 + ku := by omega
        refine ⟨hw, ?_, ?_, ?_, ?_, ?_, ?_⟩
        · show (if 31 = 31 ∧ s0 S 6 + s0 S 7 = s0 S 6 + s0 S 7 then nI (s0 S 8 + ku) else _) = _
          simp
        · show (if 30 = 30 ∧ s0 S 6 + s0 S 7 = s0 S 8 + ku then _ else if 30 = 30 ∧ s0 S 6 + s0 S 7 = s0 S 6 + s0 S 7 then nI to else _) = _
          rw [if_neg (fun z => n2 z.2)]; simp
        · show (if 34 = 34 ∧ s0 S 6 + s0 S 7 = s0 S 6 + s0 S 7 then vp_nar .boolean 0 else _) = nI 0
          simp; decide
        · show (if 35 = 35 ∧ s0 S 6 + s0 S 7 = s0 S 6 + s0 S 7 then nI (s0 S 5) else _) = _
          simp
        · show (if 36 = 36 ∧ s0 S 6 + s0 S 7 = s0 S 6 + s0 S 7 then nI (s0 S 3) else _) = _
          simp
        · show (if 37 = 37 ∧ s0 S 6 + s0 S 7 = s0 S 6 + s0 S 7 then nI (s0 S 4) else _) = _
          simp
    · have hk2 := cv _ k hw hk
      have : k = kw := FK_uq hk2 hkw
      subst this
      refine ⟨hw45, ?_⟩
      show (if 30 = 30 ∧ s0 S 8 + k = s0 S 8 + k then nI (s0 S 9 + 1) else _) = nI (s0 S 9 + 1)
      simp
    · have hb : b < s0 S 7 + 1 := hb
      have na : ¬ a = s0 S 7 := by omega
      rcases Nat.lt_or_ge b (s0 S 7) with q | q
      · have nb : ¬ b = s0 S 7 := by omega
        simp only [va_up, na, nb, if_false]
        exact d4 a b hab q
      · have eb : b = s0 S 7 := by omega
        simp only [va_up, na, eb, if_false, if_true]
        exact (d5 a (by omega)).1
    · have ha : a < s0 S 7 + 1 := ha
      rcases Nat.lt_or_ge a (s0 S 7) with q | q
      · have qn : ¬ a = s0 S 7 := by omega
        have et : va_up tt (s0 S 7) tn a = tt a := by simp [va_up, qn]
        have hfa := c1.2.2.1.2 a q
        have n1 : ¬ s1 S 15 a + a = s0 S 6 + s0 S 7 := by omega
        have ew : ∀ m, sw (sp_tryS S to) 0 a m = sw S 0 a m := fun m => by simp [sw, sp_tryS, qn]
        obtain ⟨b1, b2, b3⟩ := d5 a q
        rw [et, hfo a q]
        refine ⟨b1, ?_, fun m hm => ?_⟩
        · show (if 38 = 38 ∧ s1 S 15 a + a = s0 S 6 + s0 S 7 then _ else ma σ 38 (s1 S 15 a + a)) = _
          rw [if_neg (fun z => n1 z.2)]; exact b2
        · rw [ew m]; exact b3 m hm
      · have qe : a = s0 S 7 := by omega
        subst qe
        have et : va_up tt (s0 S 7) tn (s0 S 7) = tn := by simp [va_up]
        have ew : ∀ m, sw (sp_tryS S to) 0 (s0 S 7) m = sv S 0 m := fun m => by simp [sw, sp_tryS]
        rw [et, hfn]
        refine ⟨Nat.le_refl _, ?_, fun m hm => ?_⟩
        · show (if 38 = 38 ∧ s0 S 6 + s0 S 7 = s0 S 6 + s0 S 7 then nI tn else _) = _
          simp
        · rw [ew m, Nat.sub_self]; exact d0 m hm
    · show nI mm = nI (if s0 S 11 < szS S + 3 then szS S + 3 else s0 S 11); rw [hm]
    · show (if s0 S 11 < szS S + 3 then szS S + 3 else s0 S 11) ≤ 20000
      split <;> omega
  · have hle : ¬ szS S + 3 ≤ s0 S 14 := fun q => hq (nI_le q (by omega))
    refine hn hle σ13 ?_
    rw [e13]
    exact ⟨h1, h2, h3, ⟨c1, c2, c3, c4, c5, c6, c7, fun q => absurd q (by rintro (q | q) <;> cases q), c9⟩, h5, rfl, by show 5 ≤ 7; omega, h6.2.2⟩
