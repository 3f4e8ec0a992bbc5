/-! the reference's step, all of it -/
theorem okIn_c {S : Sp} {p i c : Nat} (h : okIn S p i) (e : s1 S 5 i = c) : okI S p (nI c) (si S 1 i) (si S 2 i) (si S 3 i) (si S 4 i) (s1 S 6 i) (fun j => nI (s2 S 2 i j)) := by rw [← e]; exact h
theorem n_le4 {n : Nat} (h : n ≤ 10) (q : ¬ 5 ≤ nI n) : n ≤ 4 := by
  rcases Nat.lt_or_ge 4 n with r | r
  · exact absurd (nI_le (a := 5) r (by omega)) q
  · exact r
theorem WF.exO {S : Sp} (h : WF S) (hl : live S) (hb : ∀ i j, i < s0 S 2 → (s1 S 5 i = 2 ∨ s1 S 5 i = 3 ∨ s1 S 5 i = 10) → j < s1 S 6 i → s2 S 2 i j < 40) : exOK S := by
  obtain ⟨⟨P1, P2, P3, P4⟩, -, ⟨B1, B2, B3, B4⟩, -⟩ := h
  intro hz
  obtain ⟨b1, b2, b3, b4, b5⟩ := B4 (s0 S 8) (B3 hl)
  obtain ⟨x1, x2, x3, x4⟩ := b5 (s1 S 12 (s0 S 8) - 1) (by omega)
  have hu : s1 S 12 (s0 S 8) - 1 < s0 S 6 := by have := B3 hl; omega
  obtain ⟨-, y2, y3, -, -, -, -, -, y9⟩ := P3 _ (B4 _ hu).1
  obtain ⟨z1, z2⟩ := y9 _ x2
  have q : inR _ _ ∧ _ ∧ allSl _ _ _ _ := okIn_c z2 x3
  obtain ⟨-, -, -, -, w5, w6, -⟩ := P3 _ b1
  have en : s1 S 6 (exI S) = s1 S 2 (s1 S 10 (s0 S 8)) + s1 S 3 (s1 S 10 (s0 S 8)) := by
    have := q.2.1
    rw [x4, nI_clamp (show s1 S 10 (s0 S 8) < 2 ^ 31 by omega), nI_add] at this
    have h6 : s1 S 6 (exI S) ≤ 10 := (P4 _ z1).2.1
    exact (nI_eq (by omega) (by omega)).mp this
  refine ⟨x1, x2, z1, x3, en, fun j hj => row_sl y2 y3 ?_ q.2.2 hj⟩
  have := hb (exI S) j z1 (Or.inr (Or.inr x3)) hj
  omega
theorem fs_hp {S : Sp} : ∀ c, fsS S c ≤ hpS S c := by
  intro c
  induction c with
  | zero => exact Nat.le_refl _
  | succ c ih =>
    show fsS S c + s1 S 8 c ≤ hpS S c + (if s1 S 8 c = 0 then 0 else s1 S 8 c + 1)
    split <;> omega
theorem WF.inc {S : Sp} (h : WF S) (hs : s0 S 10 < 20000) : WF (u0 S 10 (s0 S 10 + 1)) := by
  obtain ⟨P, ⟨C1, C2⟩, B, T, V, ⟨N1, N2, N3, N4⟩⟩ := h
  exact ⟨P, ⟨Nat.le_succ_of_le C1, C2⟩, B, T, V, ⟨N1, Nat.le_succ_of_le N2, hs, N4⟩⟩
theorem m_step1 {σ : MSt} {S : Sp} {tb : Nat} {post : MSt → Prop} (h : RMb σ S tb) (hW : WF S) (hst : s0 S 17 = 1) (hs : s0 S 3 < s0 S 10) (hs2 : s0 S 13 < s0 S 10) (htb : tb + 8 < 200000) (hp : ∀ σ', RMb σ' (sp_stepS S) (tb + 8) → post σ') (σ0 : MSt) (hσ : σ = smi σ0 46 (mi σ0 46 + 1)) : wp_X11_step σ0 post := by
  obtain ⟨h1, h2, h3, h4, h5, h6⟩ := id h
  obtain ⟨c1, c2, c3, c4, c5, c6, c7, c8, c9⟩ := id h4
  have hl : live S := Or.inl hst
  obtain ⟨hw, hwk⟩ := c8 hl
  obtain ⟨kw, hkw⟩ := FK_ex (s0 S 8) (s0 S 7) c1.2.2.1
  obtain ⟨e45, e30⟩ := hwk kw hkw
  have hkwn := hkw.1
  have h7 := c1.2.1
  have e28 := (c2.1 (s0 S 8) kw hw hkw).1
  obtain ⟨⟨P1, P2, P3, P4⟩, ⟨C1, C2, C3, C4, C5⟩, ⟨B1, B2, B3, B4⟩, hT, hV, ⟨N1, N2, N3, N4, N5⟩⟩ := id hW
  have hWR := hW.wr
  have hrow : ∀ i j, i < s0 S 2 → (s1 S 5 i = 2 ∨ s1 S 5 i = 3 ∨ s1 S 5 i = 10) → j < s1 S 6 i → s2 S 2 i j < 40 := fun i j hi hk hj => ((h2.2.2.2.2.2 i hi).2.2.2.2.2.2.2.2 hk j hj).2
  have hexo := hW.exO hl hrow
  obtain ⟨hpw, hbw, -, h14, -⟩ := B4 (s0 S 8) hw
  obtain ⟨-, sl1, sl2, -, -, -, sl7, -, sl9⟩ := P3 _ hpw
  obtain ⟨-, -, f3, -, -, -, -, -, -, -, f11, f12, -, f14⟩ := h2.2.2.2.2.1 _ hpw
  have fl : ∀ (post : MSt → Prop), (∀ σ', RMb σ' (sp_failS (s0 S 7) S) (tb + 8) → post σ') → wp_X11_fail σ post := fun post hp => m_fail h.core hWR (by omega) (fun σ' h' => hp σ' (h'.le (by omega)))
  have hvw : ∀ a, a < s1 S 1 (s1 S 10 (s0 S 8)) → okV (s0 S 3) (rdS S a) := fun a ha => by
    have hbl : s1 S 11 (s0 S 8 + 1) ≤ s1 S 11 (s0 S 6) := RM_bl h.core.2.2.2.1 (by omega) (Nat.le_refl _)
    exact hV _ (by omega)
  intro σ1 e1
  rw [← hσ] at e1
  subst e1
  unfold sp_stepS at hp
  generalize hP : s1 S 10 (s0 S 8) = p at *
  rw [e45, nI_clamp (show s0 S 8 + kw < 2 ^ 31 by omega), e30, e28]
  have vw := vp_in_nI (n := s0 S 8 + kw) (N := 7000) (by omega) (by decide)
  refine ⟨vw, fun v2 e2 => ⟨vw, fun v3 e3 => ?_⟩⟩
  subst e2; subst e3
  rw [nI_clamp (show p < 2 ^ 31 by omega), f11]
  refine ⟨vp_in_nI (by omega) (by decide), fun hq => ?_, fun hq => ?_⟩
  rotate_left
  · have hge : ¬ s0 S 9 < s1 S 4 p := fun q => hq (nI_lt q (by omega))
    rw [if_neg hge] at hp
    exact fl _ hp
  have hlt : s0 S 9 < s1 S 4 p := by
    rcases Nat.lt_or_ge (s0 S 9) (s1 S 4 p) with q | q
    · exact q
    · exact absurd hq (nI_nlt q (by omega))
  rw [if_pos hlt] at hp
  obtain ⟨hi, hok⟩ := sl9 _ hlt
  have e10 : ma σ1 10 (2000 * p + s0 S 9) = nI (atS S) := by rw [(f14 _ hlt).1, atS, hP]
  have eat : s2 S 1 p (s0 S 9) = atS S := by rw [atS, hP]
  rw [eat] at hi hok
  rw [show ((2000 : Int32) * nI p) + nI (s0 S 9) = nI (2000 * p + s0 S 9) by rw [show (2000 : Int32) = nI 2000 from rfl, pk_mul, nI_add], nI_clamp (show 2000 * p + s0 S 9 < 2 ^ 31 by omega), e10]
  refine ⟨vp_in_nI (by omega) (by decide), fun v4 e4 => ?_⟩
  subst e4
  generalize atS S = i at hi hok hp
  obtain ⟨q1, q2, q3, q4, q5, q6, q7, q8, q9⟩ := h2.2.2.2.2.2 i hi
  have vi := vp_in_nI (n := i) (N := 2000) (by omega) (by decide)
  rw [nI_clamp (show i < 2 ^ 31 by omega), q1]
  have kk : ∀ c, c < 16 → nI (s1 S 5 i) = nI c → s1 S 5 i = c := fun c hc e => (nI_eq (by omega) (by omega)).mp e
  have isl : ∀ k, isSl S p (si S k i) → si S k i = nI (sa S k i) ∧ sa S k i < s1 S 1 p := fun k hk => isSl_sa sl1 sl2 hk
  have hn6 := (P4 i hi).2.1
  refine ⟨vi, fun e => ?_, fun e => ?_, fun e => ?_, fun e => ?_, fun e => ?_, fun e => ?_, fun e => ?_, fun e => ?_, fun e => ?_, fun e => ?_, fun e => ?_, fun e => ?_, fun e => ?_, fun e => ?_, fun e => ?_, fun n0 n1 n2 n3 n4 n5 n6 n7 n8 n9 n10 n11 n12 n13 n14 => ?_⟩
  · have ek := kk 0 (by decide) e
    obtain ⟨a1, a2⟩ := isl 1 (okIn_c hok ek)
    rw [q3, q4, a1]
    refine ⟨vi, vi, m_set h hl (by omega) (by rw [hP]; exact a2) (fun σ5 h5' => m_nx h5' hl (fun σ6 h6' => hp σ6 ?_))⟩
    rw [sp_do, if_pos ek]
    exact h6'.le (by omega)
  · have ek := kk 1 (by decide) e
    have q : isSl S p (si S 1 i) ∧ isSl S p (si S 2 i) := okIn_c hok ek
    obtain ⟨a1, a2⟩ := isl 1 q.1
    obtain ⟨b1, b2⟩ := isl 2 q.2
    rw [q3, q4, a1, b1]
    refine ⟨vi, vi, m_get' h4 h5.1 hl (by rw [hP]; exact b2) (m_set h hl (by omega) (by rw [hP]; exact a2) (fun σ5 h5' => m_nx h5' hl (fun σ6 h6' => hp σ6 ?_)))⟩
    rw [sp_do, ek]
    exact h6'.le (by omega)
  · have ek := kk 2 (by decide) e
    have q : isSl S p (si S 1 i) ∧ inR (si S 2 i) 31 ∧ ¬ 5 ≤ nI (s1 S 6 i) ∧ allSl S p (s1 S 6 i) (fun j => nI (s2 S 2 i j)) := okIn_c hok ek
    obtain ⟨a1, a2⟩ := isl 1 q.1
    obtain ⟨b1, b2⟩ := inR_sa (m := 31) (by decide) q.2.1
    have hfh : s0 S 4 ≤ s0 S 5 := by rw [C2, C3]; exact fs_hp _
    refine m_makeCell h hl (by omega) hi ek b1 (by omega) a1 (by rw [hP]; exact a2) (n_le4 hn6 q.2.2.1) (fun j hj => by rw [hP]; exact row_sl sl1 sl2 (by have := hrow i j hi (Or.inl ek) hj; omega) q.2.2.2 hj) (by omega) hfh (fun σ11 h11 => ?_)
    rw [sp_do, ek] at hp
    have hp : ∀ σ', RMb σ' (if s0 (sp_makeS S i) 17 = 1 then nxS (sp_makeS S i) else sp_makeS S i) (tb + 8) → post σ' := hp
    have e44 := add_sub1 h11.2.2.2.2.2.1
    have hor : s0 (sp_makeS S i) 17 = 1 ∨ s0 (sp_makeS S i) 17 = 6 := by
      unfold sp_makeS
      split
      · exact Or.inl hst
      · exact Or.inr rfl
    rw [e44]
    rcases hor with r | r
    · rw [r]
      rw [if_pos r] at hp
      exact ⟨fun _ => m_nx h11 (Or.inl r) (fun σ12 h12 => hp σ12 (h12.le (by omega))), fun z => absurd rfl z⟩
    · rw [r]
      rw [if_neg (by omega)] at hp
      exact ⟨fun z => absurd z (by decide), fun _ => hp σ11 (h11.le (by omega))⟩
  · have ek := kk 3 (by decide) e
    have q : isSl S p (si S 1 i) ∧ inR (si S 2 i) 31 ∧ ¬ 5 ≤ nI (s1 S 6 i) ∧ allSl S p (s1 S 6 i) (fun j => nI (s2 S 2 i j)) := okIn_c hok ek
    obtain ⟨a1, a2⟩ := isl 1 q.1
    have hn4 := n_le4 hn6 q.2.2.1
    have hv := hvw _ a2
    rw [sp_do, ek] at hp
    have hp : ∀ σ', RMb σ' (ifHas S (rdS S (sa S 1 i)) (si S 2 i) (nI (s1 S 6 i)) (nxS (tkS S i (cix (rdS S (sa S 1 i))) (s1 S 6 i))) (sp_failS (s0 S 7) S)) (tb + 8) → post σ' := hp
    rw [q3, a1]
    refine ⟨vi, m_get' h4 h5.1 hl (by rw [hP]; exact a2) ⟨vi, vi, ?_⟩⟩
    rw [q4, q7]
    refine m_has h3 hv (fun hh => nz1 ?_) (fun hh => nz0 ?_)
    · rw [ifHas_t hh] at hp
      refine m_takeCell h hl (by omega) hi ek a1 (by rw [hP]; exact a2) hn4 (fun j hj => by rw [hP]; exact row_sl sl1 sl2 (by have := hrow i j hi (Or.inr (Or.inl ek)) hj; omega) q.2.2.2 hj) hv hh (fun σ17 h17 => ?_)
      have we := wrL_e (S := S) (f := fun k => s1 S 11 (s0 S 8) + s2 S 2 i k) (g := fun k _ => sv S 1 (s1 S 9 (cix (rdS S (sa S 1 i))) + k)) (s1 S 6 i)
      have e0 : s0 (tkS S i (cix (rdS S (sa S 1 i))) (s1 S 6 i)) = s0 S := we.1
      exact m_nx h17 (by unfold live; rw [e0]; exact hl) (fun σ18 h18 => hp σ18 (h18.le (by omega)))
    · rw [ifHas_f hh] at hp
      exact fl _ hp
  · have ek := kk 4 (by decide) e
    have q : isSl S p (si S 1 i) ∧ isSl S p (si S 2 i) := okIn_c hok ek
    obtain ⟨a1, a2⟩ := isl 1 q.1
    obtain ⟨b1, b2⟩ := isl 2 q.2
    rw [sp_do, ek] at hp
    exact m_same h hl (by omega) hWR hi a1 (by rw [hP]; exact a2) b1 (by rw [hP]; exact b2) (fun c hc k hk => okV_le (by omega) ((C5 c hc).2.2.2 k hk)) (hvw _ a2) (hvw _ b2) (fun σ' h' => hp σ' (h'.le (by omega)))
  · have ek := kk 5 (by decide) e
    have q : isSl S p (si S 1 i) ∧ isSl S p (si S 2 i) ∧ isSl S p (si S 3 i) ∧ inR (si S 4 i) 4 := okIn_c hok ek
    obtain ⟨a1, a2⟩ := isl 1 q.1
    obtain ⟨b1, b2⟩ := isl 2 q.2.1
    obtain ⟨d1, d2⟩ := isl 3 q.2.2.1
    rw [sp_do, ek] at hp
    exact m_summed h hl (by omega) hWR hi a1 (by rw [hP]; exact a2) b1 (by rw [hP]; exact b2) d1 (by rw [hP]; exact d2) q.2.2.2.1 (fun σ' h' => hp σ' (h'.le (by omega)))
  · have ek := kk 6 (by decide) e
    have q : isSl S p (si S 1 i) ∧ isSl S p (si S 2 i) ∧ inR (si S 3 i) 5 := okIn_c hok ek
    obtain ⟨a1, a2⟩ := isl 1 q.1
    obtain ⟨b1, b2⟩ := isl 2 q.2.1
    rw [sp_do, ek] at hp
    exact m_compared h hl (by omega) hWR hi a1 (by rw [hP]; exact a2) b1 (by rw [hP]; exact b2) (fun σ' h' => hp σ' (h'.le (by omega)))
  · have ek := kk 7 (by decide) e
    have q : inR (si S 1 i) 1999 := okIn_c hok ek
    obtain ⟨a1, a2⟩ := inR_sa (m := 1999) (by decide) q
    rw [sp_do, ek] at hp
    obtain ⟨w, r1, r2, r3, r4⟩ := RM_next h hl
    have ew : w = s0 S 8 + kw := (nI_eq (by omega) (by omega)).mp (r1.symm.trans e45)
    subst ew
    rw [q3, a1]
    refine ⟨vi, vw, fun σ23 e23 => hp σ23 ?_⟩
    rw [e23]
    exact (r4 (sa S 1 i)).le (by omega)
  · have ek := kk 8 (by decide) e
    have q : isSl S p (si S 1 i) ∧ inR (si S 2 i) 31 ∧ inR (si S 3 i) 1999 := okIn_c hok ek
    obtain ⟨a1, a2⟩ := isl 1 q.1
    obtain ⟨b1, b2⟩ := inR_sa (m := 1999) (by decide) q.2.2
    rw [sp_do, ek] at hp
    have hp : ∀ σ', RMb σ' (u0 S 9 (ifHas S (rdS S (sa S 1 i)) (si S 2 i) (-1) (s0 S 9 + 1) (sa S 3 i))) (tb + 8) → post σ' := hp
    obtain ⟨w, r1, r2, r3, r4⟩ := RM_next h hl
    have ew : w = s0 S 8 + kw := (nI_eq (by omega) (by omega)).mp (r1.symm.trans e45)
    subst ew
    rw [q3, a1]
    refine ⟨vi, m_get' h4 h5.1 hl (by rw [hP]; exact a2) ⟨vi, ?_⟩⟩
    rw [q4]
    refine m_has h3 (hvw _ a2) (fun hh => nz1 ?_) (fun hh => nz0 ?_)
    · rw [ifHas_t hh] at hp
      refine ⟨vw, fun σ29 e29 => hp σ29 ?_⟩
      rw [e29, nI_1]
      exact (r4 _).le (by omega)
    · rw [ifHas_f hh] at hp
      rw [q5, b1]
      refine ⟨vi, vw, fun σ28 e28 => hp σ28 ?_⟩
      rw [e28]
      exact (r4 _).le (by omega)
  · have ek := kk 9 (by decide) e
    have q : inR (si S 1 i) 1999 := okIn_c hok ek
    obtain ⟨a1, a2⟩ := inR_sa (m := 1999) (by decide) q
    rw [sp_do, ek] at hp
    have hp : ∀ σ', RMb σ' (if szS S + 3 ≤ s0 S 14 then sp_tryS S (sa S 1 i) else u0 S 17 5) (tb + 8) → post σ' := hp
    refine m_tryLater h hl hi a1 (RM_bg h2 h.core.2.2.2.1 _ (Nat.le_refl _)) N4 (fun hy σ' h' => ?_) (fun hn σ' h' => ?_)
    · rw [if_pos hy] at hp
      exact hp σ' (h'.le (by omega))
    · rw [if_neg hn] at hp
      exact hp σ' (h'.le (by omega))
  · have ek := kk 10 (by decide) e
    have q : inR (si S 1 i) (nI (s0 S 1) - 1) ∧ nI (s1 S 6 i) = nI (s1 S 2 (sa S 1 i)) + nI (s1 S 3 (sa S 1 i)) ∧ allSl S p (s1 S 6 i) (fun j => nI (s2 S 2 i j)) := okIn_c hok ek
    have hnp : 1 ≤ s0 S 1 := by omega
    rw [show nI (s0 S 1) - 1 = nI (s0 S 1 - 1) by rw [show (1 : Int32) = nI 1 from rfl, pk_sub hnp]] at q
    obtain ⟨a1, a2⟩ := inR_sa (by omega) q.1
    obtain ⟨-, -, -, -, -, w6, -⟩ := P3 (sa S 1 i) (by omega)
    have en : s1 S 6 i = s1 S 2 (sa S 1 i) + s1 S 3 (sa S 1 i) := by
      have := q.2.1
      rw [nI_add] at this
      exact (nI_eq (by omega) (by omega)).mp this
    rw [sp_do, ek] at hp
    exact m_call h hl hi ek a1 (by omega) en (fun j hj => by rw [hP]; exact row_sl sl1 sl2 (by have := hrow i j hi (Or.inr (Or.inr ek)) hj; omega) q.2.2 hj) (fun σ' h' => hp σ' (h'.le (by omega)))
  · have ek := kk 11 (by decide) e
    obtain ⟨a1, a2⟩ := isl 1 (okIn_c hok ek)
    rw [sp_do, ek] at hp
    rw [q3, a1]
    exact ⟨vi, m_redos c1 (m_set h hl (by omega) (by rw [hP]; exact a2) (fun σ5 h5' => m_nx h5' hl (fun σ6 h6' => hp σ6 (h6'.le (by omega)))))⟩
  · have ek := kk 12 (by decide) e
    obtain ⟨a1, a2⟩ := isl 1 (okIn_c hok ek)
    rw [sp_do, ek] at hp
    refine m_cutOrDrop h hl hi (Or.inl ek) a1 (by rw [hP]; exact a2) (hvw _ a2) (fun σ' h' => hp σ' (RMb.le ?_ (show tb ≤ tb + 8 by omega)))
    rw [if_pos ek] at h'
    exact h'
  · have ek := kk 13 (by decide) e
    obtain ⟨a1, a2⟩ := isl 1 (okIn_c hok ek)
    rw [sp_do, ek] at hp
    refine m_cutOrDrop h hl hi (Or.inr ek) a1 (by rw [hP]; exact a2) (hvw _ a2) (fun σ' h' => hp σ' (RMb.le ?_ (show tb ≤ tb + 8 by omega)))
    rw [if_neg (show ¬ s1 S 5 i = 12 by omega)] at h'
    exact h'
  · have ek := kk 14 (by decide) e
    rw [sp_do, ek] at hp
    exact m_exit h hl htb hexo (by omega) h14 hp
  · rw [sp_do, if_neg (fun z => n0 (by rw [z]; rfl)), if_neg (fun z => n1 (by rw [z]; rfl)), if_neg (fun z => n2 (by rw [z]; rfl)), if_neg (fun z => n3 (by rw [z]; rfl)), if_neg (fun z => n4 (by rw [z]; rfl)), if_neg (fun z => n5 (by rw [z]; rfl)), if_neg (fun z => n6 (by rw [z]; rfl)), if_neg (fun z => n7 (by rw [z]; rfl)), if_neg (fun z => n8 (by rw [z]; rfl)), if_neg (fun z => n9 (by rw [z]; rfl)), if_neg (fun z => n10 (by rw [z]; rfl)), if_neg (fun z => n11 (by rw [z]; rfl)), if_neg (fun z => n12 (by rw [z]; rfl)), if_neg (fun z => n13 (by rw [z]; rfl)), if_neg (fun z => n14 (by rw [z]; rfl))] at hp
    exact fl _ hp
theorem m_step {σ : MSt} {S : Sp} {tb : Nat} {post : MSt → Prop} (h : RMb σ S tb) (hW : WF S) (hst : s0 S 17 = 1) (hs : s0 S 10 < 20000) (htb : tb + 8 < 200000) (hp : ∀ σ', RMb σ' (sp_stepS (u0 S 10 (s0 S 10 + 1))) (tb + 8) → post σ') : wp_X11_step σ post := by
  have hC := hW.2.1.1
  have hN := hW.2.2.2.2.2.2.1
  refine m_step1 (σ := smi σ 46 (nI (s0 S 10 + 1))) (S := u0 S 10 (s0 S 10 + 1)) ?_ (hW.inc hs) hst (show s0 S 3 < s0 S 10 + 1 by omega) (show s0 S 13 < s0 S 10 + 1 by omega) htb hp σ ?_
  · obtain ⟨h1, h2, h3, h4, h5, g1, g2, g3, g4, g5⟩ := h
    exact ⟨h1, h2, h3, h4, h5, g1, g2, rfl, hs, g5⟩
  · rw [h.2.2.2.2.2.2.2.1, nI_1]
