/-! the reference's add -/
theorem okI_kind {S : Sp} {p n : Nat} {row : Nat → Int32} {k a b c d : Int32} (h : okI S p k a b c d n row) : ∃ j, j ≤ 15 ∧ k = nI j := by
  unfold okI at h
  by_cases e0 : k = 0
  · exact ⟨0, by omega, e0⟩
  rw [if_neg e0] at h
  by_cases e1 : k = 1
  · exact ⟨1, by omega, e1⟩
  rw [if_neg e1] at h
  by_cases e2 : k = 2
  · exact ⟨2, by omega, e2⟩
  rw [if_neg e2] at h
  by_cases e3 : k = 3
  · exact ⟨3, by omega, e3⟩
  rw [if_neg e3] at h
  by_cases e4 : k = 4
  · exact ⟨4, by omega, e4⟩
  rw [if_neg e4] at h
  by_cases e5 : k = 5
  · exact ⟨5, by omega, e5⟩
  rw [if_neg e5] at h
  by_cases e6 : k = 6
  · exact ⟨6, by omega, e6⟩
  rw [if_neg e6] at h
  by_cases e7 : k = 7
  · exact ⟨7, by omega, e7⟩
  rw [if_neg e7] at h
  by_cases e8 : k = 8
  · exact ⟨8, by omega, e8⟩
  rw [if_neg e8] at h
  by_cases e9 : k = 9
  · exact ⟨9, by omega, e9⟩
  rw [if_neg e9] at h
  by_cases e10 : k = 10
  · exact ⟨10, by omega, e10⟩
  rw [if_neg e10] at h
  by_cases e11 : k = 11
  · exact ⟨11, by omega, e11⟩
  rw [if_neg e11] at h
  by_cases e12 : k = 12
  · exact ⟨12, by omega, e12⟩
  rw [if_neg e12] at h
  by_cases e13 : k = 13
  · exact ⟨13, by omega, e13⟩
  rw [if_neg e13] at h
  rcases h with h | h
  · exact ⟨14, by omega, h⟩
  · exact ⟨15, by omega, h⟩
theorem okI_row {S : Sp} {p n : Nat} {row : Nat → Int32} {k a b c d : Int32} (h : okI S p k a b c d n row) (hk : k = 2 ∨ k = 3 ∨ k = 10) : allSl S p n row := by
  unfold okI at h
  rcases hk with e | e | e <;> subst e
  · exact h.2.2.2
  · exact h.2.2.2
  · exact h.2.2
def sp_addS (S : Sp) (p : Nat) (k a b c d : Int32) : Sp :=
  (va_up (va_up (s0 S) 0 0) 2 (s0 S 2 + 1), up2 (up2 (up2 (s1 S) 5 (s0 S 2) k.toNatClampNeg) 6 (s0 S 2) (s0 S 0)) 4 p (s1 S 4 p + 1),
   fun m i j => if m = 1 ∧ i = p ∧ j = s1 S 4 p then s0 S 2 else if m = 2 ∧ i = s0 S 2 then (si S 0 j).toNatClampNeg else s2 S m i j,
   up2 (up2 (up2 (up2 (si S) 1 (s0 S 2) a) 2 (s0 S 2) b) 3 (s0 S 2) c) 4 (s0 S 2) d, sv S, sw S)
def okAdd (S : Sp) (p k a b c d : Int32) : Prop := ¬ s0 S 2 = 2000 ∧ inR p (nI (s0 S 1) - 1) ∧ okI S p.toNatClampNeg k a b c d (s0 S 0) (si S 0)
theorem m_add_loop {σ : MSt} {n p k cn : Nat} {row : Nat → Int32} {post : Int32 → MSt → Prop} (hn : n ≤ 10) (hp : p < 60) (hk : k < 2000) (hc : cn < 2000) (hr : ∀ i, i < n → ma σ 1 i = row i) (h11 : mi σ 11 = nI k) (h9 : ma σ 9 p = nI cn)
    (hq : post (nI cn) (sma (sma (smi (sro σ 18 (10 * k) n row) 11 (nI (k + 1))) 10 (2000 * p + cn) (nI k)) 9 p (nI (cn + 1)))) : ∀ d t, t + d = n → wp_X11_add_116 post (d + 1) (sro σ 18 (10 * k) t row) (nI p) (nI n) (nI k) (nI t) := by
  intro d
  induction d with
  | zero =>
    intro t ht
    have e : t = n := by omega
    subst e
    rw [wp_X11_add_116]
    refine ⟨fun _ σ15 e15 => ?_, fun h => absurd (nI_le (Nat.le_refl _) (by omega)) h⟩
    have x11 : mi (sro σ 18 (10 * k) t row) 11 = nI k := h11
    rw [x11, nI_1] at e15
    have x9 : ma σ15 9 p = nI cn := by rw [e15]; exact h9
    have es : (2000 : Int32) * nI p + nI cn = nI (2000 * p + cn) := by rw [show (2000 : Int32) = nI 2000 from rfl, pk_mul, nI_add]
    rw [nI_clamp (show p < 2 ^ 31 by omega), x9, es, nI_clamp (show 2000 * p + cn < 2 ^ 31 by omega)]
    refine ⟨vp_in_nI hp (by decide), vp_in_nI (by omega) (by decide), fun σ16 e16 => ⟨vp_in_nI hp (by decide), vp_in_nI hp (by decide), fun σ17 e17 => ⟨vp_in_nI hp (by decide), ?_⟩⟩⟩
    have y9 : ma σ16 9 p = nI cn := by rw [e16]; exact x9
    rw [y9, nI_1] at e17
    have z9 : ma σ17 9 p = nI (cn + 1) := by rw [e17]; simp [ma, sma, up2]
    rw [z9, nI_pred, e17, e16, e15]
    exact hq
  | succ d ih =>
    intro t ht
    rw [wp_X11_add_116]
    have e8 : (10 : Int32) * nI k + nI t = nI (10 * k + t) := by rw [show (10 : Int32) = nI 10 from rfl, pk_mul, nI_add]
    refine ⟨fun h => absurd h (nI_ge (by omega) (by omega)), fun _ => ⟨vp_in_nI (by omega) (by omega), ?_⟩⟩
    rw [e8, nI_clamp (by omega), nI_clamp (by omega)]
    refine ⟨vp_in_nI (by omega) (by omega), fun σ18 e18 v e => ?_⟩
    have e1 : ma (sro σ 18 (10 * k) t row) 1 t = row t := hr t (by omega)
    rw [e1, sro_s] at e18
    rw [e, nI_1, e18]
    exact ih (t + 1) (by omega)
theorem m_add {σ : MSt} {S : Sp} {p k a b c d : Int32} {post : Int32 → MSt → Prop} (h : RM σ S) (hy : okAdd S p k a b c d → ∀ σ', RM σ' (sp_addS S p.toNatClampNeg k a b c d) → post (nI (s1 S 4 p.toNatClampNeg)) σ') (hn : ¬ okAdd S p k a b c d → ∀ σ', RM σ' (u0 S 0 0) → post (-1) σ') : wp_X11_add σ p k a b c d post := by
  have h0 := h.thr (v := 0)
  have hn10 : s0 S 0 ≤ 10 := h.1.2.1
  intro σ1 e1
  rw [← e1] at h0
  refine m_taken h0 fun σ2 h2 hrow => ?_
  have h211 : mi σ2 11 = nI (s0 S 2) := h2.2.1.2.2.1
  have h23 : mi σ2 3 = nI (s0 S 1) := h2.2.1.1
  have hni : s0 S 2 ≤ 2000 := h.2.1.2.2.2.1
  have hnp60 : s0 S 1 ≤ 60 := h.2.1.2.1
  rw [h211]
  refine ⟨fun hq => hn (fun k => k.1 ((nI_eq (by omega) (by decide)).mp hq)) σ2 h2, fun hq => ?_⟩
  have hni2 : ¬ s0 S 2 = 2000 := fun e => hq (by rw [e]; rfl)
  rw [h23]
  refine m_isWithin (fun qp => nz1 ?_) (fun qp => nz0 (hn (fun k => qp k.2.1) σ2 h2))
  have h1 : 1 ≤ s0 S 1 := by
    rcases Nat.eq_zero_or_pos (s0 S 1) with e | e
    · rw [e, nI_0] at qp
      have m1 := Int32.le_iff_toInt_le.mp qp.1
      have m2 := Int32.le_iff_toInt_le.mp qp.2
      have z0 : (0 : Int32).toInt = 0 := rfl
      have z1 : ((0 : Int32) - 1).toInt = -1 := by decide
      omega
    · exact e
  have hin : inR p (nI (s0 S 1) - 1) := qp
  rw [show nI (s0 S 1) - 1 = nI (s0 S 1 - 1) by rw [show (1 : Int32) = nI 1 from rfl, pk_sub h1]] at qp
  obtain ⟨j, -, hj, ej⟩ := i32_rng (lo := 0) (hi := s0 S 1 - 1) (by decide) (by omega) qp.1 qp.2
  subst ej
  have ejc : (nI j).toNatClampNeg = j := nI_clamp (by omega)
  rw [okAdd, ejc] at hy hn
  have hj1 : j < s0 S 1 := by omega
  refine m_isRight (S := u0 S 0 0) h2.2.1 hj1 hn10 hrow (fun qo => nz1 ?_) (fun qo => nz0 (hn (fun k => qo k.2.2) σ2 h2))
  have qo : okI S j k a b c d (s0 S 0) (si S 0) := qo
  intro v8 e8
  rw [h211] at e8
  subst e8
  have hk2 : s0 S 2 < 2000 := by omega
  refine ⟨vp_in_nI hk2 (by decide), fun σ9 e9 => ⟨vp_in_nI hk2 (by decide), fun σ10 e10 => ⟨vp_in_nI hk2 (by decide), fun σ11 e11 => ⟨vp_in_nI hk2 (by decide), fun σ12 e12 => ⟨vp_in_nI hk2 (by decide), fun σ13 e13 => ⟨vp_in_nI hk2 (by decide), fun σ14 e14 => ?_⟩⟩⟩⟩⟩⟩
  rw [nI_clamp (by omega)] at e9 e10 e11 e12 e13 e14
  obtain ⟨r1, r2, r3, r4, r5, r6⟩ := h2
  obtain ⟨p1, p2, p3, p4, p5, p6⟩ := r2
  obtain ⟨f1, f2, f3, f4, f5, f6, f7, f8, f9, f10, f11, f12, f13, f14⟩ := p5 j hj1
  have f12 : s1 S 4 j ≤ s0 S 2 := f12
  have hrow14 : ∀ i, i < s0 S 0 → ma σ14 1 i = si S 0 i := fun i hii => by rw [e14, e13, e12, e11, e10, e9]; exact hrow i hii
  have h1114 : mi σ14 11 = nI (s0 S 2) := by rw [e14, e13, e12, e11, e10, e9]; exact h211
  have h914 : ma σ14 9 j = nI (s1 S 4 j) := by rw [e14, e13, e12, e11, e10, e9]; exact f11
  refine ⟨s0 S 0 + 1, ?_⟩
  have key := m_add_loop (σ := σ14) (row := si S 0) (post := post) (n := s0 S 0) (p := j) (k := s0 S 2) (cn := s1 S 4 j) hn10 (by omega) hk2 (by omega) hrow14 h1114 h914 ?_ (s0 S 0) 0 (by omega)
  · rw [sro_0, nI_0] at key; exact key
  refine hy ⟨hni2, hin, qo⟩ _ ?_
  subst e14; subst e13; subst e12; subst e11; subst e10; subst e9
  obtain ⟨jk, hjk, ek⟩ := okI_kind qo
  refine ⟨⟨r1.1, Nat.zero_le _, fun i hii => absurd hii (Nat.not_lt_zero i)⟩, ⟨p1, p2, rfl, by show s0 S 2 + 1 ≤ 2000; omega, fun p hp => ?_, fun m hm => ?_⟩, r3, r4, r5, r6⟩
  · have hp : p < s0 S 1 := hp
    obtain ⟨g1, g2, g3, g4, g5, g6, g7, g8, g9, g10, g11, g12, g13, g14⟩ := p5 p hp
    have g12 : s1 S 4 p ≤ s0 S 2 := g12
    refine ⟨g1, g2, g3, g4, g5, g6, g7, g8, g9, g10, ?_, ?_, g13, fun i hi => ?_⟩
    · show (if 9 = 9 ∧ p = j then nI (s1 S 4 j + 1) else ma σ2 9 p) = nI (if 4 = 4 ∧ p = j then s1 S 4 j + 1 else s1 S 4 p)
      by_cases q : p = j
      · simp [q]
      · simp [q]; exact g11
    · show (if 4 = 4 ∧ p = j then s1 S 4 j + 1 else s1 S 4 p) ≤ s0 S 2 + 1
      by_cases q : p = j
      · simp [q]; exact f12
      · simp [q]; omega
    · have hi : i < (if 4 = 4 ∧ p = j then s1 S 4 j + 1 else s1 S 4 p) := hi
      show (if 10 = 10 ∧ 2000 * p + i = 2000 * j + s1 S 4 j then nI (s0 S 2) else ma σ2 10 (2000 * p + i)) = nI (if 1 = 1 ∧ p = j ∧ i = s1 S 4 j then s0 S 2 else s2 S 1 p i) ∧ (if 1 = 1 ∧ p = j ∧ i = s1 S 4 j then s0 S 2 else s2 S 1 p i) < s0 S 2 + 1
      by_cases q : p = j
      · subst q
        by_cases q2 : i = s1 S 4 p
        · subst q2; simp
        · have hi2 : i < s1 S 4 p := by simp at hi; omega
          have e3 : ¬ 2000 * p + i = 2000 * p + s1 S 4 p := by omega
          have g := g14 i hi2
          have gl : s2 S 1 p i < s0 S 2 := g.2
          simp [q2]
          exact ⟨g.1, by omega⟩
      · have hi2 : i < s1 S 4 p := by simp [q] at hi; exact hi
        have e3 : ¬ 2000 * p + i = 2000 * j + s1 S 4 j := by omega
        have g := g14 i hi2
        have gl : s2 S 1 p i < s0 S 2 := g.2
        simp [q, e3]
        exact ⟨g.1, by omega⟩
  · have hm : m < s0 S 2 + 1 := hm
    by_cases q : m = s0 S 2
    · subst q
      have a5 : s1 (sp_addS S j k a b c d) 5 (s0 S 2) = jk := by simp [s1, sp_addS, up2, ek, nI_clamp (show jk < 2 ^ 31 by omega)]
      have a6 : s1 (sp_addS S j k a b c d) 6 (s0 S 2) = s0 S 0 := by simp [s1, sp_addS, up2]
      have b1 : si (sp_addS S j k a b c d) 1 (s0 S 2) = a := by simp [si, sp_addS, up2]
      have b2 : si (sp_addS S j k a b c d) 2 (s0 S 2) = b := by simp [si, sp_addS, up2]
      have b3 : si (sp_addS S j k a b c d) 3 (s0 S 2) = c := by simp [si, sp_addS, up2]
      have b4 : si (sp_addS S j k a b c d) 4 (s0 S 2) = d := by simp [si, sp_addS, up2]
      rw [a5, a6, b1, b2, b3, b4]
      refine ⟨by simp [ma, smi, sma, sro, up2, ek], hjk, by simp [ma, smi, sma, sro, up2], by simp [ma, smi, sma, sro, up2], by simp [ma, smi, sma, sro, up2], by simp [ma, smi, sma, sro, up2], by simp [ma, smi, sma, sro, up2], hn10, fun hk i hi => ?_⟩
      have hk3 : k = 2 ∨ k = 3 ∨ k = 10 := by
        rw [ek]
        rcases hk with e | e | e
        · left; rw [e]; rfl
        · right; left; rw [e]; rfl
        · right; right; rw [e]; rfl
      have hal := okI_row qo hk3 i hi
      have f4' : 1 ≤ s1 S 1 j := f4
      have f5' : s1 S 1 j ≤ 40 := f5
      rw [show nI (s1 S 1 j) - 1 = nI (s1 S 1 j - 1) by rw [show (1 : Int32) = nI 1 from rfl, pk_sub f4']] at hal
      obtain ⟨w, -, hw2, ew⟩ := i32_rng (lo := 0) (hi := s1 S 1 j - 1) (by decide) (by omega) hal.1 hal.2
      have c1 : s2 (sp_addS S j k a b c d) 2 (s0 S 2) i = w := by simp [s2, sp_addS, ew, nI_clamp (show w < 2 ^ 31 by omega)]
      rw [c1]
      refine ⟨?_, by omega⟩
      simp [ma, smi, sma, sro, up2, hi, ew]
    · have hm2 : m < s0 S 2 := by omega
      obtain ⟨g1, g2, g3, g4, g5, g6, g7, g8, g9⟩ := p6 m hm2
      have a5 : s1 (sp_addS S j k a b c d) 5 m = s1 S 5 m := by simp [s1, sp_addS, up2, q]
      have a6 : s1 (sp_addS S j k a b c d) 6 m = s1 S 6 m := by simp [s1, sp_addS, up2, q]
      have b0 : ∀ x, si (sp_addS S j k a b c d) x m = si S x m := fun x => by simp [si, sp_addS, up2, q]
      have c2 : ∀ i, s2 (sp_addS S j k a b c d) 2 m i = s2 S 2 m i := fun i => by simp [s2, sp_addS, q]
      rw [a5, a6]
      simp only [b0, c2]
      refine ⟨by simp [ma, smi, sma, sro, up2, q]; exact g1, g2, by simp [ma, smi, sma, sro, up2, q]; exact g3, by simp [ma, smi, sma, sro, up2, q]; exact g4, by simp [ma, smi, sma, sro, up2, q]; exact g5, by simp [ma, smi, sma, sro, up2, q]; exact g6, by simp [ma, smi, sma, sro, up2, q]; exact g7, g8, fun hk i hi => ⟨?_, (g9 hk i hi).2⟩⟩
      have g8' : s1 S 6 m ≤ 10 := g8
      have hi' : i < s1 S 6 m := hi
      have e3 : ¬ (10 * s0 S 2 ≤ 10 * m + i) := by omega
      simp [ma, smi, sma, sro, up2, e3]
      exact (g9 hk i hi).1
