/-! what always holds, behind put, procedure, add, begin, letters -/
theorem WF.row0 {S : Sp} {n : Nat} (h : WF S) : WF (u0 S 0 n) := h
theorem WF.put {S : Sp} {a : Int32} (h : WF S) : WF (sp_put S a).2 := by
  unfold sp_put
  split
  · exact h
  · exact h
theorem okI_mono {S S' : Sp} {p n : Nat} {row : Nat → Int32} {k a b c d : Int32} (h1 : s1 S' 1 p = s1 S 1 p) (hn : s0 S 1 ≤ s0 S' 1) (hb : s0 S' 1 ≤ 60) (h2 : ∀ q, q < s0 S 1 → s1 S' 2 q = s1 S 2 q ∧ s1 S' 3 q = s1 S 3 q) (h : okI S p k a b c d n row) : okI S' p k a b c d n row := by
  have e1 : ∀ x, isSl S' p x = isSl S p x := fun x => by unfold isSl; rw [h1]
  have e2 : allSl S' p n row = allSl S p n row := by unfold allSl; rw [h1]
  unfold okI at h ⊢
  rw [e1, e1, e1, e2]
  by_cases k10 : k = 10
  · subst k10
    have h : inR a (nI (s0 S 1) - 1) ∧ nI n = nI (s1 S 2 a.toNatClampNeg) + nI (s1 S 3 a.toNatClampNeg) ∧ allSl S p n row := h
    show inR a (nI (s0 S' 1) - 1) ∧ nI n = nI (s1 S' 2 a.toNatClampNeg) + nI (s1 S' 3 a.toNatClampNeg) ∧ allSl S p n row
    obtain ⟨⟨a1, a2⟩, a3, a4⟩ := h
    have hp : 1 ≤ s0 S 1 := by
      rcases Nat.eq_zero_or_pos (s0 S 1) with z | z
      · rw [z] at a2
        have x := Int32.le_iff_toInt_le.mp a1
        have y := Int32.le_iff_toInt_le.mp a2
        have c : (0 : Int32).toInt = 0 := by decide
        have d : (nI 0 - 1).toInt = -1 := by decide
        omega
      · exact z
    rw [show nI (s0 S 1) - 1 = nI (s0 S 1 - 1) by rw [show (1 : Int32) = nI 1 from rfl, pk_sub hp]] at a2
    obtain ⟨j, -, hj, ej⟩ := i32_rng (lo := 0) (hi := s0 S 1 - 1) (by decide) (by omega) a1 a2
    subst ej
    rw [nI_clamp (by omega)] at a3 ⊢
    rw [(h2 j (by omega)).1, (h2 j (by omega)).2]
    refine ⟨⟨a1, ?_⟩, a3, a4⟩
    rw [show nI (s0 S' 1) - 1 = nI (s0 S' 1 - 1) by rw [show (1 : Int32) = nI 1 from rfl, pk_sub (by omega)]]
    exact nI_le (by omega) (by omega)
  · rw [if_neg k10] at h ⊢
    exact h
theorem WF.proc {S : Sp} {b : Nat} {sl ins : Int32} (h : WF S) (hb : b ≤ 1) (hok : okProc S sl ins) (hr : s0 S 0 ≤ 10) : WF (sp_procS S b sl ins) := by
  obtain ⟨⟨P1, P2, P3, P4⟩, C, ⟨B1, B2, B3, B4⟩, T, V, N⟩ := h
  obtain ⟨k1, ⟨k2, k3⟩, ⟨k4, k5⟩, k6, k7, k8⟩ := hok
  obtain ⟨s, hs1, hs2, es⟩ := i32_rng (lo := 1) (hi := 40) (by decide) (by decide) k2 k3
  subst es
  obtain ⟨q, -, hq2, eq⟩ := i32_rng (lo := 0) (hi := s) (by decide) (by omega) k4 k5
  subst eq
  have o : ∀ k p, k ≤ 6 → p < s0 S 1 → s1 (sp_procS S b (nI s) (nI q)) k p = s1 S k p := fun k p _ hp => by
    simp [s1, sp_procS, up2, show ¬ p = s0 S 1 by omega]
  have n0 : s1 (sp_procS S b (nI s) (nI q)) 0 (s0 S 1) = b := by simp [s1, sp_procS, up2]
  have n1 : s1 (sp_procS S b (nI s) (nI q)) 1 (s0 S 1) = s := by simp [s1, sp_procS, up2]; exact nI_clamp (by omega)
  have n2 : s1 (sp_procS S b (nI s) (nI q)) 2 (s0 S 1) = q := by simp [s1, sp_procS, up2]; exact nI_clamp (by omega)
  have n3 : s1 (sp_procS S b (nI s) (nI q)) 3 (s0 S 1) = s0 S 0 := by simp [s1, sp_procS, up2]
  have n4 : s1 (sp_procS S b (nI s) (nI q)) 4 (s0 S 1) = 0 := by simp [s1, sp_procS, up2]
  have e20 : ∀ p k, p < s0 S 1 → s2 (sp_procS S b (nI s) (nI q)) 0 p k = s2 S 0 p k := fun p k hp => by simp [s2, sp_procS, show ¬ p = s0 S 1 by omega]
  have n20 : ∀ k, s2 (sp_procS S b (nI s) (nI q)) 0 (s0 S 1) k = (si S 0 k).toNatClampNeg := fun k => by simp [s2, sp_procS]
  refine ⟨⟨by show s0 S 1 + 1 ≤ 60; omega, P2, fun p hp => ?_, P4⟩, C, ⟨B1, B2, B3, fun j hj => ?_⟩, T, V, N⟩
  · have hp : p < s0 S 1 + 1 := hp
    rcases Nat.lt_or_ge p (s0 S 1) with r | r
    · obtain ⟨a1, a2, a3, a4, a5, a6, a7, a8, a9⟩ := P3 p r
      rw [o 0 p (by decide) r, o 1 p (by decide) r, o 2 p (by decide) r, o 3 p (by decide) r, o 4 p (by decide) r]
      refine ⟨a1, a2, a3, a4, a5, a6, a7, fun k hk => by rw [e20 p k r]; exact a8 k hk, fun m hm => ?_⟩
      obtain ⟨x1, x2⟩ := a9 m hm
      exact ⟨x1, okI_mono (S' := sp_procS S b (nI s) (nI q)) (o 1 p (by decide) r) (Nat.le_succ _) (by show s0 S 1 + 1 ≤ 60; omega) (fun y hy => ⟨o 2 y (by decide) hy, o 3 y (by decide) hy⟩) x2⟩
    · have ep : p = s0 S 1 := by omega
      subst ep
      rw [n0, n1, n2, n3, n4]
      have hsum : s0 S 0 + q ≤ 10 := by
        rw [nI_add] at k7
        rcases Nat.lt_or_ge 10 (s0 S 0 + q) with y | y
        · exact absurd (nI_le (a := 11) y (by omega)) k7
        · exact y
      refine ⟨hb, hs1, hs2, hq2, k6, by omega, Nat.zero_le _, fun k hk => ?_, fun m hm => absurd hm (Nat.not_lt_zero m)⟩
      rw [n20 k]
      obtain ⟨y1, y2⟩ := k8 k hk
      rw [show nI s - 1 = nI (s - 1) by rw [show (1 : Int32) = nI 1 from rfl, pk_sub hs1]] at y2
      obtain ⟨z, -, hz, ez⟩ := i32_rng (lo := 0) (hi := s - 1) (by decide) (by omega) y1 y2
      rw [ez, nI_clamp (by omega)]; omega
  · obtain ⟨b1, b2, b3, b4, b5⟩ := B4 j hj
    refine ⟨Nat.lt_succ_of_lt b1, ?_, b3, b4, fun u hu => ?_⟩
    · show s1 S 11 (j + 1) = s1 S 11 j + s1 (sp_procS S b (nI s) (nI q)) 1 (s1 S 10 j)
      rw [o 1 _ (by decide) b1]; exact b2
    · obtain ⟨x1, x2, x3, x4⟩ := b5 u hu
      have hu2 : s1 S 10 u < s0 S 1 := (B4 u (by have hj : j < s0 S 6 := hj; omega)).1
      refine ⟨x1, ?_, x3, x4⟩
      show s1 S 13 j < s1 (sp_procS S b (nI s) (nI q)) 4 (s1 S 10 u)
      rw [o 4 _ (by decide) hu2]; exact x2
theorem okI_row' {S : Sp} {p n : Nat} {row row' : Nat → Int32} {k a b c d : Int32} (h : okI S p k a b c d n row) (hr : (k = 2 ∨ k = 3 ∨ k = 10) → ∀ j, j < n → row' j = row j) : okI S p k a b c d n row' := by
  have e : (k = 2 ∨ k = 3 ∨ k = 10) → allSl S p n row → allSl S p n row' := fun hk ha j hj => by rw [hr hk j hj]; exact ha j hj
  unfold okI at h ⊢
  by_cases k2 : k = 2
  · subst k2
    have h : isSl S p a ∧ inR b 31 ∧ ¬ 5 ≤ nI n ∧ allSl S p n row := h
    exact (show isSl S p a ∧ inR b 31 ∧ ¬ 5 ≤ nI n ∧ allSl S p n row' from ⟨h.1, h.2.1, h.2.2.1, e (Or.inl rfl) h.2.2.2⟩)
  by_cases k3 : k = 3
  · subst k3
    have h : isSl S p a ∧ inR b 31 ∧ ¬ 5 ≤ nI n ∧ allSl S p n row := h
    exact (show isSl S p a ∧ inR b 31 ∧ ¬ 5 ≤ nI n ∧ allSl S p n row' from ⟨h.1, h.2.1, h.2.2.1, e (Or.inr (Or.inl rfl)) h.2.2.2⟩)
  by_cases k10 : k = 10
  · subst k10
    have h : inR a (nI (s0 S 1) - 1) ∧ nI n = nI (s1 S 2 a.toNatClampNeg) + nI (s1 S 3 a.toNatClampNeg) ∧ allSl S p n row := h
    exact (show inR a (nI (s0 S 1) - 1) ∧ nI n = nI (s1 S 2 a.toNatClampNeg) + nI (s1 S 3 a.toNatClampNeg) ∧ allSl S p n row' from ⟨h.1, h.2.1, e (Or.inr (Or.inr rfl)) h.2.2⟩)
  rw [if_neg k2, if_neg k3, if_neg k10] at h ⊢
  exact h
theorem WF.add {S : Sp} {p k a b c d : Int32} (h : WF S) (hok : okAdd S p k a b c d) (hr : s0 S 0 ≤ 10) : WF (sp_addS S p.toNatClampNeg k a b c d) := by
  obtain ⟨⟨P1, P2, P3, P4⟩, C, ⟨B1, B2, B3, B4⟩, T, V, N⟩ := h
  obtain ⟨k1, ⟨p1, p2⟩, k3⟩ := hok
  have hp1 : 1 ≤ s0 S 1 := by
    rcases Nat.eq_zero_or_pos (s0 S 1) with z | z
    · rw [z] at p2
      have x := Int32.le_iff_toInt_le.mp p1
      have y := Int32.le_iff_toInt_le.mp p2
      have c : (0 : Int32).toInt = 0 := by decide
      have d : (nI 0 - 1).toInt = -1 := by decide
      omega
    · exact z
  rw [show nI (s0 S 1) - 1 = nI (s0 S 1 - 1) by rw [show (1 : Int32) = nI 1 from rfl, pk_sub hp1]] at p2
  obtain ⟨q, -, hq, eq⟩ := i32_rng (lo := 0) (hi := s0 S 1 - 1) (by decide) (by omega) p1 p2
  subst eq
  rw [nI_clamp (by omega)] at k3 ⊢
  obtain ⟨kk, hkk, ekk⟩ := okI_kind k3
  subst ekk
  have hqn : q < s0 S 1 := by omega
  have hni : s0 S 2 < 2000 := by omega
  generalize hS : sp_addS S q (nI kk) a b c d = S'
  have e0 : ∀ k, s0 S' k = if k = 2 then s0 S 2 + 1 else if k = 0 then 0 else s0 S k := fun k => by rw [← hS]; rfl
  have e1 : ∀ k i, k ≠ 4 → k ≠ 5 → k ≠ 6 → s1 S' k i = s1 S k i := fun k i h4 h5 h6 => by rw [← hS]; simp [s1, sp_addS, up2, h4, h5, h6]
  have e5 : ∀ i, i < s0 S 2 → s1 S' 5 i = s1 S 5 i := fun i hi => by rw [← hS]; simp [s1, sp_addS, up2, show ¬ i = s0 S 2 by omega]
  have e6 : ∀ i, i < s0 S 2 → s1 S' 6 i = s1 S 6 i := fun i hi => by rw [← hS]; simp [s1, sp_addS, up2, show ¬ i = s0 S 2 by omega]
  have n5 : s1 S' 5 (s0 S 2) = kk := by rw [← hS]; simp [s1, sp_addS, up2]; exact nI_clamp (by omega)
  have n6 : s1 S' 6 (s0 S 2) = s0 S 0 := by rw [← hS]; simp [s1, sp_addS, up2]
  have e4 : ∀ i, i ≠ q → s1 S' 4 i = s1 S 4 i := fun i hi => by rw [← hS]; simp [s1, sp_addS, up2, hi]
  have n4 : s1 S' 4 q = s1 S 4 q + 1 := by rw [← hS]; simp [s1, sp_addS, up2]
  have f0 : ∀ i j, s2 S' 0 i j = s2 S 0 i j := fun i j => by rw [← hS]; rfl
  have f1 : ∀ i j, ¬ (i = q ∧ j = s1 S 4 q) → s2 S' 1 i j = s2 S 1 i j := fun i j hi => by rw [← hS]; simp [s2, sp_addS]; intro x y; exact absurd ⟨x, y⟩ hi
  have m1 : s2 S' 1 q (s1 S 4 q) = s0 S 2 := by rw [← hS]; simp [s2, sp_addS]
  have f2 : ∀ i j, i < s0 S 2 → s2 S' 2 i j = s2 S 2 i j := fun i j hi => by rw [← hS]; simp [s2, sp_addS, show ¬ i = s0 S 2 by omega]
  have m2 : ∀ j, s2 S' 2 (s0 S 2) j = (si S 0 j).toNatClampNeg := fun j => by rw [← hS]; simp [s2, sp_addS]
  have g : ∀ k i, i < s0 S 2 → si S' k i = si S k i := fun k i hi => by rw [← hS]; simp [si, sp_addS, up2, show ¬ i = s0 S 2 by omega]
  have g1 : si S' 1 (s0 S 2) = a := by rw [← hS]; simp [si, sp_addS, up2]
  have g2 : si S' 2 (s0 S 2) = b := by rw [← hS]; simp [si, sp_addS, up2]
  have g3 : si S' 3 (s0 S 2) = c := by rw [← hS]; simp [si, sp_addS, up2]
  have g4 : si S' 4 (s0 S 2) = d := by rw [← hS]; simp [si, sp_addS, up2]
  have hv : sv S' = sv S := by rw [← hS]; rfl
  have hww : sw S' = sw S := by rw [← hS]; rfl
  have mono : ∀ {p n : Nat} {row : Nat → Int32} {k a b c d : Int32}, okI S p k a b c d n row → okI S' p k a b c d n row := fun {p} {n} {row} {k} {a} {b} {c} {d} ho => okI_mono (e1 1 p (by decide) (by decide) (by decide)) (by rw [e0 1]; exact Nat.le_refl _) (by rw [e0 1]; exact P1) (fun y _ => ⟨e1 2 y (by decide) (by decide) (by decide), e1 3 y (by decide) (by decide) (by decide)⟩) ho
  have old : ∀ p i, i < s0 S 2 → okIn S p i → okIn S' p i := fun p i hi ho => by
    unfold okIn at ho ⊢
    rw [e5 i hi, e6 i hi, g 1 i hi, g 2 i hi, g 3 i hi, g 4 i hi]
    rw [show (fun j => nI (s2 S' 2 i j)) = (fun j => nI (s2 S 2 i j)) from funext fun j => by rw [f2 i j hi]]
    exact mono ho
  have hlv : live S' ↔ live S := by unfold live; rw [e0 17]; exact Iff.rfl
  have h8 : s1 S' 8 = s1 S 8 := funext fun i => e1 8 i (by decide) (by decide) (by decide)
  refine ⟨⟨by rw [e0 1]; exact P1, by rw [e0 2]; exact hni, fun p hp => ?_, fun i hi => ?_⟩, ?_, ⟨?_, ?_, ?_, ?_⟩, ?_, ?_, ?_⟩
  · rw [e0 1] at hp
    have hp : p < s0 S 1 := hp
    obtain ⟨a1, a2, a3, a4, a5, a6, a7, a8, a9⟩ := P3 p hp
    rw [e1 0 p (by decide) (by decide) (by decide), e1 1 p (by decide) (by decide) (by decide), e1 2 p (by decide) (by decide) (by decide), e1 3 p (by decide) (by decide) (by decide)]
    refine ⟨a1, a2, a3, a4, a5, a6, ?_, fun k hk => by rw [f0]; exact a8 k hk, fun m hm => ?_⟩
    · rw [e0 2]
      by_cases e : p = q
      · subst e; rw [n4]; show s1 S 4 p + 1 ≤ s0 S 2 + 1; omega
      · rw [e4 p e]; show s1 S 4 p ≤ s0 S 2 + 1; omega
    · by_cases e : p = q ∧ m = s1 S 4 q
      · obtain ⟨x, y⟩ := e
        subst x; subst y
        rw [m1, e0 2]
        refine ⟨by show s0 S 2 < s0 S 2 + 1; omega, ?_⟩
        unfold okIn
        rw [n5, n6, g1, g2, g3, g4]
        refine mono (okI_row' k3 fun hk j hj => ?_)
        rw [m2 j]
        have hall := okI_row k3 hk j hj
        obtain ⟨y1, y2⟩ := hall
        rw [show nI (s1 S 1 p) - 1 = nI (s1 S 1 p - 1) by rw [show (1 : Int32) = nI 1 from rfl, pk_sub a2]] at y2
        obtain ⟨z, -, hz, ez⟩ := i32_rng (lo := 0) (hi := s1 S 1 p - 1) (by decide) (by omega) y1 y2
        rw [ez, nI_clamp (by omega)]
      · have hm2 : m < s1 S 4 p := by
          by_cases e2 : p = q
          · subst e2; rw [n4] at hm
            have : m ≠ s1 S 4 p := fun z => e ⟨rfl, z⟩
            omega
          · rw [e4 p e2] at hm; exact hm
        rw [f1 p m e, e0 2]
        obtain ⟨x1, x2⟩ := a9 m hm2
        exact ⟨by show s2 S 1 p m < s0 S 2 + 1; omega, old p _ x1 x2⟩
  · rw [e0 2] at hi
    have hi : i < s0 S 2 + 1 := hi
    rcases Nat.lt_or_ge i (s0 S 2) with r | r
    · rw [e5 i r, e6 i r]
      obtain ⟨x1, x2, x3⟩ := P4 i r
      exact ⟨x1, x2, fun hk j hj => by rw [f2 i j r]; exact x3 hk j hj⟩
    · have ei : i = s0 S 2 := by omega
      subst ei
      rw [n5, n6]
      refine ⟨hkk, hr, fun hk j hj => ?_⟩
      rw [m2 j]
      have hk' : nI kk = 2 ∨ nI kk = 3 ∨ nI kk = 10 := by
        rcases hk with y | y | y <;> subst y
        · exact Or.inl rfl
        · exact Or.inr (Or.inl rfl)
        · exact Or.inr (Or.inr rfl)
      obtain ⟨-, a2, a3, -⟩ := P3 q hqn
      obtain ⟨y1, y2⟩ := okI_row k3 hk' j hj
      rw [show nI (s1 S 1 q) - 1 = nI (s1 S 1 q - 1) by rw [show (1 : Int32) = nI 1 from rfl, pk_sub a2]] at y2
      obtain ⟨z, -, hz, ez⟩ := i32_rng (lo := 0) (hi := s1 S 1 q - 1) (by decide) (by omega) y1 y2
      rw [ez, nI_clamp (by omega)]; omega
  · unfold WC hpS fsS
    rw [e0 3, e0 4, e0 5, e0 10, e0 15, h8, hv]
    obtain ⟨C1, C2, C3, C4, C5⟩ := C
    refine ⟨C1, C2, C3, C4, fun cc hc => ?_⟩
    rw [e1 7 cc (by decide) (by decide) (by decide), e1 9 cc (by decide) (by decide) (by decide)]
    exact C5 cc hc
  · rw [e1 11 0 (by decide) (by decide) (by decide)]; exact B1
  · unfold szS
    rw [e0 6, e0 7, e1 11 _ (by decide) (by decide) (by decide)]; exact B2
  · intro q2
    rw [e0 8, e0 6]
    exact B3 (hlv.mp q2)
  · intro j hj
    rw [e0 6] at hj
    have hj : j < s0 S 6 := hj
    obtain ⟨b1, b2, b3, b4, b5⟩ := B4 j hj
    rw [e1 10 j (by decide) (by decide) (by decide), e1 11 _ (by decide) (by decide) (by decide), e1 11 _ (by decide) (by decide) (by decide), e1 1 _ (by decide) (by decide) (by decide), e1 12 _ (by decide) (by decide) (by decide), e1 14 _ (by decide) (by decide) (by decide), e1 13 _ (by decide) (by decide) (by decide), e0 1]
    refine ⟨b1, b2, b3, b4, fun u hu => ?_⟩
    obtain ⟨x1, x2, x3, x4⟩ := b5 u hu
    have hu2 : s1 S 10 u < s0 S 1 := (B4 u (by omega)).1
    rw [e1 10 u (by decide) (by decide) (by decide)]
    have hne : ¬ (s1 S 10 u = q ∧ s1 S 13 j = s1 S 4 q) := by
      rintro ⟨y1, y2⟩
      rw [y1, y2] at x2; omega
    obtain ⟨-, -, -, -, -, -, -, -, a9⟩ := P3 _ hu2
    have hlt := (a9 _ x2).1
    rw [f1 _ _ hne, e5 _ hlt, g 1 _ hlt]
    refine ⟨x1, ?_, x3, x4⟩
    by_cases e : s1 S 10 u = q
    · rw [e, n4]; rw [e] at x2; omega
    · rw [e4 _ e]; exact x2
  · obtain ⟨T1, T2, T3⟩ := T
    have e15 : s1 S' 15 = s1 S 15 := funext fun i => e1 15 i (by decide) (by decide) (by decide)
    unfold WT hpS fsS
    rw [e0 6, e0 7, e0 3, e15, h8, hww]
    refine ⟨T1, fun i j x y => ?_, fun i hi => ?_⟩
    · rw [e1 20 i (by decide) (by decide) (by decide), e1 20 j (by decide) (by decide) (by decide)]; exact T2 i j x y
    · rw [e1 16 i (by decide) (by decide) (by decide), e1 17 i (by decide) (by decide) (by decide), e1 18 i (by decide) (by decide) (by decide), e1 19 i (by decide) (by decide) (by decide), e1 20 i (by decide) (by decide) (by decide), e1 21 i (by decide) (by decide) (by decide), e1 11 _ (by decide) (by decide) (by decide)]
      exact T3 i hi
  · unfold WV
    rw [e0 6, e0 3, e1 11 _ (by decide) (by decide) (by decide), hv]
    exact V
  · unfold WN
    rw [e0 9, e0 13, e0 10, e0 14, e0 15]
    exact N
theorem WF.beg {S : Sp} {p st hp : Nat} (h : WF S) (hpp : p < s0 S 1) (hst : st ≤ 20000) (hhp : hp ≤ 20000) (hsz : 2 + s1 S 1 p ≤ st) : WF (sp_begS S p st hp) := by
  obtain ⟨P, C, ⟨B1, B2, B3, B4⟩, T, V, N⟩ := h
  have h1 : WF (u0 (sp_clr S st hp) 17 3) := by
    refine ⟨P, ⟨Nat.le_refl _, rfl, rfl, Nat.zero_le _, fun c hc => absurd hc (Nat.not_lt_zero c)⟩, ⟨B1, ?_, (fun q => by rcases q with q | q <;> cases q), fun j hj => absurd hj (Nat.not_lt_zero j)⟩, ⟨⟨fun i j _ b => absurd b (Nat.not_lt_zero j), fun i b => absurd b (Nat.not_lt_zero i)⟩, fun i j _ b => absurd b (Nat.not_lt_zero j), fun i b => absurd b (Nat.not_lt_zero i)⟩, fun m hm => ?_, ⟨Nat.zero_le _, Nat.le_refl _, Nat.zero_le _, hst, hhp⟩⟩
    · show s1 S 11 0 + 2 * 0 + 3 * 0 ≤ 20000
      omega
    · have hm : m < s1 S 11 0 := hm
      omega
  have h2 := h1.push (p := p) (up := 0) (at' := 0) hpp (by show s1 S 11 0 + 2 * 0 + 3 * 0 + (2 + s1 S 1 p) ≤ 20000; omega) ⟨fun _ => rfl, fun _ => rfl⟩ (fun u hu => absurd hu (by omega))
  have h3 : WF (sp_pushS (sp_clr S st hp) p 0 0) := by
    obtain ⟨P', C', ⟨B1', B2', B3', B4'⟩, T', V', N'⟩ := h2
    exact ⟨P', C', ⟨B1', B2', fun _ => Nat.zero_lt_one, B4'⟩, T', V', N'⟩
  refine WF.work (h3.wrL _ fun k hk _ => okV_num _) ?_ (Nat.zero_le _)
  rw [(wrL_e _).1]
  exact Nat.zero_lt_one
