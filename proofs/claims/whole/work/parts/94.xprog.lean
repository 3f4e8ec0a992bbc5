/-! the class's program changes -/
def PS (S S' : Sp) : Prop := (∀ k, 3 ≤ k → s0 S' k = s0 S k) ∧ (∀ k, 7 ≤ k → s1 S' k = s1 S k) ∧ sv S' = sv S ∧ sw S' = sw S
theorem XKt.prog {μ : Mem} {A A' : Ad} {S S' : Sp} {E tt : Nat → Nat} (h : XKt μ A S E tt) (a0 : ∀ j, j ≠ 23 → A' 0 j = A 0 j) (a1 : A' 1 = A 1) (a2 : A' 2 = A 2) (hS : PS S S') (hf : ∀ j, j < s0 S 6 → XF μ A S j → XF μ A' S' j) : XKt μ A' S' E tt := by
  obtain ⟨h1, h2, h3, tp, tv, tq, h4, h5⟩ := h
  obtain ⟨e0, e1, ev, ew⟩ := hS
  refine ⟨?_, ?_, ⟨fun j hj => by rw [a1]; exact h3.1 j hj, fun j hj => hf j (by rw [e0 6 (by decide)] at hj; exact hj) (h3.2 j (by rw [e0 6 (by decide)] at hj; exact hj))⟩, tp, tv, tq, ?_, ?_⟩
  · unfold XK1 at h1 ⊢
    rw [a0 2 (by decide), a0 5 (by decide), a0 6 (by decide), a0 7 (by decide), a0 8 (by decide), e0 6 (by decide), e0 7 (by decide), e0 14 (by decide), e0 11 (by decide)]
    exact h1
  · unfold XK2 at h2 ⊢
    rw [a0 5 (by decide), a0 6 (by decide), a0 15 (by decide), a0 16 (by decide), a1, a2, e0 6 (by decide), e0 7 (by decide)]
    exact h2
  · unfold XK4 XR at h4 ⊢
    rw [a1, a2, e0 7 (by decide), e1 11 (by decide), e1 15 (by decide), e1 16 (by decide), e1 17 (by decide), e1 18 (by decide), e1 19 (by decide)]
    exact h4
  · unfold XK5 conv cellX plc hpS at h5 ⊢
    rw [a0 7 (by decide), a0 8 (by decide), a0 17 (by decide), a0 18 (by decide), e0 6 (by decide), e0 7 (by decide), e1 11 (by decide), e1 15 (by decide), e1 7 (by decide), e1 8 (by decide), ev, ew]
    exact h5
theorem XX.prog {nm nm' : Nat → Nat × Nat} {μ μ' : Mem} {A A' : Ad} {S S' : Sp} {E tt : Nat → Nat} (h : XX μ A nm S E tt) (ho : Off (fun a => nm a = (0, 0) ∨ gP (nm a)) μ μ') (a0 : ∀ j, j ≠ 23 → A' 0 j = A 0 j) (a1 : A' 1 = A 1) (a2 : A' 2 = A 2) (hN' : RN nm' A' S' E) (hL' : LV μ' A' S' E) (hS : PS S S')
    (hf : ∀ j, j < s0 S 6 → XF μ' A S j → XF μ' A' S' j) (hP' : XP μ' A' S') (hW' : WF S') (hM' : XM μ' A' S') (hC' : XCl S') : XX μ' A' nm' S' E tt := by
  obtain ⟨⟨⟨hN, hL, ⟨h1, h2, h3, tp, tv, tq, h4, h5⟩, ⟨x0, w, m, u, y1, y2⟩, hP, hE⟩, ⟨Z1, Z2, Z3, Z4⟩, W, V, B, h9⟩, hM, ⟨l, m', u', T1, T2, T3⟩, hC⟩ := h
  obtain ⟨e0, e1, ev, ew⟩ := id hS
  have n0 : ∀ j, j < 24 → j ≠ 0 → j ≠ 13 → j ≠ 23 → ¬ (nm (A 0 j) = (0, 0) ∨ gP (nm (A 0 j))) := fun j hj x y z q => by
    rw [hN 0 j (Us0 hj)] at q
    rcases q with q | q | q
    · have : j = 0 := congrArg Prod.snd q
      omega
    · have := q.2
      omega
    · have q : 3 ≤ 0 := q
      omega
  have z1 := h1.off ho (n0 2 (by decide) (by decide) (by decide) (by decide))
  have z2 := h2.off ho (n0 5 (by decide) (by decide) (by decide) (by decide)) (n0 6 (by decide) (by decide) (by decide) (by decide)) (n0 15 (by decide) (by decide) (by decide) (by decide)) (n0 16 (by decide) (by decide) (by decide) (by decide))
  have z3 := h3.off ho h2.2.2.2.2.1 (fun j hj => by rw [hN 1 j (Us1 hj)]; rintro (q | q | q); cases q; cases q.1; exact absurd (show 3 ≤ 1 from q) (by decide))
  have z4 := h4.off ho h2.2.2.2.2.2 (fun j hj => by rw [hN 2 j (Us2 hj)]; rintro (q | q | q); cases q; cases q.1; exact absurd (show 3 ≤ 2 from q) (by decide))
  have z5 := h5.off ho (n0 7 (by decide) (by decide) (by decide) (by decide)) (n0 8 (by decide) (by decide) (by decide) (by decide)) (n0 17 (by decide) (by decide) (by decide) (by decide)) (n0 18 (by decide) (by decide) (by decide) (by decide))
  have zH := y1.off ho (fun j hj => n0 j (by omega) (by omega) (by omega) (by omega))
  obtain ⟨q1, q2, -⟩ := ho.2.2 (A 0 1) (by have := hE.1; omega) (n0 1 (by decide) (by decide) (by decide) (by decide))
  have st : St (fun q => q = (0, 0) ∨ gP q) E μ A nm μ' A nm := St.of ho
  have zT := T1.st hN hL st (E' := E) (fun j hj q => by
    rcases q with q | q | q
    · have : j = 0 := congrArg Prod.snd q
      omega
    · have := q.2
      omega
    · have q : 3 ≤ 0 := q
      omega) rfl rfl
  refine ⟨⟨⟨hN', hL', XKt.prog (S := S) ⟨z1, z2, z3, tp, tv, tq, z4, z5⟩ a0 a1 a2 hS hf, ?_, hP', ?_⟩, ?_, hW', ?_, B, by rw [e0 10 (by decide)]; exact h9⟩, hM', ⟨l, m', u', ?_, by rw [e0 16 (by decide)]; exact T2, by rw [e0 16 (by decide), e1 22 (by decide)]; exact T3⟩, hC'⟩
  · refine XHt.cg (S := S) ⟨x0, w, m, u, ?_, y2⟩ ⟨e0 3 (by decide), e0 5 (by decide), e0 12 (by decide), e0 15 (by decide), e1 7 (by decide), e1 8 (by decide), e1 9 (by decide), congrFun ev 1, rfl, rfl⟩
    unfold XHm at zH ⊢
    rw [a0 3 (by decide), a0 9 (by decide), a0 10 (by decide), a0 19 (by decide), a0 20 (by decide)]
    exact zH
  · unfold XEc
    rw [a0 1 (by decide), a0 2 (by decide), a0 3 (by decide), q2, q2]
    exact ⟨ho.kd hE.1, hE.2⟩
  · unfold XZ live
    rw [a0 1 (by decide), a1, q1, q1, q1, q1, q2, e0 17 (by decide), e0 10 (by decide), e0 13 (by decide), e0 8 (by decide), e0 9 (by decide)]
    exact ⟨Z1, Z2, Z3, Z4⟩
  · unfold WG
    rw [e0 11 (by decide), e0 12 (by decide), e0 17 (by decide), e0 8 (by decide)]
    exact V
  · unfold XT at zT ⊢
    rw [a0 4 (by decide), a0 11 (by decide), a0 12 (by decide), a0 21 (by decide), a0 22 (by decide)]
    exact zT
theorem x_allW {μ : Mem} {q n : Nat} {row : Nat → Int32} {b : Int32} {post : Int32 → Mem → Prop} (hk : kd μ q = 102) (hl : al μ q = n) (hn : n ≤ 10) (hr : ∀ i, i < n → ai μ q i = row i) (hy : (∀ i, i < n → 0 ≤ row i ∧ row i < b) → post 1 μ) (hno : ¬ (∀ i, i < n → 0 ≤ row i ∧ row i < b) → post 0 μ) : wp_X5_allWithin μ q b post := by
  refine ⟨Or.inr (Or.inl hk), fun v1 e1 => ?_⟩
  rw [hl] at e1
  subst e1
  have key : ∀ d t, t + d = n → (∀ i, i < t → 0 ≤ row i ∧ row i < b) → wp_X5_allWithin_8 post (d + 1) μ b q (nI n) (nI t) := by
    intro d
    induction d with
    | zero =>
      intro t ht hi
      have e : t = n := by omega
      subst e
      rw [wp_X5_allWithin_8]
      exact ⟨fun _ => hy hi, fun h => absurd (nI_le (Nat.le_refl _) (by omega)) h⟩
    | succ d ih =>
      intro t ht hi
      rw [wp_X5_allWithin_8]
      refine ⟨fun h => absurd h (nI_ge (by omega) (by omega)), fun _ => ⟨hk, by rw [hl]; exact vp_in_nI (by omega) (by omega), fun v3 e3 => ?_⟩⟩
      rw [nI_clamp (by omega), hr t (by omega)] at e3
      subst e3
      refine x_within (fun y0 y1 _ => nz1 fun v8 e8 => ?_) (fun y _ => nz0 (hno fun z => y (z t (by omega))))
      rw [e8, nI_1]
      refine ih (t + 1) (by omega) fun i hlt => ?_
      rcases Nat.lt_or_ge i t with q | q
      · exact hi i q
      · have : i = t := by omega
        subst this; exact ⟨y0, y1⟩
  exact ⟨n + 1, key n 0 (by omega) (fun i h => absurd h (Nat.not_lt_zero i))⟩
theorem lt_sub1 {x b : Int32} (h1 : 1 ≤ b) : x ≤ b - 1 ↔ x < b := by
  rw [Int32.le_iff_toInt_le] at h1
  have e : (b - 1).toInt = b.toInt - 1 := by
    rw [Int32.toInt_sub, show (1 : Int32).toInt = 1 by decide]
    have := Int32.toInt_lt b
    rw [show (1 : Int32).toInt = 1 by decide] at h1
    apply Int.bmod_eq_of_le
    · omega
    · omega
  rw [Int32.le_iff_toInt_le, Int32.lt_iff_toInt_lt, e]
  omega
theorem x_fits {μ : Mem} {q n : Nat} {row : Nat → Int32} {sl ins : Int32} {post : Int32 → Mem → Prop} (hk : kd μ q = 102) (hl : al μ q = n) (hn : n ≤ 10) (hr : ∀ i, i < n → ai μ q i = row i)
    (hy : ((1 ≤ sl ∧ sl ≤ 40) ∧ (0 ≤ ins ∧ ins ≤ sl) ∧ n ≤ 8 ∧ ¬ 11 ≤ nI n + ins ∧ ∀ i, i < n → 0 ≤ row i ∧ row i ≤ sl - 1) → post 1 μ) (hno : ¬ ((1 ≤ sl ∧ sl ≤ 40) ∧ (0 ≤ ins ∧ ins ≤ sl) ∧ n ≤ 8 ∧ ¬ 11 ≤ nI n + ins ∧ ∀ i, i < n → 0 ≤ row i ∧ row i ≤ sl - 1) → post 0 μ) : wp_X5_fits μ sl ins q post := by
  have i10 : ∀ x : Int32, 10 < x ↔ 11 ≤ x := fun x => by
    rw [Int32.le_iff_toInt_le, Int32.lt_iff_toInt_lt, show (10 : Int32).toInt = 10 by decide, show (11 : Int32).toInt = 11 by decide]; omega
  refine ⟨fun h => hno fun z => absurd h (Int32.not_lt.mpr z.1.1), fun h1 => ⟨fun h => hno fun z => absurd h (Int32.not_lt.mpr z.1.2), fun h2 => ⟨fun h => hno fun z => absurd h (Int32.not_lt.mpr z.2.1.1), fun h3 => ⟨fun h => hno fun z => absurd h (Int32.not_lt.mpr z.2.1.2), fun h4 => ⟨Or.inr (Or.inl hk), ?_⟩⟩⟩⟩⟩
  rw [hl]
  refine ⟨fun h => hno fun z => absurd h (nI_nlt (a := 8) z.2.2.1 (by decide)), fun h5 => ⟨Or.inr (Or.inl hk), fun h => hno fun z => z.2.2.2.1 (by rw [Int32.add_comm]; exact (i10 _).mp h), fun h6 => ?_⟩⟩
  have h1 := Int32.not_lt.mp h1
  have n8 : n ≤ 8 := by
    rcases Nat.lt_or_ge 8 n with r | r
    · exact absurd (nI_lt (a := 8) r (by omega)) h5
    · exact r
  refine x_allW hk hl hn hr (fun y _ => nz1 (hy ⟨⟨h1, Int32.not_lt.mp h2⟩, ⟨Int32.not_lt.mp h3, Int32.not_lt.mp h4⟩, n8, fun z => h6 ((i10 _).mpr (by rw [Int32.add_comm]; exact z)), fun i hi => ⟨(y i hi).1, (lt_sub1 h1).mpr (y i hi).2⟩⟩)) (fun y _ => nz0 (hno fun z => y fun i hi => ⟨(z.2.2.2.2 i hi).1, (lt_sub1 h1).mp (z.2.2.2.2 i hi).2⟩))
