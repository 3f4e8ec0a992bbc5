/-! the class's procedure -/
set_option maxRecDepth 4000 in
theorem bool01 {b : Nat} (h : b ≤ 1) : narrow .boolean (.int (nI b)) = .int (nI b) ∧ fits .boolean (.int (nI b)) = true := by
  rcases (by omega : b = 0 ∨ b = 1) with r | r
  · subst r; exact ⟨rfl, rfl⟩
  · subst r; exact ⟨rfl, rfl⟩
theorem x_mproc {nm : Nat → Nat × Nat} {μ : Mem} {A : Ad} {S : Sp} {E tt : Nat → Nat} {b : Nat} {sl ins : Int32} {c z : Nat} {post : Int32 → Mem → Prop} (h : XX μ A nm S E tt) (hb : b ≤ 1) (hc1 : 4 ≤ c) (hz1 : 200 ≤ z)
    (hWy : okProc S sl ins → WF (sp_procS S b sl ins))
    (hy : okProc S sl ins → ∀ μ' A' nm', XX μ' A' nm' (sp_procS S b sl ins) E tt → A' 0 0 = A 0 0 → post (nI (s0 S 1)) μ')
    (hn : ¬ okProc S sl ins → ∀ μ' nm', XX μ' A nm' (u0 S 0 0) E tt → post (-1) μ') : wp_X10_procedure c z μ (A 0 0) (nI b) sl ins post := by
  refine ⟨h.2.1.1, 1, 10, by omega, by omega, x_takeRow h (Nat.le_refl _) (Nat.le_refl _) (fun q μ1 hq k1 l1 a1 X1 o1 _ => ?_)⟩
  obtain ⟨hJ, hM, hT, hC⟩ := id X1
  obtain ⟨hN, hL, hK, hH, hP, hE⟩ := id hJ.1
  have hN0 : RN nm A S E := h.1.1.1
  have hL0 : LV μ A S E := h.1.1.2.1
  have hWS : WF S := h.1.2.2.1
  have h60 : s0 S 1 ≤ 60 := hWS.1.1
  have hs0 : s0 S 0 ≤ 10 := h.2.1.2.2.2.2.2.2.2.2.2.1
  have hP1 : AL μ1 (A 0 13) (A 0 23) (s0 S 1) (A 3) 8 := hP.1
  refine ⟨A 0 13, hM.2.2.2.1, hP1.1, x_lsize hP1 fun _ => ⟨fun y => ?_, fun y => ⟨q, rfl, ?_⟩⟩⟩
  · refine hn (fun z => ?_) μ1 _ X1
    exact absurd y (nI_ge (b := 60) z.1 (by decide))
  have lt60 : s0 S 1 < 60 := by
    rcases Nat.lt_or_ge (s0 S 1) 60 with r | r
    · exact r
    · exact absurd (nI_le (a := 60) r (by omega)) y
  refine x_fits k1 l1 hs0 a1 (fun yy _ => nz1 ⟨A 0 13, hM.2.2.2.1, by omega, by omega, fun q21 μ22 hq21 e22 => ⟨1, 3, by omega, by omega, by omega, by omega, fun ql μ2 hql e2 => ?_⟩⟩) (fun yy _ => nz0 (hn (fun z => yy z.2) μ1 _ X1))
  have ok : okProc S sl ins := ⟨lt60, yy⟩
  have hW' := hWy ok
  have hy := hy ok
  obtain ⟨⟨w1, w2⟩, ⟨v1, v2⟩, -⟩ := yy
  obtain ⟨nsl, -, nsl2, esl⟩ := i32_rng (lo := 1) (hi := 40) (by decide) (by decide) w1 w2
  obtain ⟨nin, nin2, ein⟩ := nI_of (Int32.not_lt.mpr v1)
  subst esl; subst ein
  have n21q : ¬ q21 = q := fun e => by rw [e, k1] at hq21; cases hq21
  have k22 : kd μ22 q21 = 8 := by rw [e22]; exact if_pos rfl
  have nlq : ¬ ql = q21 := fun e => by rw [e, k22] at hql; cases hql
  have o22 : ∀ D, Off D μ1 μ22 := fun D => by rw [e22]; exact Off_nob hq21 (by decide)
  have nlq2 : ¬ ql = q := fun e => by rw [e, (o22 (fun _ => False)).kd k1] at hql; cases hql
  have o2 : ∀ D, Off D μ22 μ2 := fun D => by rw [e2]; exact Off_nob hql (by decide)
  have k2 : kd μ2 ql = 2 := by rw [e2]; exact if_pos rfl
  refine fun _ => ⟨k2, fun μ4 e4 _ q3 hq3 => ⟨by rw [e4]; exact k2, fun μ6 e6 _ => ?_⟩⟩
  have o4 : Off (fun a => a = ql) μ2 μ4 := by rw [e4]; exact Off_sfi
  have o6 : Off (fun a => a = ql) μ4 μ6 := by rw [e6]; exact Off_sfr
  have o46 := o4.tr o6
  have k6q : kd μ6 q21 = 8 := o46.kd ((o2 (fun _ => False)).kd k22)
  refine ⟨k6q, fun μ9 e9 => ⟨bool01 hb, fun μ13 e13 μ16 e16 μ19 e19 μ26 e26 _ => ?_⟩⟩
  have o26 : Off (fun a => a = q21) μ6 μ26 := by
    have y1 : Off (fun a => a = q21) μ6 μ9 := by rw [e9]; exact Off_sfr
    have y2 : Off (fun a => a = q21) μ9 μ13 := by rw [e13]; exact Off_sfi
    have y3 : Off (fun a => a = q21) μ13 μ16 := by rw [e16]; exact Off_sfi
    have y4 : Off (fun a => a = q21) μ16 μ19 := by rw [e19]; exact Off_sfi
    have y5 : Off (fun a => a = q21) μ19 μ26 := by rw [e26]; exact Off_sfr
    exact (((y1.tr y2).tr y3).tr y4).tr y5
  -- from μ1: only dead addresses
  have dead1 : Off (fun a => a = q21 ∨ a = ql) μ1 μ26 := (((o22 _).tr (o2 _)).tr (o46.sub (fun a _ z => Or.inr z))).tr (o26.sub (fun a _ z => Or.inl z))
  have d1 : ∀ D, Off D μ1 μ26 := fun D => ⟨dead1.1, dead1.2.1, fun a ha _ => dead1.2.2 a ha (fun z => by
    rcases z with z | z
    · exact ha (by rw [z]; exact hq21)
    · have := (o22 (fun _ => False)).1 a ha
      rw [z, hql] at this
      exact ha (by rw [z]; exact this.symm))⟩
  have P26 : AL μ26 (A 0 13) (A 0 23) (s0 S 1) (A 3) 8 := hP1.off (d1 (fun _ => False)) (fun z => z) (Or.inr (fun z => z)) (Or.inr (by decide))
  have cap := P26.n
  refine ⟨P26.1, 1, 150, by omega, by omega, ?_⟩
  refine x_ladd P26 (show kd μ26 q21 = 8 from o26.kd k6q) (by omega) ?_ (fun μ3 el' hl3 o3 hel hcp _ => ?_)
  · refine Or.inr ⟨by decide, ?_⟩
    have : gcap (s0 S 1) (capA μ26 (A 0 23) (s0 S 1)) ≤ 2 * s0 S 1 + 12 := by unfold gcap; split <;> (try split) <;> omega
    omega
  -- what stands at the end
  have lv : ∀ k j, Us S E k j → kd μ1 (A k j) ≠ 0 := fun k j hu => hL k j hu
  have lv26 : ∀ k j, Us S E k j → kd μ26 (A k j) ≠ 0 := fun k j hu => by rw [(d1 (fun _ => False)).1 _ (lv k j hu)]; exact lv k j hu
  have k26q : kd μ26 q = 102 := (d1 (fun _ => False)).kd k1
  have k26l : kd μ26 ql = 2 := o26.kd (o46.kd k2)
  have k26p : kd μ26 q21 = 8 := o26.kd k6q
  have nq : ∀ k j, Us S E k j → ¬ A k j = q := fun k j hu e => hL0 k j hu (by rw [e]; exact hq)
  have n21 : ∀ k j, Us S E k j → ¬ A k j = q21 := fun k j hu e => lv k j hu (by rw [e]; exact hq21)
  have nl : ∀ k j, Us S E k j → ¬ A k j = ql := fun k j hu e => by
    have := (o22 (fun _ => False)).1 _ (lv k j hu)
    rw [e, hql] at this
    exact lv k j hu (by rw [e]; exact this.symm)
  have kel : kd μ3 el' = 105 := (hl3.2.2.2.2.1 (by omega)).1
  have u23 : Us S E 0 23 := Us0 (by decide)
  have nel : ∀ x, kd μ26 x ≠ 0 → ¬ x = A 0 23 → ¬ el' = x := fun x hx hx2 e => by
    rcases hel with r | r
    · exact hx2 (by rw [← e]; exact r)
    · exact hx (by rw [← e]; exact r)
  have elq : ¬ el' = q := nel q (by omega) (fun e => nq 0 23 u23 e.symm)
  have el21 : ¬ el' = q21 := nel q21 (by omega) (fun e => n21 0 23 u23 e.symm)
  have ell : ¬ el' = ql := nel ql (by omega) (fun e => nl 0 23 u23 e.symm)
  have elo : ∀ k j, Us S E k j → ¬ (k = 0 ∧ j = 23) → ¬ el' = A k j := fun k j hu hd => nel _ (lv26 k j hu) (hN0.ne hu u23 hd)
  obtain ⟨A', hA'⟩ : ∃ A' : Ad, A' = fun k j => if k = 3 ∧ j = s0 S 1 then q21 else if k = 5 ∧ j = s0 S 1 then ql else if k = 7 ∧ j = s0 S 1 then q else if k = 0 ∧ j = 23 then el' else A k j := ⟨_, rfl⟩
  obtain ⟨nm', hnm'⟩ : ∃ nm' : Nat → Nat × Nat, nm' = fun a => if a = q21 then (3, s0 S 1) else if a = ql then (5, s0 S 1) else if a = q then (7, s0 S 1) else if a = el' then (0, 23) else nm a := ⟨_, rfl⟩
  have A3 : A' 3 (s0 S 1) = q21 := by rw [hA']; exact if_pos ⟨rfl, rfl⟩
  have A5 : A' 5 (s0 S 1) = ql := by rw [hA']; exact (if_neg (fun z => absurd z.1 (by decide))).trans (if_pos ⟨rfl, rfl⟩)
  have A7 : A' 7 (s0 S 1) = q := by rw [hA']; exact (if_neg (fun z => absurd z.1 (by decide))).trans ((if_neg (fun z => absurd z.1 (by decide))).trans (if_pos ⟨rfl, rfl⟩))
  have A23 : A' 0 23 = el' := by rw [hA']; exact (if_neg (fun z => absurd z.1 (by decide))).trans ((if_neg (fun z => absurd z.1 (by decide))).trans ((if_neg (fun z => absurd z.1 (by decide))).trans (if_pos ⟨rfl, rfl⟩)))
  have Ao : ∀ k j, (¬ j = s0 S 1 ∨ ¬ (k = 3 ∨ k = 5 ∨ k = 7)) → ¬ (k = 0 ∧ j = 23) → A' k j = A k j := fun k j h1 h2 => by
    rw [hA']
    refine (if_neg (fun z => ?_)).trans ((if_neg (fun z => ?_)).trans ((if_neg (fun z => ?_)).trans (if_neg h2))) <;> omega
  have usO : ∀ k j, Us (sp_procS S b (nI nsl) (nI nin)) E k j → Us S E k j ∨ ((k = 3 ∨ k = 5 ∨ k = 7) ∧ j = s0 S 1) := fun k j hu => by
    rcases hu with hu | hu | hu | ⟨hu, hj⟩ | hu | ⟨hk6, hj, hj4⟩
    · exact Or.inl (Or.inl hu)
    · exact Or.inl (Or.inr (Or.inl hu))
    · exact Or.inl (Or.inr (Or.inr (Or.inl hu)))
    · have hj : j < s0 S 1 + 1 := hj
      rcases Nat.lt_or_ge j (s0 S 1) with r | r
      · exact Or.inl (Or.inr (Or.inr (Or.inr (Or.inl ⟨hu, r⟩))))
      · exact Or.inr ⟨hu, by omega⟩
    · exact Or.inl (Or.inr (Or.inr (Or.inr (Or.inr (Or.inl hu)))))
    · have hj : j < s0 S 1 + 1 := hj
      have hj4 : (if 4 = 4 ∧ j = s0 S 1 then 0 else s1 S 4 j) ≠ 0 := hj4
      rcases Nat.lt_or_ge j (s0 S 1) with r | r
      · rw [if_neg (fun z => by omega)] at hj4
        exact Or.inl (Or.inr (Or.inr (Or.inr (Or.inr (Or.inr ⟨hk6, r, hj4⟩)))))
      · rw [if_pos ⟨rfl, by omega⟩] at hj4
        exact absurd rfl hj4
  have usN : ∀ k j, Us S E k j → (¬ j = s0 S 1 ∨ ¬ (k = 3 ∨ k = 5 ∨ k = 7)) := fun k j hu => by
    rcases hu with hu | hu | hu | ⟨hu, hj⟩ | hu | ⟨hk6, hj, hj4⟩
    · exact Or.inr (by omega)
    · exact Or.inr (by omega)
    · exact Or.inr (by omega)
    · exact Or.inl (by omega)
    · exact Or.inr (by omega)
    · exact Or.inr (by omega)
  have N' : RN nm' A' (sp_procS S b (nI nsl) (nI nin)) E := fun k j hu => by
    rcases usO k j hu with hu | ⟨hk, hj⟩
    · by_cases e : k = 0 ∧ j = 23
      · obtain ⟨rfl, rfl⟩ := e
        rw [A23, hnm']
        exact (if_neg el21).trans ((if_neg ell).trans ((if_neg elq).trans (if_pos rfl)))
      · rw [Ao k j (usN k j hu) e, hnm']
        exact (if_neg (n21 k j hu)).trans ((if_neg (nl k j hu)).trans ((if_neg (nq k j hu)).trans ((if_neg (fun z => elo k j hu e z.symm)).trans (hN0 k j hu))))
    · subst hj
      rcases hk with rfl | rfl | rfl
      · rw [A3, hnm']; exact if_pos rfl
      · rw [A5, hnm']; exact (if_neg nlq).trans (if_pos rfl)
      · rw [A7, hnm']; exact (if_neg (fun z => n21q z.symm)).trans ((if_neg (fun z => nlq2 z.symm)).trans (if_pos rfl))
  have L' : LV μ3 A' (sp_procS S b (nI nsl) (nI nin)) E := fun k j hu => by
    rcases usO k j hu with hu | ⟨hk, hj⟩
    · by_cases e : k = 0 ∧ j = 23
      · obtain ⟨rfl, rfl⟩ := e
        rw [A23, kel]; decide
      · rw [Ao k j (usN k j hu) e, o3.1 _ (lv26 k j hu)]; exact lv26 k j hu
    · subst hj
      rcases hk with rfl | rfl | rfl
      · rw [A3, o3.1 _ (by omega), k26p]; decide
      · rw [A5, o3.1 _ (by omega), k26l]; decide
      · rw [A7, o3.1 _ (by omega), k26q]; decide
  have o13 : Off (fun a => a = A 0 13 ∨ a = A 0 23) μ1 μ3 := (d1 _).tr o3
  have oAll : Off (fun a => nm a = (0, 0) ∨ gP (nm a)) μ μ3 := (o1.sub (fun a _ z => Or.inl (by rw [z, hN0 0 0 (Us0 (by decide))]))).tr (by
    refine ⟨o13.1, o13.2.1, fun a ha hd => o13.2.2 a ha (fun z => ?_)⟩
    rcases z with z | z
    · exact hd (Or.inr (by rw [z, hN0 0 13 (Us0 (by decide))]; exact Or.inl ⟨rfl, Or.inl rfl⟩))
    · exact hd (Or.inr (by rw [z, hN0 0 23 (Us0 (by decide))]; exact Or.inl ⟨rfl, Or.inr rfl⟩)))
  have n03 : ¬ A 0 13 = q ∧ ¬ A 0 13 = q21 ∧ ¬ A 0 13 = ql := ⟨nq 0 13 (Us0 (by decide)), n21 0 13 (Us0 (by decide)), nl 0 13 (Us0 (by decide))⟩
  have n023 : ¬ A 0 23 = q ∧ ¬ A 0 23 = q21 ∧ ¬ A 0 23 = ql := ⟨nq 0 23 u23, n21 0 23 u23, nl 0 23 u23⟩
  have keep3 : ∀ x, kd μ26 x ≠ 0 → ¬ x = A 0 13 → ¬ x = A 0 23 → (∀ c k, fi μ3 c k x = fi μ26 c k x) ∧ (∀ c k, fr μ3 c k x = fr μ26 c k x) ∧ al μ3 x = al μ26 x ∧ (∀ i, ai μ3 x i = ai μ26 x i) ∧ (∀ i, aj μ3 x i = aj μ26 x i) ∧ ∀ i, ar μ3 x i = ar μ26 x i := fun x hx h1 h2 => o3.2.2 x hx (fun z => by rcases z with z | z; exact h1 z; exact h2 z)
  have hA30 : ∀ j, j < s0 S 1 → A' 3 j = A 3 j := fun j hj => Ao 3 j (Or.inl (by omega)) (fun z => absurd z.1 (by decide))
  have hA4 : A' 4 = A 4 := funext fun j => Ao 4 j (Or.inr (by omega)) (fun z => absurd z.1 (by decide))
  have hA8 : A' 8 = A 8 := funext fun j => Ao 8 j (Or.inr (by omega)) (fun z => absurd z.1 (by decide))
  have hA0 : ∀ j, j ≠ 23 → A' 0 j = A 0 j := fun j hj => Ao 0 j (Or.inr (by omega)) (fun z => hj z.2)
  sorry
