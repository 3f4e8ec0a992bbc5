/-! the class's procedure -/
set_option maxRecDepth 4000 in
theorem bool01 {b : Nat} (h : b ≤ 1) : narrow .boolean (.int (nI b)) = .int (nI b) ∧ fits .boolean (.int (nI b)) = true := by
  rcases (by omega : b = 0 ∨ b = 1) with r | r
  · subst r; exact ⟨rfl, rfl⟩
  · subst r; exact ⟨rfl, rfl⟩
theorem up2_e {α : Type} {f : Nat → Nat → α} {k i : Nat} {v : α} : up2 f k i v k i = v := if_pos ⟨rfl, rfl⟩
theorem up2_o {α : Type} {f : Nat → Nat → α} {k i k' j : Nat} {v : α} (h : ¬ j = i) : up2 f k i v k' j = f k' j := if_neg (fun z => h z.2)
theorem x_mproc {nm : Nat → Nat × Nat} {μ : Mem} {A : Ad} {S : Sp} {E tt : Nat → Nat} {b : Nat} {sl ins : Int32} {c z : Nat} {post : Int32 → Mem → Prop} (h : XX μ A nm S E tt) (hb : b ≤ 1) (hc1 : 4 ≤ c) (hz1 : 200 ≤ z)
    (hWy : okProc S sl ins → WF (sp_procS S b sl ins))
    (hy : okProc S sl ins → ∀ μ' A' nm', XX μ' A' nm' (sp_procS S b sl ins) E tt → A' 0 0 = A 0 0 → KP μ nm μ' nm' → post (nI (s0 S 1)) μ')
    (hn : ¬ okProc S sl ins → ∀ μ' nm', XX μ' A nm' (u0 S 0 0) E tt → KP μ nm μ' nm' → post (-1) μ') : wp_X10_procedure c z μ (A 0 0) (nI b) sl ins post := by
  refine ⟨h.2.1.1, 1, 10, by omega, by omega, x_takeRow h (Nat.le_refl _) (Nat.le_refl _) (fun q μ1 hq k1 l1 a1 X1 o1 _ => ?_)⟩
  have kp1 : KP μ nm μ1 (upN nm q (9, 0)) := KP.of o1 (fun a z e => by rw [z, h.1.1.1 0 0 (Us0 (by decide))] at e; cases e) (upN_kp hq)
  have hn := fun w => hn w μ1 _ X1 kp1
  obtain ⟨hJ, hM, hT, hC⟩ := id X1
  obtain ⟨hN, hL, hK, hH, hP, hE⟩ := id hJ.1
  have hN0 : RN nm A S E := h.1.1.1
  have hL0 : LV μ A S E := h.1.1.2.1
  have hWS : WF S := h.1.2.2.1
  have h60 : s0 S 1 ≤ 60 := hWS.1.1
  have hs0 : s0 S 0 ≤ 10 := h.2.1.2.2.2.2.2.2.2.2.2.1
  have hP1 : AL μ1 (A 0 13) (A 0 23) (s0 S 1) (A 3) 8 := hP.1
  refine ⟨A 0 13, hM.2.2.2.1, hP1.1, x_lsize hP1 fun _ => ⟨fun y => ?_, fun y => ⟨q, rfl, ?_⟩⟩⟩
  · refine hn (fun z => ?_)
    exact absurd y (nI_ge (b := 60) z.1 (by decide))
  have lt60 : s0 S 1 < 60 := by
    rcases Nat.lt_or_ge (s0 S 1) 60 with r | r
    · exact r
    · exact absurd (nI_le (a := 60) r (by omega)) y
  refine x_fits k1 l1 hs0 a1 (fun yy _ => nz1 ⟨A 0 13, hM.2.2.2.1, by omega, by omega, fun q21 μ22 hq21 e22 => ⟨1, 3, by omega, by omega, by omega, by omega, fun ql μ2 hql e2 => ?_⟩⟩) (fun yy _ => nz0 (hn (fun z => yy z.2)))
  have ok : okProc S sl ins := ⟨lt60, yy⟩
  have hW' := hWy ok
  have hy := hy ok
  obtain ⟨⟨w1, w2⟩, ⟨v1, v2⟩, -⟩ := yy
  obtain ⟨nsl, -, nsl2, esl⟩ := i32_rng (lo := 1) (hi := 40) (by decide) (by decide) w1 w2
  obtain ⟨nin, nin2, ein⟩ := nI_of (Int32.not_lt.mpr v1)
  subst esl; subst ein
  have n21q : ¬ q21 = q := fun e => by rw [e, k1] at hq21; cases hq21
  have k22 : kd μ22 q21 = 8 := by rw [e22]; exact if_pos rfl
  have nlq : ¬ ql = q21 := fun e => by rw [e, k22] at hql; cases hql
  have o22 : ∀ D, Off D μ1 μ22 := fun D => by rw [e22]; exact Off_nob hq21 (by decide)
  have nlq2 : ¬ ql = q := fun e => by rw [e, (o22 (fun _ => False)).kd k1] at hql; cases hql
  have o2 : ∀ D, Off D μ22 μ2 := fun D => by rw [e2]; exact Off_nob hql (by decide)
  have k2 : kd μ2 ql = 2 := by rw [e2]; exact if_pos rfl
  refine fun _ => ⟨k2, fun μ4 e4 _ q3 hq3 => ⟨by rw [e4]; exact k2, fun μ6 e6 _ => ?_⟩⟩
  have o4 : Off (fun a => a = ql) μ2 μ4 := by rw [e4]; exact Off_sfi
  have o6 : Off (fun a => a = ql) μ4 μ6 := by rw [e6]; exact Off_sfr
  have o46 := o4.tr o6
  have k6q : kd μ6 q21 = 8 := o46.kd ((o2 (fun _ => False)).kd k22)
  refine ⟨k6q, fun μ9 e9 => ⟨bool01 hb, fun μ13 e13 μ16 e16 μ19 e19 μ26 e26 _ => ?_⟩⟩
  have o26 : Off (fun a => a = q21) μ6 μ26 := by
    have y1 : Off (fun a => a = q21) μ6 μ9 := by rw [e9]; exact Off_sfr
    have y2 : Off (fun a => a = q21) μ9 μ13 := by rw [e13]; exact Off_sfi
    have y3 : Off (fun a => a = q21) μ13 μ16 := by rw [e16]; exact Off_sfi
    have y4 : Off (fun a => a = q21) μ16 μ19 := by rw [e19]; exact Off_sfi
    have y5 : Off (fun a => a = q21) μ19 μ26 := by rw [e26]; exact Off_sfr
    exact (((y1.tr y2).tr y3).tr y4).tr y5
  -- from μ1: only dead addresses
  have dead1 : Off (fun a => a = q21 ∨ a = ql) μ1 μ26 := (((o22 _).tr (o2 _)).tr (o46.sub (fun a _ z => Or.inr z))).tr (o26.sub (fun a _ z => Or.inl z))
  have d1 : ∀ D, Off D μ1 μ26 := fun D => ⟨dead1.1, dead1.2.1, fun a ha _ => dead1.2.2 a ha (fun z => by
    rcases z with z | z
    · exact ha (by rw [z]; exact hq21)
    · have := (o22 (fun _ => False)).1 a ha
      rw [z, hql] at this
      exact ha (by rw [z]; exact this.symm))⟩
  have P26 : AL μ26 (A 0 13) (A 0 23) (s0 S 1) (A 3) 8 := hP1.off (d1 (fun _ => False)) (fun z => z) (Or.inr (fun z => z)) (Or.inr (by decide))
  have cap := P26.n
  refine ⟨P26.1, 1, 150, by omega, by omega, ?_⟩
  refine x_ladd P26 (show kd μ26 q21 = 8 from o26.kd k6q) (by omega) ?_ (fun μ3 el' hl3 o3 hel hcp _ => ?_)
  · refine Or.inr ⟨by decide, ?_⟩
    have : gcap (s0 S 1) (capA μ26 (A 0 23) (s0 S 1)) ≤ 2 * s0 S 1 + 12 := by unfold gcap; split <;> (try split) <;> omega
    omega
  -- what stands at the end
  have lv : ∀ k j, Us S E k j → kd μ1 (A k j) ≠ 0 := fun k j hu => hL k j hu
  have lv26 : ∀ k j, Us S E k j → kd μ26 (A k j) ≠ 0 := fun k j hu => by rw [(d1 (fun _ => False)).1 _ (lv k j hu)]; exact lv k j hu
  have k26q : kd μ26 q = 102 := (d1 (fun _ => False)).kd k1
  have k26l : kd μ26 ql = 2 := o26.kd (o46.kd k2)
  have k26p : kd μ26 q21 = 8 := o26.kd k6q
  have nq : ∀ k j, Us S E k j → ¬ A k j = q := fun k j hu e => hL0 k j hu (by rw [e]; exact hq)
  have n21 : ∀ k j, Us S E k j → ¬ A k j = q21 := fun k j hu e => lv k j hu (by rw [e]; exact hq21)
  have nl : ∀ k j, Us S E k j → ¬ A k j = ql := fun k j hu e => by
    have := (o22 (fun _ => False)).1 _ (lv k j hu)
    rw [e, hql] at this
    exact lv k j hu (by rw [e]; exact this.symm)
  have kel : kd μ3 el' = 105 := (hl3.2.2.2.2.1 (by omega)).1
  have u23 : Us S E 0 23 := Us0 (by decide)
  have nel : ∀ x, kd μ26 x ≠ 0 → ¬ x = A 0 23 → ¬ el' = x := fun x hx hx2 e => by
    rcases hel with r | r
    · exact hx2 (by rw [← e]; exact r)
    · exact hx (by rw [← e]; exact r)
  have elq : ¬ el' = q := nel q (by omega) (fun e => nq 0 23 u23 e.symm)
  have el21 : ¬ el' = q21 := nel q21 (by omega) (fun e => n21 0 23 u23 e.symm)
  have ell : ¬ el' = ql := nel ql (by omega) (fun e => nl 0 23 u23 e.symm)
  have elo : ∀ k j, Us S E k j → ¬ (k = 0 ∧ j = 23) → ¬ el' = A k j := fun k j hu hd => nel _ (lv26 k j hu) (hN0.ne hu u23 hd)
  obtain ⟨A', hA'⟩ : ∃ A' : Ad, A' = fun k j => if k = 3 ∧ j = s0 S 1 then q21 else if k = 5 ∧ j = s0 S 1 then ql else if k = 7 ∧ j = s0 S 1 then q else if k = 0 ∧ j = 23 then el' else A k j := ⟨_, rfl⟩
  obtain ⟨nm', hnm'⟩ : ∃ nm' : Nat → Nat × Nat, nm' = fun a => if a = q21 then (3, s0 S 1) else if a = ql then (5, s0 S 1) else if a = q then (7, s0 S 1) else if a = el' then (0, 23) else nm a := ⟨_, rfl⟩
  have A3 : A' 3 (s0 S 1) = q21 := by rw [hA']; exact if_pos ⟨rfl, rfl⟩
  have A5 : A' 5 (s0 S 1) = ql := by rw [hA']; exact (if_neg (fun z => absurd z.1 (by decide))).trans (if_pos ⟨rfl, rfl⟩)
  have A7 : A' 7 (s0 S 1) = q := by rw [hA']; exact (if_neg (fun z => absurd z.1 (by decide))).trans ((if_neg (fun z => absurd z.1 (by decide))).trans (if_pos ⟨rfl, rfl⟩))
  have A23 : A' 0 23 = el' := by rw [hA']; exact (if_neg (fun z => absurd z.1 (by decide))).trans ((if_neg (fun z => absurd z.1 (by decide))).trans ((if_neg (fun z => absurd z.1 (by decide))).trans (if_pos ⟨rfl, rfl⟩)))
  have Ao : ∀ k j, (¬ j = s0 S 1 ∨ ¬ (k = 3 ∨ k = 5 ∨ k = 7)) → ¬ (k = 0 ∧ j = 23) → A' k j = A k j := fun k j h1 h2 => by
    rw [hA']
    refine (if_neg (fun z => ?_)).trans ((if_neg (fun z => ?_)).trans ((if_neg (fun z => ?_)).trans (if_neg h2))) <;> omega
  have usO : ∀ k j, Us (sp_procS S b (nI nsl) (nI nin)) E k j → Us S E k j ∨ ((k = 3 ∨ k = 5 ∨ k = 7) ∧ j = s0 S 1) := fun k j hu => by
    rcases hu with hu | hu | hu | ⟨hu, hj⟩ | hu | ⟨hk6, hj, hj4⟩
    · exact Or.inl (Or.inl hu)
    · exact Or.inl (Or.inr (Or.inl hu))
    · exact Or.inl (Or.inr (Or.inr (Or.inl hu)))
    · have hj : j < s0 S 1 + 1 := hj
      rcases Nat.lt_or_ge j (s0 S 1) with r | r
      · exact Or.inl (Or.inr (Or.inr (Or.inr (Or.inl ⟨hu, r⟩))))
      · exact Or.inr ⟨hu, by omega⟩
    · exact Or.inl (Or.inr (Or.inr (Or.inr (Or.inr (Or.inl hu)))))
    · have hj : j < s0 S 1 + 1 := hj
      have hj4 : (if 4 = 4 ∧ j = s0 S 1 then 0 else s1 S 4 j) ≠ 0 := hj4
      rcases Nat.lt_or_ge j (s0 S 1) with r | r
      · rw [if_neg (fun z => by omega)] at hj4
        exact Or.inl (Or.inr (Or.inr (Or.inr (Or.inr (Or.inr ⟨hk6, r, hj4⟩)))))
      · rw [if_pos ⟨rfl, by omega⟩] at hj4
        exact absurd rfl hj4
  have usN : ∀ k j, Us S E k j → (¬ j = s0 S 1 ∨ ¬ (k = 3 ∨ k = 5 ∨ k = 7)) := fun k j hu => by
    rcases hu with hu | hu | hu | ⟨hu, hj⟩ | hu | ⟨hk6, hj, hj4⟩
    · exact Or.inr (by omega)
    · exact Or.inr (by omega)
    · exact Or.inr (by omega)
    · exact Or.inl (by omega)
    · exact Or.inr (by omega)
    · exact Or.inr (by omega)
  have N' : RN nm' A' (sp_procS S b (nI nsl) (nI nin)) E := fun k j hu => by
    rcases usO k j hu with hu | ⟨hk, hj⟩
    · by_cases e : k = 0 ∧ j = 23
      · obtain ⟨rfl, rfl⟩ := e
        rw [A23, hnm']
        exact (if_neg el21).trans ((if_neg ell).trans ((if_neg elq).trans (if_pos rfl)))
      · rw [Ao k j (usN k j hu) e, hnm']
        exact (if_neg (n21 k j hu)).trans ((if_neg (nl k j hu)).trans ((if_neg (nq k j hu)).trans ((if_neg (fun z => elo k j hu e z.symm)).trans (hN0 k j hu))))
    · subst hj
      rcases hk with rfl | rfl | rfl
      · rw [A3, hnm']; exact if_pos rfl
      · rw [A5, hnm']; exact (if_neg nlq).trans (if_pos rfl)
      · rw [A7, hnm']; exact (if_neg (fun z => n21q z.symm)).trans ((if_neg (fun z => nlq2 z.symm)).trans (if_pos rfl))
  have L' : LV μ3 A' (sp_procS S b (nI nsl) (nI nin)) E := fun k j hu => by
    rcases usO k j hu with hu | ⟨hk, hj⟩
    · by_cases e : k = 0 ∧ j = 23
      · obtain ⟨rfl, rfl⟩ := e
        rw [A23, kel]; decide
      · rw [Ao k j (usN k j hu) e, o3.1 _ (lv26 k j hu)]; exact lv26 k j hu
    · subst hj
      rcases hk with rfl | rfl | rfl
      · rw [A3, o3.1 _ (by omega), k26p]; decide
      · rw [A5, o3.1 _ (by omega), k26l]; decide
      · rw [A7, o3.1 _ (by omega), k26q]; decide
  have o13 : Off (fun a => a = A 0 13 ∨ a = A 0 23) μ1 μ3 := (d1 _).tr o3
  have oAll : Off (fun a => nm a = (0, 0) ∨ gP (nm a)) μ μ3 := (o1.sub (fun a _ z => Or.inl (by rw [z, hN0 0 0 (Us0 (by decide))]))).tr (by
    refine ⟨o13.1, o13.2.1, fun a ha hd => o13.2.2 a ha (fun z => ?_)⟩
    rcases z with z | z
    · exact hd (Or.inr (by rw [z, hN0 0 13 (Us0 (by decide))]; exact Or.inl ⟨rfl, Or.inl rfl⟩))
    · exact hd (Or.inr (by rw [z, hN0 0 23 (Us0 (by decide))]; exact Or.inl ⟨rfl, Or.inr rfl⟩)))
  have n03 : ¬ A 0 13 = q ∧ ¬ A 0 13 = q21 ∧ ¬ A 0 13 = ql := ⟨nq 0 13 (Us0 (by decide)), n21 0 13 (Us0 (by decide)), nl 0 13 (Us0 (by decide))⟩
  have n023 : ¬ A 0 23 = q ∧ ¬ A 0 23 = q21 ∧ ¬ A 0 23 = ql := ⟨nq 0 23 u23, n21 0 23 u23, nl 0 23 u23⟩
  have keep3 : ∀ x, kd μ26 x ≠ 0 → ¬ x = A 0 13 → ¬ x = A 0 23 → (∀ c k, fi μ3 c k x = fi μ26 c k x) ∧ (∀ c k, fr μ3 c k x = fr μ26 c k x) ∧ al μ3 x = al μ26 x ∧ (∀ i, ai μ3 x i = ai μ26 x i) ∧ (∀ i, aj μ3 x i = aj μ26 x i) ∧ ∀ i, ar μ3 x i = ar μ26 x i := fun x hx h1 h2 => o3.2.2 x hx (fun z => by rcases z with z | z; exact h1 z; exact h2 z)
  have hA30 : ∀ j, j < s0 S 1 → A' 3 j = A 3 j := fun j hj => Ao 3 j (Or.inl (by omega)) (fun z => absurd z.1 (by decide))
  have hA4 : A' 4 = A 4 := funext fun j => Ao 4 j (Or.inr (by omega)) (fun z => absurd z.1 (by decide))
  have hA8 : A' 8 = A 8 := funext fun j => Ao 8 j (Or.inr (by omega)) (fun z => absurd z.1 (by decide))
  have hA0 : ∀ j, j ≠ 23 → A' 0 j = A 0 j := fun j hj => Ao 0 j (Or.inr (by omega)) (fun z => hj z.2)
  have e1q : ∀ k, ¬ (k = 0 ∨ k = 1 ∨ k = 2 ∨ k = 3 ∨ k = 4) → s1 (sp_procS S b (nI nsl) (nI nin)) k = s1 S k := fun k hk => by
    show up2 (up2 (up2 (up2 (up2 (s1 S) 0 (s0 S 1) b) 1 (s0 S 1) _) 2 (s0 S 1) _) 3 (s0 S 1) (s0 S 0)) 4 (s0 S 1) 0 k = s1 S k
    rw [up2_le (by omega), up2_le (by omega), up2_le (by omega), up2_le (by omega), up2_le (by omega)]
  have e1o : ∀ k j, ¬ j = s0 S 1 → s1 (sp_procS S b (nI nsl) (nI nin)) k j = s1 S k j := fun k j hj => by
    show (if _ ∧ _ then _ else if _ ∧ _ then _ else if _ ∧ _ then _ else if _ ∧ _ then _ else if _ ∧ _ then _ else s1 S k j) = s1 S k j
    rw [if_neg (fun z => hj z.2), if_neg (fun z => hj z.2), if_neg (fun z => hj z.2), if_neg (fun z => hj z.2), if_neg (fun z => hj z.2)]
  have e2q : ∀ k, ¬ k = 0 → s2 (sp_procS S b (nI nsl) (nI nin)) k = s2 S k := fun k hk => funext fun i => funext fun j => by
    show (if k = 0 ∧ i = s0 S 1 then _ else s2 S k i j) = s2 S k i j
    rw [if_neg (fun z => hk z.1)]
  have e2o : ∀ k i, ¬ i = s0 S 1 → s2 (sp_procS S b (nI nsl) (nI nin)) k i = s2 S k i := fun k i hi => funext fun j => by
    show (if k = 0 ∧ i = s0 S 1 then _ else s2 S k i j) = s2 S k i j
    rw [if_neg (fun z => hi z.2)]
  have e0q : ∀ k, ¬ (k = 0 ∨ k = 1) → s0 (sp_procS S b (nI nsl) (nI nin)) k = s0 S k := fun k hk => by
    show (if k = 1 then _ else if k = 0 then _ else s0 S k) = s0 S k
    rw [if_neg (by omega), if_neg (by omega)]
  have e01 : s0 (sp_procS S b (nI nsl) (nI nin)) 1 = s0 S 1 + 1 := rfl
  have e02 : s0 (sp_procS S b (nI nsl) (nI nin)) 2 = s0 S 2 := e0q 2 (by decide)
  have esi : si (sp_procS S b (nI nsl) (nI nin)) = si S := rfl
  have ps : PS S (sp_procS S b (nI nsl) (nI nin)) := ⟨fun k hk => e0q k (by omega), fun k hk => e1q k (by omega), rfl, rfl⟩
  have hA1 : A' 1 = A 1 := funext fun j => Ao 1 j (Or.inr (by omega)) (fun z => absurd z.1 (by decide))
  have hA2 : A' 2 = A 2 := funext fun j => Ao 2 j (Or.inr (by omega)) (fun z => absurd z.1 (by decide))
  have hA6 : A' 6 = A 6 := funext fun j => Ao 6 j (Or.inr (by omega)) (fun z => absurd z.1 (by decide))
  have hA5 : ∀ j, j < s0 S 1 → A' 5 j = A 5 j := fun j hj => Ao 5 j (Or.inl (by omega)) (fun z => absurd z.1 (by decide))
  have hA7 : ∀ j, j < s0 S 1 → A' 7 j = A 7 j := fun j hj => Ao 7 j (Or.inl (by omega)) (fun z => absurd z.1 (by decide))
  have nD : ∀ k j, Us S E k j → ¬ (k = 0 ∧ j = 13) → ¬ (k = 0 ∧ j = 23) → ¬ (A k j = A 0 13 ∨ A k j = A 0 23) := fun k j hu h1 h2 z => by
    rcases z with z | z
    · exact hN0.ne hu (Us0 (by decide)) h1 z
    · exact hN0.ne hu u23 h2 z
  have hf : ∀ j, j < s0 S 6 → XF μ3 A S j → XF μ3 A' (sp_procS S b (nI nsl) (nI nin)) j := fun j hj hx => by
    have b1 := (hWS.2.2.1.2.2.2 j hj).1
    unfold XF at hx ⊢
    rw [e1q 10 (by decide), e1q 11 (by decide), e1q 12 (by decide), e1q 13 (by decide), e1q 14 (by decide), e2q 1 (by decide), hA1, hA4, hA30 _ b1]
    exact hx
  have XP' : XP μ3 A' (sp_procS S b (nI nsl) (nI nin)) := by
    refine ⟨?_, fun p hp => ?_, fun k hk => ?_⟩
    · rw [A23, hA0 13 (by decide), e01]
      have : A' 3 = fun j => if j = s0 S 1 then q21 else A' 3 j := funext fun j => by
        by_cases e : j = s0 S 1
        · rw [if_pos e, e]; exact A3
        · rw [if_neg e]
      have hg : ∀ i, i < s0 S 1 + 1 → A' 3 i = va_up (A 3) (s0 S 1) q21 i := fun i hi => by
        show A' 3 i = if i = s0 S 1 then q21 else A 3 i
        by_cases e : i = s0 S 1
        · rw [if_pos e, e]; exact A3
        · rw [if_neg e]; exact hA30 i (by omega)
      obtain ⟨l1, l2, l3, l4, l5, l6, l7⟩ := hl3
      exact ⟨l1, l2, l3, l4, l5, fun i hi => by rw [hg i hi]; exact l6 i hi, l7⟩
    · rw [e01] at hp
      rcases Nat.lt_or_ge p (s0 S 1) with r | r
      · have us : ∀ k, k = 3 ∨ k = 5 ∨ k = 7 → Us S E k p := fun k hk => Or.inr (Or.inr (Or.inr (Or.inl ⟨hk, r⟩)))
        have x := (hP.2.1 p r).off o13 (nD 3 p (us 3 (by omega)) (by omega) (by omega)) (nD 5 p (us 5 (by omega)) (by omega) (by omega)) (by
          by_cases z : s1 S 4 p = 0
          · exact Or.inl z
          · exact Or.inr (nD 6 p (Or.inr (Or.inr (Or.inr (Or.inr (Or.inr ⟨rfl, r, z⟩))))) (by omega) (by omega))) (nD 7 p (us 7 (by omega)) (by omega) (by omega))
        unfold XQ at x ⊢
        rw [e1o 0 p (by omega), e1o 1 p (by omega), e1o 2 p (by omega), e1o 3 p (by omega), e1o 4 p (by omega), e2o 0 p (by omega), e2o 1 p (by omega), hA30 p r, hA5 p r, hA7 p r, hA4, hA6]
        exact x
      · have ep : p = s0 S 1 := by omega
        subst ep
        have t0 : s1 (sp_procS S b (nI nsl) (nI nin)) 0 (s0 S 1) = b := (by show up2 (up2 (up2 (up2 (up2 (s1 S) 0 (s0 S 1) b) 1 (s0 S 1) (nI nsl).toNatClampNeg) 2 (s0 S 1) (nI nin).toNatClampNeg) 3 (s0 S 1) (s0 S 0)) 4 (s0 S 1) 0 0 (s0 S 1) = b; rw [up2_le (by decide), up2_le (by decide), up2_le (by decide), up2_le (by decide), up2_e])
        have t1 : s1 (sp_procS S b (nI nsl) (nI nin)) 1 (s0 S 1) = nsl := (by show up2 (up2 (up2 (up2 (up2 (s1 S) 0 (s0 S 1) b) 1 (s0 S 1) (nI nsl).toNatClampNeg) 2 (s0 S 1) (nI nin).toNatClampNeg) 3 (s0 S 1) (s0 S 0)) 4 (s0 S 1) 0 1 (s0 S 1) = nsl; rw [up2_le (by decide), up2_le (by decide), up2_le (by decide), up2_e, nI_clamp (by omega)])
        have t2 : s1 (sp_procS S b (nI nsl) (nI nin)) 2 (s0 S 1) = nin := (by show up2 (up2 (up2 (up2 (up2 (s1 S) 0 (s0 S 1) b) 1 (s0 S 1) (nI nsl).toNatClampNeg) 2 (s0 S 1) (nI nin).toNatClampNeg) 3 (s0 S 1) (s0 S 0)) 4 (s0 S 1) 0 2 (s0 S 1) = nin; rw [up2_le (by decide), up2_le (by decide), up2_e, nI_clamp (by omega)])
        have t3 : s1 (sp_procS S b (nI nsl) (nI nin)) 3 (s0 S 1) = s0 S 0 := (by show up2 (up2 (up2 (up2 (up2 (s1 S) 0 (s0 S 1) b) 1 (s0 S 1) (nI nsl).toNatClampNeg) 2 (s0 S 1) (nI nin).toNatClampNeg) 3 (s0 S 1) (s0 S 0)) 4 (s0 S 1) 0 3 (s0 S 1) = s0 S 0; rw [up2_le (by decide), up2_e])
        have t4 : s1 (sp_procS S b (nI nsl) (nI nin)) 4 (s0 S 1) = 0 := (by show up2 (up2 (up2 (up2 (up2 (s1 S) 0 (s0 S 1) b) 1 (s0 S 1) (nI nsl).toNatClampNeg) 2 (s0 S 1) (nI nin).toNatClampNeg) 3 (s0 S 1) (s0 S 0)) 4 (s0 S 1) 0 4 (s0 S 1) = 0; rw [up2_e])
        obtain ⟨f1, f2, -⟩ := keep3 q21 (by omega) (fun z => n03.2.1 z.symm) (fun z => n023.2.1 z.symm)
        obtain ⟨-, -, v3, v4, -⟩ := keep3 q (by omega) (fun z => n03.1 z.symm) (fun z => n023.1 z.symm)
        obtain ⟨-, -, y3, y4, -⟩ := (d1 (fun _ => False)).2.2 q (by omega) (fun z => z)
        obtain ⟨w1, w2, -⟩ := keep3 ql (by omega) (fun z => n03.2.2 z.symm) (fun z => n023.2.2 z.symm)
        obtain ⟨x1, x2, -⟩ := o26.2.2 ql (by rw [o46.kd k2]; decide) nlq
        have k3q : kd μ4 q3 = 106 := hq3
        have k26q3 : kd μ26 q3 = 106 := o26.kd (o6.kd k3q)
        have k33 : kd μ3 q3 = 106 := o3.kd k26q3
        unfold XQ
        rw [t0, t1, t2, t3, t4, A3, A5, A7]
        refine ⟨o3.kd k26p, ?_, ?_, ?_, ?_, ?_, o3.kd k26q, by rw [v3, y3]; exact l1, fun k hk => ?_, o3.kd k26l, Or.inl rfl, ?_, fun _ => ⟨q3, ?_, k33, ?_⟩, fun z => absurd rfl z, fun i hi => absurd hi (Nat.not_lt_zero i), Or.inr (Or.inl rfl), hl3.2.2.2.2.2.2.2⟩
        · rw [f1, e26]; show fi μ19 7 0 q21 = _; rw [e19, fi_sfi_k (by decide), e16, fi_sfi_k (by decide), e13, fi_sfi_e]
        · rw [f1, e26]; show fi μ19 7 1 q21 = _; rw [e19, fi_sfi_k (by decide), e16, fi_sfi_e]
        · rw [f1, e26]; show fi μ19 7 2 q21 = _; rw [e19, fi_sfi_e]
        · rw [f2, e26, fr_sfr_e]
        · rw [f2, e26, fr_sfr_k (by decide), e19]; show fr μ16 7 4 q21 = _; rw [e16]; show fr μ13 7 4 q21 = _; rw [e13]; show fr μ9 7 4 q21 = _; rw [e9, fr_sfr_e]
        · rw [v4, y4, a1 k hk]
          show si S 0 k = nI (if 0 = 0 ∧ s0 S 1 = s0 S 1 then (si S 0 k).toNatClampNeg else _)
          rw [if_pos ⟨rfl, rfl⟩]
          obtain ⟨m, hm, em⟩ := nI_of (Int32.not_lt.mpr (ok.2.2.2.2.2 k hk).1)
          rw [em, nI_clamp hm]
        · rw [w1, x1, e6]; show fi μ4 1 2 ql = 0; rw [e4, fi_sfi_k (by decide), e2, fi_nob, if_pos ⟨rfl, rfl⟩]
        · rw [w2, x2, e6, fr_sfr_e]
        · exact (hl3.2.2.2.2.2.2.2 q3 k33).1
    · rw [e02] at hk
      have us : ∀ k', k' = 4 ∨ k' = 8 → Us S E k' k := fun k' hk' => Or.inr (Or.inr (Or.inr (Or.inr (Or.inl ⟨hk', hk⟩))))
      have x := (hP.2.2 k hk).off o13 (nD 4 k (us 4 (by omega)) (by omega) (by omega)) (nD 8 k (us 8 (by omega)) (by omega) (by omega))
      unfold XI sa at x ⊢
      rw [e1q 5 (by decide), e1q 6 (by decide), e2q 2 (by decide), esi, hA4, hA8]
      obtain ⟨x1, x2, x3, x4, x5, x6, x7, x8, x9, x10, x11⟩ := x
      refine ⟨x1, x2, x3, x4, x5, x6, x7, x8, x9, x10, fun q => ?_⟩
      rw [hA30 _ (show (si S 1 k).toNatClampNeg < s0 S 1 from h.2.2.2 k hk q)]
      exact x11 q
  obtain ⟨m1, m2, -⟩ := o13.2.2 (A 0 0) (lv 0 0 (Us0 (by decide))) (nD 0 0 (Us0 (by decide)) (by decide) (by decide))
  obtain ⟨-, -, p3, p4, -⟩ := o13.2.2 (A 0 14) (lv 0 14 (Us0 (by decide))) (nD 0 14 (Us0 (by decide)) (by decide) (by decide))
  obtain ⟨M1, M2, M3, M4, M5, M6, M7, M8, M9, M10, M11⟩ := id hM
  have XM' : XM μ3 A' (sp_procS S b (nI nsl) (nI nin)) := by
    unfold XM
    rw [hA0 0 (by decide), hA0 14 (by decide), hA0 13 (by decide), hA0 1 (by decide), hA0 4 (by decide), m1, m1, m2, m2, m2, m2, p3, e02]
    exact ⟨o13.kd M1, M2, M3, M4, M5, M6, M7, o13.kd M8, M9, Nat.zero_le _, fun i hi => absurd hi (Nat.not_lt_zero i)⟩
  have XC' : XCl (sp_procS S b (nI nsl) (nI nin)) := by
    unfold XCl sa
    rw [e02, e01, e1q 5 (by decide), esi]
    exact fun k hk hk2 => Nat.lt_succ_of_lt (h.2.2.2 k hk hk2)
  have kpE : KP μ nm μ3 nm' := by
    refine KP.of oAll (fun a z e => ?_) (fun a ha => ?_)
    · rw [e] at z
      rcases z with z | z | z
      · cases z
      · have := z.2
        omega
      · exact absurd (show 3 ≤ 0 from z) (by decide)
    · rw [hnm']
      have k1a : kd μ1 a ≠ 0 := by rw [o1.1 a ha]; exact ha
      have k26a : kd μ26 a ≠ 0 := by rw [(d1 (fun _ => False)).1 a k1a]; exact k1a
      refine (if_neg (fun e => k1a (by rw [e]; exact hq21))).trans ((if_neg (fun e => ?_)).trans ((if_neg (fun e => ha (by rw [e]; exact hq))).trans ?_))
      · have := (o22 (fun _ => False)).1 a k1a
        rw [e, hql] at this
        exact k1a (by rw [e]; exact this.symm)
      · by_cases e : a = el'
        · refine (if_pos e).trans ?_
          rcases hel with r | r
          · rw [e, r, hN0 0 23 u23]
          · exact absurd (by rw [e]; exact r) k26a
        · exact if_neg e
  have fin := hy μ3 A' nm' (XX.prog h oAll hA0 hA1 hA2 N' L' ps hf XP' hW' XM' XC') (hA0 0 (by decide)) kpE
  refine ⟨A 0 13, by rw [m2]; exact M4, hl3.1, x_lsize hl3 fun _ => ?_⟩
  have : nI (s0 S 1 + 1) - 1 = nI (s0 S 1) := by rw [← nI_1, Int32.add_sub_cancel]
  rw [this]
  exact fin
