/-! the class's add -/
theorem AL.n0 {μ : Mem} {o el el' t : Nat} {g : Nat → Nat} (h : AL μ o el 0 g t) : AL μ o el' 0 g t := by
  obtain ⟨g1, g2, g3, g4, g5, g6, g7, g8⟩ := h
  exact ⟨g1, Or.inl rfl, g3, g4, fun z => absurd rfl z, fun i hi => absurd hi (Nat.not_lt_zero i), g7, g8⟩
theorem XX.dead {nm : Nat → Nat × Nat} {μ μ' : Mem} {A : Ad} {S : Sp} {E tt : Nat → Nat} (h : XX μ A nm S E tt) (ho : ∀ D, Off D μ μ') : XX μ' A nm S E tt := by
  obtain ⟨g1, g2, g3, g4, g5, g6, g7, g8, g9, g10, g11⟩ := id h.2.1
  obtain ⟨x1, x2, -⟩ := (ho (fun _ => False)).2.2 (A 0 0) (by omega) (fun z => z)
  obtain ⟨-, -, y3, y4, -⟩ := (ho (fun _ => False)).2.2 (A 0 14) (by omega) (fun z => z)
  have o := ho (fun _ => False)
  exact h.mach (ho _) (fun J => J) ⟨o.kd g1, by rw [x2]; exact g2, by rw [x1]; exact g3, by rw [x2]; exact g4, by rw [x1]; exact g5, by rw [x2]; exact g6, by rw [x2]; exact g7, o.kd g8, by rw [y3]; exact g9, g10, fun i hi => by rw [y4]; exact g11 i hi⟩ rfl rfl h.2.2.2
theorem x_add37 {nm : Nat → Nat × Nat} {μ0 μ : Mem} {A : Ad} {S : Sp} {E tt : Nat → Nat} {p k a b c d : Int32} {q1 q cc zz : Nat} {post : Int32 → Mem → Prop}
    (h : XX μ0 A nm S E tt) (ho : Off (fun a => a = A 0 0) μ0 μ) (X : XX μ A nm (u0 S 0 0) E tt) (hq1 : kd μ0 q1 = 0) (hq : kd μ0 q = 0)
    (ki : kd μ q1 = 6) (f0 : fi μ 5 0 q1 = k) (f1 : fi μ 5 1 q1 = a) (f2 : fi μ 5 2 q1 = b) (f3 : fi μ 5 3 q1 = c) (f4 : fi μ 5 4 q1 = d) (f5 : fr μ 5 5 q1 = some q) (kq : kd μ q = 102) (lq : al μ q = s0 S 0) (rq : ∀ i, i < s0 S 0 → ai μ q i = si S 0 i)
    (cy : k = 10 → ∀ j, j < s0 S 1 → a = nI j → fr μ 5 6 q1 = some (A 3 j)) (cn : k = 10 → ¬ inR a (nI (s0 S 1) - 1) → fr μ 5 6 q1 = none)
    (hc : 1 ≤ cc) (hz : 4020 ≤ zz) (hWy : okAdd S p k a b c d → WF (sp_addS S p.toNatClampNeg k a b c d))
    (hy : okAdd S p k a b c d → ∀ μ' A' nm', XX μ' A' nm' (sp_addS S p.toNatClampNeg k a b c d) E tt → A' 0 0 = A 0 0 → KP μ0 nm μ' nm' → post (nI (s1 S 4 p.toNatClampNeg)) μ')
    (hn : ¬ okAdd S p k a b c d → post (-1) μ) : wp_X10_add_37 (A 0 0) post cc zz μ p q1 := by
  refine ⟨X.2.1.1, x_procAt X (fun pj hpj ep _ => ⟨fun z => absurd z (by simp), fun x23 e23 => ?_⟩) (fun y _ => ⟨fun _ => hn (fun z => y z.2.1), fun x e => absurd e (by simp)⟩)⟩
  cases e23
  have hpj : pj < s0 S 1 := hpj
  obtain ⟨hJ, hM, hT, hC⟩ := id X
  obtain ⟨hN, hL, hK, hH, hP, hE⟩ := id hJ.1
  obtain ⟨M1, M2, M3, M4, M5, M6, M7, M8, M9, M10, M11⟩ := id hM
  have hN0 : RN nm A S E := h.1.1.1
  have hL0 : LV μ0 A S E := h.1.1.2.1
  have hWS : WF S := h.1.2.2.1
  have h60 : s0 S 1 ≤ 60 := hWS.1.1
  have h2k : s0 S 2 ≤ 2000 := hWS.1.2.1
  have hs0 : s0 S 0 ≤ 10 := h.2.1.2.2.2.2.2.2.2.2.2.1
  have inp : inR (nI pj) (nI (s0 S 1) - 1) := (inR_lt (by omega)).mpr ⟨Int32.not_lt.mp (nI_pos (by omega)), nI_lt hpj (by omega)⟩
  have epc : p.toNatClampNeg = pj := by rw [ep, nI_clamp (by omega)]
  rw [← ep] at inp
  rw [epc] at hWy hy
  have M5 : fi μ 11 3 (A 0 0) = nI (s0 S 2) := M5
  rw [M5]
  refine ⟨fun z => hn fun w => w.1 ?_, fun z => ?_⟩
  · rcases Nat.lt_or_ge (s0 S 2) 2000 with r | r
    · exact absurd z (nI_ge (b := 2000) r (by decide))
    · omega
  have lt2 : s0 S 2 < 2000 := by
    rcases Nat.lt_or_ge (s0 S 2) 2000 with r | r
    · exact r
    · exact absurd (nI_le (a := 2000) r (by omega)) z
  obtain ⟨Q1, Q2, Q3, Q4, Q5, Q6, Q7, Q8, Q9, Q10⟩ := id (hP.2.1 pj hpj)
  have Q3 : fi μ 7 1 (A 3 pj) = nI (s1 S 1 pj) := Q3
  have Q10 : AL μ (A 5 pj) (A 6 pj) (s1 S 4 pj) (fun m => A 4 (s2 S 1 pj m)) 6 := Q10
  obtain ⟨-, sl1, sl2, -, -, -, n4, -, mW⟩ := hWS.1.2.2.1 pj hpj
  refine ⟨Q1, x_admits (A := A) (S := S) (p := pj) ⟨Q1, Q3, sl1, sl2, h60⟩ ki f0 f1 f2 f3 f4 f5 kq lq hs0 rq (fun ek j hj ej => ?_) cn (fun okk _ => nz1 fun μ30 e30 => ⟨1, 4020, hc, hz, ?_⟩) (fun y _ => nz0 (hn fun w => y (by have := w.2.2; rw [epc] at this; exact this)))⟩
  · obtain ⟨R1, R2, R3, R4, R5, R6, R7, R8, -⟩ := id (hP.2.1 j hj)
    exact ⟨cy ek j hj ej, R1, R4, R5, R7, R8⟩
  have ok : okAdd S p k a b c d := ⟨by omega, inp, by rw [epc]; exact okk⟩
  have hW' := hWy ok
  have hy := hy ok
  rw [M5, nI_1] at e30
  have o30 : Off (fun a => a = A 0 0) μ μ30 := by rw [e30]; exact Off_sfi
  have ho30 := ho.tr o30
  -- roles
  have lv : ∀ k j, Us S E k j → kd μ (A k j) ≠ 0 := fun k j hu => hL k j hu
  have lv30 : ∀ k j, Us S E k j → kd μ30 (A k j) ≠ 0 := fun k j hu => by rw [o30.1 _ (lv k j hu)]; exact lv k j hu
  have nq : ∀ k j, Us S E k j → ¬ A k j = q := fun k j hu e => hL0 k j hu (by rw [e]; exact hq)
  have n1 : ∀ k j, Us S E k j → ¬ A k j = q1 := fun k j hu e => hL0 k j hu (by rw [e]; exact hq1)
  have q0 : ¬ q = A 0 0 := fun e => nq 0 0 (Us0 (by decide)) e.symm
  have q10 : ¬ q1 = A 0 0 := fun e => n1 0 0 (Us0 (by decide)) e.symm
  have nqq : ¬ q = q1 := fun e => by rw [e, ki] at kq; cases kq
  have us3 : ∀ p', p' < s0 S 1 → ∀ k, k = 3 ∨ k = 5 ∨ k = 7 → Us S E k p' := fun p' hp' k hk => Or.inr (Or.inr (Or.inr (Or.inl ⟨hk, hp'⟩)))
  have us4 : ∀ k', k' < s0 S 2 → ∀ k, k = 4 ∨ k = 8 → Us S E k k' := fun k' hk' k hk => Or.inr (Or.inr (Or.inr (Or.inr (Or.inl ⟨hk, hk'⟩))))
  have us6 : ∀ p', p' < s0 S 1 → s1 S 4 p' ≠ 0 → Us S E 6 p' := fun p' hp' hz => Or.inr (Or.inr (Or.inr (Or.inr (Or.inr ⟨rfl, hp', hz⟩))))
  have n00 : ∀ k j, Us S E k j → ¬ (k = 0 ∧ j = 0) → ¬ A k j = A 0 0 := fun k j hu hd => hN0.ne hu (Us0 (by decide)) hd
  obtain ⟨el, hel, elN, elZ⟩ : ∃ el, AL μ30 (A 5 pj) el (s1 S 4 pj) (fun m => A 4 (s2 S 1 pj m)) 6 ∧ (s1 S 4 pj ≠ 0 → el = A 6 pj) ∧ (s1 S 4 pj = 0 → el = A 5 pj) := by
    by_cases z : s1 S 4 pj = 0
    · refine ⟨A 5 pj, ?_, fun y => absurd z y, fun _ => rfl⟩
      have := Q10.off o30 (n00 5 pj (us3 pj hpj 5 (by omega)) (by omega)) (Or.inl z) (Or.inr (by decide))
      rw [z] at this ⊢
      exact this.n0
    · exact ⟨A 6 pj, Q10.off o30 (n00 5 pj (us3 pj hpj 5 (by omega)) (by omega)) (Or.inr (n00 6 pj (us6 pj hpj z) (by omega))) (Or.inr (by decide)), fun _ => rfl, fun y => absurd y z⟩
  have k30 : kd μ30 q1 = 6 := o30.kd ki
  have k30q : kd μ30 q = 102 := o30.kd kq
  obtain ⟨i1, i2, -⟩ := o30.2.2 (A 3 pj) (by omega) (n00 3 pj (us3 pj hpj 3 (by omega)) (by omega))
  have cap := hel.n
  refine ⟨o30.kd Q1, A 5 pj, by rw [i2]; exact Q6, hel.1, 1, 4020, Nat.le_refl _, Nat.le_refl _, x_ladd hel k30 (by omega) ?_ (fun μ3 el' hl3 o3 hel' hcp _ => ?_)⟩
  · refine Or.inr ⟨by decide, ?_⟩
    have : gcap (s1 S 4 pj) (capA μ30 el (s1 S 4 pj)) ≤ 2 * s1 S 4 pj + 12 := by unfold gcap; split <;> (try split) <;> omega
    omega
  have kel : kd μ3 el' = 105 := (hl3.2.2.2.2.1 (by omega)).1
  -- where el lies
  have nel : ∀ k j, Us S E k j → ¬ (k = 5 ∧ j = pj) → ¬ (k = 6 ∧ j = pj) → ¬ (A k j = A 5 pj ∨ A k j = el) := fun k j hu h5 h6 z => by
    rcases z with z | z
    · exact hN0.ne hu (us3 pj hpj 5 (by omega)) h5 z
    · by_cases w : s1 S 4 pj = 0
      · rw [elZ w] at z; exact hN0.ne hu (us3 pj hpj 5 (by omega)) h5 z
      · rw [elN w] at z; exact hN0.ne hu (us6 pj hpj w) h6 z
  have nq1D : ¬ (q1 = A 5 pj ∨ q1 = el) := fun z => by
    rcases z with z | z
    · exact n1 5 pj (us3 pj hpj 5 (by omega)) z.symm
    · by_cases w : s1 S 4 pj = 0
      · rw [elZ w] at z; exact n1 5 pj (us3 pj hpj 5 (by omega)) z.symm
      · rw [elN w] at z; exact n1 6 pj (us6 pj hpj w) z.symm
  have nqD : ¬ (q = A 5 pj ∨ q = el) := fun z => by
    rcases z with z | z
    · exact nq 5 pj (us3 pj hpj 5 (by omega)) z.symm
    · by_cases w : s1 S 4 pj = 0
      · rw [elZ w] at z; exact nq 5 pj (us3 pj hpj 5 (by omega)) z.symm
      · rw [elN w] at z; exact nq 6 pj (us6 pj hpj w) z.symm
  have el5 : ¬ el' = A 5 pj := fun e => by
    have : kd μ3 (A 5 pj) = 2 := hl3.1
    rw [← e, kel] at this; cases this
  have elq1 : ¬ el' = q1 := fun e => by
    have := o3.kd k30
    rw [← e, kel] at this; cases this
  have elq : ¬ el' = q := fun e => by
    have := o3.kd k30q
    rw [← e, kel] at this; cases this
  have elo : ∀ k j, Us S E k j → ¬ (k = 6 ∧ j = pj) → ¬ el' = A k j := fun k j hu h6 e => by
    rcases hel' with r | r
    · by_cases h5 : k = 5 ∧ j = pj
      · rw [h5.1, h5.2] at e; exact el5 e
      · exact nel k j hu h5 h6 (Or.inr (by rw [← r]; exact e.symm))
    · exact lv30 k j hu (by rw [← e]; exact r)
  obtain ⟨A', hA'⟩ : ∃ A' : Ad, A' = fun k j => if k = 4 ∧ j = s0 S 2 then q1 else if k = 8 ∧ j = s0 S 2 then q else if k = 6 ∧ j = pj then el' else A k j := ⟨_, rfl⟩
  obtain ⟨nm', hnm'⟩ : ∃ nm' : Nat → Nat × Nat, nm' = fun a => if a = q1 then (4, s0 S 2) else if a = q then (8, s0 S 2) else if a = el' then (6, pj) else nm a := ⟨_, rfl⟩
  have A4 : A' 4 (s0 S 2) = q1 := by rw [hA']; exact if_pos ⟨rfl, rfl⟩
  have A8 : A' 8 (s0 S 2) = q := by rw [hA']; exact (if_neg (fun z => absurd z.1 (by decide))).trans (if_pos ⟨rfl, rfl⟩)
  have A6 : A' 6 pj = el' := by rw [hA']; exact (if_neg (fun z => absurd z.1 (by decide))).trans ((if_neg (fun z => absurd z.1 (by decide))).trans (if_pos ⟨rfl, rfl⟩))
  have Ao : ∀ k j, ¬ ((k = 4 ∨ k = 8) ∧ j = s0 S 2) → ¬ (k = 6 ∧ j = pj) → A' k j = A k j := fun k j h1 h2 => by
    rw [hA']
    refine (if_neg (fun z => ?_)).trans ((if_neg (fun z => ?_)).trans (if_neg h2)) <;> omega
  -- the new state
  have e0q : ∀ k', ¬ (k' = 0 ∨ k' = 2) → s0 (sp_addS S pj k a b c d) k' = s0 S k' := fun k' hk => by
    show (if k' = 2 then _ else if k' = 0 then _ else s0 S k') = s0 S k'
    rw [if_neg (by omega), if_neg (by omega)]
  have e02 : s0 (sp_addS S pj k a b c d) 2 = s0 S 2 + 1 := rfl
  have e01 : s0 (sp_addS S pj k a b c d) 1 = s0 S 1 := e0q 1 (by decide)
  have e1q : ∀ k', ¬ (k' = 4 ∨ k' = 5 ∨ k' = 6) → s1 (sp_addS S pj k a b c d) k' = s1 S k' := fun k' hk => by
    show up2 (up2 (up2 (s1 S) 5 (s0 S 2) k.toNatClampNeg) 6 (s0 S 2) (s0 S 0)) 4 pj (s1 S 4 pj + 1) k' = s1 S k'
    rw [up2_le (by omega), up2_le (by omega), up2_le (by omega)]
  have e1x : ∀ k' j, s1 (sp_addS S pj k a b c d) k' j = up2 (up2 (up2 (s1 S) 5 (s0 S 2) k.toNatClampNeg) 6 (s0 S 2) (s0 S 0)) 4 pj (s1 S 4 pj + 1) k' j := fun _ _ => rfl
  have e14 : ∀ j, s1 (sp_addS S pj k a b c d) 4 j = if j = pj then s1 S 4 pj + 1 else s1 S 4 j := fun j => by
    rw [e1x]
    by_cases e : j = pj
    · rw [e, up2_e, if_pos rfl]
    · rw [up2_o e, up2_le (by decide), up2_le (by decide), if_neg e]
  have e156 : ∀ k' j, k' = 5 ∨ k' = 6 → ¬ j = s0 S 2 → s1 (sp_addS S pj k a b c d) k' j = s1 S k' j := fun k' j hk hj => by
    rw [e1x, up2_le (by omega), up2_o hj, up2_o hj]
  have e15n : s1 (sp_addS S pj k a b c d) 5 (s0 S 2) = k.toNatClampNeg := by
    rw [e1x, up2_le (by decide), up2_le (by decide), up2_e]
  have e16n : s1 (sp_addS S pj k a b c d) 6 (s0 S 2) = s0 S 0 := by
    rw [e1x, up2_le (by decide), up2_e]
  have e2x : ∀ m i j, s2 (sp_addS S pj k a b c d) m i j = if m = 1 ∧ i = pj ∧ j = s1 S 4 pj then s0 S 2 else if m = 2 ∧ i = s0 S 2 then (si S 0 j).toNatClampNeg else s2 S m i j := fun _ _ _ => rfl
  have e20 : s2 (sp_addS S pj k a b c d) 0 = s2 S 0 := funext fun i => funext fun j => by
    rw [e2x, if_neg (fun z => absurd z.1 (by decide)), if_neg (fun z => absurd z.1 (by decide))]
  have e21 : ∀ i j, ¬ (i = pj ∧ j = s1 S 4 pj) → s2 (sp_addS S pj k a b c d) 1 i j = s2 S 1 i j := fun i j hd => by
    rw [e2x, if_neg (fun z => hd z.2), if_neg (fun z => absurd z.1 (by decide))]
  have e21n : s2 (sp_addS S pj k a b c d) 1 pj (s1 S 4 pj) = s0 S 2 := by
    rw [e2x, if_pos ⟨rfl, rfl, rfl⟩]
  have e22 : ∀ i j, ¬ i = s0 S 2 → s2 (sp_addS S pj k a b c d) 2 i j = s2 S 2 i j := fun i j hd => by
    rw [e2x, if_neg (fun z => absurd z.1 (by decide)), if_neg (fun z => hd z.2)]
  have e22n : ∀ j, s2 (sp_addS S pj k a b c d) 2 (s0 S 2) j = (si S 0 j).toNatClampNeg := fun j => by
    rw [e2x, if_neg (fun z => absurd z.1 (by decide)), if_pos ⟨rfl, rfl⟩]
  have esx : ∀ k' j, si (sp_addS S pj k a b c d) k' j = up2 (up2 (up2 (up2 (si S) 1 (s0 S 2) a) 2 (s0 S 2) b) 3 (s0 S 2) c) 4 (s0 S 2) d k' j := fun _ _ => rfl
  have esi : ∀ k' j, ¬ j = s0 S 2 → si (sp_addS S pj k a b c d) k' j = si S k' j := fun k' j hj => by
    rw [esx, up2_o hj, up2_o hj, up2_o hj, up2_o hj]
  have esn : si (sp_addS S pj k a b c d) 1 (s0 S 2) = a ∧ si (sp_addS S pj k a b c d) 2 (s0 S 2) = b ∧ si (sp_addS S pj k a b c d) 3 (s0 S 2) = c ∧ si (sp_addS S pj k a b c d) 4 (s0 S 2) = d := by
    refine ⟨?_, ?_, ?_, ?_⟩
    · rw [esx, up2_le (by decide), up2_le (by decide), up2_le (by decide), up2_e]
    · rw [esx, up2_le (by decide), up2_le (by decide), up2_e]
    · rw [esx, up2_le (by decide), up2_e]
    · rw [esx, up2_e]
  have ps : PS S (sp_addS S pj k a b c d) := ⟨fun k' hk => e0q k' (by omega), fun k' hk => e1q k' (by omega), rfl, rfl⟩
  have usO : ∀ k' j, Us (sp_addS S pj k a b c d) E k' j → (Us S E k' j ∧ ¬ ((k' = 4 ∨ k' = 8) ∧ j = s0 S 2) ∧ ¬ (k' = 6 ∧ j = pj)) ∨ ((k' = 4 ∨ k' = 8) ∧ j = s0 S 2) ∨ (k' = 6 ∧ j = pj) := fun k' j hu => by
    by_cases w1 : (k' = 4 ∨ k' = 8) ∧ j = s0 S 2
    · exact Or.inr (Or.inl w1)
    by_cases w2 : k' = 6 ∧ j = pj
    · exact Or.inr (Or.inr w2)
    refine Or.inl ⟨?_, w1, w2⟩
    rcases hu with hu | hu | hu | ⟨hu, hj⟩ | ⟨hu, hj⟩ | ⟨hk6, hj, hj4⟩
    · exact Or.inl hu
    · exact Or.inr (Or.inl hu)
    · exact Or.inr (Or.inr (Or.inl hu))
    · rw [e01] at hj
      exact Or.inr (Or.inr (Or.inr (Or.inl ⟨hu, hj⟩)))
    · rw [e02] at hj
      exact us4 j (by omega) k' hu
    · rw [e01] at hj
      rw [e14, if_neg (fun z => w2 ⟨hk6, z⟩)] at hj4
      exact Or.inr (Or.inr (Or.inr (Or.inr (Or.inr ⟨hk6, hj, hj4⟩))))
  have N' : RN nm' A' (sp_addS S pj k a b c d) E := fun k' j hu => by
    rcases usO k' j hu with ⟨hu, w1, w2⟩ | ⟨hk, hj⟩ | ⟨hk, hj⟩
    · rw [Ao k' j w1 w2, hnm']
      exact (if_neg (n1 k' j hu)).trans ((if_neg (nq k' j hu)).trans ((if_neg (fun z => elo k' j hu w2 z.symm)).trans (hN0 k' j hu)))
    · subst hj
      rcases hk with rfl | rfl
      · rw [A4, hnm']; exact if_pos rfl
      · rw [A8, hnm']; exact (if_neg nqq).trans (if_pos rfl)
    · subst hj; subst hk
      rw [A6, hnm']; exact (if_neg elq1).trans ((if_neg elq).trans (if_pos rfl))
  have L' : LV μ3 A' (sp_addS S pj k a b c d) E := fun k' j hu => by
    rcases usO k' j hu with ⟨hu, w1, w2⟩ | ⟨hk, hj⟩ | ⟨hk, hj⟩
    · rw [Ao k' j w1 w2, o3.1 _ (lv30 k' j hu)]; exact lv30 k' j hu
    · subst hj
      rcases hk with rfl | rfl
      · rw [A4, o3.1 _ (by omega), k30]; decide
      · rw [A8, o3.1 _ (by omega), k30q]; decide
    · subst hj; subst hk
      rw [A6, kel]; decide
  have o13 : Off (fun a => a = A 0 0 ∨ a = A 5 pj ∨ a = el) μ μ3 := (o30.sub (fun a _ z => Or.inl z)).tr (o3.sub (fun a _ z => Or.inr z))
  have nD : ∀ k' j, Us S E k' j → ¬ (k' = 0 ∧ j = 0) → ¬ (k' = 5 ∧ j = pj) → ¬ (k' = 6 ∧ j = pj) → ¬ (A k' j = A 0 0 ∨ A k' j = A 5 pj ∨ A k' j = el) := fun k' j hu h0 h5 h6 z => by
    rcases z with z | z
    · exact n00 k' j hu h0 z
    · exact nel k' j hu h5 h6 z
  have oAll : Off (fun a => nm a = (0, 0) ∨ gP (nm a)) μ0 μ3 := by
    refine (ho30.sub (fun a _ z => Or.inl (by rw [z, hN0 0 0 (Us0 (by decide))]))).tr (o3.sub (fun a _ z => Or.inr ?_))
    have g5 : gP (nm (A 5 pj)) := by rw [hN0 5 pj (us3 pj hpj 5 (by omega))]; exact Or.inr (by show 3 ≤ 5; omega)
    rcases z with z | z
    · rw [z]; exact g5
    · by_cases w : s1 S 4 pj = 0
      · rw [z, elZ w]; exact g5
      · rw [z, elN w, hN0 6 pj (us6 pj hpj w)]; exact Or.inr (by show 3 ≤ 6; omega)
  have hA0 : ∀ j, j ≠ 23 → A' 0 j = A 0 j := fun j _ => Ao 0 j (by omega) (by omega)
  have hA1 : A' 1 = A 1 := funext fun j => Ao 1 j (by omega) (by omega)
  have hA2 : A' 2 = A 2 := funext fun j => Ao 2 j (by omega) (by omega)
  have hA3 : A' 3 = A 3 := funext fun j => Ao 3 j (by omega) (by omega)
  have hA5 : A' 5 = A 5 := funext fun j => Ao 5 j (by omega) (by omega)
  have hA7 : A' 7 = A 7 := funext fun j => Ao 7 j (by omega) (by omega)
  have hA4 : ∀ j, j < s0 S 2 → A' 4 j = A 4 j := fun j hj => Ao 4 j (by omega) (by omega)
  have hA8 : ∀ j, j < s0 S 2 → A' 8 j = A 8 j := fun j hj => Ao 8 j (by omega) (by omega)
  have hf : ∀ j, j < s0 S 6 → XF μ3 A S j → XF μ3 A' (sp_addS S pj k a b c d) j := fun j hj hx => by
    have wb := hWS.2.2.1.2.2.2
    unfold XF at hx ⊢
    rw [e1q 10 (by decide), e1q 11 (by decide), e1q 12 (by decide), e1q 13 (by decide), e1q 14 (by decide), hA1, hA3]
    obtain ⟨y1, y2, y3, y4, y5⟩ := hx
    refine ⟨y1, y2, y3, y4, fun u hu => ?_⟩
    obtain ⟨z1, z2, z3⟩ := y5 u hu
    obtain ⟨v1, v2, -⟩ := (wb j hj).2.2.2.2 u hu
    have pu := (wb u (by omega)).1
    have lt := ((hWS.1.2.2.1 _ pu).2.2.2.2.2.2.2.2 _ v2).1
    refine ⟨z1, ?_, z3⟩
    rw [e21 _ _ (fun w => by rw [w.1] at v2; omega), hA4 _ lt]
    exact z2
  obtain ⟨jk, hjk, ekk⟩ := okI_kind okk
  have XP' : XP μ3 A' (sp_addS S pj k a b c d) := by
    refine ⟨?_, fun p' hp' => ?_, fun k' hk' => ?_⟩
    · rw [Ao 0 13 (by omega) (by omega), Ao 0 23 (by omega) (by omega), hA3, e01]
      exact hP.1.off o13 (nD 0 13 (Us0 (by decide)) (by omega) (by omega) (by omega)) (Or.inr (nD 0 23 (Us0 (by decide)) (by omega) (by omega) (by omega))) (Or.inr (by decide))
    · rw [e01] at hp'
      obtain ⟨R1, R2, R3, R4, R5, R6, R7, R8, R9, R10⟩ := id (hP.2.1 p' hp')
      have R10 : AL μ (A 5 p') (A 6 p') (s1 S 4 p') (fun m => A 4 (s2 S 1 p' m)) 6 := R10
      obtain ⟨a1, a2, -⟩ := o13.2.2 (A 3 p') (by omega) (nD 3 p' (us3 p' hp' 3 (by omega)) (by omega) (by omega) (by omega))
      obtain ⟨-, -, b3, b4, -⟩ := o13.2.2 (A 7 p') (by omega) (nD 7 p' (us3 p' hp' 7 (by omega)) (by omega) (by omega) (by omega))
      obtain ⟨-, -, -, -, -, -, -, -, mW'⟩ := hWS.1.2.2.1 p' hp'
      unfold XQ
      rw [e1q 0 (by decide), e1q 1 (by decide), e1q 2 (by decide), e1q 3 (by decide), e14, e20, hA3, hA5, hA7, a1, a1, a1, a2, a2, b3]
      refine ⟨o13.kd R1, R2, R3, R4, R5, R6, o13.kd R7, R8, fun i hi => by rw [b4]; exact R9 i hi, ?_⟩
      by_cases e : p' = pj
      · subst e
        rw [if_pos rfl, A6]
        obtain ⟨l1, l2, l3, l4, l5, l6, l7⟩ := hl3
        refine ⟨l1, l2, l3, l4, l5, fun i hi => ?_, l7⟩
        have := l6 i hi
        have eg : A' 4 (s2 (sp_addS S p' k a b c d) 1 p' i) = va_up (fun m => A 4 (s2 S 1 p' m)) (s1 S 4 p') q1 i := by
          show _ = if i = s1 S 4 p' then q1 else A 4 (s2 S 1 p' i)
          by_cases e2 : i = s1 S 4 p'
          · rw [if_pos e2, e2, e21n]; exact A4
          · rw [if_neg e2, e21 _ _ (fun w => e2 w.2)]; exact hA4 _ (mW' i (by omega)).1
        show ar μ3 el' i = some (A' 4 (s2 (sp_addS S p' k a b c d) 1 p' i)) ∧ kd μ3 (A' 4 (s2 (sp_addS S p' k a b c d) 1 p' i)) = 6
        rw [eg]; exact this
      · rw [if_neg e, Ao 6 p' (by omega) (by omega)]
        have w := R10.off o13 (nD 5 p' (us3 p' hp' 5 (by omega)) (by omega) (by omega) (by omega)) (by
          by_cases z : s1 S 4 p' = 0
          · exact Or.inl z
          · exact Or.inr (nD 6 p' (us6 p' hp' z) (by omega) (by omega) (by omega))) (Or.inr (by decide))
        obtain ⟨l1, l2, l3, l4, l5, l6, l7⟩ := w
        refine ⟨l1, l2, l3, l4, l5, fun i hi => ?_, l7⟩
        have := l6 i hi
        show ar μ3 (A 6 p') i = some (A' 4 (s2 (sp_addS S pj k a b c d) 1 p' i)) ∧ kd μ3 (A' 4 (s2 (sp_addS S pj k a b c d) 1 p' i)) = 6
        rw [e21 _ _ (fun w => e w.1), hA4 _ (mW' i hi).1]; exact this
    · rw [e02] at hk'
      unfold XI sa
      rw [hA3]
      by_cases e : k' = s0 S 2
      · subst e
        rw [A4, A8, e15n, e16n, esn.1, esn.2.1, esn.2.2.1, esn.2.2.2]
        obtain ⟨a1, a2, -⟩ := o13.2.2 q1 (by omega) (fun z => by rcases z with z | z; exact q10 z; exact nq1D z)
        obtain ⟨-, -, b3, b4, -⟩ := o13.2.2 q (by omega) (fun z => by rcases z with z | z; exact q0 z; exact nqD z)
        rw [a1, a1, a1, a1, a1, a2, a2, b3]
        have ec : nI k.toNatClampNeg = k := by rw [ekk, nI_clamp (by omega)]
        refine ⟨o13.kd ki, by rw [ec]; exact f0, f1, f2, f3, f4, f5, o13.kd kq, lq, fun hk j hj => ?_, fun hk => ?_⟩
        · rw [b4, rq j hj, e22n]
          have hk3 : k = 2 ∨ k = 3 ∨ k = 10 := by
            rw [← ec]
            rcases hk with e | e | e
            · left; rw [e]; rfl
            · right; left; rw [e]; rfl
            · right; right; rw [e]; rfl
          obtain ⟨m, hm, em⟩ := nI_of (Int32.not_lt.mpr (okI_row okk hk3 j hj).1)
          rw [em, nI_clamp hm]
        · have k10 : k = 10 := by rw [← ec, hk]; rfl
          have hin : inR a (nI (s0 S 1) - 1) := by subst k10; exact okk.1
          obtain ⟨j, hj, ej⟩ := inR_ex (n := s0 S 1) (by omega) hin
          rw [cy k10 j hj ej, ej, nI_clamp (by omega)]
      · have hk2 : k' < s0 S 2 := by omega
        have x := (hP.2.2 k' hk2).off o13 (nD 4 k' (us4 k' hk2 4 (by omega)) (by omega) (by omega) (by omega)) (nD 8 k' (us4 k' hk2 8 (by omega)) (by omega) (by omega) (by omega))
        unfold XI sa at x
        rw [e156 5 k' (Or.inl rfl) e, e156 6 k' (Or.inr rfl) e, esi 1 k' e, esi 2 k' e, esi 3 k' e, esi 4 k' e, hA4 k' hk2, hA8 k' hk2]
        obtain ⟨x1, x2, x3, x4, x5, x6, x7, x8, x9, x10, x11⟩ := x
        exact ⟨x1, x2, x3, x4, x5, x6, x7, x8, x9, fun hk j hj => by rw [e22 k' j e]; exact x10 hk j hj, x11⟩
  obtain ⟨m1, m2, -⟩ := o3.2.2 (A 0 0) (lv30 0 0 (Us0 (by decide))) (nel 0 0 (Us0 (by decide)) (by omega) (by omega))
  obtain ⟨-, -, p3, p4, -⟩ := o13.2.2 (A 0 14) (lv 0 14 (Us0 (by decide))) (nD 0 14 (Us0 (by decide)) (by omega) (by omega) (by omega))
  have XM' : XM μ3 A' (sp_addS S pj k a b c d) := by
    unfold XM
    rw [hA0 0 (by decide), hA0 14 (by decide), hA0 13 (by decide), hA0 1 (by decide), hA0 4 (by decide), m1, m1, m2, m2, m2, m2, p3, e02, e30, fi_sfi_e, fi_sfi_k (by decide)]
    exact ⟨o13.kd M1, M2, M3, M4, rfl, M6, M7, o13.kd M8, M9, Nat.zero_le _, fun i hi => absurd hi (Nat.not_lt_zero i)⟩
  have XC' : XCl (sp_addS S pj k a b c d) := by
    unfold XCl sa
    rw [e02, e01]
    intro k' hk' h10
    by_cases e : k' = s0 S 2
    · subst e
      rw [e15n] at h10
      rw [esn.1]
      have ec : nI k.toNatClampNeg = k := by rw [ekk, nI_clamp (by omega)]
      have k10 : k = 10 := by rw [← ec, h10]; rfl
      have hin : inR a (nI (s0 S 1) - 1) := by subst k10; exact okk.1
      obtain ⟨j, hj, ej⟩ := inR_ex (n := s0 S 1) (by omega) hin
      rw [ej, nI_clamp (by omega)]; exact hj
    · rw [e156 5 k' (Or.inl rfl) e] at h10
      rw [esi 1 k' e]
      exact h.2.2.2 k' (by omega) h10
  have kpE : KP μ0 nm μ3 nm' := by
    refine KP.of oAll (fun a z e => ?_) (fun a ha => ?_)
    · rw [e] at z
      rcases z with z | z | z
      · cases z
      · have := z.2
        omega
      · exact absurd (show 3 ≤ 0 from z) (by decide)
    · rw [hnm']
      have k1a : kd μ30 a ≠ 0 := by rw [ho30.1 a ha]; exact ha
      refine (if_neg (fun e => ha (by rw [e]; exact hq1))).trans ((if_neg (fun e => ha (by rw [e]; exact hq))).trans ?_)
      by_cases e : a = el'
      · refine (if_pos e).trans ?_
        rcases hel' with r | r
        · by_cases w : s1 S 4 pj = 0
          · rw [elZ w] at r; exact absurd r el5
          · rw [e, r, elN w, hN0 6 pj (us6 pj hpj w)]
        · exact absurd (by rw [e]; exact r) k1a
      · exact if_neg e
  have fin := hy μ3 A' nm' (XX.prog h oAll hA0 hA1 hA2 N' L' ps hf XP' hW' XM' XC') (hA0 0 (by decide)) kpE
  obtain ⟨j1, j2, -⟩ := o3.2.2 (A 3 pj) (lv30 3 pj (us3 pj hpj 3 (by omega))) (nel 3 pj (us3 pj hpj 3 (by omega)) (by omega) (by omega))
  refine ⟨A 5 pj, by rw [j2, i2]; exact Q6, hl3.1, x_lsize hl3 fun _ _ => ?_⟩
  have : nI (s1 S 4 pj + 1) - 1 = nI (s1 S 4 pj) := by rw [← nI_1, Int32.add_sub_cancel]
  rw [this]
  exact fin
theorem x_madd {nm : Nat → Nat × Nat} {μ : Mem} {A : Ad} {S : Sp} {E tt : Nat → Nat} {p k a b c d : Int32} {cc zz : Nat} {post : Int32 → Mem → Prop} (h : XX μ A nm S E tt) (hc : 3 ≤ cc) (hz : 4050 ≤ zz)
    (hWy : okAdd S p k a b c d → WF (sp_addS S p.toNatClampNeg k a b c d))
    (hy : okAdd S p k a b c d → ∀ μ' A' nm', XX μ' A' nm' (sp_addS S p.toNatClampNeg k a b c d) E tt → A' 0 0 = A 0 0 → KP μ nm μ' nm' → post (nI (s1 S 4 p.toNatClampNeg)) μ')
    (hn : ¬ okAdd S p k a b c d → ∀ μ' nm', XX μ' A nm' (u0 S 0 0) E tt → KP μ nm μ' nm' → post (-1) μ') : wp_X10_add cc zz μ (A 0 0) p k a b c d post := by
  refine ⟨by omega, by omega, fun q1 μ2 hq1 e2 => ?_⟩
  have o2 : ∀ D, Off D μ μ2 := fun D => by rw [e2]; exact Off_nob hq1 (by decide)
  have X2 : XX μ2 A nm S E tt := h.dead o2
  have k2 : kd μ2 q1 = 6 := by rw [e2]; exact if_pos rfl
  have r2 : fr μ2 5 6 q1 = none := by rw [e2]; exact if_pos ⟨rfl, rfl⟩
  refine ⟨X2.2.1.1, 1, 10, by omega, by omega, x_takeRow X2 (Nat.le_refl _) (Nat.le_refl _) (fun q μ5 hq k5 l5 a5 X5 o5 _ => ⟨q, rfl, ?_⟩)⟩
  have hL0 : LV μ A S E := h.1.1.2.1
  have hq0 : kd μ q = 0 := by
    rcases Nat.eq_zero_or_pos (kd μ q) with r | r
    · exact r
    · have := (o2 (fun _ => False)).1 q (by omega)
      omega
  have nqq : ¬ q1 = q := fun e => by rw [e, hq] at k2; cases k2
  have q10 : ¬ q1 = A 0 0 := fun e => hL0 0 0 (Us0 (by decide)) (by rw [← e]; exact hq1)
  have k51 : kd μ5 q1 = 6 := o5.kd k2
  refine ⟨k51, fun μ6 e6 μ7 e7 μ8 e8 μ9 e9 μ10 e10 μ14 e14 _ => ?_⟩
  have o14 : Off (fun a => a = q1) μ5 μ14 := by
    have y1 : Off (fun a => a = q1) μ5 μ6 := by rw [e6]; exact Off_sfi
    have y2 : Off (fun a => a = q1) μ6 μ7 := by rw [e7]; exact Off_sfi
    have y3 : Off (fun a => a = q1) μ7 μ8 := by rw [e8]; exact Off_sfi
    have y4 : Off (fun a => a = q1) μ8 μ9 := by rw [e9]; exact Off_sfi
    have y5 : Off (fun a => a = q1) μ9 μ10 := by rw [e10]; exact Off_sfi
    have y6 : Off (fun a => a = q1) μ10 μ14 := by rw [e14]; exact Off_sfr
    exact ((((y1.tr y2).tr y3).tr y4).tr y5).tr y6
  have f0 : fi μ14 5 0 q1 = k := by rw [e14]; show fi μ10 5 0 q1 = k; rw [e10, fi_sfi_k (by decide), e9, fi_sfi_k (by decide), e8, fi_sfi_k (by decide), e7, fi_sfi_k (by decide), e6, fi_sfi_e]
  have f1 : fi μ14 5 1 q1 = a := by rw [e14]; show fi μ10 5 1 q1 = a; rw [e10, fi_sfi_k (by decide), e9, fi_sfi_k (by decide), e8, fi_sfi_k (by decide), e7, fi_sfi_e]
  have f2 : fi μ14 5 2 q1 = b := by rw [e14]; show fi μ10 5 2 q1 = b; rw [e10, fi_sfi_k (by decide), e9, fi_sfi_k (by decide), e8, fi_sfi_e]
  have f3 : fi μ14 5 3 q1 = c := by rw [e14]; show fi μ10 5 3 q1 = c; rw [e10, fi_sfi_k (by decide), e9, fi_sfi_e]
  have f4 : fi μ14 5 4 q1 = d := by rw [e14]; show fi μ10 5 4 q1 = d; rw [e10, fi_sfi_e]
  have f5 : fr μ14 5 5 q1 = some q := by rw [e14, fr_sfr_e]
  have f6 : fr μ14 5 6 q1 = none := by
    rw [e14, fr_sfr_k (by decide), e10]; show fr μ9 5 6 q1 = none; rw [e9]; show fr μ8 5 6 q1 = none; rw [e8]; show fr μ7 5 6 q1 = none; rw [e7]; show fr μ6 5 6 q1 = none; rw [e6]; show fr μ5 5 6 q1 = none
    rw [(o5.2.2 q1 (by omega) q10).2.1]; exact r2
  -- what holds wherever only q1 differs from μ5
  have gen : ∀ μ' : Mem, Off (fun a => a = q1) μ5 μ' → fi μ' 5 0 q1 = k → fi μ' 5 1 q1 = a → fi μ' 5 2 q1 = b → fi μ' 5 3 q1 = c → fi μ' 5 4 q1 = d → fr μ' 5 5 q1 = some q → (k = 10 → ∀ j, j < s0 S 1 → a = nI j → fr μ' 5 6 q1 = some (A 3 j)) → (k = 10 → ¬ inR a (nI (s0 S 1) - 1) → fr μ' 5 6 q1 = none) → XX μ' A nm (u0 S 0 0) E tt ∧ wp_X10_add_37 (A 0 0) post ((cc - 1) - 1) ((zz - 7) - 10) μ' p q1 := by
    intro μ' o' g0 g1 g2 g3 g4 g5 cy cn
    have oo : Off (fun a => a = A 0 0) μ μ' := by
      have x : Off (fun a => a = A 0 0 ∨ a = q1) μ μ' := ((o2 _).tr (o5.sub (fun a _ z => Or.inl z))).tr (o'.sub (fun a _ z => Or.inr z))
      exact ⟨x.1, x.2.1, fun a ha hd => x.2.2 a ha (fun z => by
        rcases z with z | z
        · exact hd z
        · exact ha (by rw [z]; exact hq1))⟩
    obtain ⟨M1, M2, M3, M4, M5, M6, M7, M8, M9, M10, M11⟩ := id X5.2.1
    have n0 : ¬ A 0 0 = q1 := fun e => q10 e.symm
    have n14 : ¬ A 0 14 = q1 := fun e => hL0 0 14 (Us0 (by decide)) (by rw [e]; exact hq1)
    obtain ⟨m1, m2, -⟩ := o'.2.2 (A 0 0) (by omega) n0
    obtain ⟨-, -, p3, p4, -⟩ := o'.2.2 (A 0 14) (by omega) n14
    obtain ⟨-, -, v3, v4, -⟩ := o'.2.2 q (by omega) (fun e => nqq e.symm)
    have X' : XX μ' A nm (u0 S 0 0) E tt := h.mach oo (fun J => J.row0) ⟨o'.kd M1, by rw [m2]; exact M2, by rw [m1]; exact M3, by rw [m2]; exact M4, by rw [m1]; exact M5, by rw [m2]; exact M6, by rw [m2]; exact M7, o'.kd M8, by rw [p3]; exact M9, Nat.zero_le _, fun i hi => absurd hi (Nat.not_lt_zero i)⟩ rfl rfl h.2.2.2
    exact ⟨X', x_add37 h oo X' hq1 hq0 (o'.kd k51) g0 g1 g2 g3 g4 g5 (o'.kd k5) (by rw [v3]; exact l5) (fun i hi => by rw [v4]; exact a5 i hi) cy cn (by omega) (by omega) hWy hy (fun w => hn w μ' nm X' (KP.of oo (fun a z e => by rw [z, h.1.1.1 0 0 (Us0 (by decide))] at e; cases e) (fun _ _ => rfl)))⟩
  refine ⟨fun e10' => ?_, fun e10' => (gen μ14 o14 f0 f1 f2 f3 f4 f5 (fun z => absurd z e10') (fun z => absurd z e10')).2⟩
  have X14 : XX μ14 A nm (u0 S 0 0) E tt := by
    have x : Off (fun a => a = A 0 0 ∨ a = q1) μ μ14 := ((o2 _).tr (o5.sub (fun a _ z => Or.inl z))).tr (o14.sub (fun a _ z => Or.inr z))
    have oo : Off (fun a => a = A 0 0) μ μ14 := ⟨x.1, x.2.1, fun a ha hd => x.2.2 a ha (fun z => by
        rcases z with z | z
        · exact hd z
        · exact ha (by rw [z]; exact hq1))⟩
    obtain ⟨M1, M2, M3, M4, M5, M6, M7, M8, M9, M10, M11⟩ := id X5.2.1
    have n0 : ¬ A 0 0 = q1 := fun e => q10 e.symm
    have n14 : ¬ A 0 14 = q1 := fun e => hL0 0 14 (Us0 (by decide)) (by rw [e]; exact hq1)
    obtain ⟨m1, m2, -⟩ := o14.2.2 (A 0 0) (by omega) n0
    obtain ⟨-, -, p3, p4, -⟩ := o14.2.2 (A 0 14) (by omega) n14
    exact h.mach oo (fun J => J.row0) ⟨o14.kd M1, by rw [m2]; exact M2, by rw [m1]; exact M3, by rw [m2]; exact M4, by rw [m1]; exact M5, by rw [m2]; exact M6, by rw [m2]; exact M7, o14.kd M8, by rw [p3]; exact M9, Nat.zero_le _, fun i hi => absurd hi (Nat.not_lt_zero i)⟩ rfl rfl h.2.2.2
  have cas : ∀ r, (∀ j, j < s0 S 1 → a = nI j → r = some (A 3 j)) → (¬ inR a (nI (s0 S 1) - 1) → r = none) → ∀ μ46 : Mem, μ46 = sfr μ14 5 6 q1 r → wp_X10_add_37 (A 0 0) post ((cc - 1) - 1) ((zz - 7) - 10) μ46 p q1 := by
    intro r cy cn μ46 e46
    have o46 : Off (fun a => a = q1) μ5 μ46 := o14.tr (by rw [e46]; exact Off_sfr)
    refine (gen μ46 o46 ?_ ?_ ?_ ?_ ?_ ?_ (fun _ j hj ej => ?_) (fun _ y => ?_)).2
    · rw [e46]; exact f0
    · rw [e46]; exact f1
    · rw [e46]; exact f2
    · rw [e46]; exact f3
    · rw [e46]; exact f4
    · rw [e46, fr_sfr_k (by decide)]; exact f5
    · rw [e46, fr_sfr_e]; exact cy j hj ej
    · rw [e46, fr_sfr_e]; exact cn y
  refine x_procAt X14 (fun pj hpj ep _ => cas _ (fun j hj ej => ?_) (fun y => ?_)) (fun y _ => cas _ (fun j hj ej => ?_) (fun _ => rfl))
  · have h60 : s0 S 1 ≤ 60 := h.1.2.2.1.1.1
    have hpj : pj < s0 S 1 := hpj
    have : pj = j := (nI_eq (by omega) (by omega)).mp (by rw [← ep, ← ej])
    rw [this]
  · have h60 : s0 S 1 ≤ 60 := h.1.2.2.1.1.1
    have hpj : pj < s0 S 1 := hpj
    exact absurd (by rw [ep]; exact (inR_lt (by omega)).mpr ⟨Int32.not_lt.mp (nI_pos (by omega)), nI_lt hpj (by omega)⟩) y
  · have h60 : s0 S 1 ≤ 60 := h.1.2.2.1.1.1
    exact absurd (by rw [ej]; exact (inR_lt (n := s0 S 1) (by omega)).mpr ⟨Int32.not_lt.mp (nI_pos (by omega)), nI_lt hj (by omega)⟩) y
