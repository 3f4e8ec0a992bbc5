/-! the class fails -/
def XZ (μ : Mem) (A : Ad) (S : Sp) : Prop := fi μ 2 2 (A 0 1) + 1 = nI (s0 S 17) ∧ fi μ 2 3 (A 0 1) = nI (s0 S 10) ∧ fi μ 2 4 (A 0 1) = nI (s0 S 13) ∧ (live S → fr μ 2 5 (A 0 1) = some (A 1 (s0 S 8)) ∧ (s0 S 17 = 1 → fi μ 2 6 (A 0 1) = nI (s0 S 9)))
def eFail (tt : Nat → Nat) : Nat → Sp → (Nat → Nat) → (Nat → Nat)
  | 0, _, E => E
  | n + 1, S, E => if s1 S 18 n = 0 then va_up E 9 (tt n) else eFail tt n (sp_drop S (s1 S 15 n) n) E
theorem eFail_o {tt : Nat → Nat} {r : Nat} (hr : ¬ r = 9) : ∀ n S E, eFail tt n S E r = E r := by
  intro n
  induction n with
  | zero => intro S E; rfl
  | succ n ih =>
    intro S E
    rw [eFail]
    split
    · exact if_neg hr
    · exact ih _ _
theorem eFail_U {tt : Nat → Nat} : ∀ n S E, UC (eFail tt n S E) = UC E ∧ UZ (eFail tt n S E) = UZ E := by
  intro n S E
  unfold UC UZ
  rw [eFail_o (by decide), eFail_o (by decide), eFail_o (by decide), eFail_o (by decide), eFail_o (by decide), eFail_o (by decide), eFail_o (by decide), eFail_o (by decide), eFail_o (by decide), eFail_o (by decide)]
  exact ⟨rfl, rfl⟩
theorem fail13 : ∀ n (S : Sp), s0 (sp_failS n S) 13 = s0 S 13 := by
  intro n
  induction n with
  | zero => intro S; rfl
  | succ n ih =>
    intro S
    rw [sp_failS]
    split
    · rfl
    · rw [ih]; rfl
theorem failPq : ∀ n (S : Sp), Pq S (sp_failS n S) := by
  intro n
  induction n with
  | zero => intro S; exact Pq.rf
  | succ n ih =>
    intro S
    rw [sp_failS]
    split
    · exact Pq.rf
    · exact Pq.tr (S1 := sp_drop S (s1 S 15 n) n) Pq.rf (ih _)
theorem K_of2' {nm : Nat → Nat × Nat} {A : Ad} {S : Sp} {E : Nat → Nat} (hN : RN nm A S E) {μ μ' : Mem} (h : Off (fun a => a = A 0 2 ∨ a = A 0 7) μ μ') : Off (fun a => gK (nm a)) μ μ' := h.sub (fun a ha hb => K_of2 hN a ha (by omega))
theorem K_of4 {nm : Nat → Nat × Nat} {A : Ad} {S : Sp} {E : Nat → Nat} (hN : RN nm A S E) {μ μ' : Mem} (h : Off (DK2 A) μ μ') : Off (fun a => gK (nm a)) μ μ' := h.sub (fun a ha hb => K_of2 hN a ha (by rcases hb with q | q | q | q <;> omega))
theorem XZ.sts {G : Nat × Nat → Prop} {nm nm' : Nat → Nat × Nat} {μ μ' : Mem} {A A' : Ad} {S : Sp} {E : Nat → Nat} (hk : kd μ (A 0 1) = 3) (hN : RN nm A S E) (hs : St G E μ A nm μ' A' nm') (hG : ¬ G (0, 1)) : (∀ k, fi μ' 2 k (A' 0 1) = fi μ 2 k (A 0 1)) ∧ ∀ k, fr μ' 2 k (A' 0 1) = fr μ 2 k (A 0 1) := by
  obtain ⟨q1, q2, -⟩ := hs.1.2.2 (A 0 1) (by omega) (by show ¬ G (nm (A 0 1)); rw [hN 0 1 (Us0 (by decide))]; exact hG)
  rw [hs.2.2.2.2.1 1 (by decide)]
  exact ⟨fun k => q1 2 k, fun k => q2 2 k⟩
theorem x_fail8 {A : Ad} {nm : Nat → Nat × Nat} {post : Mem → Prop} : ∀ n μ S E tt, s0 S 7 = n → XG μ A nm S E tt → WF0 S → E 9 < 262144 → fi μ 2 3 (A 0 1) = nI (s0 S 10) → fi μ 2 4 (A 0 1) = nI (s0 S 13) → s0 S 17 = 1 →
    (∀ μ', XG μ' A nm (sp_failS n S) (eFail tt n S E) tt → XZ μ' A (sp_failS n S) → St gE E μ A nm μ' A nm → post μ') → wp_X0_fail_8 (A 0 1) post (n + 1) μ (nI n) := by
  intro n
  induction n with
  | zero =>
    intro μ S E tt hn h hW h9 f3 f4 h17 hp
    obtain ⟨hN, hL, hK, hH, hP, hE⟩ := id h
    rw [wp_X0_fail_8]
    refine ⟨fun _ => ⟨hE.1, fun μ6 e6 => ?_⟩, fun q => absurd (by decide) q⟩
    have ho : Off (fun a => a = A 0 1) μ μ6 := by rw [e6]; exact Off_sfi
    have hos : Off (fun a => gE (nm a)) μ μ6 := ho.sub (fun a _ ha => by rw [ha, hN 0 1 (Us0 (by decide))]; exact Or.inr (Or.inr rfl))
    refine hp μ6 ?_ ⟨?_, ?_, ?_, fun q => by rcases q with q | q <;> cases q⟩ (St.of hos)
    · have ne : ∀ j, j < 24 → j ≠ 1 → ¬ A 0 j = A 0 1 := fun j hj hd => hN.ne (Us0 hj) (Us0 (by decide)) (fun z => hd z.2)
      obtain ⟨h1, h2, h3, tp, tv, tq, h4, h5⟩ := hK
      obtain ⟨x0, w, m, u, x1, x2⟩ := hH
      refine ⟨hN, hL.km ho.1, ⟨h1.off ho (ne 2 (by decide) (by decide)), h2.off ho (ne 5 (by decide) (by decide)) (ne 6 (by decide) (by decide)) (ne 15 (by decide) (by decide)) (ne 16 (by decide) (by decide)), h3.off ho h2.2.2.2.2.1 (fun j hj => hN.ne (Us1 hj) (Us0 (by decide)) (fun z => absurd z.1 (by decide))), tp, tv, tq, h4.off ho h2.2.2.2.2.2 (fun j hj => hN.ne (Us2 hj) (Us0 (by decide)) (fun z => absurd z.1 (by decide))), h5.off ho (ne 7 (by decide) (by decide)) (ne 8 (by decide) (by decide)) (ne 17 (by decide) (by decide)) (ne 18 (by decide) (by decide))⟩, ⟨x0, w, m, u, x1.off ho (fun j hj => ne j (by omega) (by omega)), x2⟩, hP.off hN ho (fun a ha e => gP_0 ha (by rw [e]; exact hN 0 1 (Us0 (by decide)))), ?_⟩
      rw [e6]
      exact hE
    · rw [e6, fi_sfi_e]; rfl
    · rw [e6, fi_sfi_k (by decide)]; exact f3
    · rw [e6, fi_sfi_k (by decide)]; exact f4
  | succ n ih =>
    intro μ S E tt hn h hW h9 f3 f4 h17 hp
    obtain ⟨hN, hL, hK, hH, hP, hE⟩ := id h
    obtain ⟨h1, h2, h3, tp, tv, tq, h4, h5⟩ := id hK
    have hX : XKx μ A S E tt tp tv tq := ⟨h1, h2, h3, h4, h5⟩
    obtain ⟨-, wC, wB, ⟨wT1, wT2, wT3⟩, -, wN⟩ := id hW
    have hszd : szS S = s1 S 11 (s0 S 6) + 2 * s0 S 6 + 3 * s0 S 7 := rfl
    have hsz : szS S ≤ 20000 := wB.2.1
    have wT1 : TR (s0 S 6) (s0 S 7) (s1 S 15) := wT1
    have hfb := wT1.2 n (by omega)
    have hbl : ∀ i, i ≤ s0 S 6 → s1 S 11 i ≤ s1 S 11 (s0 S 6) := fun i hi => WF.bl wB hi (Nat.le_refl _)
    have hblm : ∀ i j, i ≤ j → j ≤ s0 S 6 → s1 S 11 i ≤ s1 S 11 j := fun i j hij hj => WF.bl wB hij hj
    have e7 : s0 S 7 ≤ E 7 := h2.2.2.2.2.2
    have hrd := h4.2 n (by omega)
    have k9 := h4.1 n (by omega)
    obtain ⟨t1, t2, t3, t4, t5, t6, t7, t8, t9⟩ := id h5
    rw [wp_X0_fail_8]
    refine ⟨fun q => absurd q (nI_nle (by omega) (by omega)), fun _ => ⟨hE.1, A 0 2, hE.2.1, h1.1, ?_⟩⟩
    refine x_popRedo hX hN (hbl _ hfb) wT1 hn (by omega) (fun μ1 hX1 ho1 _ => ⟨fun z => absurd z (by simp), fun x17 e17 => ?_⟩)
    cases e17
    have n2 : ¬ (A 2 n = A 0 2 ∨ A 2 n = A 0 7) := fun z => by
      rcases z with z | z
      · exact hN.ne (Us2 (by omega)) (Us0 (by decide)) (fun y => absurd y.1 (by decide)) z
      · exact hN.ne (Us2 (by omega)) (Us0 (by decide)) (fun y => absurd y.1 (by decide)) z
    have hr1 := hrd.off ho1 (by omega) n2
    have st1 : St gK E μ A nm μ1 A nm := St.of (K_of2' hN ho1)
    have hG1 : XG μ1 A nm (sp_drop S (s1 S 15 n) n) E tt := h.k st1 ⟨hN, hL.km ho1.1, hX1.ext⟩ ⟨rfl, rfl, rfl, rfl, rfl, rfl, rfl, rfl, rfl, rfl⟩ Pq.rf
    obtain ⟨v1, v2⟩ := XZ.sts (S := S) hE.1 hN st1 (gK_n (by omega))
    have hle18 : s1 S 18 n ≤ 1 := (wT3 n (by show n < s0 S 7; omega)).2.2.1
    refine ⟨ho1.kd k9, ?_⟩
    rw [hr1.2.2.1]
    refine ⟨fun hz => ?_, fun hz v20 e20 => ?_⟩
    · have z18 : s1 S 18 n = 0 := (nI_eq (by omega) (by decide)).mp hz
      rw [sp_failS, eFail, if_pos z18, if_pos z18] at hp
      refine ⟨A 0 2, hG1.2.2.2.2.2.2.1, hX1.1.1, ?_⟩
      have hu := (t9 n (by omega)).2
      refine x_goBack hX1 hN (by omega) (by have := hbl _ hfb; omega) h9 (ho1.kd k9) hr1.2.2.2.2.2.1 (t9 n (by omega)).1 (fun i hi => t8 i n hi (by omega)) (fun i hi => hblm _ _ (wT1.1 i n hi (by omega)) hfb) hu (fun μ2 hX2 ho2 _ => ?_)
      have n2' : ¬ DK2 A (A 2 n) := fun z => by
        rcases z with z | z | z | z <;> exact hN.ne (Us2 (by omega)) (Us0 (by decide)) (fun y => absurd y.1 (by decide)) z
      have k91 : kd μ1 (A 2 n) = 9 := ho1.kd k9
      have hr2 := hr1.off ho2 (by omega) n2'
      have st2 : St gK E μ1 A nm μ2 A nm := St.of (K_of4 hN ho2)
      obtain ⟨y1, y2⟩ := XZ.sts (S := S) hG1.2.2.2.2.2.1 hN st2 (gK_n (by omega))
      have hE2 := hG1.2.2.2.2.2.st hN st2 (gK_n (by omega))
      have hH2 := hG1.2.2.2.1.st hN st2
      obtain ⟨z0, w, m, u, z1, z2⟩ := hH2
      have hh19 : s1 S 19 n ≤ s0 S 5 := by
        obtain ⟨-, -, -, q4, q5, -⟩ := wT3 n (by show n < s0 S 7; omega)
        have q4 : s1 S 19 n = hpS S (s1 S 20 n) := q4
        have q5 : s1 S 20 n ≤ s0 S 3 := q5
        have c3 : s0 S 5 = hpS S (s0 S 3) := wC.2.2.1
        rw [q4, c3]; exact hpS_le q5
      refine ⟨A 0 3, hE2.2.2, z1.1, ?_⟩
      rw [hr2.2.2.2.2.2.2]
      refine x_hgoBack (nm := nm) (S := sp_drop S (s1 S 15 n) n) hN z1 hh19 (fun μ3 z3 ho3 _ => ?_)
      have st3 : St gH E μ2 A nm μ3 A nm := St.of ho3
      have n3 : ¬ gH (nm (A 2 n)) := by rw [hN 2 n (Us2 (by omega))]; exact gH_k (by decide)
      have hr3 := hr2.off ho3 (by have := ho2.kd k91; omega) n3
      obtain ⟨x1', x2'⟩ := XZ.sts (S := S) hE2.1 hN st3 (gH_n (by omega))
      have hE3 := hE2.st hN st3 (gH_n (by omega))
      have hK3 : XKt μ3 A (sp_back (sp_drop S (s1 S 15 n) n) n) (va_up E 9 (tt n)) tt := XKt.st (E := va_up E 9 (tt n)) (S := sp_back (sp_drop S (s1 S 15 n) n) n) hX2.ext hN st3 rfl rfl rfl rfl rfl rfl rfl
      have hP3 : XP μ3 A S := (hG1.2.2.2.2.1.st hN st2 (fun q => gP_k)).st hN st3 (fun q => gP_h)
      refine ⟨A 1 (s1 S 16 n), hr3.1, fun μ4 e4 μ5 e5 μ6 e6 => ?_⟩
      have i81 : fi μ4 8 1 (A 2 n) = nI (s1 S 17 n) := by rw [e4, fi_sfr]; exact hr3.2.1
      rw [i81] at e5
      have o4 : Off (fun a => a = A 0 1) μ3 μ4 := by rw [e4]; exact Off_sfr
      have o5 : Off (fun a => a = A 0 1) μ4 μ5 := by rw [e5]; exact Off_sfi
      have o6 : Off (fun a => a = A 0 1) μ5 μ6 := by rw [e6]; exact Off_sfi
      have ho := (o4.tr o5).tr o6
      have ne : ∀ j, j < 24 → j ≠ 1 → ¬ A 0 j = A 0 1 := fun j hj hd => hN.ne (Us0 hj) (Us0 (by decide)) (fun z => hd z.2)
      refine hp μ6 ?_ ⟨?_, ?_, ?_, fun _ => ⟨?_, fun _ => ?_⟩⟩ (((st1.mono (fun q => Or.inl)).tr (st2.mono (fun q => Or.inl)) (Nat.le_refl _) (Nat.le_refl _)).tr ((st3.mono (fun q z => Or.inr (Or.inl z))).tr (St.of (E := E) (ho.sub (fun a _ ha => by rw [ha]; show gE (nm (A 0 1)); rw [hN 0 1 (Us0 (by decide))]; exact Or.inr (Or.inr rfl)))) (Nat.le_refl _) (Nat.le_refl _)) (Nat.le_refl _) (Nat.le_refl _))
      · obtain ⟨k1, k2, k3, tp', tv', tq', k4, k5⟩ := hK3
        refine ⟨hN, (((hL.km st1.km).km st2.km).km st3.km).km ho.1, ⟨k1.off ho (ne 2 (by decide) (by decide)), k2.off ho (ne 5 (by decide) (by decide)) (ne 6 (by decide) (by decide)) (ne 15 (by decide) (by decide)) (ne 16 (by decide) (by decide)), k3.off ho k2.2.2.2.2.1 (fun j hj => hN.ne (Us1 hj) (Us0 (by decide)) (fun z => absurd z.1 (by decide))), tp', tv', tq', k4.off ho k2.2.2.2.2.2 (fun j hj => hN.ne (Us2 hj) (Us0 (by decide)) (fun z => absurd z.1 (by decide))), k5.off ho (ne 7 (by decide) (by decide)) (ne 8 (by decide) (by decide)) (ne 17 (by decide) (by decide)) (ne 18 (by decide) (by decide))⟩, ⟨?_, w, m, u, z3.off ho (fun j hj => ne j (by omega) (by omega)), fun c k hc hk => ?_⟩, hP3.off hN ho (fun a ha e => gP_0 ha (by rw [e]; exact hN 0 1 (Us0 (by decide)))), ?_⟩
        · show s1 S 19 n ≤ s0 S 12
          have : s0 S 5 ≤ s0 S 12 := hH.1
          omega
        · have hc : c < s1 S 20 n := hc
          have q5 : s1 S 20 n ≤ s0 S 3 := (wT3 n (by show n < s0 S 7; omega)).2.2.2.2.1
          exact z2 c k (by show c < s0 S 3; omega) hk
        · rw [e6, e5, e4]
          obtain ⟨a1, a2, a3⟩ := hE3
          refine ⟨a1, ?_, ?_⟩
          · rw [fr_sfi, fr_sfi, fr_sfr_k (by decide)]; exact a2
          · rw [fr_sfi, fr_sfi, fr_sfr_k (by decide)]; exact a3
      · rw [e6, fi_sfi_e]
        show (0 : Int32) + 1 = nI (s0 S 17)
        rw [h17]; rfl
      · rw [e6, fi_sfi_k (by decide), e5, fi_sfi_k (by decide), e4, fi_sfr, x1', y1, v1]; exact f3
      · rw [e6, fi_sfi_k (by decide), e5, fi_sfi_k (by decide), e4, fi_sfr, x1', y1, v1]; exact f4
      · rw [e6, fr_sfi, e5, fr_sfi, e4, fr_sfr_e]; rfl
      · rw [e6, fi_sfi_k (by decide), e5, fi_sfi_e]; rfl
    · have z18 : ¬ s1 S 18 n = 0 := fun q => hz (by rw [q]; rfl)
      rw [sp_failS, eFail, if_neg z18, if_neg z18] at hp
      rw [e20, pk_m1]
      have hW1 : WF0 (sp_drop S (s1 S 15 n) n) := WF.drop (S := u0 S 17 3) hW hfb (by show n ≤ s0 S 7; omega) (fun i hi => wT1.1 i n hi (by omega)) (fun q => by rcases q with q | q <;> cases q)
      exact ih μ1 (sp_drop S (s1 S 15 n) n) E tt rfl hG1 hW1 h9 (by rw [v1]; exact f3) (by rw [v1]; exact f4) h17 (fun μ' x1 x2 x3 => hp μ' x1 x2 ((st1.mono (fun q => Or.inl)).tr x3 (Nat.le_refl _) (Nat.le_refl _)))
theorem x_failE {A : Ad} {nm : Nat → Nat × Nat} {μ : Mem} {S : Sp} {E tt : Nat → Nat} {post : Mem → Prop} (h : XG μ A nm S E tt) (hW : WF0 S) (h9 : E 9 < 262144) (f3 : fi μ 2 3 (A 0 1) = nI (s0 S 10)) (f4 : fi μ 2 4 (A 0 1) = nI (s0 S 13)) (h17 : s0 S 17 = 1)
    (hp : ∀ μ', XG μ' A nm (sp_failS (s0 S 7) S) (eFail tt (s0 S 7) S E) tt → XZ μ' A (sp_failS (s0 S 7) S) → St gE E μ A nm μ' A nm → post μ') : wp_X0_fail μ (A 0 1) post := by
  refine ⟨h.2.2.2.2.2.1, A 0 2, h.2.2.2.2.2.2.1, h.2.2.1.1.1, fun v4 e4 => ?_⟩
  rw [h.2.2.1.1.2.2.2.2.2.2.1] at e4
  rw [e4]
  exact ⟨_, x_fail8 (s0 S 7) μ S E tt rfl h hW h9 f3 f4 h17 hp⟩
