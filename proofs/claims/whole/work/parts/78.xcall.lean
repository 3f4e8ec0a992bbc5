/-! the class calls -/
theorem XG.eng {nm : Nat → Nat × Nat} {μ μ' : Mem} {A : Ad} {S : Sp} {E tt : Nat → Nat} (h : XG μ A nm S E tt) (ho : Off (fun a => a = A 0 1) μ μ') (h0 : fr μ' 2 0 (A 0 1) = fr μ 2 0 (A 0 1)) (h1 : fr μ' 2 1 (A 0 1) = fr μ 2 1 (A 0 1)) : XG μ' A nm S E tt ∧ St gE E μ A nm μ' A nm := by
  obtain ⟨hN, hL, hK, hH, hP, hE⟩ := h
  have ne : ∀ j, j < 24 → j ≠ 1 → ¬ A 0 j = A 0 1 := fun j hj hd => hN.ne (Us0 hj) (Us0 (by decide)) (fun z => hd z.2)
  obtain ⟨k1, k2, k3, tp', tv', tq', k4, k5⟩ := hK
  obtain ⟨x0, w, m, u, z3, z4⟩ := hH
  refine ⟨⟨hN, hL.km ho.1, ⟨k1.off ho (ne 2 (by decide) (by decide)), k2.off ho (ne 5 (by decide) (by decide)) (ne 6 (by decide) (by decide)) (ne 15 (by decide) (by decide)) (ne 16 (by decide) (by decide)), k3.off ho k2.2.2.2.2.1 (fun j hj => hN.ne (Us1 hj) (Us0 (by decide)) (fun z => absurd z.1 (by decide))), tp', tv', tq', k4.off ho k2.2.2.2.2.2 (fun j hj => hN.ne (Us2 hj) (Us0 (by decide)) (fun z => absurd z.1 (by decide))), k5.off ho (ne 7 (by decide) (by decide)) (ne 8 (by decide) (by decide)) (ne 17 (by decide) (by decide)) (ne 18 (by decide) (by decide))⟩, ⟨x0, w, m, u, z3.off ho (fun j hj => ne j (by omega) (by omega)), z4⟩, hP.off hN ho (fun a ha e => gP_0 ha (by rw [e]; exact hN 0 1 (Us0 (by decide)))), ?_⟩, St.of (ho.sub (fun a _ ha => by rw [ha]; show gE (nm (A 0 1)); rw [hN 0 1 (Us0 (by decide))]; exact Or.inr (Or.inr rfl)))⟩
  obtain ⟨a1, a2, a3⟩ := hE
  exact ⟨ho.kd a1, h0.trans a2, h1.trans a3⟩
/-- the new frame gets its caller -/
theorem XG.caller {nm : Nat → Nat × Nat} {μ μ' : Mem} {A : Ad} {S : Sp} {E tt : Nat → Nat} {p u at' ia : Nat} (h : XG μ A nm (sp_pushS S p 0 0) E tt) (hW : WF S) (hu : u < s0 S 6) (hia : ia = s2 S 1 (s1 S 10 u) at') (e' : μ' = sfi (sfr (sfr μ 3 3 (A 1 (s0 S 6)) (some (A 1 u))) 3 4 (A 1 (s0 S 6)) (some (A 4 ia))) 3 5 (A 1 (s0 S 6)) (nI (at' + 1))) : XG μ' A nm (sp_pushS S p (u + 1) at') E tt ∧ St gK E μ A nm μ' A nm := by
  obtain ⟨hN, hL, hK, hH, hP, hE⟩ := id h
  obtain ⟨k1, k2, k3, tp, tv, tq, k4, k5⟩ := id hK
  have e5 : s0 S 6 + 1 ≤ E 5 := k2.2.2.2.2.1
  have hn : s0 S 6 < E 5 := by omega
  have o1 : Off (fun a => a = A 1 (s0 S 6)) μ (sfr μ 3 3 (A 1 (s0 S 6)) (some (A 1 u))) := Off_sfr
  have o2 : Off (fun a => a = A 1 (s0 S 6)) (sfr μ 3 3 (A 1 (s0 S 6)) (some (A 1 u))) (sfr (sfr μ 3 3 (A 1 (s0 S 6)) (some (A 1 u))) 3 4 (A 1 (s0 S 6)) (some (A 4 ia))) := Off_sfr
  have o3 : Off (fun a => a = A 1 (s0 S 6)) (sfr (sfr μ 3 3 (A 1 (s0 S 6)) (some (A 1 u))) 3 4 (A 1 (s0 S 6)) (some (A 4 ia))) μ' := by rw [e']; exact Off_sfi
  have ho := (o1.tr o2).tr o3
  have n0 : ∀ l, l < 24 → ¬ A 0 l = A 1 (s0 S 6) := fun l hl => hN.ne (Us0 hl) (Us1 hn) (fun z => absurd z.1 (by decide))
  have n1 : ∀ l, l < E 5 → l ≠ s0 S 6 → ¬ A 1 l = A 1 (s0 S 6) := fun l hl hd => hN.ne (Us1 hl) (Us1 hn) (fun z => hd z.2)
  have n2 : ∀ l, l < E 7 → ¬ A 2 l = A 1 (s0 S 6) := fun l hl => hN.ne (Us2 hl) (Us1 hn) (fun z => absurd z.1 (by decide))
  have st : St gK E μ A nm μ' A nm := St.of (ho.sub (fun a _ ha => by rw [ha]; show gK (nm (A 1 (s0 S 6))); rw [hN 1 _ (Us1 hn)]; exact Or.inr (Or.inl rfl)))
  have e7 : s0 S 7 ≤ E 7 := k2.2.2.2.2.2
  refine ⟨h.k (S' := sp_pushS S p (u + 1) at') st ⟨hN, hL.km ho.1, XK1.off (S := sp_pushS S p 0 0) k1 ho (n0 2 (by decide)), XK2.off (S := sp_pushS S p 0 0) k2 ho (n0 5 (by decide)) (n0 6 (by decide)) (n0 15 (by decide)) (n0 16 (by decide)), ⟨fun j hj => ?_, fun j hj => ?_⟩, tp, tv, tq, XK4.off (S := sp_pushS S p 0 0) k4 ho e7 n2, XK5.off (S := sp_pushS S p 0 0) k5 ho (n0 7 (by decide)) (n0 8 (by decide)) (n0 17 (by decide)) (n0 18 (by decide))⟩ ⟨rfl, rfl, rfl, rfl, rfl, rfl, rfl, rfl, rfl, rfl⟩ ?_, st⟩
  · obtain ⟨q1, q2⟩ := k3.1 j hj
    refine ⟨ho.kd q1, ?_⟩
    rw [e', fi_sfi_k (by decide), fi_sfr, fi_sfr]; exact q2
  · have hj : j < s0 S 6 + 1 := hj
    rcases Nat.lt_or_ge j (s0 S 6) with q | q
    · have kk := (k3.1 j (by omega)).1
      have := (k3.2 j (by show j < s0 S 6 + 1; omega)).off ho (by omega) (n1 j (by omega) (by omega))
      have x10 : ∀ l b c, l < s0 S 6 → s1 (sp_pushS S p b c) 10 l = s1 S 10 l := fun l b c hl => by simp [s1, sp_pushS, up2, show ¬ l = s0 S 6 by omega]
      have x12 : ∀ b c, s1 (sp_pushS S p b c) 12 j = s1 S 12 j := fun b c => by simp [s1, sp_pushS, up2, show ¬ j = s0 S 6 by omega]
      have x13 : ∀ b c, s1 (sp_pushS S p b c) 13 j = s1 S 13 j := fun b c => by simp [s1, sp_pushS, up2, show ¬ j = s0 S 6 by omega]
      unfold XF at this ⊢
      rw [x12, x13] at this ⊢
      refine ⟨this.1, this.2.1, this.2.2.1, this.2.2.2.1, fun v hv => ?_⟩
      have hv2 : v < s0 S 6 := by have := (hW.2.2.1.2.2.2 j q).2.2.2.2 v hv; omega
      have t5 := this.2.2.2.2 v hv
      rw [x10 v _ _ hv2] at t5 ⊢
      exact t5
    · have ej : j = s0 S 6 := by omega
      subst ej
      have := k3.2 (s0 S 6) (by show s0 S 6 < s0 S 6 + 1; omega)
      have y12 : s1 (sp_pushS S p (u + 1) at') 12 (s0 S 6) = u + 1 := by simp [s1, sp_pushS, up2]
      have y13 : s1 (sp_pushS S p (u + 1) at') 13 (s0 S 6) = at' := by simp [s1, sp_pushS, up2]
      have y10 : s1 (sp_pushS S p (u + 1) at') 10 u = s1 S 10 u := by simp [s1, sp_pushS, up2, show ¬ u = s0 S 6 by omega]
      unfold XF at this ⊢
      rw [y12, y13]
      refine ⟨?_, ?_, ?_, fun z => absurd z (by omega), fun v hv => ?_⟩
      · rw [e', fr_sfi, fr_sfr_k (by decide), fr_sfr_k (by decide)]; exact this.1
      · rw [e', fi_sfi_k (by decide), fi_sfr, fi_sfr]; exact this.2.1
      · rw [e', fi_sfi_k (by decide), fi_sfr, fi_sfr]; exact this.2.2.1
      · have ev : v = u := by omega
        subst ev
        rw [y10]
        refine ⟨?_, ?_, ?_⟩
        · rw [e', fr_sfi, fr_sfr_k (by decide), fr_sfr_e]
        · rw [e', fr_sfi, fr_sfr_e, hia]; rfl
        · rw [e', fi_sfi_e]
  · exact ⟨rfl, rfl, fun k hk => (Pq_push.2.2.1 k hk).trans (Pq_push.2.2.1 k hk).symm, rfl, rfl⟩
theorem ePf_o {S : Sp} {E : Nat → Nat} {p r : Nat} (h0 : ¬ r = 0) (h5 : ¬ r = 5) (h6 : ¬ r = 6) : ePf S E p r = E r := by
  unfold ePf
  rw [eZ_o h0]
  unfold eFr
  split
  · rfl
  · show (if r = 6 then _ else if r = 5 then _ else E r) = E r
    rw [if_neg h6, if_neg h5]
theorem ePf_5 {S : Sp} {E : Nat → Nat} {p : Nat} : E 5 ≤ ePf S E p 5 := by
  unfold ePf
  rw [eZ_o (by decide)]
  unfold eFr
  split
  · exact Nat.le_refl _
  · show E 5 ≤ E 5 + 1
    omega
theorem x_call_loop {S : Sp} {i p : Nat} {E tt : Nat → Nat} {oa fa ia pa na : Nat} {post : Int32 → Mem → Prop} (T : Nat → Sp) (hT : ∀ k, T k = wrL (sp_pushS S p (s0 S 8 + 1) (s0 S 9)) (fun k => s1 S 11 (s0 S 6) + k) (fun k T => sv T 0 (s1 S 11 (s0 S 8) + s2 S 2 i k)) k) (hWT : ∀ k, k ≤ s1 S 2 p → WF (T k)) (hW : WF S) (hw : s0 S 8 < s0 S 6) (hi : i < s0 S 2) (hk : s1 S 5 i = 10) (hp1 : p < s0 S 1) (hn : s1 S 2 p ≤ s1 S 6 i) (hr : ∀ j, j < s1 S 6 i → s2 S 2 i j < s1 S 1 (s1 S 10 (s0 S 8))) (h9 : E 9 < 262143) :
    ∀ d k μ A nm c z, k + d = s1 S 2 p → XG μ A nm (T k) E tt → A 0 1 = oa → A 1 (s0 S 8) = fa → A 4 i = ia → A 3 p = pa → A 1 (s0 S 6) = na →
      (∀ μ' A' nm', XG μ' A' nm' (T (s1 S 2 p)) E tt → EF μ A μ' A' → St gK E μ A nm μ' A' nm' → A' 1 (s0 S 6) = na → A' 0 1 = oa → kd μ' oa = 3 ∧ ∀ μ54 : Mem, μ54 = sfr μ' 2 5 oa (some na) → wp_X0_go μ54 oa 0 (fun (r60 : Int32) (μ58 : Mem) => KM μ54 μ58 → post r60 μ58)) → wp_X0_call_59 oa post (d + 1) c z μ fa ia pa na (nI k) := by
  have we := fun k => wrL_e (S := sp_pushS S p (s0 S 8 + 1) (s0 S 9)) (f := fun k => s1 S 11 (s0 S 6) + k) (g := fun k T => sv T 0 (s1 S 11 (s0 S 8) + s2 S 2 i k)) k
  have pq : ∀ k, Pq (T k) S := fun k => by
    rw [hT k]
    obtain ⟨e0, e1, e2, e3, -⟩ := we k
    refine ⟨congrFun e0.symm 1, congrFun e0.symm 2, fun l hl => ?_, e2.symm, e3.symm⟩
    rw [e1]
    exact (Pq_push.2.2.1 l hl).symm
  obtain ⟨-, sl1, sl2, in1, -⟩ := hW.1.2.2.1 p hp1
  intro d
  induction d with
  | zero =>
    intro k μ A nm c z hkd h ho hf hia hpa hna hp
    have ek : k = s1 S 2 p := by omega
    subst ek
    have hP : XP μ A S := h.2.2.2.2.1.pq (pq _)
    obtain ⟨q1, q2, q3, q4, -⟩ := hP.2.1 p hp1
    obtain ⟨y1, y2⟩ := hp μ A nm h EF.rf St.rf hna ho
    subst hpa
    rw [wp_X0_call_59, q4]
    exact ⟨q1, fun _ => ⟨y1, y2⟩, fun q => absurd (nI_le (Nat.le_refl _) (by omega)) q⟩
  | succ d ih =>
    intro k μ A nm c z hkd h ho hf hia hpa hna hp
    have hP : XP μ A S := h.2.2.2.2.1.pq (pq _)
    obtain ⟨q1, q2, q3, q4, -⟩ := hP.2.1 p hp1
    obtain ⟨i1, i2, i3, i4, i5, i6, i7, i8, i9, i10, -⟩ := hP.2.2 i hi
    have h610 := (hW.1.2.2.2 i hi).2.1
    obtain ⟨e0, e1, e2, e3, -⟩ := we k
    rw [← hT k] at e0 e1 e2 e3
    have hE := h.2.2.2.2.2
    subst ho; subst hf; subst hia; subst hpa; subst hna
    rw [wp_X0_call_59, q4]
    refine ⟨q1, fun q => absurd q (nI_ge (by omega) (by omega)), fun _ => ⟨i1, A 8 i, i7, Or.inr (Or.inl i8), ?_⟩⟩
    rw [i9]
    refine ⟨fun q => absurd q (nI_ge (by omega) (by omega)), fun _ => ⟨hE.1, A 0 2, hE.2.1, A 0 2, hE.2.1, A 8 i, i7, i8, ?_⟩⟩
    rw [i9, nI_clamp (show k < 2 ^ 31 by omega), i10 (Or.inr (Or.inr hk)) k (by omega)]
    have y11 : s1 (sp_pushS S p (s0 S 8 + 1) (s0 S 9)) 11 (s0 S 8) = s1 S 11 (s0 S 8) := by simp [s1, sp_pushS, up2, show ¬ s0 S 8 = s0 S 6 + 1 by omega]
    have y11n : s1 (sp_pushS S p (s0 S 8 + 1) (s0 S 9)) 11 (s0 S 6) = s1 S 11 (s0 S 6) := by simp [s1, sp_pushS, up2]
    have y10 : s1 (sp_pushS S p (s0 S 8 + 1) (s0 S 9)) 10 (s0 S 8) = s1 S 10 (s0 S 8) := by simp [s1, sp_pushS, up2, show ¬ s0 S 8 = s0 S 6 by omega]
    have y10n : s1 (sp_pushS S p (s0 S 8 + 1) (s0 S 9)) 10 (s0 S 6) = p := by simp [s1, sp_pushS, up2]
    have hWk := hWT k (by omega)
    refine ⟨vp_in_nI (by omega) (by omega), h.2.2.1.1.1, x_readG h hWk (by rw [e0]; show s0 S 8 < s0 S 6 + 1; omega) (by rw [e1, y10]; exact hr k (by omega)) fun _ => ⟨h.2.2.1.1.1, ?_⟩⟩
    have hEw : eWr (T k) E (s1 (T k) 11 (s0 S 6) + k) = E := by
      unfold eWr
      rw [if_neg]
      intro hq
      have hq := of_decide_eq_true hq
      rw [e0, e1] at hq
      have h7 : s0 (sp_pushS S p (s0 S 8 + 1) (s0 S 9)) 7 = s0 S 7 := rfl
      rw [h7, y11n] at hq
      have hfb := hW.2.2.2.1.1.2 (s0 S 7 - 1) (by omega)
      have hbl := WF.bl hW.2.2.1 hfb (Nat.le_refl _)
      have x11 : ∀ j, j ≤ s0 S 6 → s1 (sp_pushS S p (s0 S 8 + 1) (s0 S 9)) 11 j = s1 S 11 j := fun j hj => by simp [s1, sp_pushS, up2, show ¬ j = s0 S 6 + 1 by omega]
      have y15 := x11 _ hfb
      have hq2 : s1 S 11 (s0 S 6) + k < s1 (sp_pushS S p (s0 S 8 + 1) (s0 S 9)) 11 (s1 S 15 (s0 S 7 - 1)) := hq.2
      omega
    refine ⟨0, 0, Nat.zero_le _, Nat.zero_le _, ?_⟩
    have hs5 : s0 S 6 + 1 ≤ E 5 := by have := h.2.2.1.2.1.2.2.2.2.1; rw [e0] at this; exact this
    refine x_writeG (j := s0 S 6) (a := k) h hWk (by rw [e0]; show s0 S 6 < s0 S 6 + 1; omega) (by rw [e1, y10n]; show k < s1 S 1 p; omega) h9 (by rw [hEw]; omega) (by rw [hEw]; omega) (fun μ1 A1 nm1 g1 st1 _ v99 e99 => ?_)
    rw [e99, nI_1]
    rw [hEw] at g1
    have eT : uv (T k) 0 (s1 (T k) 11 (s0 S 6) + k) (sv (T k) 0 (s1 (T k) 11 (s0 S 8) + s2 S 2 i k)) = T (k + 1) := by
      rw [e1, y11n, y11, hT (k + 1), hT k]; rfl
    rw [eT] at g1
    have a4 : A1 4 i = A 4 i := st1.2.1 4 i (gK_no (by decide))
    have a3 : A1 3 p = A 3 p := st1.2.1 3 p (gK_no (by decide))
    exact ih (k + 1) μ1 A1 nm1 _ _ (by omega) g1 (st1.2.2.2.2.1 1 (by decide)) (st1.2.2.1 _ (by omega)) a4 a3 (st1.2.2.1 _ (by omega)) (fun μ' A' nm' y1 y2 y3 y4 y5 => hp μ' A' nm' y1 ((h.efk st1).tr y2) (st1.tr y3 (Nat.le_refl _) (Nat.le_refl _)) y4 y5)
theorem x_call {nm : Nat → Nat × Nat} {μ : Mem} {A : Ad} {S : Sp} {E tt : Nat → Nat} {i c z : Nat} {post : Int32 → Mem → Prop} (h : XG μ A nm S E tt) (hW : WF S) (hl : live S) (hw : s0 S 8 < s0 S 6) (hat : s0 S 9 < s1 S 4 (s1 S 10 (s0 S 8))) (hii : i = atS S) (hi : i < s0 S 2) (hk : s1 S 5 i = 10) (ha : si S 1 i = nI (sa S 1 i)) (ha2 : sa S 1 i < s0 S 1) (hn : s1 S 6 i = s1 S 2 (sa S 1 i) + s1 S 3 (sa S 1 i)) (hr : ∀ j, j < s1 S 6 i → s2 S 2 i j < s1 S 1 (s1 S 10 (s0 S 8))) (h9 : E 9 < 262143) (hm : s0 S 11 < 2 ^ 31) (hnx : fi μ 2 6 (A 0 1) = nI (s0 S 9 + 1))
    (hc : szS S + (2 + s1 S 1 (sa S 1 i)) ≤ s0 S 14 → UC (ePf S E (sa S 1 i)) ≤ UC E + c) (hz : szS S + (2 + s1 S 1 (sa S 1 i)) ≤ s0 S 14 → UZ (ePf S E (sa S 1 i)) ≤ UZ E + z)
    (h4' : ¬ szS S + (2 + s1 S 1 (sa S 1 i)) ≤ s0 S 14 → post 4 μ)
    (hp : szS S + (2 + s1 S 1 (sa S 1 i)) ≤ s0 S 14 → ∀ μ' A' nm', XG μ' A' nm' (sp_callS S i) (ePf S E (sa S 1 i)) tt → (∀ k, k ≠ 6 → fi μ' 2 k (A' 0 1) = fi μ 2 k (A 0 1)) → fi μ' 2 6 (A' 0 1) = 0 → fr μ' 2 5 (A' 0 1) = some (A' 1 (s0 S 6)) → St gE E μ A nm μ' A' nm' → post 0 μ') : wp_X0_call c z μ (A 0 1) (A 1 (s0 S 8)) (A 4 i) post := by
  obtain ⟨hN, hL, hK, hH, hP, hE⟩ := id h
  obtain ⟨k1, k2, k3, tp, tv, tq, k4, k5⟩ := id hK
  obtain ⟨i1, i2, i3, i4, i5, i6, i7, i8, i9, i10, i11⟩ := hP.2.2 i hi
  obtain ⟨q1, q2, q3, q4, -⟩ := hP.2.1 _ ha2
  obtain ⟨-, sl1, sl2, -⟩ := hW.1.2.2.1 _ ha2
  have hsz := hW.2.2.1.2.1
  have hl14 := hW.2.2.2.2.2.2.2.2.1
  refine ⟨i1, fun r2 e2 => ?_⟩
  rw [i11 hk] at e2
  subst e2
  refine ⟨fun q => absurd q (by simp), fun x3 e3 => ?_⟩
  cases e3
  refine ⟨hE.1, A 0 2, hE.2.1, q1, q1, ?_⟩
  rw [q3, show (2 : Int32) = nI 2 from rfl, nI_add]
  intro _
  refine ⟨k1.1, x_hasRoom ⟨k1, k2, k3, k4, k5⟩ (by omega) (by omega) (fun hy _ => nz1 ⟨A 0 2, hE.2.1, k1.1, c, z, Nat.le_refl _, Nat.le_refl _, ?_⟩) (fun hn' _ => nz0 (h4' hn'))⟩
  have hp := hp hy
  have hc := hc hy
  have hz := hz hy
  have hB := hW.2.2.1
  refine x_pushFrame h.ne ha2 sl1 (by omega) hm (fun j hj => hW.2.2.2.1.1.2 j hj) (fun j hj => WF.bl hB hj (Nat.le_refl _)) (fun j v hj hv => by have := (hB.2.2.2 j hj).2.2.2.2 v hv; omega) (fun j hj => by have := hW.2.2.2.1.2.2 j hj; have := hW.2.2.2.1.1.2 j hj; omega) q1 q3 hc hz (fun μ1 A1 nm1 r1 st1 _ => ⟨A1 1 (s0 S 6), rfl, ?_, fun μ2 e2 μ3 e3 μ4 e4 => ?_⟩)
  · exact (r1.2.2.2.2.1.1 (s0 S 6) (by have : s0 S 6 + 1 ≤ _ := r1.2.2.2.1.2.2.2.2.1; omega)).1
  have G1 : XG μ1 A1 nm1 (sp_pushS S (sa S 1 i) 0 0) (ePf S E (sa S 1 i)) tt := h.k st1 r1 ⟨rfl, rfl, rfl, rfl, rfl, rfl, rfl, rfl, ePf_o (by decide) (by decide) (by decide), ePf_o (by decide) (by decide) (by decide)⟩ Pq_push
  have ef1 := h.efk st1
  have b1 : A1 1 (s0 S 8) = A 1 (s0 S 8) := st1.2.2.1 _ (by have := k2.2.2.2.2.1; omega)
  have b4 : A1 4 i = A 4 i := st1.2.1 4 i (gK_no (by decide))
  have b3 : A1 3 (sa S 1 i) = A 3 (sa S 1 i) := st1.2.1 3 _ (gK_no (by decide))
  have b0 : A1 0 1 = A 0 1 := st1.2.2.2.2.1 1 (by decide)
  have n26 : fi μ3 2 6 (A 0 1) = nI (s0 S 9 + 1) := by
    rw [e3, fi_sfr, e2, fi_sfr, ← b0, ef1.1]; exact hnx
  rw [n26] at e4
  have eall : μ4 = sfi (sfr (sfr μ1 3 3 (A1 1 (s0 S 6)) (some (A1 1 (s0 S 8)))) 3 4 (A1 1 (s0 S 6)) (some (A1 4 i))) 3 5 (A1 1 (s0 S 6)) (nI (s0 S 9 + 1)) := by rw [e4, e3, e2, b1, b4]
  obtain ⟨G4, st4⟩ := G1.caller (u := s0 S 8) (at' := s0 S 9) (ia := i) hW hw (by rw [hii]; rfl) eall
  have ef4 := G1.efk st4
  have hWp : WF (sp_pushS S (sa S 1 i) (s0 S 8 + 1) (s0 S 9)) := hW.push ha2 (by omega) (by omega) (fun u hu => by
    have : u = s0 S 8 := by omega
    subst this
    exact ⟨hw, hat, by rw [hii] at hk; exact hk, by rw [hii] at ha ⊢; exact ha⟩)
  have hWT : ∀ k, k ≤ s1 S 2 (sa S 1 i) → WF (wrL (sp_pushS S (sa S 1 i) (s0 S 8 + 1) (s0 S 9)) (fun k => s1 S 11 (s0 S 6) + k) (fun k T => sv T 0 (s1 S 11 (s0 S 8) + s2 S 2 i k)) k) := fun k hk' => hWp.wrL k fun l hl' hT => by
    refine hT.2.2.2.2.1 _ ?_ |> fun z => by rw [(wrL_e l).1] at z; exact z
    rw [(wrL_e l).1, (wrL_e l).2.1]
    show s1 S 11 (s0 S 8) + s2 S 2 i l < s1 (sp_pushS S (sa S 1 i) (s0 S 8 + 1) (s0 S 9)) 11 (s0 S 6 + 1)
    have n11 : s1 (sp_pushS S (sa S 1 i) (s0 S 8 + 1) (s0 S 9)) 11 (s0 S 6 + 1) = s1 S 11 (s0 S 6) + s1 S 1 (sa S 1 i) := by simp [s1, sp_pushS, up2]
    rw [n11]
    have := WF.sl hW.2.2.1 hw (hr l (by omega))
    omega
  have e9 : ePf S E (sa S 1 i) 9 = E 9 := ePf_o (by decide) (by decide) (by decide)
  have s14 := st1.tr st4 ePf_5 (by rw [ePf_o (by decide) (by decide) (by decide)]; exact Nat.le_refl _)
  refine ⟨_, x_call_loop (S := S) (i := i) (p := sa S 1 i) (E := ePf S E (sa S 1 i)) (tt := tt) (fun k => wrL (sp_pushS S (sa S 1 i) (s0 S 8 + 1) (s0 S 9)) (fun k => s1 S 11 (s0 S 6) + k) (fun k T => sv T 0 (s1 S 11 (s0 S 8) + s2 S 2 i k)) k) (fun _ => rfl) hWT hW hw hi hk ha2 (by omega) hr (by omega) (s1 S 2 (sa S 1 i)) 0 μ4 A1 nm1 _ _ (Nat.zero_add _) G4 b0 b1 b4 b3 rfl (fun μ5 A5 nm5 G5 ef5 st5 n5 o5 => ?_)⟩
  refine ⟨by rw [← o5]; exact G5.2.2.2.2.2.1, fun μ6 e6 => ⟨by rw [e6, ← o5]; exact G5.2.2.2.2.2.1, fun μ7 e7 _ => ?_⟩⟩
  rw [← o5, ← n5] at e6
  rw [← o5] at e7
  have ho : Off (fun a => a = A5 0 1) μ5 μ7 := by
    have x1 : Off (fun a => a = A5 0 1) μ5 μ6 := by rw [e6]; exact Off_sfr
    have x2 : Off (fun a => a = A5 0 1) μ6 μ7 := by rw [e7]; exact Off_sfi
    exact x1.tr x2
  obtain ⟨G7, st7⟩ := G5.eng ho (by rw [e7, fr_sfi, e6, fr_sfr_k (by decide)]) (by rw [e7, fr_sfi, e6, fr_sfr_k (by decide)])
  refine hp μ7 A5 nm5 ?_ (fun k hk' => ?_) ?_ ?_ ((s14.k.tr st5.k ePf_5 (by rw [ePf_o (by decide) (by decide) (by decide)]; exact Nat.le_refl _)).tr st7 ePf_5 (by rw [ePf_o (by decide) (by decide) (by decide)]; exact Nat.le_refl _))
  · rw [sp_callS, if_pos hy]
    exact G7
  · rw [e7, fi_sfi_k hk', e6, fi_sfr, ef5.1, ef4.1, ef1.1]
  · rw [e7, fi_sfi_e]
  · rw [e7, fr_sfi, e6, fr_sfr_e]
