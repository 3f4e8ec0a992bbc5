/-! the class pushes a frame: with a new object, or one that was there -/
def eFr (S : Sp) (E : Nat → Nat) : Nat → Nat := if s0 S 6 < E 5 then E else va_up (va_up E 5 (E 5 + 1)) 6 (gcap (E 5) (E 6))
theorem eFr_U {S : Sp} {E : Nat → Nat} (h : E 5 ≤ E 6) (hc : E 6 = 0 ∨ 10 ≤ E 6) : UC E ≤ UC (eFr S E) ∧ UZ E ≤ UZ (eFr S E) ∧ (¬ s0 S 6 < E 5 → UC E + 1 + (gcap (E 5) (E 6) - E 6) ≤ UC (eFr S E) ∧ UZ E + 7 + 4 * (gcap (E 5) (E 6) - E 6) ≤ UZ (eFr S E)) := by
  obtain ⟨b1, b2, b3⟩ := gcap_b h hc
  unfold eFr
  by_cases q : s0 S 6 < E 5
  · rw [if_pos q]; exact ⟨Nat.le_refl _, Nat.le_refl _, fun z => absurd q z⟩
  · rw [if_neg q]
    have e1 : UC (va_up (va_up E 5 (E 5 + 1)) 6 (gcap (E 5) (E 6))) = E 0 + E 1 + E 2 + E 3 + E 4 + (E 5 + 1) + gcap (E 5) (E 6) + E 7 + E 8 + E 10 := rfl
    have e2 : UZ (va_up (va_up E 5 (E 5 + 1)) 6 (gcap (E 5) (E 6))) = 2 * E 0 + 2 * E 1 + 2 * E 2 + 2 * E 3 + 2 * E 4 + 7 * (E 5 + 1) + 4 * gcap (E 5) (E 6) + 7 * E 7 + 4 * E 8 + 2 * E 10 := rfl
    rw [e1, e2]
    unfold UC UZ
    omega
/-- the room behind a pushed frame -/
def ePf (S : Sp) (E : Nat → Nat) (p : Nat) : Nat → Nat := eZ (eFr S E) (s1 S 11 (s0 S 6)) (s1 S 1 p)
theorem x_frame57 {nm : Nat → Nat × Nat} {μ : Mem} {A : Ad} {S : Sp} {E tt tp : Nat → Nat} {tv tq : Nat → Int64} {c z p : Nat} {post : Option Nat → Mem → Prop} (h : XKx μ A S E tt tp tv tq) (hN : RN nm A S E) (hL : LV μ A S E) (hn : s0 S 6 < E 5) (hp1 : p < s0 S 1) (hsl : 1 ≤ s1 S 1 p) (hsz : szS S + (2 + s1 S 1 p) ≤ 20000) (hm : s0 S 11 < 2 ^ 31) (hfb : ∀ i, i < s0 S 7 → s1 S 15 i ≤ s0 S 6) (hbl : ∀ i, i ≤ s0 S 6 → s1 S 11 i ≤ s1 S 11 (s0 S 6)) (hcal : ∀ j u, j < s0 S 6 → s1 S 12 j = u + 1 → u < s0 S 6) (hq8 : kd μ (A 3 p) = 8) (hq1 : fi μ 7 1 (A 3 p) = nI (s1 S 1 p))
    (hc : UC (eZ E (s1 S 11 (s0 S 6)) (s1 S 1 p)) ≤ UC E + c) (hz : UZ (eZ E (s1 S 11 (s0 S 6)) (s1 S 1 p)) ≤ UZ E + z)
    (hp : ∀ μ' A' nm', RN nm' A' S (eZ E (s1 S 11 (s0 S 6)) (s1 S 1 p)) → LV μ' A' S (eZ E (s1 S 11 (s0 S 6)) (s1 S 1 p)) → XKx μ' A' (sp_pushS S p 0 0) (eZ E (s1 S 11 (s0 S 6)) (s1 S 1 p)) tt tp tv tq → St gK E μ A nm μ' A' nm' → post (some (A 1 (s0 S 6))) μ') : wp_X7_pushFrame_57 (A 0 2) post c z μ (A 3 p) (A 1 (s0 S 6)) := by
  obtain ⟨h1, h2, h3, h4, h5⟩ := id h
  obtain ⟨g1, g2, g3, g4, g5, g6, g7, g8, g9⟩ := id h1
  obtain ⟨t1, t2, t3, t4, t5, t6, t7, t8, t9⟩ := id h5
  have hszd : szS S = s1 S 11 (s0 S 6) + 2 * s0 S 6 + 3 * s0 S 7 := rfl
  have hx2 := h3.1 (s0 S 6) hn
  have nx : ∀ l, l < 24 → ¬ A 0 l = A 1 (s0 S 6) := fun l hl => hN.ne (Us0 hl) (Us1 hn) (fun z => absurd z.1 (by decide))
  have nr2 : ∀ l, l < E 7 → ¬ A 2 l = A 1 (s0 S 6) := fun l hl => hN.ne (Us2 hl) (Us1 hn) (fun z => absurd z.1 (by decide))
  have nf1 : ∀ l, l < E 5 → l ≠ s0 S 6 → ¬ A 1 l = A 1 (s0 S 6) := fun l hl hd => hN.ne (Us1 hl) (Us1 hn) (fun z => hd z.2)
  have hD : ∀ a, kd μ a ≠ 0 → (a = A 0 2 ∨ a = A 1 (s0 S 6)) → gK (nm a) := fun a _ ha => by
    rcases ha with r | r
    · rw [r, hN 0 2 (Us0 (by decide))]; exact Or.inl ⟨rfl, Or.inl rfl⟩
    · rw [r, hN 1 _ (Us1 hn)]; exact Or.inr (Or.inl rfl)
  refine ⟨g1, fun μ1 e1 => ⟨by rw [e1]; exact hx2.1, fun μ2 e2 => ?_⟩⟩
  rw [g6, nI_1] at e1
  have o1 : Off (fun a => a = A 0 2 ∨ a = A 1 (s0 S 6)) μ μ1 := by rw [e1]; exact Off_sfi.sub (fun a _ ha => Or.inl ha)
  have o2 : Off (fun a => a = A 0 2 ∨ a = A 1 (s0 S 6)) μ1 μ2 := by rw [e2]; exact Off_sfr.sub (fun a _ ha => Or.inr ha)
  have O2 := o1.tr o2
  have nn : ∀ l, l < 24 → l ≠ 2 → ¬ (A 0 l = A 0 2 ∨ A 0 l = A 1 (s0 S 6)) := fun l hl hd z => by
    rcases z with z | z
    · exact hN.ne (Us0 hl) (Us0 (by decide)) (fun y => hd y.2) z
    · exact nx l hl z
  have v2 := t1.off O2 (nn 7 (by decide) (by decide)) (nn 17 (by decide) (by decide))
  have r2 : fr μ2 9 4 (A 0 2) = some (A 0 7) := by rw [e2, fr_sfr_c (by decide), e1]; exact g4
  refine ⟨A 0 7, r2, v2.1, s_size v2 fun _ μ3 e3 μ4 e4 μ5 e5 μ6 e6 => ?_⟩
  have i93 : fi μ5 9 3 (A 0 2) = nI (s0 S 7) := by
    rw [e5, fi_sfr, e4, fi_sfr, e3, fi_sfi_c (by decide), e2, fi_sfr, e1, fi_sfi_k (by decide)]; exact g7
  rw [i93] at e6
  have o3 : Off (fun a => a = A 0 2 ∨ a = A 1 (s0 S 6)) μ2 μ3 := by rw [e3]; exact Off_sfi.sub (fun a _ ha => Or.inr ha)
  have o4 : Off (fun a => a = A 0 2 ∨ a = A 1 (s0 S 6)) μ3 μ4 := by rw [e4]; exact Off_sfr.sub (fun a _ ha => Or.inr ha)
  have o5 : Off (fun a => a = A 0 2 ∨ a = A 1 (s0 S 6)) μ4 μ5 := by rw [e5]; exact Off_sfr.sub (fun a _ ha => Or.inr ha)
  have o6 : Off (fun a => a = A 0 2 ∨ a = A 1 (s0 S 6)) μ5 μ6 := by rw [e6]; exact Off_sfi.sub (fun a _ ha => Or.inr ha)
  have O6 := (((O2.tr o3).tr o4).tr o5).tr o6
  have x10 : ∀ j, j < s0 S 6 → s1 (sp_pushS S p 0 0) 10 j = s1 S 10 j := fun j hj => by simp [s1, sp_pushS, up2, show ¬ j = s0 S 6 by omega]
  have x11 : ∀ j, j ≤ s0 S 6 → s1 (sp_pushS S p 0 0) 11 j = s1 S 11 j := fun j hj => by simp [s1, sp_pushS, up2, show ¬ j = s0 S 6 + 1 by omega]
  have x12 : ∀ j, j < s0 S 6 → s1 (sp_pushS S p 0 0) 12 j = s1 S 12 j := fun j hj => by simp [s1, sp_pushS, up2, show ¬ j = s0 S 6 by omega]
  have x13 : ∀ j, j < s0 S 6 → s1 (sp_pushS S p 0 0) 13 j = s1 S 13 j := fun j hj => by simp [s1, sp_pushS, up2, show ¬ j = s0 S 6 by omega]
  have x14 : ∀ j, j < s0 S 6 → s1 (sp_pushS S p 0 0) 14 j = s1 S 14 j := fun j hj => by simp [s1, sp_pushS, up2, show ¬ j = s0 S 6 by omega]
  have y10 : s1 (sp_pushS S p 0 0) 10 (s0 S 6) = p := by simp [s1, sp_pushS, up2]
  have y11 : s1 (sp_pushS S p 0 0) 11 (s0 S 6 + 1) = s1 S 11 (s0 S 6) + s1 S 1 p := by simp [s1, sp_pushS, up2]
  have y12 : s1 (sp_pushS S p 0 0) 12 (s0 S 6) = 0 := by simp [s1, sp_pushS, up2]
  have y14 : s1 (sp_pushS S p 0 0) 14 (s0 S 6) = s0 S 7 := by simp [s1, sp_pushS, up2]
  have hX6 : XKm μ6 A (u0 (sp_pushS S p 0 0) 11 (s0 S 11)) E tt tp tv tq (s1 S 11 (s0 S 6)) := by
    refine ⟨?_, ⟨?_, ?_, ?_, ?_, by show s0 S 6 + 1 ≤ E 5; omega, h2.2.2.2.2.2⟩, ⟨fun j hj => ?_, fun j hj => ?_⟩, ⟨fun i hi => O6.kd (h4.1 i hi), fun i hi => ?_⟩, ?_, t2.off O6 (nn 8 (by decide) (by decide)) (nn 18 (by decide) (by decide)), ?_, ?_, t5, t6, t7, t8, fun i hi => ⟨(t9 i hi).1, fun k hk => ?_⟩⟩
    · unfold XK1
      have k8 : kd μ6 (A 0 2) = 10 := O6.kd g1
      have rr : ∀ k, fr μ6 9 k (A 0 2) = fr μ 9 k (A 0 2) := fun k => by
        rw [e6, fr_sfi, e5, fr_sfr_c (by decide), e4, fr_sfr_c (by decide), e3, fr_sfi, e2, fr_sfr_c (by decide), e1, fr_sfi]
      have ii : ∀ k, fi μ6 9 k (A 0 2) = if k = 1 then nI (s0 S 6 + 1) else fi μ 9 k (A 0 2) := fun k => by
        rw [e6, fi_sfi_c (by decide), e5, fi_sfr, e4, fi_sfr, e3, fi_sfi_c (by decide), e2, fi_sfr, e1]
        by_cases e : k = 1
        · rw [e, fi_sfi_e, if_pos rfl]
        · rw [fi_sfi_k e, if_neg e]
      rw [rr, rr, rr, rr, ii, ii, ii, ii]
      exact ⟨k8, g2, g3, g4, g5, rfl, g7, g8, g9⟩
    · exact h2.1.off O6 (nn 5 (by decide) (by decide)) (Or.inr (nn 15 (by decide) (by decide))) (Or.inr (by decide))
    · exact h2.2.1.off O6 (nn 6 (by decide) (by decide)) (Or.inr (nn 16 (by decide) (by decide))) (Or.inr (by decide))
    · rw [h2.1.cap O6 (Or.inr (nn 15 (by decide) (by decide)))]; exact h2.2.2.1
    · rw [h2.2.1.cap O6 (Or.inr (nn 16 (by decide) (by decide)))]; exact h2.2.2.2.1
    · obtain ⟨q1, q2⟩ := h3.1 j hj
      refine ⟨O6.kd q1, ?_⟩
      rw [e6, fi_sfi_k (by decide), e5, fi_sfr, e4, fi_sfr, e3, fi_sfi_k (by decide), e2, fi_sfr, e1, fi_sfi_c (by decide)]
      exact q2
    · have hj : j < s0 S 6 + 1 := hj
      show fr μ6 3 1 (A 1 j) = some (A 3 (s1 (sp_pushS S p 0 0) 10 j)) ∧ fi μ6 3 2 (A 1 j) = nI (s1 (sp_pushS S p 0 0) 11 j) ∧ fi μ6 3 6 (A 1 j) = nI (s1 (sp_pushS S p 0 0) 14 j) ∧ (s1 (sp_pushS S p 0 0) 12 j = 0 → fr μ6 3 3 (A 1 j) = none ∧ fr μ6 3 4 (A 1 j) = none) ∧ ∀ u, s1 (sp_pushS S p 0 0) 12 j = u + 1 → fr μ6 3 3 (A 1 j) = some (A 1 u) ∧ fr μ6 3 4 (A 1 j) = some (A 4 (s2 S 1 (s1 (sp_pushS S p 0 0) 10 u) (s1 (sp_pushS S p 0 0) 13 j))) ∧ fi μ6 3 5 (A 1 j) = nI (s1 (sp_pushS S p 0 0) 13 j + 1)
      rcases Nat.lt_or_ge j (s0 S 6) with q | q
      · have nA : ¬ (A 1 j = A 0 2 ∨ A 1 j = A 1 (s0 S 6)) := fun z => by
          rcases z with z | z
          · exact hN.ne (Us1 (by omega)) (Us0 (by decide)) (fun y => absurd y.1 (by decide)) z
          · exact nf1 j (by omega) (by omega) z
        have k4 := (h3.1 j (by omega)).1
        have := (h3.2 j q).off O6 (by omega) nA
        unfold XF at this
        rw [x10 j q, x11 j (by omega), x12 j q, x13 j q, x14 j q]
        refine ⟨this.1, this.2.1, this.2.2.1, this.2.2.2.1, fun u hu => ?_⟩
        rw [x10 u (hcal j u q hu)]
        exact this.2.2.2.2 u hu
      · have ej : j = s0 S 6 := by omega
        subst ej
        rw [y10, y12, y14, x11 _ (Nat.le_refl _)]
        refine ⟨?_, ?_, ?_, fun _ => ⟨?_, ?_⟩, fun u hu => absurd hu (by omega)⟩
        · rw [e6, fr_sfi, e5, fr_sfr_k (by decide), e4, fr_sfr_k (by decide), e3, fr_sfi, e2, fr_sfr_e]
        · rw [e6, fi_sfi_k (by decide), e5, fi_sfr, e4, fi_sfr, e3, fi_sfi_e]
        · rw [e6, fi_sfi_e]
        · rw [e6, fr_sfi, e5, fr_sfr_k (by decide), e4, fr_sfr_e]
        · rw [e6, fr_sfi, e5, fr_sfr_e]
    · have hi : i < s0 S 7 := hi
      have hi7 : i < E 7 := by have := h2.2.2.2.2.2; omega
      have nA : ¬ (A 2 i = A 0 2 ∨ A 2 i = A 1 (s0 S 6)) := fun z => by
        rcases z with z | z
        · exact hN.ne (Us2 hi7) (Us0 (by decide)) (fun y => absurd y.1 (by decide)) z
        · exact nr2 i hi7 z
      have k9 := h4.1 i hi7
      have := (h4.2 i hi).off O6 (by omega) nA
      unfold XR at this ⊢
      show fr μ6 8 0 (A 2 i) = some (A 1 (s1 S 16 i)) ∧ fi μ6 8 1 (A 2 i) = nI (s1 S 17 i) ∧ fi μ6 8 2 (A 2 i) = nI (s1 S 18 i) ∧ fi μ6 8 3 (A 2 i) = nI (s1 S 15 i) ∧ fi μ6 8 4 (A 2 i) = nI (s1 (sp_pushS S p 0 0) 11 (s1 S 15 i)) ∧ fi μ6 8 5 (A 2 i) = nI (tt i) ∧ fi μ6 8 6 (A 2 i) = nI (s1 S 19 i)
      rw [x11 _ (hfb i hi)]
      exact this
    · refine LR.congr (t1.off O6 (nn 7 (by decide) (by decide)) (nn 17 (by decide) (by decide))) (fun i hi => ?_)
      show conv S (if 0 = 0 ∧ s1 S 11 (s0 S 6) ≤ i then 0 else sv S 0 i) = conv S (sv S 0 i)
      rw [if_neg (by omega)]
    · rw [(O6.2.2 _ (by have := t1.2.2.1; omega) (nn 17 (by decide) (by decide))).2.2.1]; exact t3
    · rw [(O6.2.2 _ (by have := t2.2.2.1; omega) (nn 18 (by decide) (by decide))).2.2.1]; exact t4
    · have hi : i < s0 S 7 := hi
      have hk : k < s1 (sp_pushS S p 0 0) 11 (s1 S 15 i) := hk
      rw [x11 _ (hfb i hi)] at hk
      have hb := hbl _ (hfb i hi)
      have := (t9 i hi).2 k hk
      show undoX tp tv (tt i) (E 9 - tt i) (fun k => conv S (if 0 = 0 ∧ s1 S 11 (s0 S 6) ≤ k then 0 else sv S 0 k)) k = conv S (sw S 0 i k)
      rw [← this]
      refine undoX_pt _ _ _ ?_
      show conv S (if 0 = 0 ∧ s1 S 11 (s0 S 6) ≤ k then 0 else sv S 0 k) = conv S (sv S 0 k)
      rw [if_neg (by omega)]
  have n3 : ¬ (A 3 p = A 0 2 ∨ A 3 p = A 1 (s0 S 6)) := fun z => by
    have hu : Us S E 3 p := Or.inr (Or.inr (Or.inr (Or.inl ⟨Or.inl rfl, hp1⟩)))
    rcases z with z | z
    · exact hN.ne hu (Us0 (show 2 < 24 by decide)) (fun y => absurd y.1 (by decide)) z
    · exact hN.ne hu (Us1 hn) (fun y => absurd y.1 (by decide)) z
  have hszn : szS (u0 (sp_pushS S p 0 0) 11 (s0 S 11)) = szS S + (2 + s1 S 1 p) := by
    show s1 (sp_pushS S p 0 0) 11 (s0 S 6 + 1) + 2 * (s0 S 6 + 1) + 3 * s0 S 7 = _
    rw [y11]; omega
  have hN6 : RN nm A (u0 (sp_pushS S p 0 0) 11 (s0 S 11)) E := hN
  have hL6 : LV μ6 A (u0 (sp_pushS S p 0 0) 11 (s0 S 11)) E := hL.km O6.1
  have := x_zeros (S := u0 (sp_pushS S p 0 0) 11 (s0 S 11)) (E := E) (b := s1 S 11 (s0 S 6)) (n := s1 S 1 p) (pa := A 3 p) (fa := A 1 (s0 S 6)) (post := post) hp1 rfl (by omega) (fun k hk => if_pos ⟨rfl, hk⟩) (by rw [hszn]; exact hsz) hm y11 (s1 S 1 p) 0 μ6 A nm c z (Nat.zero_add _) hN6 hL6 hX6 (O6.kd hq8) (by rw [(O6.2.2 _ (by omega) n3).1]; exact hq1) rfl hc hz (fun μ' A' nm' x1 x2 x3 x4 => hp μ' A' nm' x1 x2 (x3.cg rfl rfl ?_ rfl rfl rfl rfl rfl) ((St.of (O6.sub hD)).tr x4 (Nat.le_refl _) (Nat.le_refl _)))
  · exact ⟨_, this⟩
  · rw [hszn]; rfl
theorem x_pushFrame {nm : Nat → Nat × Nat} {μ : Mem} {A : Ad} {S : Sp} {E tt : Nat → Nat} {c z p : Nat} {post : Option Nat → Mem → Prop} (h : RXK μ A nm S E tt) (hp1 : p < s0 S 1) (hsl : 1 ≤ s1 S 1 p) (hsz : szS S + (2 + s1 S 1 p) ≤ 20000) (hm : s0 S 11 < 2 ^ 31) (hfb : ∀ i, i < s0 S 7 → s1 S 15 i ≤ s0 S 6) (hbl : ∀ i, i ≤ s0 S 6 → s1 S 11 i ≤ s1 S 11 (s0 S 6)) (hcal : ∀ j u, j < s0 S 6 → s1 S 12 j = u + 1 → u < s0 S 6) (hfr : ∀ i, i < s0 S 7 → s1 S 16 i < s0 S 6) (hq8 : kd μ (A 3 p) = 8) (hq1 : fi μ 7 1 (A 3 p) = nI (s1 S 1 p))
    (hc : UC (ePf S E p) ≤ UC E + c) (hz : UZ (ePf S E p) ≤ UZ E + z)
    (hp : ∀ μ' A' nm', RXK μ' A' nm' (sp_pushS S p 0 0) (ePf S E p) tt → St gK E μ A nm μ' A' nm' → post (some (A' 1 (s0 S 6))) μ') : wp_X7_pushFrame c z μ (A 0 2) (A 3 p) post := by
  obtain ⟨hN, hL, h1, h2, h3, tp, tv, tq, h4, h5⟩ := h
  have hX : XKx μ A S E tt tp tv tq := ⟨h1, h2, h3, h4, h5⟩
  obtain ⟨g1, g2, g3, g4, g5, g6, g7, g8, g9⟩ := id h1
  obtain ⟨l1, l2, a15, a16, e5, e7⟩ := id h2
  have hszd : szS S = s1 S 11 (s0 S 6) + 2 * s0 S 6 + 3 * s0 S 7 := rfl
  have hE5 : E 5 ≤ E 6 := by rw [← a15]; exact l1.n.2.1
  have hE6 : E 6 ≤ 100000 := by rw [← a15]; exact l1.n.2.2.1
  have hE6' : E 6 = 0 ∨ 10 ≤ E 6 := by rw [← a15]; exact l1.n.2.2.2.1
  obtain ⟨u1, u2, u3⟩ := eFr_U (S := S) hE5 hE6'
  obtain ⟨b1, b2, b3⟩ := gcap_b hE5 hE6'
  obtain ⟨w1, w2⟩ := eZ_U (E := eFr S E) (n := s1 S 11 (s0 S 6)) 0 (s1 S 1 p)
  rw [Nat.zero_add] at w1 w2
  have w1 : UC (eFr S E) ≤ UC (ePf S E p) := w1
  have w2 : UZ (eFr S E) ≤ UZ (ePf S E p) := w2
  refine ⟨g1, A 0 5, g2, l1.1, x_lsize l1 fun _ => ?_⟩
  rw [g6]
  by_cases q : s0 S 6 < E 5
  · refine s_within_t (nI_pos (by omega)) (nI_ge q (by omega)) fun _ => nz1 ⟨A 0 5, g2, l1.1, ?_⟩
    rw [g6]
    refine x_lget l1 q fun _ => ⟨A 1 (s0 S 6), rfl, (h3.1 _ q).1, ?_⟩
    have eE : eFr S E = E := if_pos q
    unfold ePf at hp hc hz
    rw [eE] at hp hc hz
    exact x_frame57 hX hN hL q hp1 hsl hsz hm hfb hbl hcal hq8 hq1 hc hz (fun μ' A' nm' x1 x2 x3 x4 => by
      have := hp μ' A' nm' ⟨x1, x2, x3.ext⟩ x4
      rw [x4.2.2.1 _ q] at this
      exact this)
  · have hn : s0 S 6 = E 5 := by omega
    obtain ⟨v1, v2⟩ := u3 q
    have eE : eFr S E = va_up (va_up E 5 (E 5 + 1)) 6 (gcap (E 5) (E 6)) := if_neg q
    refine s_within_f (Or.inr (nI_le (by omega) (by omega))) fun _ => nz0 ⟨by omega, by omega, fun q13 μ1 hq13 e1 => ?_⟩
    have k1 : kd μ1 q13 = 4 := by rw [e1, kd_nobE, if_pos rfl]
    refine ⟨k1, fun μ2 e2 μ2' e2' _ => ?_⟩
    have O2 : Off (fun _ => False) μ μ2' := by
      have o1 : Off (fun a => a = q13) μ μ1 := by rw [e1]; exact Off_nob hq13 (by decide)
      have o2 : Off (fun a => a = q13) μ1 μ2 := by rw [e2]; exact Off_sfi
      have o3 : Off (fun a => a = q13) μ2 μ2' := by rw [e2']; exact Off_sfr
      exact ((o1.tr o2).tr o3).sub (fun a ha hb => ha (by rw [hb]; exact hq13))
    have X2 := hX.offF O2
    obtain ⟨y1, y2, y3, y4, y5⟩ := id X2
    have k2 : kd μ2' q13 = 4 := by rw [e2', e2]; exact k1
    have num2 : fi μ2' 3 0 q13 = nI (E 5) := by
      rw [e2', fi_sfr, e2, fi_sfi_e]
      have : fi μ1 9 1 (A 0 2) = nI (s0 S 6) := by
        rw [e1, fi_nob, if_neg (fun z => absurd z.1 (by decide))]; exact g6
      rw [this, hn]
    refine ⟨A 0 5, y1.2.1, y2.1.1, (gcap (E 5) (E 6) - E 6), 4 * (gcap (E 5) (E 6) - E 6), by omega, by omega, ?_⟩
    have a15' : capA μ2' (A 0 15) (E 5) = E 6 := y2.2.2.1
    refine x_ladd y2.1 k2 (by omega) ?_ (fun μ3 el' hl3 ho3 hel ha3 _ => ?_)
    · rw [a15']
      rcases Nat.lt_or_ge (E 5) (E 6) with r | r
      · exact Or.inl r
      · obtain ⟨x1, x2⟩ := b2 (by omega)
        exact Or.inr ⟨by omega, by omega⟩
    rw [a15'] at ha3
    have kel : kd μ3 el' ≠ 0 := by have := (hl3.2.2.2.2.1 (by omega)).1; omega
    have hU : ∀ k j, Us S (eFr S E) k j → ¬ (k = 1 ∧ j = E 5) → Us S E k j := by
      intro k j hu hne
      rw [eE] at hu
      rcases hu with r | r | r | r
      · exact Or.inl r
      · exact Or.inr (Or.inl ⟨r.1, by have r2 : j < E 5 + 1 := r.2; have r1 := r.1; omega⟩)
      · exact Or.inr (Or.inr (Or.inl r))
      · exact Or.inr (Or.inr (Or.inr r))
    obtain ⟨N1, L1⟩ := RN.add (S' := S) (E' := eFr S E) hN hL hq13 (show kd μ2' q13 ≠ 0 by omega) O2.1 hU
    obtain ⟨A', nm', hA15, hN', hL', hA0, hAn⟩ : ∃ A' nm', A' 0 15 = el' ∧ RN nm' A' S (eFr S E) ∧ LV μ3 A' S (eFr S E) ∧ (∀ k l, ¬ (k = 0 ∧ l = 15) → A' k l = upA A 1 (E 5) q13 k l) ∧ ∀ b, kd μ b ≠ 0 → nm' b = nm b := by
      have nq : ∀ b, kd μ b ≠ 0 → upN nm q13 (1, E 5) b = nm b := fun b hb => if_neg (show ¬ b = q13 from fun e => hb (by rw [e]; exact hq13))
      rcases hel with r | r
      · exact ⟨upA A 1 (E 5) q13, upN nm q13 (1, E 5), by rw [upA_o (fun z => absurd z.1 (by decide))]; exact r.symm, N1, L1.km ho3.1, fun _ _ _ => rfl, nq⟩
      · obtain ⟨x1, x2⟩ := RN.mv (j := 15) N1 L1 r kel ho3.1
        exact ⟨upA (upA A 1 (E 5) q13) 0 15 el', upN (upN nm q13 (1, E 5)) el' (0, 15), upA_n, x1, x2, fun k l hk => upA_o hk, fun b hb => (if_neg (show ¬ b = el' from fun e => by rw [e] at hb; rw [O2.1 _ hb] at r; exact hb r)).trans (nq b hb)⟩
    have a0 : ∀ l, l ≠ 15 → A' 0 l = A 0 l := fun l hl => (hA0 0 l (fun z => hl z.2)).trans (upA_o (fun z => absurd z.1 (by decide)))
    have a1' : ∀ l, l ≠ E 5 → A' 1 l = A 1 l := fun l hl => (hA0 1 l (fun z => absurd z.1 (by decide))).trans (upA_o (fun z => hl z.2))
    have a1n : A' 1 (E 5) = q13 := (hA0 1 _ (fun z => absurd z.1 (by decide))).trans upA_n
    have ah : ∀ k l, 2 ≤ k → A' k l = A k l := fun k l hk => (hA0 k l (fun z => by omega)).trans (upA_o (fun z => by omega))
    have ne : ∀ i k, i < 24 → k < 24 → i ≠ k → ¬ A 0 i = A 0 k := fun i k hi hk hd => hN.ne (Us0 hi) (Us0 hk) (fun z => hd z.2)
    have no : ∀ l, l < 24 → l ≠ 5 → l ≠ 15 → ¬ (A 0 l = A 0 5 ∨ A 0 l = A 0 15) := fun l hl x y z => by
      rcases z with z | z
      · exact ne l 5 hl (by decide) x z
      · exact ne l 15 hl (by decide) y z
    have nk : ∀ k l, Us S E k l → 1 ≤ k → ¬ (A k l = A 0 5 ∨ A k l = A 0 15) := fun k l hu hk z => by
      rcases z with z | z
      · exact hN.ne hu (Us0 (show 5 < 24 by decide)) (fun y => by omega) z
      · exact hN.ne hu (Us0 (show 15 < 24 by decide)) (fun y => by omega) z
    have z1 := y1.off ho3 (no 2 (by decide) (by decide) (by decide))
    have z3 := y3.off ho3 e5 (fun j hj => nk 1 j (Us1 hj) (by decide))
    have z4 := y4.off ho3 e7 (fun j hj => nk 2 j (Us2 hj) (by decide))
    have z5 := y5.off ho3 (no 7 (by decide) (by decide) (by decide)) (no 8 (by decide) (by decide) (by decide)) (no 17 (by decide) (by decide) (by decide)) (no 18 (by decide) (by decide) (by decide))
    have zl := y2.2.1.off ho3 (no 6 (by decide) (by decide) (by decide)) (Or.inr (no 16 (by decide) (by decide) (by decide))) (Or.inr (by decide))
    have za : capA μ3 (A 0 16) (E 7) = E 8 := (y2.2.1.cap ho3 (Or.inr (no 16 (by decide) (by decide) (by decide)))).trans y2.2.2.2.1
    have qn : ¬ (q13 = A 0 5 ∨ q13 = A 0 15) := fun z => by
      rcases z with z | z
      · exact hL 0 5 (Us0 (by decide)) (by rw [← z]; exact hq13)
      · exact hL 0 15 (Us0 (by decide)) (by rw [← z]; exact hq13)
    have kq : kd μ3 q13 = 4 := ho3.kd k2
    have nq3 : fi μ3 3 0 q13 = nI (E 5) := by rw [(ho3.2.2 q13 (by omega) qn).1]; exact num2
    have X3 : XKx μ3 A' S (eFr S E) tt tp tv tq := by
      rw [eE]
      refine ⟨?_, ⟨?_, ?_, ?_, ?_, by show s0 S 6 ≤ E 5 + 1; omega, e7⟩, ⟨fun j hj => ?_, fun j hj => ?_⟩, ⟨fun i hi => ?_, fun i hi => ?_⟩, ?_⟩
      · unfold XK1 at z1 ⊢
        rw [a0 2 (by decide), a0 5 (by decide), a0 6 (by decide), a0 7 (by decide), a0 8 (by decide)]
        exact z1
      · rw [a0 5 (by decide), hA15, show A' 1 = va_up (A 1) (E 5) q13 from funext fun l => by
          by_cases e : l = E 5
          · rw [e, a1n]; simp [va_up]
          · rw [a1' l e]; simp [va_up, e]]
        exact hl3
      · rw [a0 6 (by decide), a0 16 (by decide), show A' 2 = A 2 from funext fun l => ah 2 l (by decide)]
        exact zl
      · rw [hA15]; exact ha3
      · rw [a0 16 (by decide)]; exact za
      · have hj : j < E 5 + 1 := hj
        by_cases e : j = E 5
        · rw [e, a1n]; exact ⟨kq, nq3⟩
        · rw [a1' j e]; exact z3.1 j (by omega)
      · have := z3.2 j hj
        have hj : j < s0 S 6 := hj
        unfold XF at this ⊢
        rw [a1' j (by omega), ah 3 _ (by decide)]
        refine ⟨this.1, this.2.1, this.2.2.1, this.2.2.2.1, fun u hu => ?_⟩
        have hu2 := hcal j u hj hu
        rw [a1' u (by omega), ah 4 _ (by decide)]
        exact this.2.2.2.2 u hu
      · rw [ah 2 i (by decide)]; exact z4.1 i hi
      · have := z4.2 i hi
        have hi : i < s0 S 7 := hi
        unfold XR at this ⊢
        rw [ah 2 i (by decide), a1' _ (by have := hfr i hi; omega)]
        exact this
      · unfold XK5 at z5 ⊢
        rw [a0 7 (by decide), a0 17 (by decide), a0 8 (by decide), a0 18 (by decide)]
        exact z5
    have hn' : s0 S 6 < eFr S E 5 := by rw [eE]; show s0 S 6 < E 5 + 1; omega
    have hOK : Off (fun a => gK (nm a)) μ μ3 := (O2.sub (fun a _ ha => ha.elim)).tr (ho3.sub (fun a ha hb => by
      rcases hb with r | r
      · rw [r, hN 0 5 (Us0 (by decide))]; exact Or.inl ⟨rfl, by show 5 = 2 ∨ _; omega⟩
      · rw [r, hN 0 15 (Us0 (by decide))]; exact Or.inl ⟨rfl, by show 15 = 2 ∨ _; omega⟩))
    have hst : St gK E μ A nm μ3 A' nm' := by
      refine ⟨hOK, fun k l hg => ?_, fun l hl => a1' l (by omega), fun l _ => ah 2 l (by decide), fun l hl => a0 l (by omega), hAn⟩
      by_cases e0 : k = 0
      · subst e0
        by_cases e1 : l = 15
        · subst e1; exact absurd (Or.inl ⟨rfl, by show 15 = 2 ∨ _; omega⟩) hg
        · exact a0 l e1
      · by_cases e1 : k = 1
        · subst e1; exact absurd (Or.inr (Or.inl rfl)) hg
        · exact ah k l (by omega)
    have hu3 : Us S E 3 p := Or.inr (Or.inr (Or.inr (Or.inl ⟨Or.inl rfl, hp1⟩)))
    have k38 : kd μ2' (A 3 p) = 8 := O2.kd hq8
    have f31 : fi μ3 7 1 (A 3 p) = nI (s1 S 1 p) := by
      rw [(ho3.2.2 _ (by omega) (nk 3 p hu3 (by decide))).1, (O2.2.2 _ (by omega) id).1]; exact hq1
    have := x_frame57 (c := c - 1 - (gcap (E 5) (E 6) - E 6)) (z := z - 7 - 4 * (gcap (E 5) (E 6) - E 6)) (post := post) X3 hN' hL' hn' hp1 hsl hsz hm hfb hbl hcal (by rw [ah 3 p (by decide)]; exact ho3.kd k38) (by rw [ah 3 p (by decide)]; exact f31) (by show UC (ePf S E p) ≤ _; omega) (by show UZ (ePf S E p) ≤ _; omega) (fun μ' A'' nm'' x1 x2 x3 x4 => by
      have := hp μ' A'' nm'' ⟨x1, x2, x3.ext⟩ (hst.tr x4 (by rw [eE]; show E 5 ≤ E 5 + 1; omega) (by rw [eE]; exact Nat.le_refl _))
      rw [x4.2.2.1 _ hn'] at this
      exact this)
    rw [a0 2 (by decide), ah 3 p (by decide), hn, a1n] at this
    exact this
