/-! the class leaves a redo point -/
theorem XKx.cg {μ : Mem} {A : Ad} {S S' : Sp} {E tt tp : Nat → Nat} {tv tq : Nat → Int64} (h : XKx μ A S E tt tp tv tq) (e6 : s0 S' 6 = s0 S 6) (e7 : s0 S' 7 = s0 S 7) (e11 : s0 S' 11 = s0 S 11) (e14 : s0 S' 14 = s0 S 14) (es1 : s1 S' = s1 S) (es2 : s2 S' = s2 S) (ev : sv S' 0 = sv S 0) (ew : sw S' 0 = sw S 0) : XKx μ A S' E tt tp tv tq := by
  unfold XKx XK1 XK2 XK3 XK4 XK5 XF XR conv cellX plc hpS at h ⊢
  rw [e6, e7, e11, e14, es1, es2, ev, ew]
  exact h
theorem gcap_b {n cap : Nat} (h : n ≤ cap) (hc : cap = 0 ∨ 10 ≤ cap) : cap ≤ gcap n cap ∧ (n = cap → cap < gcap n cap ∧ gcap n cap ≤ 4 * (gcap n cap - cap)) ∧ (n < cap → gcap n cap = cap) := by
  unfold gcap
  by_cases e : n = cap
  · rw [if_pos e]
    rcases hc with q | q
    · rw [if_pos q]; omega
    · rw [if_neg (by omega)]; omega
  · rw [if_neg e]; omega
theorem RN.add {nm : Nat → Nat × Nat} {A : Ad} {S S' : Sp} {E E' : Nat → Nat} {μ μ' : Mem} {k0 j0 q : Nat} (hN : RN nm A S E) (hL : LV μ A S E) (hq : kd μ q = 0) (hq' : kd μ' q ≠ 0) (hk : KM μ μ') (hU : ∀ k j, Us S' E' k j → ¬ (k = k0 ∧ j = j0) → Us S E k j) : RN (upN nm q (k0, j0)) (upA A k0 j0 q) S' E' ∧ LV μ' (upA A k0 j0 q) S' E' := by
  constructor
  · intro k i hu
    by_cases e : k = k0 ∧ i = j0
    · obtain ⟨x, y⟩ := e
      subst x; subst y
      rw [upA_n]; exact if_pos rfl
    · rw [upA_o e]
      have hu' := hU k i hu e
      have : ¬ A k i = q := fun z => hL k i hu' (by rw [z]; exact hq)
      exact (if_neg this).trans (hN k i hu')
  · intro k i hu
    by_cases e : k = k0 ∧ i = j0
    · obtain ⟨x, y⟩ := e
      subst x; subst y
      rw [upA_n]; exact hq'
    · have hu' := hU k i hu e
      rw [upA_o e, hk _ (hL k i hu')]
      exact hL k i hu'
theorem fi_sfi_k {μ : Mem} {c k a c' k' a' : Nat} {v : Int32} (h : ¬ k' = k) : fi (sfi μ c k a v) c' k' a' = fi μ c' k' a' := if_neg (fun z => h z.2.1)
theorem fi_sfi_c {μ : Mem} {c k a c' k' a' : Nat} {v : Int32} (h : ¬ c' = c) : fi (sfi μ c k a v) c' k' a' = fi μ c' k' a' := if_neg (fun z => h z.1)
theorem fi_sfi_a {μ : Mem} {c k a c' k' a' : Nat} {v : Int32} (h : ¬ a' = a) : fi (sfi μ c k a v) c' k' a' = fi μ c' k' a' := if_neg (fun z => h z.2.2)
theorem fi_sfi_e {μ : Mem} {c k a : Nat} {v : Int32} : fi (sfi μ c k a v) c k a = v := if_pos ⟨rfl, rfl, rfl⟩
theorem fr_sfr_k {μ : Mem} {c k a c' k' a' : Nat} {v : Option Nat} (h : ¬ k' = k) : fr (sfr μ c k a v) c' k' a' = fr μ c' k' a' := if_neg (fun z => h z.2.1)
theorem fr_sfr_c {μ : Mem} {c k a c' k' a' : Nat} {v : Option Nat} (h : ¬ c' = c) : fr (sfr μ c k a v) c' k' a' = fr μ c' k' a' := if_neg (fun z => h z.1)
theorem fr_sfr_a {μ : Mem} {c k a c' k' a' : Nat} {v : Option Nat} (h : ¬ a' = a) : fr (sfr μ c k a v) c' k' a' = fr μ c' k' a' := if_neg (fun z => h z.2.2)
theorem fr_sfr_e {μ : Mem} {c k a : Nat} {v : Option Nat} : fr (sfr μ c k a v) c k a = v := if_pos ⟨rfl, rfl, rfl⟩
theorem x_redo56 {nm : Nat → Nat × Nat} {μ : Mem} {A : Ad} {S : Sp} {E tt tp : Nat → Nat} {tv tq : Nat → Int64} {c z to : Nat} {post : Mem → Prop} (h : XKx μ A S E tt tp tv tq) (hN : RN nm A S E) (hn : s0 S 7 < E 7) (hsz : szS S + 3 < 2 ^ 31) (hm : s0 S 11 < 2 ^ 31) (htt : ∀ i, i < s0 S 7 → tt i ≤ E 9)
    (hp : ∀ μ', XKx μ' A (sp_tryS S to) E (va_up tt (s0 S 7) (E 9)) tp tv tq → Off (fun a => gK (nm a)) μ μ' → post μ') : wp_X7_pushRedo_56 (A 0 2) post c z μ (A 1 (s0 S 8)) (nI to) (nI (s0 S 5)) (A 2 (s0 S 7)) := by
  obtain ⟨h1, h2, h3, h4, h5⟩ := id h
  obtain ⟨g1, g2, g3, g4, g5, g6, g7, g8, g9⟩ := id h1
  obtain ⟨t1, t2, t3, t4, t5, t6, t7, t8, t9⟩ := id h5
  have hx4 := h4.1 (s0 S 7) hn
  have nx : ∀ l, l < 24 → ¬ A 0 l = A 2 (s0 S 7) := fun l hl => hN.ne (Us0 hl) (Us2 hn) (fun z => absurd z.1 (by decide))
  have nf1 : ∀ l, l < E 5 → ¬ A 1 l = A 2 (s0 S 7) := fun l hl => hN.ne (Us1 hl) (Us2 hn) (fun z => absurd z.1 (by decide))
  have nr2 : ∀ l, l < s0 S 7 → ¬ A 2 l = A 2 (s0 S 7) := fun l hl => hN.ne (Us2 (by omega)) (Us2 hn) (fun z => by omega)
  have hD : ∀ a, kd μ a ≠ 0 → (a = A 0 2 ∨ a = A 2 (s0 S 7)) → gK (nm a) := fun a _ ha => by
    rcases ha with r | r
    · rw [r, hN 0 2 (Us0 (by decide))]; exact Or.inl ⟨rfl, Or.inl rfl⟩
    · rw [r, hN 2 _ (Us2 hn)]; exact Or.inr (Or.inr rfl)
  refine ⟨g1, fun μ1 e1 => ⟨by rw [e1]; exact hx4, fun μ2 e2 μ3 e3 μ4 e4 μ5 e5 => ?_⟩⟩
  rw [g7, nI_1] at e1
  have i91 : fi μ4 9 1 (A 0 2) = nI (s0 S 6) := by
    rw [e4, fi_sfi, if_neg (fun z => absurd z.1 (by decide)), e3, fi_sfi, if_neg (fun z => absurd z.1 (by decide)), e2, fi_sfr, e1, fi_sfi, if_neg (fun z => absurd z.2.1 (by decide))]; exact g6
  rw [i91] at e5
  -- all of it so far is off the rows
  have o1 : Off (fun a => a = A 0 2 ∨ a = A 2 (s0 S 7)) μ μ1 := by rw [e1]; exact Off_sfi.sub (fun a _ ha => Or.inl ha)
  have o2 : Off (fun a => a = A 0 2 ∨ a = A 2 (s0 S 7)) μ1 μ2 := by rw [e2]; exact Off_sfr.sub (fun a _ ha => Or.inr ha)
  have o3 : Off (fun a => a = A 0 2 ∨ a = A 2 (s0 S 7)) μ2 μ3 := by rw [e3]; exact Off_sfi.sub (fun a _ ha => Or.inr ha)
  have o4 : Off (fun a => a = A 0 2 ∨ a = A 2 (s0 S 7)) μ3 μ4 := by rw [e4]; exact Off_sfi.sub (fun a _ ha => Or.inr ha)
  have o5 : Off (fun a => a = A 0 2 ∨ a = A 2 (s0 S 7)) μ4 μ5 := by rw [e5]; exact Off_sfi.sub (fun a _ ha => Or.inr ha)
  have O5 := (((o1.tr o2).tr o3).tr o4).tr o5
  have nn : ∀ l, l < 24 → l ≠ 2 → ¬ (A 0 l = A 0 2 ∨ A 0 l = A 2 (s0 S 7)) := fun l hl hd z => by
    rcases z with z | z
    · exact hN.ne (Us0 hl) (Us0 (by decide)) (fun y => hd y.2) z
    · exact nx l hl z
  have v5 := t1.off O5 (nn 7 (by decide) (by decide)) (nn 17 (by decide) (by decide))
  have r5 : fr μ5 9 4 (A 0 2) = some (A 0 7) := by rw [e5, e4, e3, e2, fr_sfi, fr_sfi, fr_sfi, fr_sfr, if_neg (fun z => absurd z.1 (by decide)), e1]; exact g4
  refine ⟨A 0 7, r5, v5.1, s_size v5 fun _ μ6 e6 => ?_⟩
  have o6 : Off (fun a => a = A 0 2 ∨ a = A 2 (s0 S 7)) μ5 μ6 := by rw [e6]; exact Off_sfi.sub (fun a _ ha => Or.inr ha)
  have O6 := O5.tr o6
  have w6 := t2.off O6 (nn 8 (by decide) (by decide)) (nn 18 (by decide) (by decide))
  have r6 : fr μ6 9 5 (A 0 2) = some (A 0 8) := by rw [e6, e5, e4, e3, e2, fr_sfi, fr_sfi, fr_sfi, fr_sfi, fr_sfr, if_neg (fun z => absurd z.1 (by decide)), e1]; exact g5
  refine ⟨A 0 8, r6, w6.1, s_size w6 fun _ μ7 e7 μ8 e8 => ?_⟩
  have o7 : Off (fun a => a = A 0 2 ∨ a = A 2 (s0 S 7)) μ6 μ7 := by rw [e7]; exact Off_sfi.sub (fun a _ ha => Or.inr ha)
  have o8 : Off (fun a => a = A 0 2 ∨ a = A 2 (s0 S 7)) μ7 μ8 := by rw [e8]; exact Off_sfi.sub (fun a _ ha => Or.inr ha)
  have O8 := (O6.tr o7).tr o8
  -- the state without the new greatest size
  have hS1 : XKx μ8 A (u0 (sp_tryS S to) 11 (s0 S 11)) E (va_up tt (s0 S 7) (E 9)) tp tv tq := by
    have fo : ∀ k i, i < s0 S 7 → s1 (sp_tryS S to) k i = s1 S k i := fun k i hi => by
      have : ¬ i = s0 S 7 := by omega
      simp [s1, sp_tryS, up2, this]
    have n15 : s1 (sp_tryS S to) 15 (s0 S 7) = s0 S 6 := by simp [s1, sp_tryS, up2]
    have n16 : s1 (sp_tryS S to) 16 (s0 S 7) = s0 S 8 := by simp [s1, sp_tryS, up2]
    have n17 : s1 (sp_tryS S to) 17 (s0 S 7) = to := by simp [s1, sp_tryS, up2]
    have n18 : s1 (sp_tryS S to) 18 (s0 S 7) = 0 := by simp [s1, sp_tryS, up2]
    have n19 : s1 (sp_tryS S to) 19 (s0 S 7) = s0 S 5 := by simp [s1, sp_tryS, up2]
    refine ⟨?_, ⟨?_, ?_, ?_, ?_, h2.2.2.2.2.1, by show s0 S 7 + 1 ≤ E 7; omega⟩, ⟨fun j hj => ?_, fun j hj => ?_⟩, ⟨fun i hi => O8.kd (h4.1 i hi), fun i hi => ?_⟩, ⟨t1.off O8 (nn 7 (by decide) (by decide)) (nn 17 (by decide) (by decide)), t2.off O8 (nn 8 (by decide) (by decide)) (nn 18 (by decide) (by decide)), ?_, ?_, t5, t6, t7, fun i j hij hj => ?_, fun i hi => ?_⟩⟩
    · unfold XK1
      have k8 : kd μ8 (A 0 2) = 10 := O8.kd g1
      have rr : ∀ k, fr μ8 9 k (A 0 2) = fr μ 9 k (A 0 2) := fun k => by
        rw [e8, e7, e6, e5, e4, e3, fr_sfi, fr_sfi, fr_sfi, fr_sfi, fr_sfi, fr_sfi, e2, fr_sfr, if_neg (fun z => absurd z.1 (by decide)), e1]; rfl
      have ii : ∀ k, fi μ8 9 k (A 0 2) = if k = 3 then nI (s0 S 7 + 1) else fi μ 9 k (A 0 2) := fun k => by
        rw [e8, fi_sfi, if_neg (fun z => absurd z.1 (by decide)), e7, fi_sfi, if_neg (fun z => absurd z.1 (by decide)), e6, fi_sfi, if_neg (fun z => absurd z.1 (by decide)), e5, fi_sfi, if_neg (fun z => absurd z.1 (by decide)), e4, fi_sfi, if_neg (fun z => absurd z.1 (by decide)), e3, fi_sfi, if_neg (fun z => absurd z.1 (by decide)), e2, fi_sfr, e1, fi_sfi]
        by_cases e : k = 3
        · rw [if_pos ⟨rfl, e, rfl⟩, if_pos e]
        · rw [if_neg (fun z => e z.2.1), if_neg e]
      rw [rr, rr, rr, rr, ii, ii, ii, ii]
      exact ⟨k8, g2, g3, g4, g5, g6, rfl, g8, g9⟩
    · exact h2.1.off O8 (nn 5 (by decide) (by decide)) (Or.inr (nn 15 (by decide) (by decide))) (Or.inr (by decide))
    · exact h2.2.1.off O8 (nn 6 (by decide) (by decide)) (Or.inr (nn 16 (by decide) (by decide))) (Or.inr (by decide))
    · rw [h2.1.cap O8 (Or.inr (nn 15 (by decide) (by decide)))]; exact h2.2.2.1
    · rw [h2.2.1.cap O8 (Or.inr (nn 16 (by decide) (by decide)))]; exact h2.2.2.2.1
    · have nA : ¬ (A 1 j = A 0 2 ∨ A 1 j = A 2 (s0 S 7)) := fun z => by
        rcases z with z | z
        · exact hN.ne (Us1 hj) (Us0 (by decide)) (fun y => absurd y.1 (by decide)) z
        · exact nf1 j hj z
      obtain ⟨q1, q2⟩ := h3.1 j hj
      exact ⟨O8.kd q1, by rw [(O8.2.2 _ (by omega) nA).1]; exact q2⟩
    · have hj : j < s0 S 6 := hj
      have hj5 : j < E 5 := by have := h2.2.2.2.2.1; omega
      have nA : ¬ (A 1 j = A 0 2 ∨ A 1 j = A 2 (s0 S 7)) := fun z => by
        rcases z with z | z
        · exact hN.ne (Us1 hj5) (Us0 (by decide)) (fun y => absurd y.1 (by decide)) z
        · exact nf1 j hj5 z
      have := (h3.1 j hj5).1
      exact (h3.2 j hj).off O8 (by omega) nA
    · have hi : i < s0 S 7 + 1 := hi
      rcases Nat.lt_or_ge i (s0 S 7) with q | q
      · have nA : ¬ (A 2 i = A 0 2 ∨ A 2 i = A 2 (s0 S 7)) := fun z => by
          rcases z with z | z
          · exact hN.ne (Us2 (by omega)) (Us0 (by decide)) (fun y => absurd y.1 (by decide)) z
          · exact nr2 i q z
        have k9 := h4.1 i (by omega)
        have := (h4.2 i q).off O8 (by omega) nA
        unfold XR at this ⊢
        show fr μ8 8 0 (A 2 i) = some (A 1 (s1 (sp_tryS S to) 16 i)) ∧ fi μ8 8 1 (A 2 i) = nI (s1 (sp_tryS S to) 17 i) ∧ fi μ8 8 2 (A 2 i) = nI (s1 (sp_tryS S to) 18 i) ∧ fi μ8 8 3 (A 2 i) = nI (s1 (sp_tryS S to) 15 i) ∧ fi μ8 8 4 (A 2 i) = nI (s1 (sp_tryS S to) 11 (s1 (sp_tryS S to) 15 i)) ∧ fi μ8 8 5 (A 2 i) = nI (va_up tt (s0 S 7) (E 9) i) ∧ fi μ8 8 6 (A 2 i) = nI (s1 (sp_tryS S to) 19 i)
        rw [fo 16 i q, fo 17 i q, fo 18 i q, fo 15 i q, fo 19 i q, show va_up tt (s0 S 7) (E 9) i = tt i from if_neg (by omega)]
        exact this
      · have ei : i = s0 S 7 := by omega
        subst ei
        show fr μ8 8 0 (A 2 (s0 S 7)) = some (A 1 (s1 (sp_tryS S to) 16 (s0 S 7))) ∧ fi μ8 8 1 (A 2 (s0 S 7)) = nI (s1 (sp_tryS S to) 17 (s0 S 7)) ∧ fi μ8 8 2 (A 2 (s0 S 7)) = nI (s1 (sp_tryS S to) 18 (s0 S 7)) ∧ fi μ8 8 3 (A 2 (s0 S 7)) = nI (s1 (sp_tryS S to) 15 (s0 S 7)) ∧ fi μ8 8 4 (A 2 (s0 S 7)) = nI (s1 S 11 (s1 (sp_tryS S to) 15 (s0 S 7))) ∧ fi μ8 8 5 (A 2 (s0 S 7)) = nI (va_up tt (s0 S 7) (E 9) (s0 S 7)) ∧ fi μ8 8 6 (A 2 (s0 S 7)) = nI (s1 (sp_tryS S to) 19 (s0 S 7))
        rw [n15, n16, n17, n18, n19, show va_up tt (s0 S 7) (E 9) (s0 S 7) = E 9 from if_pos rfl]
        refine ⟨?_, ?_, ?_, ?_, ?_, ?_, ?_⟩
        · rw [e8, fr_sfi, e7, fr_sfi, e6, fr_sfi, e5, fr_sfi, e4, fr_sfi, e3, fr_sfi, e2, fr_sfr_e]
        · rw [e8, fi_sfi_k (by decide), e7, fi_sfi_k (by decide), e6, fi_sfi_k (by decide), e5, fi_sfi_k (by decide), e4, fi_sfi_k (by decide), e3, fi_sfi_e]
        · rw [e8, fi_sfi_k (by decide), e7, fi_sfi_k (by decide), e6, fi_sfi_k (by decide), e5, fi_sfi_k (by decide), e4, fi_sfi_e]; rfl
        · rw [e8, fi_sfi_k (by decide), e7, fi_sfi_k (by decide), e6, fi_sfi_k (by decide), e5, fi_sfi_e]
        · rw [e8, fi_sfi_k (by decide), e7, fi_sfi_k (by decide), e6, fi_sfi_e]
        · rw [e8, fi_sfi_k (by decide), e7, fi_sfi_e]
        · rw [e8, fi_sfi_e]
    · rw [(O8.2.2 _ (by have := t1.2.2.1; omega) (nn 17 (by decide) (by decide))).2.2.1]; exact t3
    · rw [(O8.2.2 _ (by have := t2.2.2.1; omega) (nn 18 (by decide) (by decide))).2.2.1]; exact t4
    · have hj : j < s0 S 7 + 1 := hj
      show (if i = s0 S 7 then E 9 else tt i) ≤ (if j = s0 S 7 then E 9 else tt j)
      rw [if_neg (show ¬ i = s0 S 7 by omega)]
      rcases Nat.lt_or_ge j (s0 S 7) with q | q
      · rw [if_neg (by omega)]; exact t8 i j hij q
      · rw [if_pos (by omega)]; exact htt i (by omega)
    · have hi : i < s0 S 7 + 1 := hi
      show (if i = s0 S 7 then E 9 else tt i) ≤ E 9 ∧ ∀ k, k < s1 S 11 (s1 (sp_tryS S to) 15 i) → undoX tp tv (if i = s0 S 7 then E 9 else tt i) (E 9 - (if i = s0 S 7 then E 9 else tt i)) (fun k => conv S (sv S 0 k)) k = conv S (if 0 = 0 ∧ i = s0 S 7 then sv S 0 k else sw S 0 i k)
      rcases Nat.lt_or_ge i (s0 S 7) with q | q
      · rw [if_neg (by omega), fo 15 i q]
        refine ⟨(t9 i q).1, fun k hk => ?_⟩
        rw [if_neg (by omega)]
        exact (t9 i q).2 k hk
      · rw [if_pos (by omega)]
        refine ⟨Nat.le_refl _, fun k hk => ?_⟩
        rw [if_pos ⟨rfl, by omega⟩, Nat.sub_self]; rfl
  have hsz1 : szS (u0 (sp_tryS S to) 11 (s0 S 11)) = szS S + 3 := by
    show s1 S 11 (s0 S 6) + 2 * s0 S 6 + 3 * (s0 S 7 + 1) = s1 S 11 (s0 S 6) + 2 * s0 S 6 + 3 * s0 S 7 + 3
    omega
  have hN1 : RN nm A (u0 (sp_tryS S to) 11 (s0 S 11)) E := hN
  refine x_noteSize hS1 hN1 (by rw [hsz1]; exact hsz) hm (fun μ9 h9 ho9 _ => hp μ9 ?_ ((O8.sub hD).tr (ho9.sub (fun a ha hb => hD a (by rw [hb]; omega) (Or.inl hb)))))
  refine h9.cg rfl rfl ?_ rfl rfl rfl rfl rfl
  rw [hsz1]; rfl
