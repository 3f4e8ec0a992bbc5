/-! the class's stack: cut, drop, leave, back -/
abbrev DK2 (A : Ad) : Nat → Prop := fun a => a = A 0 2 ∨ a = A 0 7 ∨ a = A 0 8 ∨ a = A 0 17
theorem XKx.redos {nm : Nat → Nat × Nat} {μ : Mem} {A : Ad} {S : Sp} {E tt tp : Nat → Nat} {tv tq : Nat → Int64} {n : Nat} (h : XKx μ A S E tt tp tv tq) (hN : RN nm A S E) (hn : n ≤ s0 S 7) : XKx (sfi μ 9 3 (A 0 2) (nI n)) A (u0 S 7 n) E tt tp tv tq := by
  obtain ⟨⟨g1, g2, g3, g4, g5, g6, g7, g8, g9⟩, h2, h3, h4, ⟨t1, t2, t3, t4, t5, t6, t7, t8, t9⟩⟩ := id h
  refine h.st hN ?_ ⟨h2.1, h2.2.1, h2.2.2.1, h2.2.2.2.1, h2.2.2.2.2.1, Nat.le_trans hn h2.2.2.2.2.2⟩ h3 ⟨h4.1, fun i hi => h4.2 i (Nat.lt_of_lt_of_le hi hn)⟩ ⟨t1, t2, t3, t4, t5, t6, t7, fun i j a b => t8 i j a (Nat.lt_of_lt_of_le b hn), fun i hi => t9 i (Nat.lt_of_lt_of_le hi hn)⟩
  unfold XK1
  simp only [kd_sfi, fr_sfi, fi_sfi]
  exact ⟨g1, g2, g3, g4, g5, g6, rfl, g8, g9⟩
/-- the trail is emptied where no redo point is left -/
theorem x_cutTo {nm : Nat → Nat × Nat} {μ : Mem} {A : Ad} {S : Sp} {E tt tp : Nat → Nat} {tv tq : Nat → Int64} {x : Int32} {post : Mem → Prop} (h : XKx μ A S E tt tp tv tq) (hN : RN nm A S E) (hB : WB S) (hT : TR (s0 S 6) (s0 S 7) (s1 S 15)) (hw : s0 S 8 < s0 S 6)
    (hp : ∀ μ', XKx μ' A (sp_cutS S x.toNatClampNeg) (if s0 (sp_cutS S x.toNatClampNeg) 7 = 0 then va_up E 9 0 else E) tt tp tv tq → Off (DK2 A) μ μ' → post μ') : wp_X7_cutTo μ (A 0 2) x (A 1 (s0 S 8)) post := by
  have hsz := hB.2.1
  have hszd : szS S = s1 S 11 (s0 S 6) + 2 * s0 S 6 + 3 * s0 S 7 := rfl
  have g7 : fi μ 9 3 (A 0 2) = nI (s0 S 7) := h.1.2.2.2.2.2.2.1
  generalize hx : x.toNatClampNeg = n at hp
  have ev : (if (if x < 0 then 0 else x) < fi μ 9 3 (A 0 2) then (if x < 0 then 0 else x) else fi μ 9 3 (A 0 2)) = nI (if n < s0 S 7 then n else s0 S 7) := by
    have e1 : (if x < 0 then 0 else x) = nI n ∧ n < 2 ^ 31 := by
      by_cases q : x < 0
      · rw [if_pos q]
        have a := Int32.lt_iff_toInt_lt.mp q
        have z : (0 : Int32).toInt = 0 := by decide
        have : n = 0 := by
          rw [← hx]
          show x.toInt.toNat = 0
          omega
        rw [this]; exact ⟨rfl, by decide⟩
      · rw [if_neg q]
        obtain ⟨j, hj, ej⟩ := nI_of q
        subst ej
        rw [nI_clamp hj] at hx
        subst hx
        exact ⟨rfl, hj⟩
    rw [e1.1, g7]
    by_cases q : n < s0 S 7
    · rw [if_pos (nI_lt q (by omega)), if_pos q]
    · rw [if_neg (nI_nlt (by omega) e1.2), if_neg q]
  refine ⟨h.1.1, fun μ2 e2 => ?_⟩
  rw [ev] at e2
  unfold sp_cutS at hp
  generalize hm : (if n < s0 S 7 then n else s0 S 7) = m at hp e2
  have hle : m ≤ s0 S 7 := by rw [← hm]; split <;> omega
  have h2 := h.redos hN hle
  rw [← e2] at h2
  have hO2 : Off (DK2 A) μ μ2 := by rw [e2]; exact Off_sfi.sub (fun a _ ha => Or.inl ha)
  have hT2 : TR (s0 (u0 S 7 m) 6) (s0 (u0 S 7 m) 7) (s1 (u0 S 7 m) 15) := ⟨fun i j a b => hT.1 i j a (Nat.lt_of_lt_of_le b hle), fun i a => hT.2 i (Nat.lt_of_lt_of_le a hle)⟩
  obtain ⟨k1, k2, k3⟩ := keepF_le hT2 hw
  have hbl : s1 S 11 (keepF (u0 S 7 m)) ≤ s1 S 11 (s0 S 6) := WF.bl hB k1 (Nat.le_refl _)
  have num : ∀ μ' , XKx μ' A (u0 S 7 m) E tt tp tv tq → fi μ' 3 0 (A 1 (s0 S 8)) = nI (s0 S 8) ∧ kd μ' (A 1 (s0 S 8)) = 4 := fun μ' h' => by
    have := h'.2.2.1.1 (s0 S 8) (by have h6 : s0 S 6 ≤ E 5 := h.2.1.2.2.2.2.1; omega)
    exact ⟨this.2, this.1⟩
  refine x_latest h2 (by show m < 2 ^ 31; omega) (fun j hj _ => ⟨fun z => absurd z (by simp), fun x9 e9 => ?_⟩) (fun hz _ => ⟨fun _ => ?_, fun x9 e9 => absurd e9 (by simp)⟩)
  · have hj : m = j + 1 := hj
    cases e9
    obtain ⟨n0, n4⟩ := num μ2 h2
    have hr := h2.2.2.2.1.2 j (by show j < m; omega)
    refine ⟨n4, h2.2.2.2.1.1 j (by have h7 : s0 S 7 ≤ E 7 := h.2.1.2.2.2.2.2; omega), ?_⟩
    rw [n0, nI_1, hr.2.2.2.1]
    have hfb : s1 S 15 j ≤ s0 S 6 := hT.2 j (by omega)
    have ek : (if nI (s0 S 8 + 1) < nI (s1 (u0 S 7 m) 15 j) then nI (s1 (u0 S 7 m) 15 j) else nI (s0 S 8 + 1)) = nI (keepF (u0 S 7 m)) := by
      have e15 : s1 (u0 S 7 m) 15 j = s1 S 15 j := rfl
      rw [e15]
      unfold keepF
      rw [if_neg (show ¬ s0 (u0 S 7 m) 7 = 0 by show ¬ m = 0; omega)]
      show _ = nI (if s0 S 8 + 1 < s1 S 15 (m - 1) then s1 S 15 (m - 1) else s0 S 8 + 1)
      rw [show m - 1 = j by omega]
      by_cases q : s0 S 8 + 1 < s1 S 15 j
      · rw [if_pos (nI_lt q (by omega)), if_pos q]
      · rw [if_neg (nI_nlt (by omega) (by omega)), if_neg q]
    rw [ek]
    refine x_keepFrames h2 hN k1 hbl (fun μ3 h3 ho3 _ => hp μ3 ?_ (hO2.tr (ho3.sub (fun a _ ha => by rcases ha with q | q; exact Or.inl q; exact Or.inr (Or.inl q)))))
    rw [if_neg (show ¬ s0 (sp_drop (u0 S 7 m) (keepF (u0 S 7 m)) m) 7 = 0 by show ¬ m = 0; omega)]
    exact h3
  · have hz : m = 0 := hz
    subst hz
    obtain ⟨⟨g1, g2, g3, g4, g5, g6, g7', g8, g9⟩, y2, y3, y4, y5⟩ := id h2
    refine ⟨A 0 8, g5, y5.2.1.1, x_shrink y5.2.1 (Nat.zero_le _) (fun μ3 hl3 ho3 ha3 _ => ?_)⟩
    have ne : ∀ j, j < 24 → j ≠ 8 → ¬ A 0 j = A 0 8 := fun j hj hd => hN.ne (Us0 hj) (Us0 (by decide)) (fun z => hd z.2)
    have n1 : ∀ j, j < E 5 → ¬ A 1 j = A 0 8 := fun j hj => hN.ne (Us1 hj) (Us0 (by decide)) (fun z => absurd z.1 (by decide))
    have n2 : ∀ j, j < E 7 → ¬ A 2 j = A 0 8 := fun j hj => hN.ne (Us2 hj) (Us0 (by decide)) (fun z => absurd z.1 (by decide))
    have hX3 : XKx μ3 A (u0 S 7 0) (va_up E 9 0) tt tp tv tq := by
      refine ⟨h2.1.off ho3 (ne 2 (by decide) (by decide)), XK2.off (E := E) y2 ho3 (ne 5 (by decide) (by decide)) (ne 6 (by decide) (by decide)) (ne 15 (by decide) (by decide)) (ne 16 (by decide) (by decide)), XK3.off (E := E) y3 ho3 y2.2.2.2.2.1 n1, XK4.off (E := E) y4 ho3 y2.2.2.2.2.2 n2, ?_⟩
      obtain ⟨t1, t2, t3, t4, t5, t6, t7, t8, t9⟩ := y5
      exact ⟨t1.off ho3 (ne 7 (by decide) (by decide)) (ne 17 (by decide) (by decide)), hl3, by rw [(ho3.2.2 _ (by have := t1.2.2.1; omega) (ne 17 (by decide) (by decide))).2.2.1]; exact t3, ha3.trans t4, t5, t6, fun n hn => absurd hn (Nat.not_lt_zero n), t8, fun i hi => absurd hi (Nat.not_lt_zero i)⟩
    have hN3 : RN nm A S (va_up E 9 0) := hN
    have num3 := hX3.2.2.1.1 (s0 S 8) (by have h6 : s0 S 6 ≤ E 5 := h.2.1.2.2.2.2.1; show s0 S 8 < E 5; omega)
    refine ⟨num3.1, ?_⟩
    rw [num3.2, nI_1]
    have ek : s0 S 8 + 1 = keepF (u0 S 7 0) := by unfold keepF; rw [if_pos (show s0 (u0 S 7 0) 7 = 0 from rfl)]; rfl
    rw [ek]
    refine x_keepFrames hX3 hN3 k1 hbl (fun μ4 h4 ho4 _ => hp μ4 ?_ ((hO2.tr (ho3.sub (fun a _ ha => Or.inr (Or.inr (Or.inl ha))))).tr (ho4.sub (fun a _ ha => by rcases ha with q | q; exact Or.inl q; exact Or.inr (Or.inl q)))))
    rw [if_pos (show s0 (sp_drop (u0 S 7 0) (keepF (u0 S 7 0)) 0) 7 = 0 from rfl)]
    exact h4
theorem x_dropRedo {nm : Nat → Nat × Nat} {μ : Mem} {A : Ad} {S : Sp} {E tt tp : Nat → Nat} {tv tq : Nat → Int64} {x : Int32} {post : Mem → Prop} (h : XKx μ A S E tt tp tv tq) (hN : RN nm A S E) (hb : s0 S 7 < 2 ^ 31) (hp : ∀ μ', XKx μ' A (sp_deadS S x) E tt tp tv tq → Off (fun a => gK (nm a)) μ μ' → post μ') : wp_X7_dropRedo μ (A 0 2) x post := by
  refine ⟨h.1.1, x_redoAt h hb (fun j hj ej _ => ⟨fun z => absurd z (by simp), fun x6 e6 => ?_⟩) (fun hno _ => ⟨fun _ => ?_, fun x6 e6 => absurd e6 (by simp)⟩)⟩
  · cases e6
    obtain ⟨h1, h2, h3, h4, h5⟩ := id h
    have e7 : s0 S 7 ≤ E 7 := h2.2.2.2.2.2
    refine ⟨h4.1 j (by omega), fun μ8 e8 => ?_⟩
    have hin : 0 ≤ x ∧ x < nI (s0 S 7) := by rw [ej]; exact ⟨nI_pos' (by omega), nI_lt hj hb⟩
    rw [sp_deadS, if_pos hin, ej, nI_clamp (by omega)] at hp
    have n1 : ∀ i, i < E 5 → ¬ A 1 i = A 2 j := fun i hi => hN.ne (Us1 hi) (Us2 (by omega)) (fun z => absurd z.1 (by decide))
    have n0 : ∀ i, i < 24 → ¬ A 0 i = A 2 j := fun i hi => hN.ne (Us0 hi) (Us2 (by omega)) (fun z => absurd z.1 (by decide))
    subst e8
    refine hp _ ⟨XK1.off (S := S) h1 Off_sfi (n0 2 (by decide)), XK2.off (S := S) h2 Off_sfi (n0 5 (by decide)) (n0 6 (by decide)) (n0 15 (by decide)) (n0 16 (by decide)), XK3.off (S := S) h3 Off_sfi h2.2.2.2.2.1 n1, ⟨h4.1, fun i hi => ?_⟩, XK5.off (S := S) h5 Off_sfi (n0 7 (by decide)) (n0 8 (by decide)) (n0 17 (by decide)) (n0 18 (by decide))⟩ (Off_sfi.sub (fun a _ ha => by rw [ha, hN 2 j (Us2 (by omega))]; exact Or.inr (Or.inr rfl)))
    have hi : i < s0 S 7 := hi
    obtain ⟨q1, q2, q3, q4, q5, q6, q7⟩ := h4.2 i hi
    by_cases e : i = j
    · subst e
      refine ⟨q1, ?_, ?_, ?_, ?_, ?_, ?_⟩
      · rw [fi_sfi, if_neg (fun z => absurd z.2.1 (by decide))]; exact q2
      · rw [fi_sfi, if_pos ⟨rfl, rfl, rfl⟩]
        show (1 : Int32) = nI (if 18 = 18 ∧ i = i then 1 else s1 S 18 i)
        simp; rfl
      · rw [fi_sfi, if_neg (fun z => absurd z.2.1 (by decide))]; exact q4
      · rw [fi_sfi, if_neg (fun z => absurd z.2.1 (by decide))]; exact q5
      · rw [fi_sfi, if_neg (fun z => absurd z.2.1 (by decide))]; exact q6
      · rw [fi_sfi, if_neg (fun z => absurd z.2.1 (by decide))]; exact q7
    · have ne : ¬ A 2 i = A 2 j := hN.ne (Us2 (by omega)) (Us2 (by omega)) (fun z => e z.2)
      refine ⟨q1, ?_, ?_, ?_, ?_, ?_, ?_⟩
      · rw [fi_sfi, if_neg (fun z => ne z.2.2)]; exact q2
      · rw [fi_sfi, if_neg (fun z => ne z.2.2)]
        show _ = nI (if 18 = 18 ∧ i = j then 1 else s1 S 18 i)
        rw [if_neg (fun z => e z.2)]; exact q3
      · rw [fi_sfi, if_neg (fun z => ne z.2.2)]; exact q4
      · rw [fi_sfi, if_neg (fun z => ne z.2.2)]; exact q5
      · rw [fi_sfi, if_neg (fun z => ne z.2.2)]; exact q6
      · rw [fi_sfi, if_neg (fun z => ne z.2.2)]; exact q7
  · rw [sp_deadS, if_neg] at hp
    · exact hp μ h (Off.rf μ)
    · rintro ⟨z1, z2⟩
      rcases pk_ix x (n := s0 S 7) hb with y | y | ⟨j, hj, ej⟩
      · exact absurd y (Int32.not_lt.mpr z1)
      · exact absurd z2 (Int32.not_lt.mpr y)
      · exact hno j hj ej
theorem x_leave {nm : Nat → Nat × Nat} {μ : Mem} {A : Ad} {S : Sp} {E tt tp : Nat → Nat} {tv tq : Nat → Int64} {w : Nat} {post : Mem → Prop} (h : XKx μ A S E tt tp tv tq) (hN : RN nm A S E) (hB : WB S) (hT : TR (s0 S 6) (s0 S 7) (s1 S 15)) (hw : w < s0 S 6)
    (hp : ∀ μ', XKx μ' A (if w + 1 = s0 S 6 ∧ (s0 S 7 = 0 ∨ s1 S 15 (s0 S 7 - 1) ≤ w) then sp_drop S w (s0 S 7) else S) E tt tp tv tq → Off (fun a => a = A 0 2 ∨ a = A 0 7) μ μ' → post μ') : wp_X7_leave μ (A 0 2) (A 1 w) post := by
  have hszd : szS S = s1 S 11 (s0 S 6) + 2 * s0 S 6 + 3 * s0 S 7 := rfl
  have hsz := hB.2.1
  obtain ⟨⟨g1, g2, g3, g4, g5, g6, g7, g8, g9⟩, h2, h3, h4, h5⟩ := id h
  have e5 : s0 S 6 ≤ E 5 := h2.2.2.2.2.1
  have e7 : s0 S 7 ≤ E 7 := h2.2.2.2.2.2
  obtain ⟨f1, f2⟩ := h3.1 w (by omega)
  have key : ∀ t : Int32, (t = 0 ↔ (s0 S 7 = 0 ∨ s1 S 15 (s0 S 7 - 1) ≤ w)) → wp_X7_leave_31 (A 0 2) post μ (A 1 w) t := by
    intro t ht
    refine ⟨f1, g1, ?_⟩
    rw [f2, g6, show nI (s0 S 6) - 1 = nI (s0 S 6 - 1) by rw [show (1 : Int32) = nI 1 from rfl, pk_sub (by omega)]]
    refine ⟨fun q => ⟨fun q2 => ?_, fun q2 => ?_⟩, fun q => ?_⟩
    · have q : w = s0 S 6 - 1 := (nI_eq (by omega) (by omega)).mp q
      rw [if_pos ⟨by omega, ht.mp q2⟩] at hp
      refine x_keepFrames h hN (by omega) (WF.bl hB (by omega) (Nat.le_refl _)) (fun μ' h' ho _ => hp μ' ?_ ho)
      rw [sp_drop, show s0 S 7 = s0 (u0 S 6 w) 7 from rfl, u0_rf]; exact h'
    · rw [if_neg (fun z => q2 (ht.mpr z.2))] at hp
      exact hp μ h (Off.rf μ)
    · rw [if_neg (fun z => q (by rw [show s0 S 6 - 1 = w by omega]))] at hp
      exact hp μ h (Off.rf μ)
  refine ⟨g1, x_latest h (by omega) (fun j hj _ => ⟨fun z => absurd z (by simp), fun x6 e6 => ?_⟩) (fun hz _ => ⟨fun _ => key 0 ⟨fun _ => Or.inl hz, fun _ => rfl⟩, fun x6 e6 => absurd e6 (by simp)⟩)⟩
  cases e6
  have hr := h4.2 j (by omega)
  refine ⟨h4.1 j (by omega), f1, ?_⟩
  rw [f2, hr.2.2.2.1]
  have hfb := hT.2 j (by omega)
  have ej : s0 S 7 - 1 = j := by omega
  refine ⟨fun q => key 0 ⟨fun _ => Or.inr ?_, fun _ => rfl⟩, fun q => key 1 ⟨fun z => absurd z (by decide), fun z => absurd ?_ q⟩⟩
  · rw [ej]
    rcases Nat.lt_or_ge w (s1 S 15 j) with r | r
    · exact absurd q (nI_ge r (by omega))
    · exact r
  · rcases z with z | z
    · omega
    · rw [ej] at z; exact nI_le z (by omega)
