/-! the class leaves a redo point: with a new object, or one that was there -/
theorem XKx.offF {μ μ' : Mem} {A : Ad} {S : Sp} {E tt tp : Nat → Nat} {tv tq : Nat → Int64} (h : XKx μ A S E tt tp tv tq) (hf : Off (fun _ => False) μ μ') : XKx μ' A S E tt tp tv tq := by
  obtain ⟨h1, h2, h3, h4, h5⟩ := h
  exact ⟨h1.off hf id, h2.off hf id id id id, h3.off hf h2.2.2.2.2.1 (fun _ _ => id), h4.off hf h2.2.2.2.2.2 (fun _ _ => id), h5.off hf id id id id⟩
def eRd (S : Sp) (E : Nat → Nat) : Nat → Nat := if s0 S 7 < E 7 then E else va_up (va_up E 7 (E 7 + 1)) 8 (gcap (E 7) (E 8))
theorem eRd_U {S : Sp} {E : Nat → Nat} (h : E 7 ≤ E 8) (hc : E 8 = 0 ∨ 10 ≤ E 8) : UC E ≤ UC (eRd S E) ∧ UZ E ≤ UZ (eRd S E) ∧ (¬ s0 S 7 < E 7 → UC E + 1 + (gcap (E 7) (E 8) - E 8) ≤ UC (eRd S E) ∧ UZ E + 7 + 4 * (gcap (E 7) (E 8) - E 8) ≤ UZ (eRd S E)) := by
  obtain ⟨b1, b2, b3⟩ := gcap_b h hc
  unfold eRd
  by_cases q : s0 S 7 < E 7
  · rw [if_pos q]; exact ⟨Nat.le_refl _, Nat.le_refl _, fun z => absurd q z⟩
  · rw [if_neg q]
    have e1 : UC (va_up (va_up E 7 (E 7 + 1)) 8 (gcap (E 7) (E 8))) = E 0 + E 1 + E 2 + E 3 + E 4 + E 5 + E 6 + (E 7 + 1) + gcap (E 7) (E 8) + E 10 := rfl
    have e2 : UZ (va_up (va_up E 7 (E 7 + 1)) 8 (gcap (E 7) (E 8))) = 2 * E 0 + 2 * E 1 + 2 * E 2 + 2 * E 3 + 2 * E 4 + 7 * E 5 + 4 * E 6 + 7 * (E 7 + 1) + 4 * gcap (E 7) (E 8) + 2 * E 10 := rfl
    rw [e1, e2]
    unfold UC UZ
    omega
theorem x_pushRedo {nm : Nat → Nat × Nat} {μ : Mem} {A : Ad} {S : Sp} {E tt : Nat → Nat} {c z to : Nat} {post : Mem → Prop} (h : RXK μ A nm S E tt) (hw : s0 S 8 < s0 S 6) (hsz : szS S + 3 ≤ 20000) (hm : s0 S 11 < 2 ^ 31)
    (hc : UC (eRd S E) ≤ UC E + c) (hz : UZ (eRd S E) ≤ UZ E + z)
    (hp : ∀ μ' A' nm', RXK μ' A' nm' (sp_tryS S to) (eRd S E) (va_up tt (s0 S 7) (E 9)) → St gK E μ A nm μ' A' nm' → post μ') : wp_X7_pushRedo c z μ (A 0 2) (A 1 (s0 S 8)) (nI to) (nI (s0 S 5)) post := by
  obtain ⟨hN, hL, h1, h2, h3, tp, tv, tq, h4, h5⟩ := h
  have hX : XKx μ A S E tt tp tv tq := ⟨h1, h2, h3, h4, h5⟩
  obtain ⟨g1, g2, g3, g4, g5, g6, g7, g8, g9⟩ := id h1
  obtain ⟨l1, l2, a15, a16, e5, e7⟩ := id h2
  have hszd : szS S = s1 S 11 (s0 S 6) + 2 * s0 S 6 + 3 * s0 S 7 := rfl
  have hE7 : E 7 ≤ E 8 := by rw [← a16]; exact l2.n.2.1
  have hE8 : E 8 ≤ 100000 := by rw [← a16]; exact l2.n.2.2.1
  have hE8' : E 8 = 0 ∨ 10 ≤ E 8 := by rw [← a16]; exact l2.n.2.2.2.1
  obtain ⟨u1, u2, u3⟩ := eRd_U (S := S) hE7 hE8'
  obtain ⟨b1, b2, b3⟩ := gcap_b hE7 hE8'
  refine ⟨g1, A 0 6, g3, l2.1, x_lsize l2 fun _ => ?_⟩
  rw [g7]
  by_cases q : s0 S 7 < E 7
  · refine s_within_t (nI_pos (by omega)) (nI_ge q (by omega)) fun _ => nz1 ⟨A 0 6, g3, l2.1, ?_⟩
    rw [g7]
    refine x_lget l2 q fun _ => ⟨A 2 (s0 S 7), rfl, h4.1 _ q, ?_⟩
    have eE : eRd S E = E := if_pos q
    rw [eE] at hp
    exact x_redo56 hX hN q (by omega) hm (fun i hi => (h5.2.2.2.2.2.2.2.2 i hi).1) (fun μ' h' ho => hp μ' A nm ⟨hN, hL.km ho.1, h'.ext⟩ (St.of ho))
  · have hn : s0 S 7 = E 7 := by omega
    obtain ⟨v1, v2⟩ := u3 q
    have eE : eRd S E = va_up (va_up E 7 (E 7 + 1)) 8 (gcap (E 7) (E 8)) := if_neg q
    refine s_within_f (Or.inr (nI_le (by omega) (by omega))) fun _ => nz0 ⟨by omega, by omega, fun q13 μ1 hq1 e1 => ?_⟩
    have k1 : kd μ1 q13 = 9 := by rw [e1, kd_nobE, if_pos rfl]
    refine ⟨k1, fun μ2 e2 _ => ?_⟩
    have O2 : Off (fun _ => False) μ μ2 := by
      have o1 : Off (fun a => a = q13) μ μ1 := by rw [e1]; exact Off_nob hq1 (by decide)
      have o2 : Off (fun a => a = q13) μ1 μ2 := by rw [e2]; exact Off_sfr
      exact (o1.tr o2).sub (fun a ha hb => ha (by rw [hb]; exact hq1))
    have X2 := hX.offF O2
    obtain ⟨y1, y2, y3, y4, y5⟩ := id X2
    have k2 : kd μ2 q13 = 9 := by rw [e2]; exact k1
    refine ⟨A 0 6, y1.2.2.1, y2.2.1.1, c - 1, z - 7, Nat.le_refl _, Nat.le_refl _, ?_⟩
    have a16' : capA μ2 (A 0 16) (E 7) = E 8 := y2.2.2.2.1
    refine x_ladd y2.2.1 k2 (by omega) ?_ (fun μ3 el' hl3 ho3 hel ha3 _ => ?_)
    · rw [a16']
      rcases Nat.lt_or_ge (E 7) (E 8) with r | r
      · exact Or.inl r
      · obtain ⟨w1, w2⟩ := b2 (by omega)
        exact Or.inr ⟨by omega, by omega⟩
    rw [a16'] at ha3
    have kel : kd μ3 el' ≠ 0 := by have := (hl3.2.2.2.2.1 (by omega)).1; omega
    have qold : ∀ k j, Us S E k j → ¬ A k j = q13 := fun k j hu e => hL k j hu (by rw [e]; exact hq1)
    -- the roles
    have hU : ∀ k j, Us S (eRd S E) k j → ¬ (k = 2 ∧ j = E 7) → Us S E k j := by
      intro k j hu hne
      rw [eE] at hu
      rcases hu with r | r | r | r
      · exact Or.inl r
      · exact Or.inr (Or.inl r)
      · exact Or.inr (Or.inr (Or.inl ⟨r.1, by have r2 : j < E 7 + 1 := r.2; have r1 := r.1; omega⟩))
      · exact Or.inr (Or.inr (Or.inr r))
    obtain ⟨N1, L1⟩ := RN.add (S' := S) (E' := eRd S E) hN hL hq1 (show kd μ2 q13 ≠ 0 by omega) O2.1 hU
    obtain ⟨A', nm', hA16, hN', hL', hA0, hAn⟩ : ∃ A' nm', A' 0 16 = el' ∧ RN nm' A' S (eRd S E) ∧ LV μ3 A' S (eRd S E) ∧ (∀ k l, ¬ (k = 0 ∧ l = 16) → A' k l = upA A 2 (E 7) q13 k l) ∧ ∀ b, kd μ b ≠ 0 → nm' b = nm b := by
      have nq : ∀ b, kd μ b ≠ 0 → upN nm q13 (2, E 7) b = nm b := fun b hb => if_neg (show ¬ b = q13 from fun e => hb (by rw [e]; exact hq1))
      rcases hel with r | r
      · exact ⟨upA A 2 (E 7) q13, upN nm q13 (2, E 7), by rw [upA_o (fun z => absurd z.1 (by decide))]; exact r.symm, N1, L1.km ho3.1, fun _ _ _ => rfl, nq⟩
      · obtain ⟨x1, x2⟩ := RN.mv (j := 16) N1 L1 r kel ho3.1
        exact ⟨upA (upA A 2 (E 7) q13) 0 16 el', upN (upN nm q13 (2, E 7)) el' (0, 16), upA_n, x1, x2, fun k l hk => upA_o hk, fun b hb => (if_neg (show ¬ b = el' from fun e => by rw [e] at hb; rw [O2.1 _ hb] at r; exact hb r)).trans (nq b hb)⟩
    have a0 : ∀ l, l ≠ 16 → A' 0 l = A 0 l := fun l hl => (hA0 0 l (fun z => hl z.2)).trans (upA_o (fun z => absurd z.1 (by decide)))
    have a1' : ∀ l, A' 1 l = A 1 l := fun l => (hA0 1 l (fun z => absurd z.1 (by decide))).trans (upA_o (fun z => absurd z.1 (by decide)))
    have a2' : ∀ l, l ≠ E 7 → A' 2 l = A 2 l := fun l hl => (hA0 2 l (fun z => absurd z.1 (by decide))).trans (upA_o (fun z => hl z.2))
    have a2n : A' 2 (E 7) = q13 := (hA0 2 _ (fun z => absurd z.1 (by decide))).trans upA_n
    have ah : ∀ k l, 3 ≤ k → A' k l = A k l := fun k l hk => (hA0 k l (fun z => by omega)).trans (upA_o (fun z => by omega))
    have ne : ∀ i k, i < 24 → k < 24 → i ≠ k → ¬ A 0 i = A 0 k := fun i k hi hk hd => hN.ne (Us0 hi) (Us0 hk) (fun z => hd z.2)
    have no : ∀ l, l < 24 → l ≠ 6 → l ≠ 16 → ¬ (A 0 l = A 0 6 ∨ A 0 l = A 0 16) := fun l hl x y z => by
      rcases z with z | z
      · exact ne l 6 hl (by decide) x z
      · exact ne l 16 hl (by decide) y z
    have nk : ∀ k l, k = 1 ∧ l < E 5 ∨ k = 2 ∧ l < E 7 → ¬ (A k l = A 0 6 ∨ A k l = A 0 16) := fun k l hk z => by
      have hu : Us S E k l := by rcases hk with r | r; exact Or.inr (Or.inl r); exact Or.inr (Or.inr (Or.inl r))
      rcases z with z | z
      · exact hN.ne hu (Us0 (show 6 < 24 by decide)) (fun y => by omega) z
      · exact hN.ne hu (Us0 (show 16 < 24 by decide)) (fun y => by omega) z
    have z1 := y1.off ho3 (no 2 (by decide) (by decide) (by decide))
    have z3 := y3.off ho3 e5 (fun j hj => nk 1 j (Or.inl ⟨rfl, hj⟩))
    have z4 := y4.off ho3 e7 (fun j hj => nk 2 j (Or.inr ⟨rfl, hj⟩))
    have z5 := y5.off ho3 (no 7 (by decide) (by decide) (by decide)) (no 8 (by decide) (by decide) (by decide)) (no 17 (by decide) (by decide) (by decide)) (no 18 (by decide) (by decide) (by decide))
    have zl := y2.1.off ho3 (no 5 (by decide) (by decide) (by decide)) (Or.inr (no 15 (by decide) (by decide) (by decide))) (Or.inr (by decide))
    have za : capA μ3 (A 0 15) (E 5) = E 6 := (y2.1.cap ho3 (Or.inr (no 15 (by decide) (by decide) (by decide)))).trans y2.2.2.1
    have kq : kd μ3 q13 = 9 := ho3.kd k2
    have X3 : XKx μ3 A' S (eRd S E) tt tp tv tq := by
      rw [eE]
      refine ⟨?_, ⟨?_, ?_, ?_, ?_, e5, by show s0 S 7 ≤ E 7 + 1; omega⟩, ⟨fun j hj => ?_, fun j hj => ?_⟩, ⟨fun i hi => ?_, fun i hi => ?_⟩, ?_⟩
      · unfold XK1 at z1 ⊢
        rw [a0 2 (by decide), a0 5 (by decide), a0 6 (by decide), a0 7 (by decide), a0 8 (by decide)]
        exact z1
      · rw [a0 5 (by decide), a0 15 (by decide), show A' 1 = A 1 from funext a1']
        exact zl
      · rw [a0 6 (by decide), hA16, show A' 2 = va_up (A 2) (E 7) q13 from funext fun l => by
          by_cases e : l = E 7
          · rw [e, a2n]; simp [va_up]
          · rw [a2' l e]; simp [va_up, e]]
        exact hl3
      · rw [a0 15 (by decide)]; exact za
      · rw [hA16]; exact ha3
      · rw [a1' j]; exact z3.1 j hj
      · have := z3.2 j hj
        unfold XF at this ⊢
        rw [a1' j, ah 3 _ (by decide)]
        refine ⟨this.1, this.2.1, this.2.2.1, this.2.2.2.1, fun u hu => ?_⟩
        rw [a1' u, ah 4 _ (by decide)]
        exact this.2.2.2.2 u hu
      · have hi : i < E 7 + 1 := hi
        by_cases e : i = E 7
        · rw [e, a2n]; exact kq
        · rw [a2' i e]; exact z4.1 i (by omega)
      · have := z4.2 i hi
        have hi : i < s0 S 7 := hi
        unfold XR at this ⊢
        rw [a2' i (by omega), a1']
        exact this
      · unfold XK5 at z5 ⊢
        rw [a0 7 (by decide), a0 17 (by decide), a0 8 (by decide), a0 18 (by decide)]
        exact z5
    have e2n : q13 = A' 2 (s0 S 7) := by rw [hn, a2n]
    have hn' : s0 S 7 < eRd S E 7 := by rw [eE]; show s0 S 7 < E 7 + 1; omega
    have h9 : eRd S E 9 = E 9 := by rw [eE]; rfl
    have hOK : Off (fun a => gK (nm a)) μ μ3 := (O2.sub (fun a _ ha => ha.elim)).tr (ho3.sub (fun a ha hb => by
      rcases hb with r | r
      · rw [r, hN 0 6 (Us0 (by decide))]; exact Or.inl ⟨rfl, by show 6 = 2 ∨ _; omega⟩
      · rw [r, hN 0 16 (Us0 (by decide))]; exact Or.inl ⟨rfl, by show 16 = 2 ∨ _; omega⟩))
    have hst : St gK E μ A nm μ3 A' nm' := by
      refine ⟨hOK, fun k l hg => ?_, fun l _ => a1' l, fun l hl => a2' l (by omega), fun l hl => a0 l (by omega), hAn⟩
      by_cases e0 : k = 0
      · subst e0
        by_cases e1 : l = 16
        · subst e1; exact absurd (Or.inl ⟨rfl, by show 16 = 2 ∨ _; omega⟩) hg
        · exact a0 l e1
      · by_cases e1 : k = 1
        · subst e1; exact absurd (Or.inr (Or.inl rfl)) hg
        · by_cases e2 : k = 2
          · subst e2; exact absurd (Or.inr (Or.inr rfl)) hg
          · exact ah k l (by omega)
    have := x_redo56 (c := c - 1 - (c - 1)) (z := z - 7 - (z - 7)) (to := to) (post := post) X3 hN' hn' (by omega) hm (fun i hi => by rw [h9]; exact (h5.2.2.2.2.2.2.2.2 i hi).1) (fun μ' h' ho => hp μ' A' nm' ⟨hN', hL'.km ho.1, by rw [h9] at h'; exact h'.ext⟩ (hst.tr (E1 := eRd S E) (St.of ho) (by rw [eE]; exact Nat.le_refl _) (by rw [eE]; show E 7 ≤ E 7 + 1; omega)))
    rw [a0 2 (by decide), a1', ← e2n] at this
    exact this
