/-! the reference's row of things, cut off at n0 -/
def sp_drop (S : Sp) (nf nr : Nat) : Sp := u0 (u0 S 6 nf) 7 nr
theorem RK_fb {nf nr n0 k0 : Nat} {fb : Nat → Nat} (h : TR nf nr fb) (hn : n0 ≤ nf + nr) (hk : RK nr fb n0 k0) : n0 - k0 ≤ nf ∧ (∀ i, i < k0 → fb i ≤ n0 - k0) ∧ ∀ i, k0 ≤ i → i < nr → n0 - k0 ≤ fb i := by
  obtain ⟨h1, h2, h3⟩ := hk
  refine ⟨?_, fun i hi => ?_, fun i a b => ?_⟩
  · rcases Nat.lt_or_ge k0 nr with q | q
    · have x := h3 k0 (Nat.le_refl _) q
      have y := h.2 k0 q
      omega
    · omega
  · have x := h2 (k0 - 1) (by omega)
    rcases Nat.lt_or_ge i (k0 - 1) with q | q
    · have y := h.1 i (k0 - 1) q (by omega); omega
    · have : i = k0 - 1 := by omega
      subst this; omega
  · have x := h3 k0 (Nat.le_refl _) (by omega)
    rcases Nat.lt_or_ge k0 i with q | q
    · have y := h.1 k0 i q b; omega
    · have : i = k0 := by omega
      subst this; omega
/-- the frame at work, and the rest without it -/
def RMw (σ : MSt) (S : Sp) : Prop := live S → s0 S 8 < s0 S 6 ∧ ∀ k, FK (s0 S 7) (s1 S 15) (s0 S 8) k → mi σ 45 = nI (s0 S 8 + k) ∧ ma σ 30 (s0 S 8 + k) = nI (s0 S 9)
def RM4c (σ : MSt) (S : Sp) : Prop := FL σ (s0 S 6) (s0 S 7) (s1 S 15) ∧ FD σ (s0 S 6) (s0 S 7) (s1 S 15) (s1 S 10) (s1 S 11) (s1 S 1) ∧ mi σ 47 = nI (s1 S 11 (s0 S 6) + 2 * s0 S 6 + 3 * s0 S 7) ∧ mi σ 40 = nI (s1 S 11 (s0 S 6)) ∧ s1 S 11 0 = 0 ∧
  (∀ j k, j < s0 S 6 → FK (s0 S 7) (s1 S 15) j k → (s1 S 12 j = 0 → ma σ 31 (j + k) = -1) ∧ (∀ u ku, s1 S 12 j = u + 1 → FK (s0 S 7) (s1 S 15) u ku → u < j ∧ ma σ 31 (j + k) = nI (u + ku)) ∧ (s1 S 12 j ≠ 0 → ma σ 32 (j + k) = nI (s1 S 13 j)) ∧ ma σ 33 (j + k) = nI (s1 S 14 j)) ∧
  (∀ i ku, i < s0 S 7 → FK (s0 S 7) (s1 S 15) (s1 S 16 i) ku → s1 S 16 i < s1 S 15 i ∧ ma σ 31 (s1 S 15 i + i) = nI (s1 S 16 i + ku) ∧ ma σ 30 (s1 S 15 i + i) = nI (s1 S 17 i) ∧ ma σ 34 (s1 S 15 i + i) = nI (s1 S 18 i) ∧ ma σ 35 (s1 S 15 i + i) = nI (s1 S 19 i) ∧ ma σ 36 (s1 S 15 i + i) = nI (s1 S 20 i) ∧ ma σ 37 (s1 S 15 i + i) = nI (s1 S 21 i)) ∧
  ∀ j, j < s0 S 6 → s1 S 10 j < s0 S 1
def RMc (σ : MSt) (S : Sp) (tb : Nat) : Prop := RM1 σ S ∧ RM2 σ S ∧ RM3 σ S ∧ RM4c σ S ∧ RM5 σ S tb ∧ RM6 σ S
theorem RMb.core {σ : MSt} {S : Sp} {tb : Nat} (h : RMb σ S tb) : RMc σ S tb := by
  obtain ⟨h1, h2, h3, ⟨c1, c2, c3, c4, c5, c6, c7, c8, c9⟩, h5, h6⟩ := h
  exact ⟨h1, h2, h3, ⟨c1, c2, c3, c4, c5, c6, c7, c9⟩, h5, h6⟩
theorem RMb.work {σ : MSt} {S : Sp} {tb : Nat} (h : RMb σ S tb) : RMw σ S := by
  obtain ⟨h1, h2, h3, ⟨c1, c2, c3, c4, c5, c6, c7, c8, c9⟩, h5, h6⟩ := h
  exact c8
theorem RMc.full {σ : MSt} {S : Sp} {tb : Nat} (h : RMc σ S tb) (hw : RMw σ S) : RMb σ S tb := by
  obtain ⟨h1, h2, h3, ⟨c1, c2, c3, c4, c5, c6, c7, c9⟩, h5, h6⟩ := h
  exact ⟨h1, h2, h3, ⟨c1, c2, c3, c4, c5, c6, c7, hw, c9⟩, h5, h6⟩
theorem FK_cut {nf nr n0 k0 : Nat} {fb : Nat → Nat} (h : TR nf nr fb) (hn : n0 ≤ nf + nr) (hk : RK nr fb n0 k0) {j k : Nat} (hj : j < n0 - k0) (hf : FK k0 fb j k) : FK nr fb j k :=
  ⟨Nat.le_trans hf.1 hk.1, hf.2.1, fun i a b => by
      rcases Nat.lt_or_ge i k0 with q | q
      · exact hf.2.2 i a q
      · have := (RK_fb h hn hk).2.2 i q b; omega⟩
theorem RM_dropc {σ : MSt} {S : Sp} {tb n0 k0 : Nat} (h : RMc σ S tb) (hn : n0 ≤ s0 S 6 + s0 S 7) (hk : RK (s0 S 7) (s1 S 15) n0 k0) (hk1 : k0 ≤ n0) :
    RMc (smi3 σ (nI n0) (nI (s1 S 11 (n0 - k0) + 2 * (n0 - k0) + 3 * k0)) (nI (s1 S 11 (n0 - k0)))) (sp_drop S (n0 - k0) k0) tb := by
  obtain ⟨h1, h2, h3, h4, h5, h6⟩ := id h
  obtain ⟨c1, c2, c3, c4, c5, c6, c7, c9⟩ := id h4
  obtain ⟨d0, tn, tt, d1, d2, d3, d4, d5⟩ := id h5
  obtain ⟨x1, x2, x3⟩ := RK_fb c1.2.2.1 hn hk
  have bl : s1 S 11 (n0 - k0) ≤ s1 S 11 (s0 S 6) := base_le (nf := s0 S 6) (pr := s1 S 10) (sl := s1 S 1) (fun i hi => (c2.2.1 i hi).2.2) (s0 S 6 - (n0 - k0)) (n0 - k0) (by omega)
  have hkr := hk.1
  have h7 := c1.2.1
  have cv : ∀ j k, j < n0 - k0 → FK k0 (s1 S 15) j k → FK (s0 S 7) (s1 S 15) j k := fun j k hj hf =>
    ⟨Nat.le_trans hf.1 hkr, hf.2.1, fun i a b => by
      rcases Nat.lt_or_ge i k0 with q | q
      · exact hf.2.2 i a q
      · have := x3 i q b; omega⟩
  refine ⟨h1, h2, h3, ⟨⟨?_, by show n0 - k0 + k0 < 7000; omega, ⟨fun a b hab hb => c1.2.2.1.1 a b hab (Nat.lt_of_lt_of_le hb hkr), x2⟩, fun t ht => ?_⟩, ⟨fun j k hj hf => c2.1 j k (Nat.lt_of_lt_of_le hj x1) (cv j k hj hf), fun j hj => c2.2.1 j (Nat.lt_of_lt_of_le hj x1), ?_⟩, rfl, rfl, c5, fun j k hj hf => ?_, fun i ku hi hf => ?_, fun j hj => c9 j (Nat.lt_of_lt_of_le hj x1)⟩, ⟨fun k hkk => d0 k (Nat.lt_of_lt_of_le hkk bl), tn, tt, d1, d2, d3, fun a b hab hb => d4 a b hab (Nat.lt_of_lt_of_le hb hkr), fun i hi => d5 i (Nat.lt_of_lt_of_le hi hkr)⟩, h6⟩
  · show nI n0 = nI (n0 - k0 + k0); rw [show n0 - k0 + k0 = n0 by omega]
  · have ht : t < n0 - k0 + k0 := ht
    have hq := c1.2.2.2 t (by omega)
    show ma σ 27 t = 0 ↔ ∃ i, i < k0 ∧ t = s1 S 15 i + i
    rw [hq]
    constructor
    · rintro ⟨i, hi, e⟩
      refine ⟨i, ?_, e⟩
      rcases Nat.lt_or_ge i k0 with q | q
      · exact q
      · have := hk.2.2 i q hi; omega
    · rintro ⟨i, hi, e⟩
      exact ⟨i, by omega, e⟩
  · show s1 S 11 (n0 - k0) + 2 * (n0 - k0) + 3 * k0 ≤ 20000
    have := c2.2.2
    omega
  · have hj : j < n0 - k0 := hj
    obtain ⟨a1, a2, a3, a4⟩ := c6 j k (Nat.lt_of_lt_of_le hj x1) (cv j k hj hf)
    refine ⟨a1, fun u ku hu hfu => ?_, a3, a4⟩
    obtain ⟨k9, hk9⟩ := FK_ex u (s0 S 7) c1.2.2.1
    have hlt := (a2 u k9 hu hk9).1
    exact a2 u ku hu (cv u ku (by omega) hfu)
  · have hi : i < k0 := hi
    obtain ⟨k9, hk9⟩ := FK_ex (s1 S 16 i) (s0 S 7) c1.2.2.1
    have hlt := (c7 i k9 (by omega) hk9).1
    have hle := x2 i hi
    exact c7 i ku (by omega) (cv _ ku (by omega) hf)
theorem RM_drop {σ : MSt} {S : Sp} {tb n0 k0 : Nat} (h : RMb σ S tb) (hn : n0 ≤ s0 S 6 + s0 S 7) (hk : RK (s0 S 7) (s1 S 15) n0 k0) (hk1 : k0 ≤ n0) (hw : s0 S 8 < n0 - k0) :
    RMb (smi3 σ (nI n0) (nI (s1 S 11 (n0 - k0) + 2 * (n0 - k0) + 3 * k0)) (nI (s1 S 11 (n0 - k0)))) (sp_drop S (n0 - k0) k0) tb := by
  refine (RM_dropc h.core hn hk hk1).full fun hl => ⟨hw, fun k hf => ?_⟩
  exact (h.work hl).2 k (FK_cut h.core.2.2.2.1.1.2.2.1 hn hk hw hf)
