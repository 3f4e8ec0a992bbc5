/-! the reference drops what lies above both the frame at work and the last redo point -/
def keepF (S : Sp) : Nat := if s0 S 7 = 0 then s0 S 8 + 1 else if s0 S 8 + 1 < s1 S 15 (s0 S 7 - 1) then s1 S 15 (s0 S 7 - 1) else s0 S 8 + 1
theorem m_dropAbove {σ : MSt} {S : Sp} {tb : Nat} {post : MSt → Prop} (h : RMb σ S tb) (hf : live S) (hp : ∀ σ', RMb σ' (sp_drop S (keepF S) (s0 S 7)) tb → post σ') : wp_X11_dropAbove σ post := by
  obtain ⟨h1, h2, h3, h4, h5, h6⟩ := id h
  obtain ⟨c1, c2, c3, c4, c5, c6, c7, c8, c9⟩ := id h4
  obtain ⟨hw, hwk⟩ := c8 hf
  obtain ⟨kw, hkw⟩ := FK_ex (s0 S 8) (s0 S 7) c1.2.2.1
  obtain ⟨hw45, -⟩ := hwk kw hkw
  have hkn := hkw.1
  have h7 := c1.2.1
  have go : ∀ n0, n0 ≤ s0 S 6 + s0 S 7 → RK (s0 S 7) (s1 S 15) n0 (s0 S 7) → n0 = keepF S + s0 S 7 → s0 S 8 < keepF S → wp_X11_dropFrom σ (nI n0) (fun σ3 => post σ3) := by
    intro n0 hn hk he hlt
    have e : n0 - s0 S 7 = keepF S := by omega
    refine m_dropFrom c1 c2 c3 c4 hn hk (by omega) ?_
    have := RM_drop h hn hk (by omega) (by omega)
    rw [e] at this ⊢
    exact hp _ this
  refine m_lastRedo c1 (fun hz => ?_) (fun k hk => ?_)
  · have kz : kw = 0 := by omega
    subst kz
    rw [hw45]
    refine ⟨fun hq => absurd hq ?_, fun _ => ?_⟩
    · intro q
      have m := Int32.le_iff_toInt_le.mp q
      rw [nI_toInt (by omega)] at m
      have z : (-1 : Int32).toInt = -1 := by decide
      omega
    · rw [show (1 : Int32) = nI 1 from rfl, nI_add]
      have ek : keepF S = s0 S 8 + 1 := by rw [keepF, if_pos hz]
      refine go (1 + (s0 S 8 + 0)) (by omega) ⟨Nat.le_refl _, fun i hi => absurd hi (by omega), fun i a b => absurd b (by omega)⟩ (by omega) (by omega)
  · have hfk := c1.2.2.1.2 k (by omega)
    have mono : ∀ i, i < s0 S 7 → s1 S 15 i ≤ s1 S 15 k := fun i hi => by
      rcases Nat.lt_or_ge i k with q | q
      · exact c1.2.2.1.1 i k q (by omega)
      · rw [show i = k by omega]; exact Nat.le_refl _
    have e1 : s0 S 7 - 1 = k := by omega
    rw [hw45]
    refine ⟨fun hq => ?_, fun hq => ?_⟩
    · have hle : s0 S 8 + kw ≤ s1 S 15 k + k := by
        rcases Nat.lt_or_ge (s1 S 15 k + k) (s0 S 8 + kw) with q | q
        · exact absurd hq (nI_ge q (by omega))
        · exact q
      have hlt : s0 S 8 < s1 S 15 k := by
        rcases Nat.lt_or_ge kw (s0 S 7) with q | q
        · have := hkw.2.2 k (by omega) (by omega); omega
        · omega
      rw [show (1 : Int32) = nI 1 from rfl, nI_add]
      have ek : keepF S = s1 S 15 k := by
        rw [keepF, if_neg (by omega), e1]
        split <;> omega
      refine go (1 + (s1 S 15 k + k)) (by omega) ⟨Nat.le_refl _, fun i hi => by have := mono i hi; omega, fun i a b => absurd b (by omega)⟩ (by omega) (by omega)
    · have hgt : s1 S 15 k + k < s0 S 8 + kw := by
        rcases Nat.lt_or_ge (s1 S 15 k + k) (s0 S 8 + kw) with q | q
        · exact q
        · exact absurd (nI_le q (by omega)) hq
      have hge : s1 S 15 k ≤ s0 S 8 := by
        rcases Nat.lt_or_ge k kw with q | q
        · exact hkw.2.1 k q
        · have := hkw.2.2 k q (by omega); omega
      have ekw : kw = s0 S 7 := by
        rcases Nat.lt_or_ge kw (s0 S 7) with q | q
        · have := hkw.2.2 k (by omega) (by omega); omega
        · omega
      rw [show (1 : Int32) = nI 1 from rfl, nI_add]
      have ek : keepF S = s0 S 8 + 1 := by
        rw [keepF, if_neg (by omega), e1, if_neg (by omega)]
      refine go (1 + (s0 S 8 + kw)) (by omega) ⟨Nat.le_refl _, fun i hi => by have := mono i hi; omega, fun i a b => absurd b (by omega)⟩ (by omega) (by omega)
