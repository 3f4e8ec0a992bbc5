/-! values: numbers and cells, as the reference has them -/
def cellV (c : Nat) : Int64 := lN (1099511627776 + c)
def okV (nc : Nat) (v : Int64) : Prop := (∃ x : Int32, v = x.toInt64) ∨ ∃ c, c < nc ∧ v = cellV c
theorem num_lt (x : Int32) : x.toInt64 < 1099511627776 := by
  rw [Int64.lt_iff_toInt_lt, Int32.toInt_toInt64]
  have h := Int32.toInt_lt x
  have z : (1099511627776 : Int64).toInt = 1099511627776 := by decide
  omega
theorem cell_ge {c : Nat} (h : c < 2 ^ 31) : ¬ cellV c < 1099511627776 := by
  intro q
  rw [Int64.lt_iff_toInt_lt, cellV, pk_lT (by omega)] at q
  have z : (1099511627776 : Int64).toInt = 1099511627776 := by decide
  omega
theorem cell_ix {c : Nat} : (cellV c - 1099511627776).toInt32 = nI c := by
  rw [cellV, show (1099511627776 : Int64) = lN 1099511627776 from rfl, lN_sub (by omega), show 1099511627776 + c - 1099511627776 = c by omega, lN_i]
theorem m_isCell {σ : MSt} {v : Int64} {post : Int32 → MSt → Prop} (hy : ¬ v < 1099511627776 → post 1 σ) (hn : v < 1099511627776 → post 0 σ) : wp_X11_isCell σ v post := by
  unfold wp_X11_isCell
  rw [lg_cmp_lt]
  exact ⟨hn, hy⟩
/-- the cell's number; what slot() shows of a value -/
def cix (v : Int64) : Nat := (v - 1099511627776).toInt32.toNatClampNeg
def shownV (S : Sp) (v : Int64) : Int64 := if v < 1099511627776 then v else 1099511627776 + (nI (s1 S 7 (cix v))).toInt64
theorem cix_cell {c : Nat} (h : c < 2 ^ 31) : cix (cellV c) = c := by rw [cix, cell_ix, nI_clamp h]
def hasV (S : Sp) (v : Int64) (t n : Int32) : Prop := ¬ v < 1099511627776 ∧ nI (s1 S 7 (cix v)) = t ∧ (n = -1 ∨ nI (s1 S 8 (cix v)) = n)
theorem m_has {σ : MSt} {S : Sp} {v : Int64} {t n : Int32} {post : Int32 → MSt → Prop} (h : RM3 σ S) (hv : okV (s0 S 3) v) (hy : hasV S v t n → post 1 σ) (hn : ¬ hasV S v t n → post 0 σ) : wp_X11_has σ v t n post := by
  refine m_isCell (fun hc => nz1 ?_) (fun hc => nz0 (hn fun k => k.1 hc))
  rcases hv with ⟨x, rfl⟩ | ⟨c, hcn, rfl⟩
  · exact absurd (num_lt x) hc
  · have hc2 : s0 S 3 ≤ 20000 := h.2.1
    obtain ⟨g1, g2, g3, -⟩ := h.2.2.2.2.2.2.1 c hcn
    intro v3 e3
    rw [cell_ix] at e3
    subst e3
    have ex : cix (cellV c) = c := cix_cell (by omega)
    rw [hasV, ex] at hy hn
    rw [nI_clamp (by omega), g1, g3]
    refine ⟨vp_in_nI (by omega) (by decide), fun ht => ⟨fun hm => hy ⟨hc, ht, Or.inl hm⟩, fun hm => ⟨vp_in_nI (by omega) (by decide), fun h8 => hy ⟨hc, ht, Or.inr h8⟩, fun h8 => hn fun k => ?_⟩⟩, fun ht => hn fun k => ht k.2.1⟩
    rcases k.2.2 with q | q
    · exact hm q
    · exact h8 q
def sp_slot (S : Sp) (k : Int32) : Int64 := if (s0 S 17 = 1 ∨ s0 S 17 = 2) ∧ (0 ≤ k ∧ k ≤ nI (s1 S 1 (s1 S 10 (s0 S 8))) - 1) then shownV S (sv S 0 (s1 S 11 (s0 S 8) + k.toNatClampNeg)) else -1
theorem m_slot20 {σ : MSt} {S : Sp} {tb : Nat} {k : Int32} {post : Int64 → MSt → Prop} (h : RMb σ S tb) (hf : live S) (hv : ∀ m, m < s1 S 11 (s0 S 6) → okV (s0 S 3) (sv S 0 m)) (hy : isSl S (s1 S 10 (s0 S 8)) k → post (shownV S (sv S 0 (s1 S 11 (s0 S 8) + k.toNatClampNeg))) σ) (hn : ¬ isSl S (s1 S 10 (s0 S 8)) k → post (-1) σ) : wp_X11_slot_20 post σ k := by
  obtain ⟨-, h2, h3, h4, h5, -⟩ := id h
  obtain ⟨hw, hwk⟩ := h4.2.2.2.2.2.2.2.1 hf
  obtain ⟨kk, hk⟩ := FK_ex (s0 S 8) (s0 S 7) h4.1.2.2.1
  have hfd := h4.2.1.1 (s0 S 8) kk hw hk
  have hpr : s1 S 10 (s0 S 8) < s0 S 1 := h4.2.2.2.2.2.2.2.2 (s0 S 8) hw
  have hnp : s0 S 1 ≤ 60 := h2.2.1
  obtain ⟨-, -, f3, f4, f5, -⟩ := h2.2.2.2.2.1 _ hpr
  have h7 := h4.1.2.1
  have hkn := hk.1
  unfold wp_X11_slot_20
  rw [(hwk kk hk).1, nI_clamp (by omega), hfd.1, nI_clamp (by omega), f3]
  refine ⟨vp_in_nI (by omega) (by decide), vp_in_nI (by omega) (by decide), m_isWithin (fun q => nz1 ?_) (fun q => nz0 (hn q))⟩
  have hsl : isSl S (s1 S 10 (s0 S 8)) k := q
  rw [show nI (s1 S 1 (s1 S 10 (s0 S 8))) - 1 = nI (s1 S 1 (s1 S 10 (s0 S 8)) - 1) by rw [show (1 : Int32) = nI 1 from rfl, pk_sub f4]] at q
  obtain ⟨a, -, ha, ea⟩ := i32_rng (lo := 0) (hi := s1 S 1 (s1 S 10 (s0 S 8)) - 1) (by decide) (by omega) q.1 q.2
  subst ea
  have hal : a < s1 S 1 (s1 S 10 (s0 S 8)) := by omega
  have hq := hy hsl
  rw [nI_clamp (by omega)] at hq
  refine m_get h hf hal ?_
  have hpl := h4.place hw hk hal
  have hvv := hv _ hpl.2.2.1
  generalize sv S 0 (s1 S 11 (s0 S 8) + a) = v at hq hvv ⊢
  refine m_isCell (fun hc => nz1 ?_) (fun hc => nz0 ?_)
  · rcases hvv with ⟨x, rfl⟩ | ⟨c, hcn, rfl⟩
    · exact absurd (num_lt x) hc
    · have hc2 : s0 S 3 ≤ 20000 := h3.2.1
      rw [cell_ix, nI_clamp (by omega), (h3.2.2.2.2.2.2.1 c hcn).1]
      rw [shownV, if_neg hc, cix_cell (by omega)] at hq
      exact ⟨vp_in_nI (by omega) (by decide), hq⟩
  · rw [shownV, if_pos hc] at hq; exact hq
theorem m_slot {σ : MSt} {S : Sp} {k : Int32} {post : Int64 → MSt → Prop} (h : RM σ S) (hv : ∀ m, m < s1 S 11 (s0 S 6) → okV (s0 S 3) (sv S 0 m)) (hp : ∀ σ', RM σ' S → post (sp_slot S k) σ') : wp_X11_slot σ k post := by
  have h0 := h.thr (v := 0)
  intro σ1 e1
  rw [← e1] at h0
  have hq := hp σ1 h0
  obtain ⟨-, -, -, -, -, h6⟩ := id h0
  have hs := add_sub1 h6.1
  have h7 : s0 S 17 ≤ 7 := h6.2.1
  have st : ∀ m, m ≤ 5 → (mi σ1 44 = nI m ↔ s0 S 17 = m + 1) := by
    intro m hm
    rw [hs]
    rcases Nat.eq_zero_or_pos (s0 S 17) with z | z
    · rw [z]
      constructor
      · intro e
        have : (nI 0 - 1).toInt = (nI m).toInt := congrArg Int32.toInt e
        rw [nI_toInt (by omega)] at this
        have z1 : (nI 0 - 1).toInt = -1 := by decide
        omega
      · intro e; omega
    · rw [show nI (s0 S 17) - 1 = nI (s0 S 17 - 1) by rw [show (1 : Int32) = nI 1 from rfl, pk_sub z], nI_eq (by omega) (by omega)]
      omega
  have run : s0 S 17 = 1 ∨ s0 S 17 = 2 → wp_X11_slot_20 post σ1 k := fun hst => by
    refine m_slot20 h0 hst hv (fun q => ?_) (fun q => ?_)
    · rw [sp_slot, if_pos ⟨hst, q⟩] at hq; exact hq
    · rw [sp_slot, if_neg (fun z => q z.2)] at hq; exact hq
  refine ⟨fun e => run (Or.inl ((st 0 (by omega)).mp e)), fun e0 => ⟨fun e => run (Or.inr ((st 1 (by omega)).mp e)), fun e1 => ?_⟩⟩
  rw [sp_slot, if_neg (fun z => ?_)] at hq
  · exact hq
  · rcases z.1 with q | q
    · exact e0 ((st 0 (by omega)).mpr q)
    · exact e1 ((st 1 (by omega)).mpr q)
