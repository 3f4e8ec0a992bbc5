/-! the reference runs -/
theorem fail10 : ∀ n (S : Sp), s0 (sp_failS n S) 10 = s0 S 10 := by
  intro n
  induction n with
  | zero => intro S; rfl
  | succ n ih =>
    intro S
    rw [sp_failS]
    split
    · rfl
    · rw [ih]; rfl
theorem exit10 {S : Sp} : s0 (sp_exit2 S) 10 = s0 S 10 := by
  unfold sp_exit2
  split
  · rfl
  · have e : s0 (exT S) 10 = s0 S 10 := congrFun (wrL_e _).1 10
    split
    · exact e
    · exact e
theorem do10 {S : Sp} {i : Nat} : s0 (sp_do S i) 10 = s0 S 10 := by
  unfold sp_do
  by_cases e : s1 S 5 i = 0
  · rw [if_pos e]
    rfl
  rw [if_neg e]
  clear e
  by_cases e : s1 S 5 i = 1
  · rw [if_pos e]
    rfl
  rw [if_neg e]
  clear e
  by_cases e : s1 S 5 i = 2
  · rw [if_pos e]
    have e : s0 (sp_makeS S i) 10 = s0 S 10 := by
      unfold sp_makeS
      split <;> rfl
    split
    · exact e
    · exact e
  rw [if_neg e]
  clear e
  by_cases e : s1 S 5 i = 3
  · rw [if_pos e]
    unfold ifHas
    split
    · exact congrFun (wrL_e _).1 10
    · exact fail10 _ _
  rw [if_neg e]
  clear e
  by_cases e : s1 S 5 i = 4
  · rw [if_pos e]
    unfold sp_sameS
    split
    · rfl
    · split
      · exact fail10 _ _
      · rfl
  rw [if_neg e]
  clear e
  by_cases e : s1 S 5 i = 5
  · rw [if_pos e]
    unfold sp_sumS
    split
    · split
      · exact fail10 _ _
      · rfl
    · rfl
  rw [if_neg e]
  clear e
  by_cases e : s1 S 5 i = 6
  · rw [if_pos e]
    unfold sp_relS
    split
    · split
      · rfl
      · exact fail10 _ _
    · rfl
  rw [if_neg e]
  clear e
  by_cases e : s1 S 5 i = 7
  · rw [if_pos e]
    rfl
  rw [if_neg e]
  clear e
  by_cases e : s1 S 5 i = 8
  · rw [if_pos e]
    rfl
  rw [if_neg e]
  clear e
  by_cases e : s1 S 5 i = 9
  · rw [if_pos e]
    split <;> rfl
  rw [if_neg e]
  clear e
  by_cases e : s1 S 5 i = 10
  · rw [if_pos e]
    unfold sp_callS
    split
    · exact congrFun (wrL_e (S := sp_pushS S (sa S 1 i) (s0 S 8 + 1) (s0 S 9)) _).1 10
    · rfl
  rw [if_neg e]
  clear e
  by_cases e : s1 S 5 i = 11
  · rw [if_pos e]
    rfl
  rw [if_neg e]
  clear e
  by_cases e : s1 S 5 i = 12
  · rw [if_pos e]
    split <;> rfl
  rw [if_neg e]
  clear e
  by_cases e : s1 S 5 i = 13
  · rw [if_pos e]
    split
    · unfold sp_deadS
      split <;> rfl
    · rfl
  rw [if_neg e]
  clear e
  by_cases e : s1 S 5 i = 14
  · rw [if_pos e]
    unfold sp_exitS
    rw [exit10]
    split <;> rfl
  rw [if_neg e]
  exact fail10 _ _
theorem step10 {S : Sp} : s0 (sp_stepS S) 10 = s0 S 10 := by
  unfold sp_stepS
  split
  · exact do10
  · exact fail10 _ _
def sp_runL : Nat → Sp → Sp
  | 0, S => S
  | d + 1, S => if s0 S 17 = 1 then sp_runL d (if s0 S 10 = 20000 then u0 S 17 4 else sp_stepS (u0 S 10 (s0 S 10 + 1))) else S
def sp_runS (S : Sp) (n : Int32) : Sp := if n < 1 ∨ ¬ (s0 S 17 = 1 ∨ s0 S 17 = 2) then S else sp_runL n.toNatClampNeg (if s0 S 17 = 2 then sp_failS (s0 S 7) (u0 S 17 1) else S)
theorem st_eq {σ : MSt} {S : Sp} (h6 : RM6 σ S) {m : Nat} (hm : m ≤ 5) : mi σ 44 = nI m ↔ s0 S 17 = m + 1 := by
  have hs := add_sub1 h6.1
  have h7 : s0 S 17 ≤ 7 := h6.2.1
  rw [hs]
  rcases Nat.eq_zero_or_pos (s0 S 17) with z | z
  · rw [z]
    constructor
    · intro e
      have : (nI 0 - 1).toInt = (nI m).toInt := congrArg Int32.toInt e
      rw [nI_toInt (by omega)] at this
      have z1 : (nI 0 - 1).toInt = -1 := by decide
      omega
    · intro e; omega
  · rw [show nI (s0 S 17) - 1 = nI (s0 S 17 - 1) by rw [show (1 : Int32) = nI 1 from rfl, pk_sub z], nI_eq (by omega) (by omega)]
    omega
theorem m_runL {N : Nat} {post : Int32 → MSt → Prop} (hN : N < 2 ^ 31) : ∀ d k σ S, k + d = N → RM σ S → WF S → (∀ σ', RM σ' (sp_runL d S) → WF (sp_runL d S) → post (nI (s0 (sp_runL d S) 17) - 1) σ') → wp_X11_run_49 post (d + 1) σ (nI N) (nI k) := by
  intro d
  induction d with
  | zero =>
    intro k σ S hk h hW hp
    have e : k = N := by omega
    subst e
    rw [wp_X11_run_49]
    refine ⟨fun _ => ?_, fun z => absurd (nI_le (Nat.le_refl _) hN) z⟩
    rw [add_sub1 h.2.2.2.2.2.1]
    exact hp σ h hW
  | succ d ih =>
    intro k σ S hk h hW hp
    rw [wp_X11_run_49]
    refine ⟨fun z => absurd z (nI_ge (by omega) hN), fun _ => ⟨fun hz => ?_, fun hz => ?_⟩⟩
    · have hst : s0 S 17 = 1 := (st_eq h.2.2.2.2.2 (m := 0) (by omega)).mp hz
      rw [sp_runL, if_pos hst] at hp
      have g4 : s0 S 10 ≤ 20000 := h.2.2.2.2.2.2.2.2.1
      rw [h.2.2.2.2.2.2.2.1]
      refine ⟨fun hf σ4 e4 v5 e5 => ?_, fun hf => ?_⟩
      · have ef : s0 S 10 = 20000 := (nI_eq (by omega) (by decide)).mp hf
        rw [if_pos ef] at hp
        rw [e5, nI_1]
        refine ih (k + 1) σ4 _ (by omega) ?_ (hW.stop (by decide)) hp
        rw [e4]
        exact RM_end (S := S) h rfl (by decide) (by decide)
      · have ef : ¬ s0 S 10 = 20000 := fun q => hf (by rw [q]; rfl)
        rw [if_neg ef] at hp
        refine m_step h hW hst (by omega) (by omega) (fun σ2 h2 v3 e3 => ?_)
        rw [e3, nI_1]
        refine ih (k + 1) σ2 _ (by omega) ?_ (hW.step hst (by omega) hW.row) hp
        show RMb σ2 _ (8 * s0 (sp_stepS (u0 S 10 (s0 S 10 + 1))) 10)
        rw [step10]
        exact h2
    · have hst : ¬ s0 S 17 = 1 := fun q => hz ((st_eq h.2.2.2.2.2 (m := 0) (by omega)).mpr q)
      rw [sp_runL, if_neg hst] at hp
      rw [add_sub1 h.2.2.2.2.2.1]
      exact hp σ h hW
theorem m_run {σ : MSt} {S : Sp} {n : Int32} {post : Int32 → MSt → Prop} (h : RM σ S) (hW : WF S) (hp : ∀ σ', RM σ' (sp_runS S n) → WF (sp_runS S n) → post (nI (s0 (sp_runS S n) 17) - 1) σ') : wp_X11_run σ n post := by
  have h0 := h.thr (v := 0)
  intro σ1 e1
  rw [← e1] at h0
  have g4 : s0 S 10 ≤ 20000 := h0.2.2.2.2.2.2.2.2.1
  have q1 := st_eq h0.2.2.2.2.2 (m := 0) (by omega)
  have q2 := st_eq h0.2.2.2.2.2 (m := 1) (by omega)
  have no : (n < 1 ∨ ¬ (s0 S 17 = 1 ∨ s0 S 17 = 2)) → post (mi σ1 44) σ1 := fun z => by
    rw [sp_runS, if_pos z] at hp
    rw [add_sub1 h0.2.2.2.2.2.1]
    exact hp σ1 h0 hW
  refine ⟨fun hn => no (Or.inl hn), fun hn => ?_⟩
  obtain ⟨N, hN, eN⟩ : ∃ N, N < 2 ^ 31 ∧ n = nI N := nI_of (fun q => hn (by
    rw [Int32.lt_iff_toInt_lt] at q ⊢
    have a : (0 : Int32).toInt = 0 := by decide
    have b : (1 : Int32).toInt = 1 := by decide
    omega))
  subst eN
  have fl : s0 S 17 = 2 → ∀ σ7 : MSt, σ7 = smi σ1 44 0 → wp_X11_fail σ7 (fun σ8 => ∃ n9, wp_X11_run_49 post n9 σ8 (nI N) 0) := by
    intro hst σ7 e7
    rw [sp_runS, if_neg (by rintro (z | z); exact hn z; exact z (Or.inr hst)), if_pos hst, nI_clamp hN] at hp
    have hW1 : WF (u0 S 17 1) := by
      obtain ⟨P, C, ⟨B1, B2, B3, B4⟩, T⟩ := hW
      exact ⟨P, C, ⟨B1, B2, fun _ => B3 (Or.inr hst), B4⟩, T⟩
    refine m_fail (S := u0 S 17 1) (tb := 8 * s0 S 10) ?_ hW1.wr (by omega) (fun σ8 h8 => ⟨_, m_runL hN N 0 σ8 _ (by omega) ?_ hW1.fail hp⟩)
    · rw [e7]
      obtain ⟨h1, h2, h3, h4, h5, h6⟩ := RMb.core h0
      exact ⟨h1, h2, h3, h4, h5, rfl, by show 1 ≤ 7; omega, h6.2.2⟩
    · show RMb σ8 _ (8 * s0 (sp_failS (s0 (u0 S 17 1) 7) (u0 S 17 1)) 10)
      rw [fail10]; exact h8
  refine ⟨fun hz => ⟨fun hz2 => ?_, fun _ => ?_⟩, fun hz => ⟨fun hz2 => ⟨fun _ => fl (q2.mp hz2), fun z => absurd hz2 z⟩, fun hz2 => no (Or.inr (by rintro (z | z); exact hz (q1.mpr z); exact hz2 (q2.mpr z)))⟩⟩
  · exact fl (q2.mp hz2)
  · have hst := q1.mp hz
    rw [sp_runS, if_neg (by rintro (z | z); exact hn z; exact z (Or.inl hst)), if_neg (by omega), nI_clamp hN] at hp
    exact ⟨_, m_runL hN N 0 σ1 S (by omega) h0 hW hp⟩
