/-! what a run leaves -/
def KR (S S' : Sp) : Prop := s0 S' 0 = s0 S 0 ∧ s0 S' 2 = s0 S 2 ∧ s0 S' 16 = s0 S 16 ∧ s0 S' 1 = s0 S 1 ∧ si S' = si S ∧ s1 S' 5 = s1 S 5 ∧ s1 S' 22 = s1 S 22
theorem KR.rf {S : Sp} : KR S S := ⟨rfl, rfl, rfl, rfl, rfl, rfl, rfl⟩
theorem KR.tr {S S1 S2 : Sp} (h : KR S S1) (h' : KR S1 S2) : KR S S2 := ⟨h'.1.trans h.1, h'.2.1.trans h.2.1, h'.2.2.1.trans h.2.2.1, h'.2.2.2.1.trans h.2.2.2.1, h'.2.2.2.2.1.trans h.2.2.2.2.1, h'.2.2.2.2.2.1.trans h.2.2.2.2.2.1, h'.2.2.2.2.2.2.trans h.2.2.2.2.2.2⟩
theorem KR.wr {S : Sp} {f : Nat → Nat} {g : Nat → Sp → Int64} (n : Nat) : KR S (wrL S f g n) := by
  obtain ⟨e0, e1, e2, e3, -⟩ := wrL_e (S := S) (f := f) (g := g) n
  exact ⟨congrFun e0 0, congrFun e0 2, congrFun e0 16, congrFun e0 1, e3, congrFun e1 5, congrFun e1 22⟩
theorem KR.fail : ∀ n (S : Sp), KR S (sp_failS n S) := by
  intro n
  induction n with
  | zero => intro S; exact ⟨rfl, rfl, rfl, rfl, rfl, rfl, rfl⟩
  | succ n ih =>
    intro S
    rw [sp_failS]
    split
    · exact ⟨rfl, rfl, rfl, rfl, rfl, rfl, rfl⟩
    · exact KR.tr (S1 := sp_drop S (s1 S 15 n) n) ⟨rfl, rfl, rfl, rfl, rfl, rfl, rfl⟩ (ih _)
theorem KR.push {S : Sp} {p up at' : Nat} : KR S (sp_pushS S p up at') := by
  refine ⟨rfl, rfl, rfl, rfl, rfl, rfl, ?_⟩
  funext x
  simp [s1, sp_pushS, up2]
theorem KR.do' {S : Sp} {i : Nat} : KR S (sp_do S i) := by
  have r : ∀ k v, k = 17 ∨ k = 9 → KR S (u0 S k v) := fun k v hk => by
    rcases hk with q | q
    · subst q; exact ⟨rfl, rfl, rfl, rfl, rfl, rfl, rfl⟩
    · subst q; exact ⟨rfl, rfl, rfl, rfl, rfl, rfl, rfl⟩
  have hf := KR.fail (s0 S 7) S
  unfold sp_do
  by_cases k0 : s1 S 5 i = 0
  · rw [if_pos k0]; exact ⟨rfl, rfl, rfl, rfl, rfl, rfl, rfl⟩
  rw [if_neg k0]
  by_cases k1 : s1 S 5 i = 1
  · rw [if_pos k1]; exact ⟨rfl, rfl, rfl, rfl, rfl, rfl, rfl⟩
  rw [if_neg k1]
  by_cases k2 : s1 S 5 i = 2
  · rw [if_pos k2]
    have hm : KR S (sp_makeS S i) := by
      unfold sp_makeS
      split
      · refine ⟨rfl, rfl, rfl, rfl, rfl, rfl, ?_⟩
        funext x
        simp [s1, wrS, mkS, up2, uv]
      · exact r 17 6 (Or.inl rfl)
    split
    · exact hm
    · exact hm
  rw [if_neg k2]
  by_cases k3 : s1 S 5 i = 3
  · rw [if_pos k3]
    unfold ifHas
    split
    · exact KR.wr (S := S) _
    · exact hf
  rw [if_neg k3]
  by_cases k4 : s1 S 5 i = 4
  · rw [if_pos k4]
    unfold sp_sameS
    split
    · exact r 17 7 (Or.inl rfl)
    · split
      · exact hf
      · exact ⟨rfl, rfl, rfl, rfl, rfl, rfl, rfl⟩
  rw [if_neg k4]
  by_cases k5 : s1 S 5 i = 5
  · rw [if_pos k5]
    unfold sp_sumS
    split
    · split
      · exact hf
      · exact ⟨rfl, rfl, rfl, rfl, rfl, rfl, rfl⟩
    · exact r 17 7 (Or.inl rfl)
  rw [if_neg k5]
  by_cases k6 : s1 S 5 i = 6
  · rw [if_pos k6]
    unfold sp_relS
    split
    · split
      · exact ⟨rfl, rfl, rfl, rfl, rfl, rfl, rfl⟩
      · exact hf
    · exact r 17 7 (Or.inl rfl)
  rw [if_neg k6]
  by_cases k7 : s1 S 5 i = 7
  · rw [if_pos k7]; exact ⟨rfl, rfl, rfl, rfl, rfl, rfl, rfl⟩
  rw [if_neg k7]
  by_cases k8 : s1 S 5 i = 8
  · rw [if_pos k8]; exact ⟨rfl, rfl, rfl, rfl, rfl, rfl, rfl⟩
  rw [if_neg k8]
  by_cases k9 : s1 S 5 i = 9
  · rw [if_pos k9]
    split
    · refine ⟨rfl, rfl, rfl, rfl, rfl, rfl, ?_⟩
      funext x
      simp [s1, sp_tryS, up2]
    · exact r 17 5 (Or.inl rfl)
  rw [if_neg k9]
  by_cases k10 : s1 S 5 i = 10
  · rw [if_pos k10]
    unfold sp_callS
    split
    · exact KR.push.tr (KR.wr (S := sp_pushS S (sa S 1 i) (s0 S 8 + 1) (s0 S 9)) (f := fun k => s1 S 11 (s0 S 6) + k) (g := fun k T => sv T 0 (s1 S 11 (s0 S 8) + s2 S 2 i k)) (s1 S 2 (sa S 1 i)))
    · exact r 17 5 (Or.inl rfl)
  rw [if_neg k10]
  by_cases k11 : s1 S 5 i = 11
  · rw [if_pos k11]; exact ⟨rfl, rfl, rfl, rfl, rfl, rfl, rfl⟩
  rw [if_neg k11]
  by_cases k12 : s1 S 5 i = 12
  · rw [if_pos k12]
    split
    · exact ⟨rfl, rfl, rfl, rfl, rfl, rfl, rfl⟩
    · exact r 17 7 (Or.inl rfl)
  rw [if_neg k12]
  by_cases k13 : s1 S 5 i = 13
  · rw [if_pos k13]
    split
    · unfold sp_deadS
      split
      · refine ⟨rfl, rfl, rfl, rfl, rfl, rfl, ?_⟩
        funext x
        simp [s1, u1, up2, nxS, u0]
      · exact ⟨rfl, rfl, rfl, rfl, rfl, rfl, rfl⟩
    · exact r 17 7 (Or.inl rfl)
  rw [if_neg k13]
  by_cases k14 : s1 S 5 i = 14
  · rw [if_pos k14]
    have hx : KR S (exS S) := by
      unfold exS
      split
      · exact ⟨rfl, rfl, rfl, rfl, rfl, rfl, rfl⟩
      · exact KR.rf
    show KR S (sp_exit2 (exS S))
    refine hx.tr ?_
    unfold sp_exit2
    split
    · exact ⟨rfl, rfl, rfl, rfl, rfl, rfl, rfl⟩
    · have hT : KR (exS S) (exT (exS S)) := KR.wr (S := exS S) _
      split
      · exact hT
      · exact hT
  rw [if_neg k14]
  exact hf
theorem KR.step {S : Sp} : KR S (sp_stepS S) := by
  unfold sp_stepS
  split
  · exact KR.do'
  · exact KR.fail _ _
theorem KR.runL : ∀ d (S : Sp), KR S (sp_runL d S) := by
  intro d
  induction d with
  | zero => intro S; exact KR.rf
  | succ d ih =>
    intro S
    rw [sp_runL]
    split
    · refine KR.tr ?_ (ih _)
      split
      · exact ⟨rfl, rfl, rfl, rfl, rfl, rfl, rfl⟩
      · exact KR.tr (S1 := u0 S 10 (s0 S 10 + 1)) ⟨rfl, rfl, rfl, rfl, rfl, rfl, rfl⟩ KR.step
    · exact KR.rf
theorem KR.runS {S : Sp} {n : Int32} : KR S (sp_runS S n) := by
  unfold sp_runS
  split
  · exact KR.rf
  · refine KR.tr ?_ (KR.runL _ _)
    split
    · exact KR.tr (S1 := u0 S 17 1) ⟨rfl, rfl, rfl, rfl, rfl, rfl, rfl⟩ (KR.fail _ _)
    · exact KR.rf
theorem exE_o {S : Sp} {E : Nat → Nat} {r : Nat} (h1 : ¬ r = 1) (h9 : ¬ r = 9) : exE S E r = E r := by
  have e : ∀ E1 : Nat → Nat, ∀ T : Sp, eEx T E1 r = E1 r := fun E1 T => by
    unfold eEx
    split
    · rfl
    · exact eWL_o h1 h9 _
  unfold exE
  rw [e]
  split
  · unfold eCut
    split
    · exact if_neg h9
    · rfl
  · rfl
theorem eStep_o {S : Sp} {E tt : Nat → Nat} {r : Nat} (hr : r = 4 ∨ r = 10) : eStep S E tt r = E r := by
  have ef : eFail tt (s0 S 7) S E r = E r := eFail_o (by omega) _ _ _
  unfold eStep
  by_cases hat : s0 S 9 < s1 S 4 (s1 S 10 (s0 S 8))
  rotate_left
  · rw [if_neg hat]; exact ef
  rw [if_pos hat]
  generalize atS S = i
  unfold eDo
  by_cases k0 : s1 S 5 i = 0 ∨ s1 S 5 i = 1 ∨ s1 S 5 i = 11
  · rw [if_pos k0]; exact eWr_o (by omega) (by omega)
  rw [if_neg k0]
  by_cases k2 : s1 S 5 i = 2
  · rw [if_pos k2]
    split
    · refine (eWr_o (by omega) (by omega)).trans ?_
      unfold eMk
      split
      · rfl
      · exact eW_o (by omega) _
    · rfl
  rw [if_neg k2]
  by_cases k3 : s1 S 5 i = 3
  · rw [if_pos k3]
    unfold ifHas
    split
    · exact eWL_o (by omega) (by omega) _
    · exact ef
  rw [if_neg k3]
  have e4r : e4 S E i r = E r := by
    unfold e4
    refine (eCmp_k (by omega) _ _ _ _ _).trans ?_
    exact (if_neg (show ¬ r = 3 by omega)).trans (if_neg (show ¬ r = 3 by omega))
  by_cases k4 : s1 S 5 i = 4
  · rw [if_pos k4]
    split
    · exact (eFail_o (by omega) _ _ _).trans e4r
    · exact e4r
  rw [if_neg k4]
  by_cases k5 : s1 S 5 i = 5
  · rw [if_pos k5]
    split
    · split
      · exact ef
      · exact eWr_o (by omega) (by omega)
    · rfl
  rw [if_neg k5]
  by_cases k6 : s1 S 5 i = 6
  · rw [if_pos k6]
    split
    · split
      · rfl
      · exact ef
    · rfl
  rw [if_neg k6]
  by_cases k9 : s1 S 5 i = 9
  · rw [if_pos k9]
    split
    · unfold eRd
      split
      · rfl
      · exact (if_neg (show ¬ r = 8 by omega)).trans (if_neg (show ¬ r = 7 by omega))
    · rfl
  rw [if_neg k9]
  by_cases k10 : s1 S 5 i = 10
  · rw [if_pos k10]
    split
    · exact ePf_o (by omega) (by omega) (by omega)
    · rfl
  rw [if_neg k10]
  by_cases k12 : s1 S 5 i = 12
  · rw [if_pos k12]
    split
    · unfold eCut
      split
      · exact if_neg (show ¬ r = 9 by omega)
      · rfl
    · rfl
  rw [if_neg k12]
  by_cases k14 : s1 S 5 i = 14
  · rw [if_pos k14]; exact exE_o (by omega) (by omega)
  rw [if_neg k14]
  split
  · rfl
  · exact ef
theorem eRunL_o {r : Nat} (hr : r = 4 ∨ r = 10) : ∀ d (S : Sp) (E tt : Nat → Nat), (eRunL d S E tt).1 r = E r := by
  intro d
  induction d with
  | zero => intro S E tt; rfl
  | succ d ih =>
    intro S E tt
    rw [eRunL]
    split
    · rw [ih]
      split
      · rfl
      · exact eStep_o hr
    · rfl
theorem eRunS_o {r : Nat} (hr : r = 4 ∨ r = 10) {S : Sp} {E tt : Nat → Nat} {n : Int32} : (eRunS S E tt n).1 r = E r := by
  unfold eRunS
  split
  · rfl
  · rw [eRunL_o hr]
    split
    · exact eFail_o (by omega) _ _ _
    · rfl
