/-! which instructions are taken: the reference's isRight -/
def isSl (S : Sp) (p : Nat) (x : Int32) : Prop := 0 ≤ x ∧ x ≤ nI (s1 S 1 p) - 1
def inR (x : Int32) (hi : Int32) : Prop := 0 ≤ x ∧ x ≤ hi
def allSl (S : Sp) (p n : Nat) (row : Nat → Int32) : Prop := ∀ i, i < n → 0 ≤ row i ∧ row i ≤ nI (s1 S 1 p) - 1
/-- an instruction of procedure p: kind k with a, b, c, d and a row of n -/
def okI (S : Sp) (p : Nat) (k a b c d : Int32) (n : Nat) (row : Nat → Int32) : Prop :=
  if k = 0 then isSl S p a else if k = 1 then isSl S p a ∧ isSl S p b else if k = 2 then isSl S p a ∧ inR b 31 ∧ ¬ 5 ≤ nI n ∧ allSl S p n row else if k = 3 then isSl S p a ∧ inR b 31 ∧ ¬ 5 ≤ nI n ∧ allSl S p n row else
  if k = 4 then isSl S p a ∧ isSl S p b else if k = 5 then isSl S p a ∧ isSl S p b ∧ isSl S p c ∧ inR d 4 else if k = 6 then isSl S p a ∧ isSl S p b ∧ inR c 5 else if k = 7 then inR a 1999 else if k = 8 then isSl S p a ∧ inR b 31 ∧ inR c 1999 else
  if k = 9 then inR a 1999 else if k = 10 then inR a (nI (s0 S 1) - 1) ∧ nI n = nI (s1 S 2 a.toNatClampNeg) + nI (s1 S 3 a.toNatClampNeg) ∧ allSl S p n row else if k = 11 then isSl S p a else if k = 12 then isSl S p a else if k = 13 then isSl S p a else k = 14 ∨ k = 15
theorem m_isSlot {σ : MSt} {S : Sp} {p : Nat} {x : Int32} {post : Int32 → MSt → Prop} (h : RM2 σ S) (hp : p < s0 S 1) (hy : isSl S p x → post 1 σ) (hn : ¬ isSl S p x → post 0 σ) : wp_X11_isSlot σ (nI p) x post := by
  have h60 : s0 S 1 ≤ 60 := h.2.1
  refine ⟨vp_in_nI (by omega) (by decide), ?_⟩
  rw [nI_clamp (by omega), (h.2.2.2.2.1 p hp).2.2.1]
  exact m_isWithin (fun q => ⟨by decide, hy q⟩) (fun q => ⟨by decide, hn q⟩)
theorem m_isTo {σ : MSt} {x : Int32} {post : Int32 → MSt → Prop} (hy : inR x 1999 → post 1 σ) (hn : ¬ inR x 1999 → post 0 σ) : wp_X11_isTo σ x post :=
  m_isWithin (fun q => ⟨by decide, hy q⟩) (fun q => ⟨by decide, hn q⟩)
theorem nz1 {A B : Prop} (h : B) : ((1 : Int32) = 0 → A) ∧ (¬ (1 : Int32) = 0 → B) := ⟨fun z => absurd z (by decide), fun _ => h⟩
theorem nz0 {A B : Prop} (h : A) : ((0 : Int32) = 0 → A) ∧ (¬ (0 : Int32) = 0 → B) := ⟨fun _ => h, fun z => absurd rfl z⟩
theorem m_right79 {σ : MSt} {S : Sp} {p : Nat} {a b : Int32} {post : Int32 → MSt → Prop} (h : RM2 σ S) (hp : p < s0 S 1) (hy : isSl S p a ∧ isSl S p b → post 1 σ) (hn : ¬ (isSl S p a ∧ isSl S p b) → post 0 σ) : wp_X11_isRight_79 post σ (nI p) a b :=
  m_isSlot h hp (fun qa => nz1 (m_isSlot h hp (fun qb => nz1 (hy ⟨qa, qb⟩)) (fun qb => nz0 (hn fun k => qb k.2)))) (fun qa => nz0 (hn fun k => qa k.1))
theorem m_right104 {σ : MSt} {S : Sp} {p n : Nat} {row : Nat → Int32} {a b : Int32} {post : Int32 → MSt → Prop} (h : RM2 σ S) (hp : p < s0 S 1) (hn10 : n ≤ 10) (hr : ∀ i, i < n → ma σ 1 i = row i) (hy : isSl S p a ∧ inR b 31 ∧ ¬ 5 ≤ nI n ∧ allSl S p n row → post 1 σ) (hn : ¬ (isSl S p a ∧ inR b 31 ∧ ¬ 5 ≤ nI n ∧ allSl S p n row) → post 0 σ) : wp_X11_isRight_104 post σ (nI p) a b (nI n) := by
  have h60 : s0 S 1 ≤ 60 := h.2.1
  refine m_isSlot h hp (fun qa => nz1 ?_) (fun qa => nz0 (hn fun k => qa k.1))
  refine m_isWithin (fun qb => nz1 ?_) (fun qb => nz0 (hn fun k => qb k.2.1))
  refine ⟨fun q5 => hn fun k => k.2.2.1 q5, fun q5 => ⟨vp_in_nI (by omega) (by decide), ?_⟩⟩
  rw [nI_clamp (by omega), (h.2.2.2.2.1 p hp).2.2.1]
  exact m_areSlots hn10 hr (fun qr => nz1 (hy ⟨qa, qb, q5, qr⟩)) (fun qr => nz0 (hn fun k => qr k.2.2.2))
theorem m_isRight {σ : MSt} {S : Sp} {p n : Nat} {row : Nat → Int32} {k a b c d : Int32} {post : Int32 → MSt → Prop} (h : RM2 σ S) (hp : p < s0 S 1) (hn10 : n ≤ 10) (hr : ∀ i, i < n → ma σ 1 i = row i) (hy : okI S p k a b c d n row → post 1 σ) (hn : ¬ okI S p k a b c d n row → post 0 σ) : wp_X11_isRight σ (nI p) k a b c d (nI n) post := by
  have h60 : s0 S 1 ≤ 60 := h.2.1
  refine ⟨fun e => ?_, fun e => ?_, fun e => ?_, fun e => ?_, fun e => ?_, fun e => ?_, fun e => ?_, fun e => ?_, fun e => ?_, fun e => ?_, fun e => ?_, fun e => ?_, fun e => ?_, fun e => ?_, fun e0 e1 e2 e3 e4 e5 e6 e7 e8 e9 e10 e11 e12 e13 => ?_⟩
  · subst e; exact m_isSlot h hp (fun q => ⟨by decide, hy q⟩) (fun q => ⟨by decide, hn q⟩)
  · subst e; exact m_right79 h hp hy hn
  · subst e; exact m_right104 h hp hn10 hr hy hn
  · subst e; exact m_right104 h hp hn10 hr hy hn
  · subst e; exact m_right79 h hp hy hn
  · subst e
    exact m_isSlot h hp (fun qa => nz1 (m_isSlot h hp (fun qb => nz1 (m_isSlot h hp (fun qc => nz1 (m_isWithin (fun qd => nz1 (hy ⟨qa, qb, qc, qd⟩)) (fun qd => nz0 (hn fun k => qd k.2.2.2)))) (fun qc => nz0 (hn fun k => qc k.2.2.1)))) (fun qb => nz0 (hn fun k => qb k.2.1)))) (fun qa => nz0 (hn fun k => qa k.1))
  · subst e
    exact m_isSlot h hp (fun qa => nz1 (m_isSlot h hp (fun qb => nz1 (m_isWithin (fun qd => nz1 (hy ⟨qa, qb, qd⟩)) (fun qd => nz0 (hn fun k => qd k.2.2)))) (fun qb => nz0 (hn fun k => qb k.2.1)))) (fun qa => nz0 (hn fun k => qa k.1))
  · subst e; exact m_isTo (fun q => ⟨by decide, hy q⟩) (fun q => ⟨by decide, hn q⟩)
  · subst e
    exact m_isSlot h hp (fun qa => nz1 (m_isWithin (fun qb => nz1 (m_isTo (fun qd => nz1 (hy ⟨qa, qb, qd⟩)) (fun qd => nz0 (hn fun k => qd k.2.2)))) (fun qb => nz0 (hn fun k => qb k.2.1)))) (fun qa => nz0 (hn fun k => qa k.1))
  · subst e; exact m_isTo (fun q => ⟨by decide, hy q⟩) (fun q => ⟨by decide, hn q⟩)
  · subst e
    rw [h.1]
    refine m_isWithin (fun qa => nz1 ?_) (fun qa => nz0 (hn fun k => qa k.1))
    have h1 : 1 ≤ s0 S 1 := by omega
    rw [show nI (s0 S 1) - 1 = nI (s0 S 1 - 1) by rw [show (1 : Int32) = nI 1 from rfl, pk_sub h1]] at qa
    obtain ⟨j, -, hj, ej⟩ := i32_rng (lo := 0) (hi := s0 S 1 - 1) (by decide) (by omega) qa.1 qa.2
    subst ej
    have hj1 : j < s0 S 1 := by omega
    obtain ⟨-, -, -, -, -, g6, -, g8, -⟩ := h.2.2.2.2.1 j hj1
    have hin : inR (nI j) (nI (s0 S 1) - 1) := by
      rw [show nI (s0 S 1) - 1 = nI (s0 S 1 - 1) by rw [show (1 : Int32) = nI 1 from rfl, pk_sub h1]]; exact qa
    have ejc : (nI j).toNatClampNeg = j := nI_clamp (by omega)
    refine ⟨vp_in_nI (by omega) (by decide), vp_in_nI (by omega) (by decide), ?_⟩
    rw [ejc, g6, g8]
    refine ⟨fun qn => ⟨vp_in_nI (by omega) (by decide), ?_⟩, fun qn => hn fun k => qn (by have := k.2.1; rw [ejc] at this; exact this)⟩
    rw [nI_clamp (by omega), (h.2.2.2.2.1 p hp).2.2.1]
    exact m_areSlots hn10 hr (fun qr => nz1 (hy ⟨hin, by rw [ejc]; exact qn, qr⟩)) (fun qr => nz0 (hn fun k => qr k.2.2))
  · subst e; exact m_isSlot h hp (fun q => ⟨by decide, hy q⟩) (fun q => ⟨by decide, hn q⟩)
  · subst e; exact m_isSlot h hp (fun q => ⟨by decide, hy q⟩) (fun q => ⟨by decide, hn q⟩)
  · subst e; exact m_isSlot h hp (fun q => ⟨by decide, hy q⟩) (fun q => ⟨by decide, hn q⟩)
  · have ee : okI S p k a b c d n row ↔ (k = 14 ∨ k = 15) := by
      rw [okI, if_neg e0, if_neg e1, if_neg e2, if_neg e3, if_neg e4, if_neg e5, if_neg e6, if_neg e7, if_neg e8, if_neg e9, if_neg e10, if_neg e11, if_neg e12, if_neg e13]
    exact ⟨fun q => hy (ee.mpr (Or.inl q)), fun q => ⟨fun q2 => hy (ee.mpr (Or.inr q2)), fun q2 => hn fun k => (ee.mp k).elim q q2⟩⟩
