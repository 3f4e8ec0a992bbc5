/-! The state of the document's machine, as numbers.
s0: 0 numbers in the row, 1 procedures, 2 instructions, 3 cells, 4 fields, 5 heap, 6 frames, 7 redo points, 8 the frame at work, 9 its next instruction, 10 steps, 11 greatest size, 12 greatest heap, 13 solutions, 14 stack limit, 15 heap limit, 16 letters, 17 state + 1
s1: of procedures 0 again, 1 slots, 2 ins, 3 how many outs, 4 how many instructions; of instructions 5 kind, 6 how many in its row; of cells 7 tag, 8 how many fields, 9 the first; of frames 10 procedure, 11 where its slots start (at the number of frames: where the next one's would), 12 caller + 1 (0: none), 13 its call's number, 14 redo points at its call; of redo points 15 frames below, 16 frame, 17 instruction, 18 dead, 19 heap, 20 cells, 21 fields; 22 letters
s2: 0 outs of a procedure, 1 the number (of all) of its instruction, 2 the row of an instruction
si: 0 the row; 1 2 3 4 a b c d of an instruction
sv: 0 slots, 1 fields; sw: 0 slots as they were at a redo point -/
abbrev Sp : Type := (Nat → Nat) × (Nat → Nat → Nat) × (Nat → Nat → Nat → Nat) × (Nat → Nat → Int32) × (Nat → Nat → Int64) × (Nat → Nat → Nat → Int64)
def s0 (S : Sp) : Nat → Nat := S.1
def s1 (S : Sp) : Nat → Nat → Nat := S.2.1
def s2 (S : Sp) : Nat → Nat → Nat → Nat := S.2.2.1
def si (S : Sp) : Nat → Nat → Int32 := S.2.2.2.1
def sv (S : Sp) : Nat → Nat → Int64 := S.2.2.2.2.1
def sw (S : Sp) : Nat → Nat → Nat → Int64 := S.2.2.2.2.2
def u0 (S : Sp) (k v : Nat) : Sp := (va_up (s0 S) k v, s1 S, s2 S, si S, sv S, sw S)
def u1 (S : Sp) (k i v : Nat) : Sp := (s0 S, up2 (s1 S) k i v, s2 S, si S, sv S, sw S)
def u2 (S : Sp) (k i j v : Nat) : Sp := (s0 S, s1 S, up3 (s2 S) k i j v, si S, sv S, sw S)
def ui (S : Sp) (k i : Nat) (v : Int32) : Sp := (s0 S, s1 S, s2 S, up2 (si S) k i v, sv S, sw S)
def uv (S : Sp) (k i : Nat) (v : Int64) : Sp := (s0 S, s1 S, s2 S, si S, up2 (sv S) k i v, sw S)
/-- ready, or a solution -/
def live (S : Sp) : Prop := s0 S 17 = 1 ∨ s0 S 17 = 2
/-- the reference holds: the row, -/
def RM1 (σ : MSt) (S : Sp) : Prop := mi σ 2 = nI (s0 S 0) ∧ s0 S 0 ≤ 10 ∧ ∀ i, i < s0 S 0 → ma σ 1 i = si S 0 i
/-- the program, -/
def RM2 (σ : MSt) (S : Sp) : Prop := mi σ 3 = nI (s0 S 1) ∧ s0 S 1 ≤ 60 ∧ mi σ 11 = nI (s0 S 2) ∧ s0 S 2 ≤ 2000 ∧
  (∀ p, p < s0 S 1 → ma σ 4 p = nI (s1 S 0 p) ∧ s1 S 0 p ≤ 1 ∧ ma σ 5 p = nI (s1 S 1 p) ∧ 1 ≤ s1 S 1 p ∧ s1 S 1 p ≤ 40 ∧ ma σ 6 p = nI (s1 S 2 p) ∧ s1 S 2 p ≤ s1 S 1 p ∧ ma σ 7 p = nI (s1 S 3 p) ∧ s1 S 3 p ≤ 8 ∧ s1 S 2 p + s1 S 3 p ≤ 10 ∧ ma σ 9 p = nI (s1 S 4 p) ∧ s1 S 4 p ≤ s0 S 2 ∧ (∀ k, k < s1 S 3 p → ma σ 8 (8 * p + k) = nI (s2 S 0 p k) ∧ s2 S 0 p k < s1 S 1 p) ∧ ∀ i, i < s1 S 4 p → ma σ 10 (2000 * p + i) = nI (s2 S 1 p i) ∧ s2 S 1 p i < s0 S 2) ∧
  ∀ k, k < s0 S 2 → ma σ 12 k = nI (s1 S 5 k) ∧ s1 S 5 k ≤ 15 ∧ ma σ 13 k = si S 1 k ∧ ma σ 14 k = si S 2 k ∧ ma σ 15 k = si S 3 k ∧ ma σ 16 k = si S 4 k ∧ ma σ 17 k = nI (s1 S 6 k) ∧ s1 S 6 k ≤ 10 ∧ ((s1 S 5 k = 2 ∨ s1 S 5 k = 3 ∨ s1 S 5 k = 10) → ∀ j, j < s1 S 6 k → ma σ 18 (10 * k + j) = nI (s2 S 2 k j) ∧ s2 S 2 k j < 40)
/-- the cells, -/
def RM3 (σ : MSt) (S : Sp) : Prop := mi σ 19 = nI (s0 S 3) ∧ s0 S 3 ≤ 20000 ∧ mi σ 24 = nI (s0 S 4) ∧ s0 S 4 ≤ 20000 ∧ mi σ 25 = nI (s0 S 5) ∧ s0 S 5 ≤ 20000 ∧ (∀ c, c < s0 S 3 → ma σ 20 c = nI (s1 S 7 c) ∧ s1 S 7 c < 32 ∧ ma σ 21 c = nI (s1 S 8 c) ∧ s1 S 8 c ≤ 4 ∧ ma σ 22 c = nI (s1 S 9 c) ∧ s1 S 9 c + s1 S 8 c ≤ s0 S 4) ∧ ∀ f, f < s0 S 4 → ml σ 23 f = sv S 1 f
/-- frames and redo points, -/
def RM4 (σ : MSt) (S : Sp) : Prop := FL σ (s0 S 6) (s0 S 7) (s1 S 15) ∧ FD σ (s0 S 6) (s0 S 7) (s1 S 15) (s1 S 10) (s1 S 11) (s1 S 1) ∧ mi σ 47 = nI (s1 S 11 (s0 S 6) + 2 * s0 S 6 + 3 * s0 S 7) ∧ mi σ 40 = nI (s1 S 11 (s0 S 6)) ∧ s1 S 11 0 = 0 ∧
  (∀ j k, j < s0 S 6 → FK (s0 S 7) (s1 S 15) j k → (s1 S 12 j = 0 → ma σ 31 (j + k) = -1) ∧ (∀ u ku, s1 S 12 j = u + 1 → FK (s0 S 7) (s1 S 15) u ku → u < j ∧ ma σ 31 (j + k) = nI (u + ku)) ∧ (s1 S 12 j ≠ 0 → ma σ 32 (j + k) = nI (s1 S 13 j)) ∧ ma σ 33 (j + k) = nI (s1 S 14 j)) ∧
  (∀ i ku, i < s0 S 7 → FK (s0 S 7) (s1 S 15) (s1 S 16 i) ku → s1 S 16 i < s1 S 15 i ∧ ma σ 31 (s1 S 15 i + i) = nI (s1 S 16 i + ku) ∧ ma σ 30 (s1 S 15 i + i) = nI (s1 S 17 i) ∧ ma σ 34 (s1 S 15 i + i) = nI (s1 S 18 i) ∧ ma σ 35 (s1 S 15 i + i) = nI (s1 S 19 i) ∧ ma σ 36 (s1 S 15 i + i) = nI (s1 S 20 i) ∧ ma σ 37 (s1 S 15 i + i) = nI (s1 S 21 i)) ∧
  (live S → s0 S 8 < s0 S 6 ∧ ∀ k, FK (s0 S 7) (s1 S 15) (s0 S 8) k → mi σ 45 = nI (s0 S 8 + k) ∧ ma σ 30 (s0 S 8 + k) = nI (s0 S 9)) ∧ ∀ j, j < s0 S 6 → s1 S 10 j < s0 S 1
/-- slots, and how the trail goes back to each redo point (undo: the trail's entries from the top down to n, over f), -/
def undo (q : Nat → Int32) (w : Nat → Int64) (n : Nat) : Nat → (Nat → Int64) → Nat → Int64
  | 0, f => f
  | d + 1, f => undo q w n d (va_up f (q (n + d)).toNatClampNeg (w (n + d)))
def RM5 (σ : MSt) (S : Sp) (tb : Nat) : Prop := (∀ k, k < s1 S 11 (s0 S 6) → ml σ 39 k = sv S 0 k) ∧ ∃ (tn : Nat) (tt : Nat → Nat), mi σ 41 = nI tn ∧ tn ≤ tb ∧ (∀ n, n < tn → ∃ q, q < 20000 ∧ ma σ 42 n = nI q) ∧ (∀ i j, i < j → j < s0 S 7 → tt i ≤ tt j) ∧ ∀ i, i < s0 S 7 → tt i ≤ tn ∧ ma σ 38 (s1 S 15 i + i) = nI (tt i) ∧ ∀ k, k < s1 S 11 (s1 S 15 i) → undo (ma σ 42) (ml σ 43) (tt i) (tn - tt i) (ml σ 39) k = sw S 0 i k
/-- and the numbers that told() tells, OUT -/
def RM6 (σ : MSt) (S : Sp) : Prop := mi σ 44 + 1 = nI (s0 S 17) ∧ s0 S 17 ≤ 7 ∧ mi σ 46 = nI (s0 S 10) ∧ s0 S 10 ≤ 20000 ∧ mi σ 48 = nI (s0 S 11) ∧ s0 S 11 ≤ 20000 ∧ mi σ 49 = nI (s0 S 12) ∧ s0 S 12 ≤ 20000 ∧ mi σ 50 = nI (s0 S 13) ∧ s0 S 13 ≤ 20000 ∧ mi σ 51 = nI (s0 S 14) ∧ s0 S 14 ≤ 20000 ∧ mi σ 52 = nI (s0 S 15) ∧ s0 S 15 ≤ 20000 ∧ mi σ 54 = nI (s0 S 16) ∧ s0 S 16 ≤ 1000 ∧ ∀ i, i < s0 S 16 → ma σ 53 i = nI (s1 S 22 i)
/-- all of it; tb bounds the trail (8 a step) -/
def RMb (σ : MSt) (S : Sp) (tb : Nat) : Prop := RM1 σ S ∧ RM2 σ S ∧ RM3 σ S ∧ RM4 σ S ∧ RM5 σ S tb ∧ RM6 σ S
def RM (σ : MSt) (S : Sp) : Prop := RMb σ S (8 * s0 S 10)
theorem RM.thr {σ : MSt} {S : Sp} {v : Int32} (h : RM σ S) : RM (smi σ 0 v) S := h
/-- put -/
def sp_put (S : Sp) (n : Int32) : Int32 × Sp := if s0 S 0 = 10 then (0, S) else (1, u0 (ui S 0 (s0 S 0) n) 0 (s0 S 0 + 1))
theorem m_put {σ : MSt} {S : Sp} {a : Int32} {post : Int32 → MSt → Prop} (h : RM σ S) (hp : ∀ σ', RM σ' (sp_put S a).2 → post (sp_put S a).1 σ') : wp_X11_put σ a post := by
  have h0 := h.thr (v := 0)
  obtain ⟨⟨h1, h2, h3⟩, hr⟩ := h0
  intro σ1 e1
  subst e1
  generalize smi σ 0 0 = σ at h1 h3 hr ⊢
  rw [h1]
  refine ⟨fun hq => ?_, fun hq => ?_⟩
  · have e : s0 S 0 = 10 := (nI_eq (by omega) (by decide)).mp hq
    have := hp σ
    rw [sp_put, if_pos e] at this
    exact this ⟨⟨h1, h2, h3⟩, hr⟩
  · have e : ¬ s0 S 0 = 10 := fun q => hq (by rw [q]; rfl)
    refine ⟨vp_in_nI (by omega) (by decide), fun σ2 e2 σ3 e3 => ?_⟩
    rw [nI_clamp (by omega)] at e2
    have := hp σ3
    rw [sp_put, if_neg e] at this
    refine this ⟨⟨?_, ?_, ?_⟩, ?_⟩
    · rw [e3, e2]
      show mi (sma σ 1 (s0 S 0) a) 2 + 1 = nI (s0 S 0 + 1)
      rw [show mi (sma σ 1 (s0 S 0) a) 2 = nI (s0 S 0) from h1, nI_1]
    · show s0 S 0 + 1 ≤ 10; omega
    · intro i hi
      have hi : i < s0 S 0 + 1 := hi
      rw [e3, e2]
      show (if 1 = 1 ∧ i = s0 S 0 then a else ma σ 1 i) = (if 0 = 0 ∧ i = s0 S 0 then a else si S 0 i)
      by_cases q : i = s0 S 0
      · simp [q]
      · simp [q]; exact h3 i (by omega)
    · rw [e3, e2]; exact hr
/-- the row is taken -/
theorem m_taken {σ : MSt} {S : Sp} {post : Int32 → MSt → Prop} (h : RM σ S) (hp : ∀ σ', RM σ' (u0 S 0 0) → (∀ i, i < s0 S 0 → ma σ' 1 i = si S 0 i) → post (nI (s0 S 0)) σ') : wp_X11_taken σ post := by
  obtain ⟨⟨h1, h2, h3⟩, hr⟩ := h
  intro v e σ2 e2
  rw [e, h1]
  refine hp σ2 ?_ ?_
  · rw [e2]; exact ⟨⟨rfl, Nat.zero_le _, fun i hi => absurd hi (Nat.not_lt_zero i)⟩, hr⟩
  · rw [e2]; exact h3
theorem m_letter {σ : MSt} {S : Sp} {a : Int32} {post : Int32 → MSt → Prop} (h : RM σ S) (hp : ∀ σ', RM σ' S → post (if 0 ≤ a ∧ a < nI (s0 S 16) then nI (s1 S 22 a.toNatClampNeg) else -1) σ') : wp_X11_letter σ a post := by
  have h0 := h.thr (v := 0)
  intro σ1 e1
  rw [← e1] at h0
  obtain ⟨-, -, -, -, -, hs⟩ := id h0
  obtain ⟨-, -, -, -, -, -, -, -, -, -, -, -, -, -, g1, g2, g3⟩ := hs
  have hq := hp σ1 h0
  rw [g1]
  refine ⟨fun ha => ?_, fun ha => ?_⟩
  · have : ¬ (0 ≤ a ∧ a < nI (s0 S 16)) := fun q => absurd ha (Int32.not_lt.mpr q.1)
    rw [if_neg this] at hq; exact hq
  · refine ⟨fun hb => ?_, fun hb => ?_⟩
    · have : ¬ (0 ≤ a ∧ a < nI (s0 S 16)) := fun q => absurd q.2 (Int32.not_lt.mpr hb)
      rw [if_neg this] at hq; exact hq
    · have h5 : 0 ≤ a ∧ a < nI (s0 S 16) := ⟨Int32.not_lt.mp ha, Int32.not_le.mp hb⟩
      rw [if_pos h5] at hq
      rcases pk_ix a (n := s0 S 16) (by omega) with q | q | ⟨j, hj, ej⟩
      · exact absurd q ha
      · exact absurd q hb
      · refine ⟨by rw [ej]; exact vp_in_nI (by omega) (by decide), ?_⟩
        subst ej
        rw [nI_clamp (by omega)] at hq ⊢
        rw [g3 j hj]; exact hq
