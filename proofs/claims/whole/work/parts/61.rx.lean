/-! the class's objects, as addresses by role.
A 0: 0 the machine, 1 its engine, 2 stack, 3 heap, 4 text, 5 list of frames, 6 of redo points, 7 row of values, 8 trail, 9 words, 10 pending, 11 open, 12 builder, 13 list of procedures, 14 the row; arrays: 15 of 5, 16 of 6, 17 of 7, 18 of 8, 19 of 9, 20 of 10, 21 of 11, 22 of 12, 23 of 13. A 1 frames, A 2 redo points, A 3 procedures, A 4 instructions, A 5 a procedure's list, A 6 its array, A 7 outs, A 8 an instruction's row.
E: room of 0 values, 1 trail, 2 words, 3 pending, 4 open; 5 frames made, 6 room of their list, 7 redo points made, 8 room of their list, 9 entries of the trail, 10 room of the builder -/
abbrev Ad : Type := Nat → Nat → Nat
def Us (S : Sp) (E : Nat → Nat) (k j : Nat) : Prop := (k = 0 ∧ j < 24) ∨ (k = 1 ∧ j < E 5) ∨ (k = 2 ∧ j < E 7) ∨ ((k = 3 ∨ k = 5 ∨ k = 7) ∧ j < s0 S 1) ∨ ((k = 4 ∨ k = 8) ∧ j < s0 S 2) ∨ (k = 6 ∧ j < s0 S 1 ∧ s1 S 4 j ≠ 0)
/-- each address has its role: no two are one -/
def RN (nm : Nat → Nat × Nat) (A : Ad) (S : Sp) (E : Nat → Nat) : Prop := ∀ k j, Us S E k j → nm (A k j) = (k, j)
theorem RN.ne {nm : Nat → Nat × Nat} {A : Ad} {S : Sp} {E : Nat → Nat} (h : RN nm A S E) {k j k' j' : Nat} (h1 : Us S E k j) (h2 : Us S E k' j') (hd : ¬ (k = k' ∧ j = j')) : ¬ A k j = A k' j' := fun e => by
  have a := h k j h1
  have b := h k' j' h2
  rw [e, b] at a
  cases a
  exact hd ⟨rfl, rfl⟩
theorem Us0 {S : Sp} {E : Nat → Nat} {j : Nat} (h : j < 24) : Us S E 0 j := Or.inl ⟨rfl, h⟩
theorem Us1 {S : Sp} {E : Nat → Nat} {j : Nat} (h : j < E 5) : Us S E 1 j := Or.inr (Or.inl ⟨rfl, h⟩)
theorem Us2 {S : Sp} {E : Nat → Nat} {j : Nat} (h : j < E 7) : Us S E 2 j := Or.inr (Or.inr (Or.inl ⟨rfl, h⟩))
/-- a value as the class has it -/
def plc (S : Sp) (c : Nat) : Nat := if s1 S 8 c = 0 then 0 else hpS S c
def cellX (S : Sp) (c : Nat) : Int64 := lN (1099511627776 + plc S c * 256 + s1 S 8 c * 32 + s1 S 7 c)
def conv (S : Sp) (v : Int64) : Int64 := if v < 1099511627776 then v else cellX S (cix v)
def UC (E : Nat → Nat) : Nat := E 0 + E 1 + E 2 + E 3 + E 4 + E 5 + E 6 + E 7 + E 8 + E 10
def UZ (E : Nat → Nat) : Nat := 2 * E 0 + 2 * E 1 + 2 * E 2 + 2 * E 3 + 2 * E 4 + 7 * E 5 + 4 * E 6 + 7 * E 7 + 4 * E 8 + 2 * E 10
/-- the stack: its own fields, lists, -/
def XK1 (μ : Mem) (A : Ad) (S : Sp) : Prop := kd μ (A 0 2) = 10 ∧ fr μ 9 0 (A 0 2) = some (A 0 5) ∧ fr μ 9 2 (A 0 2) = some (A 0 6) ∧ fr μ 9 4 (A 0 2) = some (A 0 7) ∧ fr μ 9 5 (A 0 2) = some (A 0 8) ∧ fi μ 9 1 (A 0 2) = nI (s0 S 6) ∧ fi μ 9 3 (A 0 2) = nI (s0 S 7) ∧ fi μ 9 6 (A 0 2) = nI (s0 S 14) ∧ fi μ 9 7 (A 0 2) = nI (s0 S 11)
def XK2 (μ : Mem) (A : Ad) (S : Sp) (E : Nat → Nat) : Prop := AL μ (A 0 5) (A 0 15) (E 5) (A 1) 4 ∧ AL μ (A 0 6) (A 0 16) (E 7) (A 2) 9 ∧ capA μ (A 0 15) (E 5) = E 6 ∧ capA μ (A 0 16) (E 7) = E 8 ∧ s0 S 6 ≤ E 5 ∧ s0 S 7 ≤ E 7
/-- frames, -/
def XF (μ : Mem) (A : Ad) (S : Sp) (j : Nat) : Prop := fr μ 3 1 (A 1 j) = some (A 3 (s1 S 10 j)) ∧ fi μ 3 2 (A 1 j) = nI (s1 S 11 j) ∧ fi μ 3 6 (A 1 j) = nI (s1 S 14 j) ∧ (s1 S 12 j = 0 → fr μ 3 3 (A 1 j) = none ∧ fr μ 3 4 (A 1 j) = none) ∧
  ∀ u, s1 S 12 j = u + 1 → fr μ 3 3 (A 1 j) = some (A 1 u) ∧ fr μ 3 4 (A 1 j) = some (A 4 (s2 S 1 (s1 S 10 u) (s1 S 13 j))) ∧ fi μ 3 5 (A 1 j) = nI (s1 S 13 j + 1)
def XK3 (μ : Mem) (A : Ad) (S : Sp) (E : Nat → Nat) : Prop := (∀ j, j < E 5 → kd μ (A 1 j) = 4 ∧ fi μ 3 0 (A 1 j) = nI j) ∧ ∀ j, j < s0 S 6 → XF μ A S j
/-- redo points, -/
def XR (μ : Mem) (A : Ad) (S : Sp) (tt : Nat → Nat) (i : Nat) : Prop := fr μ 8 0 (A 2 i) = some (A 1 (s1 S 16 i)) ∧ fi μ 8 1 (A 2 i) = nI (s1 S 17 i) ∧ fi μ 8 2 (A 2 i) = nI (s1 S 18 i) ∧ fi μ 8 3 (A 2 i) = nI (s1 S 15 i) ∧ fi μ 8 4 (A 2 i) = nI (s1 S 11 (s1 S 15 i)) ∧ fi μ 8 5 (A 2 i) = nI (tt i) ∧ fi μ 8 6 (A 2 i) = nI (s1 S 19 i)
def XK4 (μ : Mem) (A : Ad) (S : Sp) (E tt : Nat → Nat) : Prop := (∀ i, i < E 7 → kd μ (A 2 i) = 9) ∧ ∀ i, i < s0 S 7 → XR μ A S tt i
/-- values and the trail: how it goes back to each redo point -/
def undoX (tp : Nat → Nat) (tv : Nat → Int64) (n : Nat) : Nat → (Nat → Int64) → Nat → Int64
  | 0, f => f
  | d + 1, f => undoX tp tv n d (va_up f (tp (n + d)) (tv (n + d)))
def decT (e : Int64) (p : Nat) (v : Int64) : Prop := p < 20000 ∧ (e &&& 65535).toInt32 = nI p ∧ e >>> (Int32.toInt64 16 &&& 63) = v
def XK5 (μ : Mem) (A : Ad) (S : Sp) (E tt tp : Nat → Nat) (tv tq : Nat → Int64) : Prop := LR μ (A 0 7) (A 0 17) (s1 S 11 (s0 S 6)) (fun k => conv S (sv S 0 k)) ∧ LR μ (A 0 8) (A 0 18) (E 9) tq ∧ al μ (A 0 17) = E 0 ∧ al μ (A 0 18) = E 1 ∧ 32 ≤ E 0 ∧ 32 ≤ E 1 ∧
  (∀ n, n < E 9 → decT (tq n) (tp n) (tv n)) ∧ (∀ i j, i < j → j < s0 S 7 → tt i ≤ tt j) ∧ (∀ i, i < s0 S 7 → tt i ≤ E 9 ∧ ∀ k, k < s1 S 11 (s1 S 15 i) → undoX tp tv (tt i) (E 9 - tt i) (fun k => conv S (sv S 0 k)) k = conv S (sw S 0 i k))
def XK (μ : Mem) (A : Ad) (S : Sp) (E : Nat → Nat) : Prop := XK1 μ A S ∧ XK2 μ A S E ∧ XK3 μ A S E ∧ ∃ tt tp tv tq, XK4 μ A S E tt ∧ XK5 μ A S E tt tp tv tq
/-- the heap -/
def XH (μ : Mem) (A : Ad) (S : Sp) (E : Nat → Nat) : Prop := kd μ (A 0 3) = 5 ∧ fr μ 4 0 (A 0 3) = some (A 0 9) ∧ fr μ 4 1 (A 0 3) = some (A 0 10) ∧ fi μ 4 2 (A 0 3) = nI (s0 S 15) ∧ fi μ 4 3 (A 0 3) = nI (s0 S 12) ∧ al μ (A 0 19) = E 2 ∧ al μ (A 0 20) = E 3 ∧ 32 ≤ E 2 ∧ 32 ≤ E 3 ∧
  (∃ w, LR μ (A 0 9) (A 0 19) (s0 S 5) w ∧ ∀ c k, c < s0 S 3 → k < s1 S 8 c → w (hpS S c + 1 + k) = conv S (sv S 1 (s1 S 9 c + k))) ∧ ∃ n w, LR μ (A 0 10) (A 0 20) n w
/-- the program -/
def XI (μ : Mem) (A : Ad) (S : Sp) (k : Nat) : Prop := kd μ (A 4 k) = 6 ∧ fi μ 5 0 (A 4 k) = nI (s1 S 5 k) ∧ fi μ 5 1 (A 4 k) = si S 1 k ∧ fi μ 5 2 (A 4 k) = si S 2 k ∧ fi μ 5 3 (A 4 k) = si S 3 k ∧ fi μ 5 4 (A 4 k) = si S 4 k ∧ fr μ 5 5 (A 4 k) = some (A 8 k) ∧ kd μ (A 8 k) = 102 ∧ al μ (A 8 k) = s1 S 6 k ∧ ((s1 S 5 k = 2 ∨ s1 S 5 k = 3 ∨ s1 S 5 k = 10) → ∀ j, j < s1 S 6 k → ai μ (A 8 k) j = nI (s2 S 2 k j)) ∧ (s1 S 5 k = 10 → fr μ 5 6 (A 4 k) = some (A 3 (sa S 1 k)))
def XQ (μ : Mem) (A : Ad) (S : Sp) (p : Nat) : Prop := kd μ (A 3 p) = 8 ∧ fi μ 7 0 (A 3 p) = nI (s1 S 0 p) ∧ fi μ 7 1 (A 3 p) = nI (s1 S 1 p) ∧ fi μ 7 2 (A 3 p) = nI (s1 S 2 p) ∧ fr μ 7 3 (A 3 p) = some (A 7 p) ∧ fr μ 7 4 (A 3 p) = some (A 5 p) ∧ kd μ (A 7 p) = 102 ∧ al μ (A 7 p) = s1 S 3 p ∧ (∀ k, k < s1 S 3 p → ai μ (A 7 p) k = nI (s2 S 0 p k)) ∧ AL μ (A 5 p) (A 6 p) (s1 S 4 p) (fun m => A 4 (s2 S 1 p m)) 6
def XP (μ : Mem) (A : Ad) (S : Sp) : Prop := AL μ (A 0 13) (A 0 23) (s0 S 1) (A 3) 8 ∧ (∀ p, p < s0 S 1 → XQ μ A S p) ∧ ∀ k, k < s0 S 2 → XI μ A S k
/-- the groups of roles -/
def gK (q : Nat × Nat) : Prop := (q.1 = 0 ∧ (q.2 = 2 ∨ q.2 = 5 ∨ q.2 = 6 ∨ q.2 = 7 ∨ q.2 = 8 ∨ q.2 = 15 ∨ q.2 = 16 ∨ q.2 = 17 ∨ q.2 = 18)) ∨ q.1 = 1 ∨ q.1 = 2
def gH (q : Nat × Nat) : Prop := q.1 = 0 ∧ (q.2 = 3 ∨ q.2 = 9 ∨ q.2 = 10 ∨ q.2 = 19 ∨ q.2 = 20)
def gP (q : Nat × Nat) : Prop := (q.1 = 0 ∧ (q.2 = 13 ∨ q.2 = 23)) ∨ 3 ≤ q.1
theorem XI.off {D : Nat → Prop} {μ μ' : Mem} {A : Ad} {S : Sp} {k : Nat} (h : XI μ A S k) (hf : Off D μ μ') (h4 : ¬ D (A 4 k)) (h8 : ¬ D (A 8 k)) : XI μ' A S k := by
  obtain ⟨g1, g2, g3, g4, g5, g6, g7, g8, g9, g10, g11⟩ := h
  obtain ⟨a1, a2, -⟩ := hf.2.2 _ (by omega) h4
  obtain ⟨-, -, b3, b4, -⟩ := hf.2.2 (A 8 k) (by omega) h8
  refine ⟨hf.kd g1, ?_, ?_, ?_, ?_, ?_, ?_, hf.kd g8, ?_, fun q j hj => ?_, fun q => ?_⟩
  · rw [a1]; exact g2
  · rw [a1]; exact g3
  · rw [a1]; exact g4
  · rw [a1]; exact g5
  · rw [a1]; exact g6
  · rw [a2]; exact g7
  · rw [b3]; exact g9
  · rw [b4]; exact g10 q j hj
  · rw [a2]; exact g11 q
theorem XQ.off {D : Nat → Prop} {μ μ' : Mem} {A : Ad} {S : Sp} {p : Nat} (h : XQ μ A S p) (hf : Off D μ μ') (h3 : ¬ D (A 3 p)) (h5 : ¬ D (A 5 p)) (h6 : s1 S 4 p = 0 ∨ ¬ D (A 6 p)) (h7 : ¬ D (A 7 p)) : XQ μ' A S p := by
  obtain ⟨g1, g2, g3, g4, g5, g6, g7, g8, g9, g10⟩ := h
  obtain ⟨a1, a2, -⟩ := hf.2.2 (A 3 p) (by omega) h3
  obtain ⟨-, -, b3, b4, -⟩ := hf.2.2 (A 7 p) (by omega) h7
  refine ⟨hf.kd g1, ?_, ?_, ?_, ?_, ?_, hf.kd g7, ?_, fun k hk => ?_, g10.off hf h5 h6 (Or.inr (by decide))⟩
  · rw [a1]; exact g2
  · rw [a1]; exact g3
  · rw [a1]; exact g4
  · rw [a2]; exact g5
  · rw [a2]; exact g6
  · rw [b3]; exact g8
  · rw [b4]; exact g9 k hk
theorem XP.off {D : Nat → Prop} {nm : Nat → Nat × Nat} {μ μ' : Mem} {A : Ad} {S : Sp} {E : Nat → Nat} (h : XP μ A S) (hN : RN nm A S E) (hf : Off D μ μ') (hD : ∀ a, gP (nm a) → ¬ D a) : XP μ' A S := by
  have n0 : ∀ j, j < 24 → nm (A 0 j) = (0, j) := fun j hj => hN 0 j (Us0 hj)
  have np : ∀ k p, (k = 3 ∨ k = 5 ∨ k = 7) → p < s0 S 1 → nm (A k p) = (k, p) := fun k p hk hp => hN k p (Or.inr (Or.inr (Or.inr (Or.inl ⟨hk, hp⟩))))
  have ni : ∀ k p, (k = 4 ∨ k = 8) → p < s0 S 2 → nm (A k p) = (k, p) := fun k p hk hp => hN k p (Or.inr (Or.inr (Or.inr (Or.inr (Or.inl ⟨hk, hp⟩)))))
  refine ⟨h.1.off hf (hD _ ?_) (Or.inr (hD _ ?_)) (Or.inr (by decide)), fun p hp => (h.2.1 p hp).off hf (hD _ ?_) (hD _ ?_) ?_ (hD _ ?_), fun k hk => (h.2.2 k hk).off hf (hD _ ?_) (hD _ ?_)⟩
  · rw [n0 13 (by decide)]; exact Or.inl ⟨rfl, Or.inl rfl⟩
  · rw [n0 23 (by decide)]; exact Or.inl ⟨rfl, Or.inr rfl⟩
  · rw [np 3 p (by omega) hp]; exact Or.inr (by show 3 ≤ 3; omega)
  · rw [np 5 p (by omega) hp]; exact Or.inr (by show 3 ≤ 5; omega)
  · by_cases z : s1 S 4 p = 0
    · exact Or.inl z
    · refine Or.inr (hD _ ?_)
      rw [hN 6 p (Or.inr (Or.inr (Or.inr (Or.inr (Or.inr ⟨rfl, hp, z⟩)))))]; exact Or.inr (by show 3 ≤ 6; omega)
  · rw [np 7 p (by omega) hp]; exact Or.inr (by show 3 ≤ 7; omega)
  · rw [ni 4 k (by omega) hk]; exact Or.inr (by show 3 ≤ 4; omega)
  · rw [ni 8 k (by omega) hk]; exact Or.inr (by show 3 ≤ 8; omega)
theorem XH.off {D : Nat → Prop} {μ μ' : Mem} {A : Ad} {S : Sp} {E : Nat → Nat} (h : XH μ A S E) (hf : Off D μ μ') (hD : ∀ j, j = 3 ∨ j = 9 ∨ j = 10 ∨ j = 19 ∨ j = 20 → ¬ D (A 0 j)) : XH μ' A S E := by
  obtain ⟨g1, g2, g3, g4, g5, g6, g7, g8, g9, ⟨w, l1, l2⟩, n, w', l3⟩ := h
  obtain ⟨a1, a2, -⟩ := hf.2.2 (A 0 3) (by omega) (hD 3 (by omega))
  obtain ⟨-, -, b3, -⟩ := hf.2.2 (A 0 19) (by have := l1.2.2.1; omega) (hD 19 (by omega))
  obtain ⟨-, -, c3, -⟩ := hf.2.2 (A 0 20) (by have := l3.2.2.1; omega) (hD 20 (by omega))
  refine ⟨hf.kd g1, ?_, ?_, ?_, ?_, ?_, ?_, g8, g9, ⟨w, l1.off hf (hD 9 (by omega)) (hD 19 (by omega)), l2⟩, n, w', l3.off hf (hD 10 (by omega)) (hD 20 (by omega))⟩
  · rw [a2]; exact g2
  · rw [a2]; exact g3
  · rw [a1]; exact g4
  · rw [a1]; exact g5
  · rw [b3]; exact g6
  · rw [c3]; exact g7
