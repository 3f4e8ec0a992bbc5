/-! which instructions the class takes -/
/-- what the class knows of a procedure -/
def AP (μ : Mem) (S : Sp) (p o : Nat) : Prop := kd μ o = 8 ∧ fi μ 7 1 o = nI (s1 S 1 p) ∧ 1 ≤ s1 S 1 p ∧ s1 S 1 p ≤ 40 ∧ s0 S 1 ≤ 60
theorem isSl_lt {S : Sp} {p : Nat} {x : Int32} (h1 : 1 ≤ s1 S 1 p) (h2 : s1 S 1 p ≤ 40) : isSl S p x ↔ 0 ≤ x ∧ x < nI (s1 S 1 p) := by
  unfold isSl
  rw [lt_sub1 (show (1 : Int32) ≤ nI (s1 S 1 p) from nI_le (a := 1) h1 (by omega))]
theorem inR_lt2 {b : Int32} {x : Int32} (h1 : 1 ≤ b) : inR x (b - 1) ↔ 0 ≤ x ∧ x < b := by
  unfold inR
  rw [lt_sub1 h1]
theorem x_hasSlot {μ : Mem} {S : Sp} {p o : Nat} {x : Int32} {post : Int32 → Mem → Prop} (h : AP μ S p o) (hy : isSl S p x → post 1 μ) (hn : ¬ isSl S p x → post 0 μ) : wp_X5_hasSlot μ o x post := by
  obtain ⟨h1, h2, h3, h4, -⟩ := h
  refine ⟨h1, ?_⟩
  rw [h2]
  exact x_within (fun y0 y1 _ => ⟨by decide, hy ((isSl_lt h3 h4).mpr ⟨y0, y1⟩)⟩) (fun y _ => ⟨by decide, hn fun z => y ((isSl_lt h3 h4).mp z)⟩)
theorem x_upto {μ : Mem} {b x : Int32} {post : Int32 → Mem → Prop} (h1 : 1 ≤ b) (hy : inR x (b - 1) → post 1 μ) (hn : ¬ inR x (b - 1) → post 0 μ) : wp_X10_within μ x b post :=
  x_within (fun y0 y1 => hy ((inR_lt2 h1).mpr ⟨y0, y1⟩)) (fun y => hn fun z => y ((inR_lt2 h1).mp z))
theorem x_ad93 {μ : Mem} {S : Sp} {p o x : Nat} {a b : Int32} {post : Int32 → Mem → Prop} (h : AP μ S p o) (ki : kd μ x = 6) (f1 : fi μ 5 1 x = a) (f2 : fi μ 5 2 x = b) (hy : isSl S p a ∧ isSl S p b → post 1 μ) (hn : ¬ (isSl S p a ∧ isSl S p b) → post 0 μ) : wp_X5_admits_93 o post μ x := by
  refine ⟨ki, h.1, ?_⟩
  rw [f1]
  refine x_hasSlot h (fun qa _ => nz1 ?_) (fun qa _ => nz0 (hn fun k => qa k.1))
  rw [f2]
  exact x_hasSlot h (fun qb _ => nz1 (hy ⟨qa, qb⟩)) (fun qb _ => nz0 (hn fun k => qb k.2))
theorem x_ad121 {μ : Mem} {S : Sp} {p o x q n : Nat} {a b : Int32} {row : Nat → Int32} {post : Int32 → Mem → Prop} (h : AP μ S p o) (ki : kd μ x = 6) (f1 : fi μ 5 1 x = a) (f2 : fi μ 5 2 x = b) (f5 : fr μ 5 5 x = some q) (kq : kd μ q = 102) (lq : al μ q = n) (n10 : n ≤ 10) (rq : ∀ i, i < n → ai μ q i = row i)
    (hy : isSl S p a ∧ inR b 31 ∧ ¬ 5 ≤ nI n ∧ allSl S p n row → post 1 μ) (hn : ¬ (isSl S p a ∧ inR b 31 ∧ ¬ 5 ≤ nI n ∧ allSl S p n row) → post 0 μ) : wp_X5_admits_121 o post μ x := by
  have i4 : ∀ x : Int32, 4 < x ↔ 5 ≤ x := fun x => by
    rw [Int32.le_iff_toInt_le, Int32.lt_iff_toInt_lt, show (4 : Int32).toInt = 4 by decide, show (5 : Int32).toInt = 5 by decide]; omega
  refine ⟨ki, h.1, ?_⟩
  rw [f1]
  refine x_hasSlot h (fun qa _ => nz1 ?_) (fun qa _ => nz0 (hn fun k => qa k.1))
  rw [f2]
  refine x_upto (b := 32) (by decide) (fun qb _ => nz1 ⟨q, f5, Or.inr (Or.inl kq), ?_⟩) (fun qb _ => nz0 (hn fun k => qb k.2.1))
  rw [lq]
  refine ⟨fun z => hn fun k => k.2.2.1 ((i4 _).mp z), fun z => ⟨q, f5, ?_⟩⟩
  rw [h.2.1]
  refine x_allW kq lq n10 rq (fun y _ => nz1 (hy ⟨qa, qb, fun k => z ((i4 _).mpr k), fun i hi => (isSl_lt h.2.2.1 h.2.2.2.1).mpr (y i hi)⟩)) (fun y _ => nz0 (hn fun k => y fun i hi => (isSl_lt h.2.2.1 h.2.2.2.1).mp (k.2.2.2 i hi)))
theorem x_adCall {μ : Mem} {A : Ad} {S : Sp} {p o x q n : Nat} {a : Int32} {row : Nat → Int32} {post : Int32 → Mem → Prop} (h : AP μ S p o) (ki : kd μ x = 6) (f5 : fr μ 5 5 x = some q) (kq : kd μ q = 102) (lq : al μ q = n) (n10 : n ≤ 10) (rq : ∀ i, i < n → ai μ q i = row i)
    (cy : ∀ j, j < s0 S 1 → a = nI j → fr μ 5 6 x = some (A 3 j) ∧ kd μ (A 3 j) = 8 ∧ fi μ 7 2 (A 3 j) = nI (s1 S 2 j) ∧ fr μ 7 3 (A 3 j) = some (A 7 j) ∧ kd μ (A 7 j) = 102 ∧ al μ (A 7 j) = s1 S 3 j) (cn : ¬ inR a (nI (s0 S 1) - 1) → fr μ 5 6 x = none)
    (hy : inR a (nI (s0 S 1) - 1) ∧ nI n = nI (s1 S 2 a.toNatClampNeg) + nI (s1 S 3 a.toNatClampNeg) ∧ allSl S p n row → post 1 μ) (hn : ¬ (inR a (nI (s0 S 1) - 1) ∧ nI n = nI (s1 S 2 a.toNatClampNeg) + nI (s1 S 3 a.toNatClampNeg) ∧ allSl S p n row) → post 0 μ) : wp_X5_admitsCall μ o x post := by
  refine ⟨ki, fun r2 e2 => ?_⟩
  subst e2
  have n60 := h.2.2.2.2
  by_cases hin : inR a (nI (s0 S 1) - 1)
  · obtain ⟨j, hj, ej⟩ := inR_ex (n := s0 S 1) (by omega) hin
    obtain ⟨c1, c2, c3, c4, c5, c6⟩ := cy j hj ej
    have ejc : a.toNatClampNeg = j := by rw [ej, nI_clamp (by omega)]
    rw [c1]
    refine ⟨fun z => absurd z (by simp), fun x3 e3 => ?_⟩
    cases e3
    refine ⟨q, f5, Or.inr (Or.inl kq), c2, A 7 j, c4, Or.inr (Or.inl c5), ?_⟩
    rw [lq, c3, c6, h.2.1]
    rw [ejc] at hy hn
    refine ⟨fun z => ⟨q, f5, h.1, ?_⟩, fun z => hn fun k => z k.2.1⟩
    refine x_allW kq lq n10 rq (fun y _ => nz1 (hy ⟨hin, z, fun i hi => (isSl_lt h.2.2.1 h.2.2.2.1).mpr (y i hi)⟩)) (fun y _ => nz0 (hn fun k => y fun i hi => (isSl_lt h.2.2.1 h.2.2.2.1).mp (k.2.2 i hi)))
  · rw [cn hin]
    exact ⟨fun _ => hn fun k => hin k.1, fun x3 e3 => absurd e3 (by simp)⟩
theorem x_admits {μ : Mem} {A : Ad} {S : Sp} {p o x q n : Nat} {k a b c d : Int32} {row : Nat → Int32} {post : Int32 → Mem → Prop} (h : AP μ S p o) (ki : kd μ x = 6) (f0 : fi μ 5 0 x = k) (f1 : fi μ 5 1 x = a) (f2 : fi μ 5 2 x = b) (f3 : fi μ 5 3 x = c) (f4 : fi μ 5 4 x = d) (f5 : fr μ 5 5 x = some q) (kq : kd μ q = 102) (lq : al μ q = n) (n10 : n ≤ 10) (rq : ∀ i, i < n → ai μ q i = row i)
    (cy : k = 10 → ∀ j, j < s0 S 1 → a = nI j → fr μ 5 6 x = some (A 3 j) ∧ kd μ (A 3 j) = 8 ∧ fi μ 7 2 (A 3 j) = nI (s1 S 2 j) ∧ fr μ 7 3 (A 3 j) = some (A 7 j) ∧ kd μ (A 7 j) = 102 ∧ al μ (A 7 j) = s1 S 3 j) (cn : k = 10 → ¬ inR a (nI (s0 S 1) - 1) → fr μ 5 6 x = none)
    (hy : okI S p k a b c d n row → post 1 μ) (hn : ¬ okI S p k a b c d n row → post 0 μ) : wp_X5_admits μ o x post := by
  have one : (isSl S p a ↔ okI S p k a b c d n row) → wp_X5_hasSlot μ o (fi μ 5 1 x) (fun (r : Int32) (μ' : Mem) => KM μ μ' → narrow .boolean (.int r) = .int r ∧ post r μ') := fun e => by
    rw [f1]
    exact x_hasSlot h (fun q _ => ⟨by decide, hy (e.mp q)⟩) (fun q _ => ⟨by decide, hn fun z => q (e.mpr z)⟩)
  have to : (inR a 1999 ↔ okI S p k a b c d n row) → wp_X10_within μ (fi μ 5 1 x) 2000 (fun (r : Int32) (μ' : Mem) => KM μ μ' → narrow .boolean (.int r) = .int r ∧ post r μ') := fun e => by
    rw [f1]
    exact x_upto (b := 2000) (by decide) (fun q _ => ⟨by decide, hy (e.mp q)⟩) (fun q _ => ⟨by decide, hn fun z => q (e.mpr z)⟩)
  unfold wp_X5_admits
  rw [f0]
  refine ⟨ki, fun e => ⟨h.1, ?_⟩, fun e => ?_, fun e => ?_, fun e => ?_, fun e => ?_, fun e => ⟨h.1, ?_⟩, fun e => ⟨h.1, ?_⟩, fun e => ?_, fun e => ⟨h.1, ?_⟩, fun e => ?_, fun e => ⟨h.1, ?_⟩, fun e => ⟨h.1, ?_⟩, fun e => ⟨h.1, ?_⟩, fun e => ⟨h.1, ?_⟩, fun e => ?_, fun e => ?_, fun e0 e1 e2 e3 e4 e5 e6 e7 e8 e9 e10 e11 e12 e13 e14 e15 => ?_⟩
  · subst e; exact one Iff.rfl
  · subst e; exact x_ad93 h ki f1 f2 hy hn
  · subst e; exact x_ad121 h ki f1 f2 f5 kq lq n10 rq hy hn
  · subst e; exact x_ad121 h ki f1 f2 f5 kq lq n10 rq hy hn
  · subst e; exact x_ad93 h ki f1 f2 hy hn
  · subst e
    rw [f1]
    refine x_hasSlot h (fun qa _ => nz1 ?_) (fun qa _ => nz0 (hn fun k => qa k.1))
    rw [f2]
    refine x_hasSlot h (fun qb _ => nz1 ?_) (fun qb _ => nz0 (hn fun k => qb k.2.1))
    rw [f3]
    refine x_hasSlot h (fun qc _ => nz1 ?_) (fun qc _ => nz0 (hn fun k => qc k.2.2.1))
    rw [f4]
    exact x_upto (b := 5) (by decide) (fun qd _ => nz1 (hy ⟨qa, qb, qc, qd⟩)) (fun qd _ => nz0 (hn fun k => qd k.2.2.2))
  · subst e
    rw [f1]
    refine x_hasSlot h (fun qa _ => nz1 ?_) (fun qa _ => nz0 (hn fun k => qa k.1))
    rw [f2]
    refine x_hasSlot h (fun qb _ => nz1 ?_) (fun qb _ => nz0 (hn fun k => qb k.2.1))
    rw [f3]
    exact x_upto (b := 6) (by decide) (fun qd _ => nz1 (hy ⟨qa, qb, qd⟩)) (fun qd _ => nz0 (hn fun k => qd k.2.2))
  · subst e; exact to Iff.rfl
  · subst e
    rw [f1]
    refine x_hasSlot h (fun qa _ => nz1 ?_) (fun qa _ => nz0 (hn fun k => qa k.1))
    rw [f2]
    refine x_upto (b := 32) (by decide) (fun qb _ => nz1 ?_) (fun qb _ => nz0 (hn fun k => qb k.2.1))
    rw [f3]
    exact x_upto (b := 2000) (by decide) (fun qd _ => nz1 (hy ⟨qa, qb, qd⟩)) (fun qd _ => nz0 (hn fun k => qd k.2.2))
  · subst e; exact to Iff.rfl
  · subst e
    exact x_adCall h ki f5 kq lq n10 rq (cy rfl) (cn rfl) (fun q _ => ⟨by decide, hy q⟩) (fun q _ => ⟨by decide, hn q⟩)
  · subst e; exact one Iff.rfl
  · subst e; exact one Iff.rfl
  · subst e; exact one Iff.rfl
  · subst e; exact hy (Or.inl rfl)
  · subst e; exact hy (Or.inr rfl)
  · refine hn fun z => ?_
    rw [okI, if_neg e0, if_neg e1, if_neg e2, if_neg e3, if_neg e4, if_neg e5, if_neg e6, if_neg e7, if_neg e8, if_neg e9, if_neg e10, if_neg e11, if_neg e12, if_neg e13] at z
    exact z.elim e14 e15
