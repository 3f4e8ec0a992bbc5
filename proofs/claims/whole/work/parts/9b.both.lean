/-! the reference at its start; both at once -/
theorem RM_start {σ : MSt} (h : ∀ k, ¬ k = 44 → mi σ k = 0) (h44 : mi σ 44 = -1) : RM σ S00 := by
  refine ⟨⟨h 2 (by decide), Nat.zero_le _, fun i hi => absurd hi (Nat.not_lt_zero i)⟩, ⟨h 3 (by decide), Nat.zero_le _, h 11 (by decide), Nat.zero_le _, fun i hi => absurd hi (Nat.not_lt_zero i), fun i hi => absurd hi (Nat.not_lt_zero i)⟩, ⟨h 19 (by decide), Nat.zero_le _, h 24 (by decide), Nat.zero_le _, h 25 (by decide), Nat.zero_le _, fun i hi => absurd hi (Nat.not_lt_zero i), fun i hi => absurd hi (Nat.not_lt_zero i)⟩, ?_, ?_, ?_⟩
  · refine ⟨⟨h 26 (by decide), by decide, ⟨fun i j _ hj => absurd hj (Nat.not_lt_zero j), fun i hi => absurd hi (Nat.not_lt_zero i)⟩, fun t ht => absurd ht (Nat.not_lt_zero t)⟩, ⟨fun j k hj => absurd hj (Nat.not_lt_zero j), fun j hj => absurd hj (Nat.not_lt_zero j), by decide⟩, h 47 (by decide), h 40 (by decide), rfl, fun j k hj => absurd hj (Nat.not_lt_zero j), fun j k hj => absurd hj (Nat.not_lt_zero j), fun hl => absurd hl S00_live, fun j hj => absurd hj (Nat.not_lt_zero j)⟩
  · exact ⟨fun k hk => absurd hk (Nat.not_lt_zero k), 0, fun _ => 0, h 41 (by decide), Nat.le_refl _, fun n hn => absurd hn (Nat.not_lt_zero n), fun i j _ hj => absurd hj (Nat.not_lt_zero j), fun i hi => absurd hi (Nat.not_lt_zero i)⟩
  · exact ⟨by rw [h44]; decide, Nat.zero_le _, h 46 (by decide), Nat.zero_le _, h 48 (by decide), Nat.zero_le _, h 49 (by decide), Nat.zero_le _, h 50 (by decide), Nat.zero_le _, h 51 (by decide), Nat.zero_le _, h 52 (by decide), Nat.zero_le _, h 54 (by decide), Nat.zero_le _, fun i hi => absurd hi (Nat.not_lt_zero i)⟩
theorem MI.im {μ0 μ : Mem} {o : Nat} {A : Nat → Nat} (h : MI μ0 μ o KSm A) : IM μ o A :=
  ⟨h.2.1, fun k hk => ⟨(h.2.2.1 k (mk_in k hk)).1, (h.2.2.1 k (mk_in k hk)).2.1, (h.2.2.1 k (mk_in k hk)).2.2.1⟩, fun j k hj hk e => h.2.2.2.1 j (mk_in j hj) k (mk_in k hk) e⟩
theorem MI.rm {μ0 μ : Mem} {o : Nat} {A : Nat → Nat} (h : MI μ0 μ o KSm A) (h0 : ∀ k, fi μ0 12 k o = 0) (h44 : fi μ 12 44 o = -1) : RM (vw μ o A) S00 :=
  RM_start (fun k hk => (h.2.2.2.2 k hk).trans (h0 k)) h44
/-- what is not the class's own changes -/
theorem XX.off99 {nm : Nat → Nat × Nat} {μ μ' : Mem} {A : Ad} {S : Sp} {E tt : Nat → Nat} (h : XX μ A nm S E tt) (ho : Off (fun a => nm a = (0, 99)) μ μ') : XX μ' A nm S E tt := by
  obtain ⟨J, M, T, C⟩ := id h
  obtain ⟨hN, hL, hK, hH, hP, hE⟩ := id J.1
  have hW : WF S := J.2.2.1
  have us : ∀ k j, Us S E k j → ¬ nm (A k j) = (0, 99) := fun k j hu e => by
    rw [hN k j hu] at e
    cases e
    rcases hu with hu | hu | hu | hu | hu | hu <;> omega
  have N2 : RN (fun a => if nm a = (0, 99) then (3, 0) else nm a) A S E := fun k j hu => (if_neg (us k j hu)).trans (hN k j hu)
  have o2 : Off (fun a => (if nm a = (0, 99) then ((3, 0) : Nat × Nat) else nm a) = (0, 0) ∨ gP (if nm a = (0, 99) then (3, 0) else nm a)) μ μ' := ho.sub (fun a _ e => Or.inr (by rw [if_pos e]; exact Or.inr (Nat.le_refl 3)))
  obtain ⟨g1, g2, g3, g4, g5, g6, g7, g8, g9, g10, g11⟩ := id M
  obtain ⟨x1, x2, -⟩ := ho.2.2 (A 0 0) (by omega) (us 0 0 (Us0 (by decide)))
  obtain ⟨-, -, y3, y4, -⟩ := ho.2.2 (A 0 14) (by omega) (us 0 14 (Us0 (by decide)))
  refine (h.nm N2).prog o2 (fun _ _ => rfl) rfl rfl hN (hL.km ho.1) ⟨fun _ _ => rfl, fun _ _ => rfl, rfl, rfl⟩ (fun _ _ hx => hx) (hP.off hN ho (fun a ha e => ?_)) hW ⟨ho.kd g1, by rw [x2]; exact g2, by rw [x1]; exact g3, by rw [x2]; exact g4, by rw [x1]; exact g5, by rw [x2]; exact g6, by rw [x2]; exact g7, ho.kd g8, by rw [y3]; exact g9, g10, fun i hi => by rw [y4]; exact g11 i hi⟩ C
  rw [e] at ha
  rcases ha with ha | ha
  · have := ha.2
    omega
  · exact absurd (show 3 ≤ 0 from ha) (by decide)
/-- the class, the reference and the law's one long, all in one memory -/
def LW (μ : Mem) (A : Ad) (nm : Nat → Nat × Nat) (S : Sp) (E tt : Nat → Nat) (x o b : Nat) (M : Nat → Nat) (σ : MSt) : Prop :=
  XX μ A nm S E tt ∧ A 0 0 = x ∧ IM μ o M ∧ vw μ o M = σ ∧ RM σ S ∧ (kd μ b = 103 ∧ al μ b = 1 ∧ ∀ k, (mk k).1 ≠ 0 → ¬ M k = b) ∧ nm o = (0, 99) ∧ nm b = (0, 99) ∧ ∀ k, (mk k).1 ≠ 0 → nm (M k) = (0, 99)
theorem LW.own {μ μ' : Mem} {A A' : Ad} {nm nm' : Nat → Nat × Nat} {S S' : Sp} {E tt E' tt' : Nat → Nat} {x o b : Nat} {M : Nat → Nat} {σ : MSt} (h : LW μ A nm S E tt x o b M σ) (k : KP μ nm μ' nm') (hX : XX μ' A' nm' S' E' tt') (hA : A' 0 0 = A 0 0) : ∃ _ : XX μ' A' nm' S' E' tt', A' 0 0 = x ∧ IM μ' o M ∧ vw μ' o M = σ ∧ (kd μ' b = 103 ∧ al μ' b = 1 ∧ ∀ k, (mk k).1 ≠ 0 → ¬ M k = b) ∧ nm' o = (0, 99) ∧ nm' b = (0, 99) ∧ ∀ k, (mk k).1 ≠ 0 → nm' (M k) = (0, 99) := by
  obtain ⟨h1, h2, h3, h4, h5, ⟨h6, h6b, h6c⟩, h7, h8, h9⟩ := h
  have lo : kd μ o ≠ 0 := by rw [h3.1]; decide
  have lb : kd μ b ≠ 0 := by rw [h6]; decide
  have lk : ∀ k, (mk k).1 ≠ 0 → kd μ (M k) ≠ 0 := fun k hk => by rw [(h3.2.1 k hk).2.1]; exact hk
  have un : ∀ a, kd μ a ≠ 0 → nm a = (0, 99) → _ := fun a ha e => k.1.2.2 a ha (fun z => z e)
  obtain ⟨o1, o2, -⟩ := un o lo h7
  obtain ⟨-, -, b3, -⟩ := un b lb h8
  have uk : ∀ k, (mk k).1 ≠ 0 → _ := fun k hk => un (M k) (lk k hk) (h9 k hk)
  refine ⟨hX, hA.trans h2, ⟨k.1.kd h3.1, fun j hj => ⟨by rw [o2]; exact (h3.2.1 j hj).1, by rw [k.1.1 _ (lk j hj)]; exact (h3.2.1 j hj).2.1, by rw [(uk j hj).2.2.1]; exact (h3.2.1 j hj).2.2⟩, h3.2.2⟩, ?_, ⟨k.1.kd h6, by rw [b3]; exact h6b, h6c⟩, by rw [k.2 o lo]; exact h7, by rw [k.2 b lb]; exact h8, fun j hj => by rw [k.2 _ (lk j hj)]; exact h9 j hj⟩
  rw [← h4]
  unfold vw
  refine Prod.ext (funext fun j => o1 12 j) (Prod.ext (funext fun j => funext fun i => ?_) (funext fun j => funext fun i => ?_))
  · show (if (mk j).1 = 0 then 0 else ai μ' (M j) i) = if (mk j).1 = 0 then 0 else ai μ (M j) i
    by_cases z : (mk j).1 = 0
    · rw [if_pos z, if_pos z]
    · rw [if_neg z, if_neg z]; exact (uk j z).2.2.2.1 i
  · show (if (mk j).1 = 0 then 0 else aj μ' (M j) i) = if (mk j).1 = 0 then 0 else aj μ (M j) i
    by_cases z : (mk j).1 = 0
    · rw [if_pos z, if_pos z]
    · rw [if_neg z, if_neg z]; exact (uk j z).2.2.2.2.1 i
theorem LW.ref {μ μ' : Mem} {A : Ad} {nm : Nat → Nat × Nat} {S : Sp} {E tt : Nat → Nat} {x o b : Nat} {M : Nat → Nat} {σ σ' : MSt}
    (hX : XX μ A nm S E tt) (hA : A 0 0 = x) (hI : IM μ o M) (hb : kd μ b = 103 ∧ al μ b = 1 ∧ ∀ k, (mk k).1 ≠ 0 → ¬ M k = b) (ho : nm o = (0, 99)) (hbn : nm b = (0, 99)) (hM : ∀ k, (mk k).1 ≠ 0 → nm (M k) = (0, 99)) (hF : FM μ μ' o M) (hI' : IM μ' o M) (hv : vw μ' o M = σ') (hR : RM σ' S) : LW μ' A nm S E tt x o b M σ' ∧ ∀ i, aj μ' b i = aj μ b i := by
  obtain ⟨f1, f2, f3, f4, f5, f6⟩ := hF
  have of : Off (fun a => nm a = (0, 99)) μ μ' := by
    refine ⟨fun a _ => by rw [f1], fun a ha => ⟨by rw [f1] at ha; exact ha, by rw [f3]⟩, fun a ha hd => ?_⟩
    have ao : ¬ a = o := fun e => hd (by rw [e]; exact ho)
    have am : ∀ k, (mk k).1 ≠ 0 → a ≠ M k := fun k hk e => hd (by rw [e]; exact hM k hk)
    exact ⟨fun c k => f5 c k a (fun z => ao z.2), fun c k => by rw [f2], by rw [f3], fun i => (f6 a am i).1, fun i => (f6 a am i).2, fun i => by rw [f4]⟩
  exact ⟨⟨hX.off99 of, hA, hI', hv, hR, ⟨by rw [f1]; exact hb.1, by rw [f3]; exact hb.2.1, hb.2.2⟩, ho, hbn, hM⟩, fun i => (f6 b (fun k hk e => hb.2.2 k hk e.symm) i).2⟩
