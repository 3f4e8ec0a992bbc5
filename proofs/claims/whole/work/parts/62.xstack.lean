/-! the class's stack: reading, keeping, cutting -/
def XKx (μ : Mem) (A : Ad) (S : Sp) (E tt tp : Nat → Nat) (tv tq : Nat → Int64) : Prop := XK1 μ A S ∧ XK2 μ A S E ∧ XK3 μ A S E ∧ XK4 μ A S E tt ∧ XK5 μ A S E tt tp tv tq
theorem XKx.ex {μ : Mem} {A : Ad} {S : Sp} {E tt tp : Nat → Nat} {tv tq : Nat → Int64} (h : XKx μ A S E tt tp tv tq) : XK μ A S E := ⟨h.1, h.2.1, h.2.2.1, tt, tp, tv, tq, h.2.2.2⟩
theorem XK1.off {D : Nat → Prop} {μ μ' : Mem} {A : Ad} {S : Sp} (h : XK1 μ A S) (hf : Off D μ μ') (h2 : ¬ D (A 0 2)) : XK1 μ' A S := by
  obtain ⟨g1, g2, g3, g4, g5, g6, g7, g8, g9⟩ := h
  obtain ⟨a1, a2, -⟩ := hf.2.2 (A 0 2) (by omega) h2
  unfold XK1
  rw [a1, a1, a1, a1, a2, a2, a2, a2]
  exact ⟨hf.kd g1, g2, g3, g4, g5, g6, g7, g8, g9⟩
theorem XK2.off {D : Nat → Prop} {μ μ' : Mem} {A : Ad} {S : Sp} {E : Nat → Nat} (h : XK2 μ A S E) (hf : Off D μ μ') (h5 : ¬ D (A 0 5)) (h6 : ¬ D (A 0 6)) (h15 : ¬ D (A 0 15)) (h16 : ¬ D (A 0 16)) : XK2 μ' A S E := by
  obtain ⟨g1, g2, g3, g4, g5, g6⟩ := h
  exact ⟨g1.off hf h5 (Or.inr h15) (Or.inr (by decide)), g2.off hf h6 (Or.inr h16) (Or.inr (by decide)), (g1.cap hf (Or.inr h15)).trans g3, (g2.cap hf (Or.inr h16)).trans g4, g5, g6⟩
theorem XF.off {D : Nat → Prop} {μ μ' : Mem} {A : Ad} {S : Sp} {j : Nat} (h : XF μ A S j) (hf : Off D μ μ') (hk : kd μ (A 1 j) ≠ 0) (h1 : ¬ D (A 1 j)) : XF μ' A S j := by
  obtain ⟨a1, a2, -⟩ := hf.2.2 (A 1 j) hk h1
  unfold XF at h ⊢
  rw [a1, a1, a1, a2, a2, a2]
  exact h
theorem XK3.off {D : Nat → Prop} {μ μ' : Mem} {A : Ad} {S : Sp} {E : Nat → Nat} (h : XK3 μ A S E) (hf : Off D μ μ') (hn : s0 S 6 ≤ E 5) (h1 : ∀ j, j < E 5 → ¬ D (A 1 j)) : XK3 μ' A S E := by
  refine ⟨fun j hj => ?_, fun j hj => ?_⟩
  · obtain ⟨a1, a2⟩ := h.1 j hj
    exact ⟨hf.kd a1, by rw [(hf.2.2 _ (by omega) (h1 j hj)).1]; exact a2⟩
  · have hk := (h.1 j (by omega)).1
    exact (h.2 j hj).off hf (by omega) (h1 j (by omega))
theorem XR.off {D : Nat → Prop} {μ μ' : Mem} {A : Ad} {S : Sp} {tt : Nat → Nat} {i : Nat} (h : XR μ A S tt i) (hf : Off D μ μ') (hk : kd μ (A 2 i) ≠ 0) (h1 : ¬ D (A 2 i)) : XR μ' A S tt i := by
  obtain ⟨a1, a2, -⟩ := hf.2.2 (A 2 i) hk h1
  unfold XR at h ⊢
  rw [a1, a1, a1, a1, a1, a1, a2]
  exact h
theorem XK4.off {D : Nat → Prop} {μ μ' : Mem} {A : Ad} {S : Sp} {E tt : Nat → Nat} (h : XK4 μ A S E tt) (hf : Off D μ μ') (hn : s0 S 7 ≤ E 7) (h1 : ∀ j, j < E 7 → ¬ D (A 2 j)) : XK4 μ' A S E tt := by
  refine ⟨fun j hj => hf.kd (h.1 j hj), fun j hj => ?_⟩
  have hk := h.1 j (by omega)
  exact (h.2 j hj).off hf (by omega) (h1 j (by omega))
theorem XK5.off {D : Nat → Prop} {μ μ' : Mem} {A : Ad} {S : Sp} {E tt tp : Nat → Nat} {tv tq : Nat → Int64} (h : XK5 μ A S E tt tp tv tq) (hf : Off D μ μ') (h7 : ¬ D (A 0 7)) (h8 : ¬ D (A 0 8)) (h17 : ¬ D (A 0 17)) (h18 : ¬ D (A 0 18)) : XK5 μ' A S E tt tp tv tq := by
  obtain ⟨g1, g2, g3, g4, g5⟩ := h
  exact ⟨g1.off hf h7 h17, g2.off hf h8 h18, by rw [(hf.2.2 _ (by have := g1.2.2.1; omega) h17).2.2.1]; exact g3, by rw [(hf.2.2 _ (by have := g2.2.2.1; omega) h18).2.2.1]; exact g4, g5⟩
theorem XF.sfi9 {μ : Mem} {A : Ad} {S : Sp} {j k o : Nat} {v : Int32} (h : XF μ A S j) : XF (sfi μ 9 k o v) A S j := by
  unfold XF at h ⊢
  simp only [fi_sfi, fr_sfi, show ¬ (3 : Nat) = 9 by decide, false_and, if_false]
  exact h
/-- the stack's own counts are written -/
theorem XKx.st {nm : Nat → Nat × Nat} {μ : Mem} {A : Ad} {S S' : Sp} {E tt tp : Nat → Nat} {tv tq : Nat → Int64} {k : Nat} {v : Int32} (h : XKx μ A S E tt tp tv tq) (hN : RN nm A S E) (h1 : XK1 (sfi μ 9 k (A 0 2) v) A S') (h2 : XK2 μ A S' E) (h3 : XK3 μ A S' E) (h4 : XK4 μ A S' E tt) (h5 : XK5 μ A S' E tt tp tv tq) : XKx (sfi μ 9 k (A 0 2) v) A S' E tt tp tv tq := by
  have ne : ∀ j, j < 24 → j ≠ 2 → ¬ A 0 j = A 0 2 := fun j hj hd => hN.ne (Us0 hj) (Us0 (by decide)) (fun z => hd z.2)
  have n1 : ∀ j, j < E 5 → ¬ A 1 j = A 0 2 := fun j hj => hN.ne (Us1 hj) (Us0 (by decide)) (fun z => absurd z.1 (by decide))
  have n2 : ∀ j, j < E 7 → ¬ A 2 j = A 0 2 := fun j hj => hN.ne (Us2 hj) (Us0 (by decide)) (fun z => absurd z.1 (by decide))
  exact ⟨h1, h2.off Off_sfi (ne 5 (by decide) (by decide)) (ne 6 (by decide) (by decide)) (ne 15 (by decide) (by decide)) (ne 16 (by decide) (by decide)), h3.off Off_sfi h2.2.2.2.2.1 n1, h4.off Off_sfi h2.2.2.2.2.2 n2, h5.off Off_sfi (ne 7 (by decide) (by decide)) (ne 8 (by decide) (by decide)) (ne 17 (by decide) (by decide)) (ne 18 (by decide) (by decide))⟩
theorem x_size {μ : Mem} {A : Ad} {S : Sp} {E tt tp : Nat → Nat} {tv tq : Nat → Int64} {post : Int32 → Mem → Prop} (h : XKx μ A S E tt tp tv tq) (hp : post (nI (szS S)) μ) : wp_X7_size μ (A 0 2) post := by
  obtain ⟨⟨g1, g2, g3, g4, g5, g6, g7, g8, g9⟩, -, -, -, h5⟩ := h
  refine ⟨g1, A 0 7, g4, h5.1.1, s_size h5.1 fun _ => ?_⟩
  rw [g6, g7, show (2 : Int32) = nI 2 from rfl, show (3 : Int32) = nI 3 from rfl, pk_mul, pk_mul, nI_add, nI_add]
  exact hp
theorem x_hasRoom {μ : Mem} {A : Ad} {S : Sp} {E tt tp : Nat → Nat} {tv tq : Nat → Int64} {m : Nat} {post : Int32 → Mem → Prop} (h : XKx μ A S E tt tp tv tq) (hs : szS S + m < 2 ^ 31) (hl : s0 S 14 < 2 ^ 31) (hy : szS S + m ≤ s0 S 14 → post 1 μ) (hn : ¬ szS S + m ≤ s0 S 14 → post 0 μ) : wp_X7_hasRoom μ (A 0 2) (nI m) post := by
  refine ⟨h.1.1, x_size h fun _ => ?_⟩
  rw [h.1.2.2.2.2.2.2.2.1, nI_add]
  refine ⟨fun q => hn fun z => absurd q (nI_nlt z hl), fun q => hy ?_⟩
  rcases Nat.lt_or_ge (s0 S 14) (szS S + m) with z | z
  · exact absurd (nI_lt z hs) q
  · exact z
theorem x_noteSize {nm : Nat → Nat × Nat} {μ : Mem} {A : Ad} {S : Sp} {E tt tp : Nat → Nat} {tv tq : Nat → Int64} {post : Mem → Prop} (h : XKx μ A S E tt tp tv tq) (hN : RN nm A S E) (hs : szS S < 2 ^ 31) (hl : s0 S 11 < 2 ^ 31) (hp : ∀ μ', XKx μ' A (u0 S 11 (if s0 S 11 < szS S then szS S else s0 S 11)) E tt tp tv tq → Off (fun a => a = A 0 2) μ μ' → post μ') : wp_X7_noteSize μ (A 0 2) post := by
  refine ⟨h.1.1, x_size h fun _ μ6 e6 => ?_⟩
  have g9 := h.1.2.2.2.2.2.2.2.2
  have ev : (if fi μ 9 7 (A 0 2) < nI (szS S) then nI (szS S) else fi μ 9 7 (A 0 2)) = nI (if s0 S 11 < szS S then szS S else s0 S 11) := by
    rw [g9]
    by_cases q : s0 S 11 < szS S
    · rw [if_pos (nI_lt q hs), if_pos q]
    · rw [if_neg (nI_nlt (by omega) hl), if_neg q]
  rw [ev] at e6
  subst e6
  obtain ⟨⟨g1, g2, g3, g4, g5, g6, g7, g8, -⟩, h2, h3, h4, h5⟩ := id h
  refine hp _ (h.st hN ?_ h2 h3 h4 h5) Off_sfi
  unfold XK1
  simp only [kd_sfi, fr_sfi, fi_sfi]
  exact ⟨g1, g2, g3, g4, g5, g6, g7, g8, rfl⟩
theorem x_redoAt {μ : Mem} {A : Ad} {S : Sp} {E tt tp : Nat → Nat} {tv tq : Nat → Int64} {x : Int32} {post : Option Nat → Mem → Prop} (h : XKx μ A S E tt tp tv tq) (hb : s0 S 7 < 2 ^ 31) (hy : ∀ j, j < s0 S 7 → x = nI j → post (some (A 2 j)) μ) (hn : (∀ j, j < s0 S 7 → x ≠ nI j) → post none μ) : wp_X7_redoAt μ (A 0 2) x post := by
  obtain ⟨⟨g1, g2, g3, g4, g5, g6, g7, g8, g9⟩, ⟨-, l2, -, -, -, e7⟩, -, h4, -⟩ := h
  have hE : E 7 < 2 ^ 31 := by have := l2.2.2.2.1; have := l2.2.2.2.2.1; omega
  refine ⟨g1, ?_⟩
  rw [g7]
  rcases pk_ix x (n := s0 S 7) hb with q | q | ⟨j, hj, ej⟩
  · refine s_within_f (Or.inl q) fun _ => nz0 (hn fun j hj ej => ?_)
    rw [ej] at q; exact absurd q (nI_pos (by omega))
  · refine s_within_f (Or.inr q) fun _ => nz0 (hn fun j hj ej => ?_)
    rw [ej] at q; exact absurd q (nI_ge hj hb)
  · subst ej
    refine s_within_t (nI_pos (by omega)) (nI_ge hj hb) fun _ => nz1 ⟨A 0 6, g3, l2.1, x_lsize l2 fun _ => ⟨fun q => absurd q (nI_ge (by omega) hE), fun _ => ⟨A 0 6, g3, l2.1, x_lget l2 (by omega) fun _ => ⟨A 2 j, rfl, h4.1 j (by omega), hy j hj rfl⟩⟩⟩⟩
/-- the latest redo point -/
theorem x_latest {μ : Mem} {A : Ad} {S : Sp} {E tt tp : Nat → Nat} {tv tq : Nat → Int64} {post : Option Nat → Mem → Prop} (h : XKx μ A S E tt tp tv tq) (hb : s0 S 7 < 2 ^ 31) (hy : ∀ j, s0 S 7 = j + 1 → post (some (A 2 j)) μ) (hn : s0 S 7 = 0 → post none μ) : wp_X7_redoAt μ (A 0 2) (fi μ 9 3 (A 0 2) - 1) post := by
  have g7 : fi μ 9 3 (A 0 2) = nI (s0 S 7) := h.1.2.2.2.2.2.2.1
  rw [g7]
  refine x_redoAt h hb (fun j hj ej => hy j ?_) (fun hno => ?_)
  · rw [show nI (s0 S 7) - 1 = nI (s0 S 7 - 1) by rw [show (1 : Int32) = nI 1 from rfl, pk_sub (by omega)]] at ej
    have := (nI_eq (by omega) (by omega)).mp ej
    omega
  · rcases Nat.eq_zero_or_pos (s0 S 7) with z | z
    · exact hn z
    · refine absurd ?_ (hno (s0 S 7 - 1) (by omega))
      rw [show (1 : Int32) = nI 1 from rfl, pk_sub (by omega)]
theorem x_read {μ : Mem} {A : Ad} {S : Sp} {E tt tp : Nat → Nat} {tv tq : Nat → Int64} {j a : Nat} {post : Int64 → Mem → Prop} (h : XKx μ A S E tt tp tv tq) (hj : j < s0 S 6) (ha : s1 S 11 j + a < s1 S 11 (s0 S 6)) (hp : post (conv S (sv S 0 (s1 S 11 j + a))) μ) : wp_X7_read μ (A 0 2) (A 1 j) (nI a) post := by
  obtain ⟨⟨g1, g2, g3, g4, g5, g6, g7, g8, g9⟩, h2, h3, -, h5⟩ := h
  refine ⟨g1, A 0 7, g4, (h3.1 j (by have := h2.2.2.2.2.1; omega)).1, h5.1.1, ?_⟩
  rw [(h3.2 j hj).2.1, nI_add]
  exact s_at h5.1 ha fun _ => hp
theorem x_keepFrames {nm : Nat → Nat × Nat} {μ : Mem} {A : Ad} {S : Sp} {E tt tp : Nat → Nat} {tv tq : Nat → Int64} {k : Nat} {post : Mem → Prop} (h : XKx μ A S E tt tp tv tq) (hN : RN nm A S E) (hk : k ≤ s0 S 6) (hbl : s1 S 11 k ≤ s1 S 11 (s0 S 6)) (hp : ∀ μ', XKx μ' A (u0 S 6 k) E tt tp tv tq → Off (fun a => a = A 0 2 ∨ a = A 0 7) μ μ' → post μ') : wp_X7_keepFrames μ (A 0 2) (nI k) post := by
  obtain ⟨⟨g1, g2, g3, g4, g5, g6, g7, g8, g9⟩, h2, h3, h4, h5⟩ := id h
  obtain ⟨l1, l2, a1, a2, b1, b2⟩ := id h2
  have hE : E 5 < 2 ^ 31 := by have := l1.2.2.2.1; have := l1.2.2.2.2.1; omega
  refine ⟨g1, ?_⟩
  rw [g6]
  rcases Nat.lt_or_ge k (s0 S 6) with q | q
  · refine s_within_t (nI_pos (by omega)) (nI_ge q (by omega)) fun _ => nz1 ⟨A 0 5, g2, l1.1, x_lsize l1 fun _ => ⟨fun z => absurd z (nI_ge (by omega) hE), fun _ => ⟨A 0 7, g4, A 0 5, g2, l1.1, x_lget l1 (by omega) fun _ => ⟨A 1 k, rfl, (h3.1 k (by omega)).1, h5.1.1, ?_⟩⟩⟩⟩
    rw [(h3.2 k q).2.1]
    refine x_shrink h5.1 hbl (fun μ1 hl1 ho1 ha1 _ μ2 e2 => ?_)
    have ne : ∀ j, j < 24 → j ≠ 7 → ¬ A 0 j = A 0 7 := fun j hj hd => hN.ne (Us0 hj) (Us0 (by decide)) (fun z => hd z.2)
    have n1 : ∀ j, j < E 5 → ¬ A 1 j = A 0 7 := fun j hj => hN.ne (Us1 hj) (Us0 (by decide)) (fun z => absurd z.1 (by decide))
    have n2 : ∀ j, j < E 7 → ¬ A 2 j = A 0 7 := fun j hj => hN.ne (Us2 hj) (Us0 (by decide)) (fun z => absurd z.1 (by decide))
    have hX : XKx μ1 A S E tt tp tv tq → True := fun _ => trivial
    obtain ⟨t1, t2, t3, t4, t5⟩ := id h5
    have x1 : XK1 μ1 A S := h.1.off ho1 (ne 2 (by decide) (by decide))
    have x2 := h2.off ho1 (ne 5 (by decide) (by decide)) (ne 6 (by decide) (by decide)) (ne 15 (by decide) (by decide)) (ne 16 (by decide) (by decide))
    have x3 := h3.off ho1 b1 n1
    have x4 := h4.off ho1 b2 n2
    have x5 : XK5 μ1 A (u0 S 6 k) E tt tp tv tq := ⟨hl1, t2.off ho1 (ne 8 (by decide) (by decide)) (ne 18 (by decide) (by decide)), ha1.trans t3, by rw [(ho1.2.2 _ (by have := t2.2.2.1; omega) (ne 18 (by decide) (by decide))).2.2.1]; exact t4, t5⟩
    have y2 : XK2 μ1 A (u0 S 6 k) E := ⟨x2.1, x2.2.1, x2.2.2.1, x2.2.2.2.1, by show k ≤ E 5; omega, x2.2.2.2.2.2⟩
    have y3 : XK3 μ1 A (u0 S 6 k) E := ⟨x3.1, fun j hj => x3.2 j (by have hj : j < k := hj; omega)⟩
    subst e2
    refine hp _ ?_ ((ho1.sub (fun a _ ha => Or.inr ha)).tr (Off_sfi.sub (fun a _ ha => Or.inl ha)))
    have nn : ∀ j, j < 24 → j ≠ 2 → ¬ A 0 j = A 0 2 := fun j hj hd => hN.ne (Us0 hj) (Us0 (by decide)) (fun z => hd z.2)
    refine ⟨?_, y2.off Off_sfi (nn 5 (by decide) (by decide)) (nn 6 (by decide) (by decide)) (nn 15 (by decide) (by decide)) (nn 16 (by decide) (by decide)), y3.off Off_sfi y2.2.2.2.2.1 (fun j hj => hN.ne (Us1 hj) (Us0 (by decide)) (fun z => absurd z.1 (by decide))), XK4.off (S := u0 S 6 k) x4 Off_sfi b2 (fun j hj => hN.ne (Us2 hj) (Us0 (by decide)) (fun z => absurd z.1 (by decide))), x5.off Off_sfi (nn 7 (by decide) (by decide)) (nn 8 (by decide) (by decide)) (nn 17 (by decide) (by decide)) (nn 18 (by decide) (by decide))⟩
    obtain ⟨p1, p2, p3, p4, p5, p6, p7, p8, p9⟩ := x1
    unfold XK1
    simp only [kd_sfi, fr_sfi, fi_sfi]
    exact ⟨p1, p2, p3, p4, p5, rfl, p7, p8, p9⟩
  · have e : k = s0 S 6 := by omega
    subst e
    refine s_within_f (Or.inr (nI_le (Nat.le_refl _) (by omega))) fun _ => nz0 (hp _ ?_ (Off.rf μ))
    rw [u0_rf]; exact h
