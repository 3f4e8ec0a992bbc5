/-! what the class tells; the machine's own fields -/
theorem x_within {μ : Mem} {a b : Int32} {post : Int32 → Mem → Prop} (hy : 0 ≤ a → a < b → post 1 μ) (hn : ¬ (0 ≤ a ∧ a < b) → post 0 μ) : wp_X10_within μ a b post :=
  ⟨fun h => hn fun q => absurd h (Int32.not_lt.mpr q.1), fun h => ⟨fun h2 => hn fun q => absurd h2 (Int32.not_le.mpr q.2), fun h2 => hy (Int32.not_lt.mp h) (Int32.not_le.mp h2)⟩⟩
theorem x_figure {nm : Nat → Nat × Nat} {μ : Mem} {A : Ad} {S : Sp} {E tt : Nat → Nat} {a : Int32} {post : Int32 → Mem → Prop} (h : XJ μ A nm S E tt) (hq : post (sp_told S a) μ) : wp_X0_figure μ (A 0 1) a post := by
  obtain ⟨⟨hN, hL, hK, hH, hP, hE⟩, ⟨Z1, Z2, Z3, Z4⟩, W, V, B, h9⟩ := h
  obtain ⟨k1, k2, k3, tp, tv, tq, k4, k5⟩ := id hK
  obtain ⟨x0, w, m, u, x1, x2⟩ := id hH
  refine ⟨fun ha => ⟨hE.1, ?_⟩, fun ha => ⟨hE.1, ?_⟩, fun ha => ⟨hE.1, A 0 2, hE.2.1, k1.1, ?_⟩, fun ha => ⟨hE.1, A 0 2, hE.2.1, k1.1, ?_⟩, fun ha => ⟨hE.1, A 0 3, hE.2.2, x1.1, ?_⟩, fun ha => ⟨hE.1, A 0 3, hE.2.2, x1.1, ?_⟩, fun ha => ⟨hE.1, ?_⟩, fun ha => ⟨hE.1, A 0 2, hE.2.1, k1.1, ?_⟩, fun ha => ⟨hE.1, A 0 2, hE.2.1, k1.1, ?_⟩, fun n0 n1 n2 n3 n4 n5 n6 n7 n8 => ?_⟩
  · subst ha; rw [add_sub1 Z1]; exact hq
  · subst ha; rw [Z2]; exact hq
  · subst ha; exact x_size ⟨k1, k2, k3, k4, k5⟩ (fun _ => hq)
  · subst ha; rw [k1.2.2.2.2.2.2.2.2]; exact hq
  · subst ha; exact x_used x1 (fun _ => hq)
  · subst ha; rw [x1.2.2.2.2.1]; exact hq
  · subst ha; rw [Z3]; exact hq
  · subst ha; rw [k1.2.2.2.2.2.2.1]; exact hq
  · subst ha; rw [k1.2.2.2.2.2.1]; exact hq
  · rw [sp_told, if_neg n0, if_neg n1, if_neg n2, if_neg n3, if_neg n4, if_neg n5, if_neg n6, if_neg n7, if_neg n8] at hq
    exact hq
theorem x_shown {μ : Mem} {S : Sp} {v : Int64} {post : Int64 → Mem → Prop} (hW : WF S) (hv : okV (s0 S 3) v) (hq : post (shownV S v) μ) : wp_X9_shown μ (conv S v) post := by
  have hc3 := hW.c3
  rcases hv with ⟨x, e⟩ | ⟨c, hc, e⟩
  · subst e
    rw [shownV, if_pos (num_lt x)] at hq
    rw [conv_num]
    exact x_isCell (fun q => absurd (num_lt x) q) (fun _ _ => nz0 hq)
  · subst e
    rw [shownV, if_neg (cell_ge (by omega)), cix_cell (by omega)] at hq
    rw [conv_cell (by omega), cellX_mk]
    obtain ⟨p1, p2, p3⟩ := hW.2.1.pb hW.2.2.2.2.2.2.2.2.2 hc
    refine x_isCell (fun _ _ => nz1 fun _ => ?_) (fun q => absurd q (mkX_ge p1 p2 p3))
    rw [mkX_tag p1 p2 p3]
    exact hq
theorem x_slotSeen {nm : Nat → Nat × Nat} {μ : Mem} {A : Ad} {S : Sp} {E tt : Nat → Nat} {k : Int32} {post : Int64 → Mem → Prop} (h : XJ μ A nm S E tt) (hq : post (sp_slot S k) μ) : wp_X0_slotSeen μ (A 0 1) k post := by
  obtain ⟨G, ⟨Z1, Z2, Z3, Z4⟩, W, V, B, h9⟩ := id h
  obtain ⟨hN, hL, hK, hH, hP, hE⟩ := id G
  have st := fun m hm => st_eqx (m := m) Z1 V.2.2.1 hm
  have ye : live S → wp_X0_slotSeen_20 (A 0 1) post μ k 1 := fun hl => by
    obtain ⟨⟨P1, P2, P3, P4⟩, hC, ⟨B1, B2, B3, B4⟩, hT, hV, hNN⟩ := id W
    have hw := B3 hl
    obtain ⟨hpw, -⟩ := B4 (s0 S 8) hw
    obtain ⟨-, sl1, sl2, -⟩ := P3 _ hpw
    obtain ⟨w5, -⟩ := Z4 hl
    have e5 : s0 S 6 ≤ E 5 := hK.2.1.2.2.2.2.1
    obtain ⟨ff1, -⟩ := hK.2.2.1.2 (s0 S 8) hw
    obtain ⟨q1, q2, q3, -⟩ := hP.2.1 _ hpw
    refine ⟨fun z => absurd z (by decide), fun _ => ⟨hE.1, fun r3 e3 => ?_⟩⟩
    rw [w5] at e3
    subst e3
    refine ⟨fun z => absurd z (by simp), fun x4 e4 r5 e5' => ?_⟩
    rw [w5] at e5'
    subst e5'
    refine ⟨A 1 (s0 S 8), rfl, (hK.2.2.1.1 _ (by omega)).1, A 3 _, ff1, q1, ?_⟩
    rw [q3]
    have iff : (0 ≤ k ∧ k ≤ nI (s1 S 1 (s1 S 10 (s0 S 8))) - 1) ↔ (0 ≤ k ∧ k < nI (s1 S 1 (s1 S 10 (s0 S 8)))) := by
      rw [show nI (s1 S 1 (s1 S 10 (s0 S 8))) - 1 = nI (s1 S 1 (s1 S 10 (s0 S 8)) - 1) by rw [show (1 : Int32) = nI 1 from rfl, pk_sub sl1], Int32.le_iff_toInt_le, Int32.le_iff_toInt_le, Int32.lt_iff_toInt_lt, nI_toInt (by omega), nI_toInt (by omega)]
      omega
    refine x_within (fun y0 y1 _ => nz1 ⟨A 0 2, hE.2.1, fun r15 e15 => ⟨A 1 (s0 S 8), by rw [e15, w5], hK.1.1, ?_⟩⟩) (fun y _ => nz0 ?_)
    · rw [sp_slot, if_pos ⟨hl, iff.mpr ⟨y0, y1⟩⟩] at hq
      obtain ⟨a, ha, ea⟩ := nI_of (Int32.not_lt.mpr y0)
      subst ea
      rw [nI_clamp ha] at hq
      have hal : a < s1 S 1 (s1 S 10 (s0 S 8)) := by
        rw [Int32.lt_iff_toInt_lt, nI_toInt ha, nI_toInt (by omega)] at y1; omega
      exact x_readG G W hw hal fun _ => x_shown W (hV _ (WF.sl ⟨B1, B2, B3, B4⟩ hw hal)) (fun _ => hq)
    · rw [sp_slot, if_neg (fun z => y (iff.mp z.2))] at hq
      exact hq
  refine ⟨hE.1, fun z => ye (Or.inl ((st 0 (by decide)).mp z)), fun z => ⟨fun z1 => ye (Or.inr ((st 1 (by decide)).mp z1)), fun z1 => ⟨fun _ => ?_, fun z => absurd rfl z⟩⟩⟩
  rw [sp_slot, if_neg (fun q => by rcases q.1 with q | q; exact z ((st 0 (by decide)).mpr q); exact z1 ((st 1 (by decide)).mpr q))] at hq
  exact hq
theorem x_hasOut {nm : Nat → Nat × Nat} {μ : Mem} {A : Ad} {S : Sp} {E tt : Nat → Nat} {k : Int32} {post : Int32 → Mem → Prop} (h : XJ μ A nm S E tt) (hy : okTel S k → post 1 μ) (hn : ¬ okTel S k → post 0 μ) : wp_X0_hasOut μ (A 0 1) k post := by
  obtain ⟨G, ⟨Z1, Z2, Z3, Z4⟩, W, V, B, h9⟩ := id h
  obtain ⟨hN, hL, hK, hH, hP, hE⟩ := id G
  have st := fun m hm => st_eqx (m := m) Z1 V.2.2.1 hm
  refine ⟨hE.1, fun z => ?_, fun z => hn fun q => z ((st 1 (by decide)).mpr q.1)⟩
  have h2 := (st 1 (by decide)).mp z
  obtain ⟨⟨P1, P2, P3, P4⟩, hC, ⟨B1, B2, B3, B4⟩, hT, hV, hNN⟩ := id W
  have hw := B3 (Or.inr h2)
  obtain ⟨w5, -⟩ := Z4 (Or.inr h2)
  have w0 : s0 S 8 = 0 := V.2.2.2 h2
  rw [w0] at w5 hw
  obtain ⟨hpw, -⟩ := B4 0 hw
  have e5 : s0 S 6 ≤ E 5 := hK.2.1.2.2.2.2.1
  obtain ⟨ff1, -⟩ := hK.2.2.1.2 0 hw
  obtain ⟨q1, q2, q3, q4, q5, q6, q7, q8, -⟩ := hP.2.1 _ hpw
  intro r2 e2
  rw [w5] at e2
  subst e2
  refine ⟨fun q => absurd q (by simp), fun x3 e3 r4 e4 => ?_⟩
  rw [w5] at e4
  subst e4
  refine ⟨A 1 0, rfl, (hK.2.2.1.1 0 (by omega)).1, A 3 _, ff1, q1, A 7 _, q5, Or.inr (Or.inl q7), ?_⟩
  rw [q8]
  exact x_within (fun y0 y1 _ => nz1 (hy ⟨h2, y0, y1⟩)) (fun y _ => nz0 (hn fun q => y q.2))
theorem x_outValue {nm : Nat → Nat × Nat} {μ : Mem} {A : Ad} {S : Sp} {E tt : Nat → Nat} {k : Int32} {post : Int64 → Mem → Prop} (h : XJ μ A nm S E tt) (hk : okTel S k) (hq : post (conv S (sv S 0 (s2 S 0 (s1 S 10 0) k.toNatClampNeg))) μ) : wp_X0_outValue μ (A 0 1) k post := by
  obtain ⟨G, ⟨Z1, Z2, Z3, Z4⟩, W, V, B, h9⟩ := id h
  obtain ⟨hN, hL, hK, hH, hP, hE⟩ := id G
  obtain ⟨h2, k0, k1⟩ := id hk
  obtain ⟨⟨P1, P2, P3, P4⟩, hC, ⟨B1, B2, B3, B4⟩, hT, hV, hNN⟩ := id W
  have hw := B3 (Or.inr h2)
  obtain ⟨w5, -⟩ := Z4 (Or.inr h2)
  have w0 : s0 S 8 = 0 := V.2.2.2 h2
  rw [w0] at w5 hw
  obtain ⟨hpw, -⟩ := B4 0 hw
  obtain ⟨-, -, -, -, p3, -, -, p8, -⟩ := P3 _ hpw
  have e5 : s0 S 6 ≤ E 5 := hK.2.1.2.2.2.2.1
  obtain ⟨ff1, -⟩ := hK.2.2.1.2 0 hw
  obtain ⟨q1, q2, q3, q4, q5, q6, q7, q8, q9, -⟩ := hP.2.1 _ hpw
  obtain ⟨a, ha, ea⟩ := nI_of (Int32.not_lt.mpr k0)
  subst ea
  have hal : a < s1 S 3 (s1 S 10 0) := by
    rw [Int32.lt_iff_toInt_lt, nI_toInt ha, nI_toInt (by omega)] at k1; omega
  rw [nI_clamp ha] at hq
  refine ⟨hE.1, x_hasOut h (fun _ _ => nz1 ⟨A 0 2, hE.2.1, fun r7 e7 r8 e8 => ?_⟩) (fun q => absurd hk q)⟩
  rw [w5] at e7 e8
  subst e7; subst e8
  refine ⟨A 1 0, rfl, (hK.2.2.1.1 0 (by omega)).1, A 3 _, ff1, q1, A 7 _, q5, q7, ?_⟩
  rw [q8, nI_clamp ha, q9 a hal]
  refine ⟨vp_in_nI (by omega) (by omega), A 1 0, rfl, hK.1.1, x_readG G W hw (p8 a hal) fun _ => ?_⟩
  rw [B1, Nat.zero_add]
  exact hq
/-- the machine's own fields and its row -/
def XM (μ : Mem) (A : Ad) (S : Sp) : Prop := kd μ (A 0 0) = 12 ∧ fr μ 11 0 (A 0 0) = some (A 0 14) ∧ fi μ 11 1 (A 0 0) = nI (s0 S 0) ∧ fr μ 11 2 (A 0 0) = some (A 0 13) ∧ fi μ 11 3 (A 0 0) = nI (s0 S 2) ∧ fr μ 11 4 (A 0 0) = some (A 0 1) ∧ fr μ 11 5 (A 0 0) = some (A 0 4) ∧ kd μ (A 0 14) = 102 ∧ al μ (A 0 14) = 10 ∧ s0 S 0 ≤ 10 ∧ ∀ i, i < s0 S 0 → ai μ (A 0 14) i = si S 0 i
theorem XM.st {G : Nat × Nat → Prop} {nm nm' : Nat → Nat × Nat} {μ μ' : Mem} {A A' : Ad} {S : Sp} {E : Nat → Nat} (h : XM μ A S) (hN : RN nm A S E) (hs : St G E μ A nm μ' A' nm') (h0 : ¬ G (0, 0)) (h14 : ¬ G (0, 14)) : XM μ' A' S := by
  obtain ⟨g1, g2, g3, g4, g5, g6, g7, g8, g9, g10, g11⟩ := h
  have a := hs.2.2.2.2.1
  obtain ⟨x1, x2, -⟩ := hs.1.2.2 (A 0 0) (by omega) (by show ¬ G (nm (A 0 0)); rw [hN 0 0 (Us0 (by decide))]; exact h0)
  obtain ⟨-, -, y3, y4, -⟩ := hs.1.2.2 (A 0 14) (by omega) (by show ¬ G (nm (A 0 14)); rw [hN 0 14 (Us0 (by decide))]; exact h14)
  unfold XM
  rw [a 0 (by decide), a 1 (by decide), a 4 (by decide), a 13 (by decide), a 14 (by decide), x1, x1, x2, x2, x2, x2, y3]
  exact ⟨hs.1.kd g1, g2, g3, g4, g5, g6, g7, hs.1.kd g8, g9, g10, fun i hi => (y4 i).trans (g11 i hi)⟩
/-- the roles outside of engine and program -/
def gR (q : Nat × Nat) : Prop := q.1 = 0 ∧ (q.2 = 0 ∨ q.2 = 4 ∨ q.2 = 11 ∨ q.2 = 12 ∨ q.2 = 14 ∨ q.2 = 21 ∨ q.2 = 22)
theorem gR_n {j : Nat} (h : ¬ (j = 0 ∨ j = 4 ∨ j = 11 ∨ j = 12 ∨ j = 14 ∨ j = 21 ∨ j = 22)) : ¬ gR (0, j) := fun q => h q.2
theorem gR_k {k j : Nat} (h : 1 ≤ k) : ¬ gR (k, j) := fun q => by have : k = 0 := q.1; omega
theorem XG.stx {nm nm' : Nat → Nat × Nat} {μ μ' : Mem} {A A' : Ad} {S : Sp} {E E' tt : Nat → Nat} (h : XG μ A nm S E tt) (hs : St gR E μ A nm μ' A' nm') (hN' : RN nm' A' S E') (hL' : LV μ' A' S E') (e : ∀ r, r ≠ 4 → r ≠ 10 → E' r = E r) : XG μ' A' nm' S E' tt := by
  obtain ⟨hN, hL, ⟨h1, h2, h3, tp, tv, tq, h4, h5⟩, ⟨x0, w, m, u, y1, y2⟩, hP, hE⟩ := h
  have n0 : ∀ j, j < 24 → ¬ (j = 0 ∨ j = 4 ∨ j = 11 ∨ j = 12 ∨ j = 14 ∨ j = 21 ∨ j = 22) → ¬ gR (nm (A 0 j)) := fun j hj hd => by rw [hN 0 j (Us0 hj)]; exact gR_n hd
  have z1 := h1.off hs.1 (n0 2 (by decide) (by omega))
  have z2 := h2.off hs.1 (n0 5 (by decide) (by omega)) (n0 6 (by decide) (by omega)) (n0 15 (by decide) (by omega)) (n0 16 (by decide) (by omega))
  have z3 := h3.off hs.1 h2.2.2.2.2.1 (fun j hj => by rw [hN 1 j (Us1 hj)]; exact gR_k (by decide))
  have z4 := h4.off hs.1 h2.2.2.2.2.2 (fun j hj => by rw [hN 2 j (Us2 hj)]; exact gR_k (by decide))
  have z5 := h5.off hs.1 (n0 7 (by decide) (by omega)) (n0 8 (by decide) (by omega)) (n0 17 (by decide) (by omega)) (n0 18 (by decide) (by omega))
  have zH := y1.off hs.1 (fun j hj => n0 j (by omega) (by omega))
  have a : ∀ j, ¬ (j = 0 ∨ j = 4 ∨ j = 11 ∨ j = 12 ∨ j = 14 ∨ j = 21 ∨ j = 22) → A' 0 j = A 0 j := fun j hd => hs.2.1 0 j (gR_n hd)
  have ak : ∀ k, 1 ≤ k → A' k = A k := fun k hk => funext fun j => hs.2.1 k j (gR_k hk)
  refine ⟨hN', hL', ?_, ⟨x0, w, m, u, ?_, y2⟩, hP.st hN hs (fun q hq z => by rcases hq with ⟨-, q2⟩ | q2; have := z.2; omega; have := z.1; omega), hE.st hN hs (gR_n (by omega))⟩
  · unfold XKt XK1 XK2 XK3 XF
    unfold XK4 XR XK5
    rw [a 2 (by omega), a 5 (by omega), a 6 (by omega), a 7 (by omega), a 8 (by omega), a 15 (by omega), a 16 (by omega), a 17 (by omega), a 18 (by omega), ak 1 (by decide), ak 2 (by decide), ak 3 (by decide), ak 4 (by decide), e 0 (by decide) (by decide), e 1 (by decide) (by decide), e 5 (by decide) (by decide), e 6 (by decide) (by decide), e 7 (by decide) (by decide), e 8 (by decide) (by decide), e 9 (by decide) (by decide)]
    exact ⟨z1, z2, z3, tp, tv, tq, z4, z5⟩
  · unfold XHm at zH ⊢
    rw [a 3 (by omega), a 9 (by omega), a 10 (by omega), a 19 (by omega), a 20 (by omega), e 2 (by decide) (by decide), e 3 (by decide) (by decide)]
    exact zH
theorem XJ.stx {nm nm' : Nat → Nat × Nat} {μ μ' : Mem} {A A' : Ad} {S : Sp} {E E' tt : Nat → Nat} (h : XJ μ A nm S E tt) (hs : St gR E μ A nm μ' A' nm') (hN' : RN nm' A' S E') (hL' : LV μ' A' S E') (e : ∀ r, r ≠ 4 → r ≠ 10 → E' r = E r) (hB : EBd E') : XJ μ' A' nm' S E' tt := by
  obtain ⟨G, ⟨Z1, Z2, Z3, Z4⟩, W, V, B, h9⟩ := h
  obtain ⟨v1, v2⟩ := XZ.sts (S := S) G.2.2.2.2.2.1 G.1 hs (gR_n (by omega))
  have ak : A' 1 = A 1 := funext fun j => hs.2.1 1 j (gR_k (by decide))
  refine ⟨G.stx hs hN' hL' e, ⟨by rw [v1]; exact Z1, by rw [v1]; exact Z2, by rw [v1]; exact Z3, fun q => ⟨by rw [v2, ak]; exact (Z4 q).1, fun q1 => by rw [v1]; exact (Z4 q).2 q1⟩⟩, W, V, hB, by rw [e 9 (by decide) (by decide)]; exact h9⟩
/-- the row changes -/
theorem XJ.row {nm : Nat → Nat × Nat} {μ : Mem} {A : Ad} {S : Sp} {E tt : Nat → Nat} {i m : Nat} {n : Int32} (h : XJ μ A nm S E tt) : XJ μ A nm (u0 (ui S 0 i n) 0 m) E tt := by
  obtain ⟨G, Z, W, V, B, h9⟩ := h
  exact ⟨G, Z, W, V, B, h9⟩
theorem XJ.row0 {nm : Nat → Nat × Nat} {μ : Mem} {A : Ad} {S : Sp} {E tt : Nat → Nat} {m : Nat} (h : XJ μ A nm S E tt) : XJ μ A nm (u0 S 0 m) E tt := by
  obtain ⟨G, Z, W, V, B, h9⟩ := h
  exact ⟨G, Z, W, V, B, h9⟩
