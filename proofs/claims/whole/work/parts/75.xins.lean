/-! the class's instructions -/
/-- the engine's own fields stay -/
def EF (μ : Mem) (A : Ad) (μ' : Mem) (A' : Ad) : Prop := (∀ k, fi μ' 2 k (A' 0 1) = fi μ 2 k (A 0 1)) ∧ ∀ k, fr μ' 2 k (A' 0 1) = fr μ 2 k (A 0 1)
theorem EF.rf {μ : Mem} {A : Ad} : EF μ A μ A := ⟨fun _ => rfl, fun _ => rfl⟩
theorem EF.tr {μ μ1 μ2 : Mem} {A A1 A2 : Ad} (h : EF μ A μ1 A1) (h' : EF μ1 A1 μ2 A2) : EF μ A μ2 A2 := ⟨fun k => (h'.1 k).trans (h.1 k), fun k => (h'.2 k).trans (h.2 k)⟩
theorem XG.efk {nm nm' : Nat → Nat × Nat} {μ μ' : Mem} {A A' : Ad} {S : Sp} {E tt : Nat → Nat} (h : XG μ A nm S E tt) (hs : St gK E μ A nm μ' A' nm') : EF μ A μ' A' := XZ.sts (S := S) h.2.2.2.2.2.1 h.1 hs (gK_n (by omega))
theorem XG.efh {nm nm' : Nat → Nat × Nat} {μ μ' : Mem} {A A' : Ad} {S : Sp} {E tt : Nat → Nat} (h : XG μ A nm S E tt) (hs : St gH E μ A nm μ' A' nm') : EF μ A μ' A' := XZ.sts (S := S) h.2.2.2.2.2.1 h.1 hs (gH_n (by omega))
theorem St.k {E : Nat → Nat} {μ μ' : Mem} {A A' : Ad} {nm nm' : Nat → Nat × Nat} (h : St gK E μ A nm μ' A' nm') : St gE E μ A nm μ' A' nm' := h.mono (fun _ => Or.inl)
theorem St.h {E : Nat → Nat} {μ μ' : Mem} {A A' : Ad} {nm nm' : Nat → Nat × Nat} (h : St gH E μ A nm μ' A' nm') : St gE E μ A nm μ' A' nm' := h.mono (fun _ z => Or.inr (Or.inl z))
theorem up2_le {α : Type} {f : Nat → Nat → α} {k0 i k : Nat} {v : α} (h : ¬ k = k0) : up2 f k0 i v k = f k := funext fun _ => if_neg (fun z => h z.1)
theorem Pq_try {S : Sp} {to : Nat} : Pq S (sp_tryS S to) := by
  refine ⟨rfl, rfl, fun k hk => ?_, rfl, rfl⟩
  show up2 (up2 (up2 (up2 (up2 (up2 (up2 (s1 S) 15 (s0 S 7) (s0 S 6)) 16 (s0 S 7) (s0 S 8)) 17 (s0 S 7) to) 18 (s0 S 7) 0) 19 (s0 S 7) (s0 S 5)) 20 (s0 S 7) (s0 S 3)) 21 (s0 S 7) (s0 S 4) k = s1 S k
  rw [up2_le (by omega), up2_le (by omega), up2_le (by omega), up2_le (by omega), up2_le (by omega), up2_le (by omega), up2_le (by omega)]
theorem Pq_push {S : Sp} {p up at' : Nat} : Pq S (sp_pushS S p up at') := by
  refine ⟨rfl, rfl, fun k hk => ?_, rfl, rfl⟩
  show up2 (up2 (up2 (up2 (up2 (s1 S) 10 (s0 S 6) p) 11 (s0 S 6 + 1) (s1 S 11 (s0 S 6) + s1 S 1 p)) 12 (s0 S 6) up) 13 (s0 S 6) at') 14 (s0 S 6) (s0 S 7) k = s1 S k
  rw [up2_le (by omega), up2_le (by omega), up2_le (by omega), up2_le (by omega), up2_le (by omega)]
theorem Pq_mk {S : Sp} {i : Nat} : Pq S (mkS S i) := by
  refine ⟨rfl, rfl, fun k hk => ?_, rfl, rfl⟩
  show up2 (up2 (up2 (s1 S) 7 (s0 S 3) (sa S 2 i)) 8 (s0 S 3) (s1 S 6 i)) 9 (s0 S 3) (s0 S 4) k = s1 S k
  rw [up2_le (by omega), up2_le (by omega), up2_le (by omega)]
theorem Pq_dead {S : Sp} {j v : Nat} : Pq S (u1 S 18 j v) := ⟨rfl, rfl, fun k hk => up2_le (by omega), rfl, rfl⟩
theorem WF.c3 {S : Sp} (h : WF S) : s0 S 3 ≤ 20000 := by have := h.2.1.1; have := h.2.2.2.2.2.2.2.1; omega
theorem x_hasTag {μ : Mem} {S : Sp} {v : Int64} {t : Int32} {post : Int32 → Mem → Prop} (hW : WF S) (hv : okV (s0 S 3) v) (hy : ¬ v < 1099511627776 → nI (s1 S 7 (cix v)) = t → post 1 μ) (hn : ¬ (¬ v < 1099511627776 ∧ nI (s1 S 7 (cix v)) = t) → post 0 μ) : wp_X9_hasTag μ (conv S v) t post := by
  have hc3 := hW.c3
  have lv := conv_lt hW.2.1 hW.2.2.2.2.2.2.2.2.2 hc3 hv
  refine x_isCell (fun c1 _ => nz1 ?_) (fun c1 _ => nz0 (hn fun z => z.1 (lv.mp c1)))
  rcases hv with ⟨x, rfl⟩ | ⟨c, hc, rfl⟩
  · exact absurd (lv.mpr (num_lt x)) c1
  · obtain ⟨p1, p2, p3⟩ := hW.2.1.pb hW.2.2.2.2.2.2.2.2.2 hc
    rw [cix_cell (show c < 2 ^ 31 by omega)] at hy hn
    show KM μ μ → _
    intro _
    rw [conv_cell (show c < 2 ^ 31 by omega), cellX_mk, mkX_tag p1 p2 p3]
    exact ⟨fun e => hy (cell_ge (by omega)) e, fun e => hn fun z => e z.2⟩
theorem x_result {μ : Mem} {how a b : Int32} {post : Int32 → Mem → Prop} (hb : ¬ (¬ how ≤ 2 ∧ b = 0)) (h0 : 0 ≤ how) (hp : post (sumV how a b) μ) : wp_X0_result μ how a b post := by
  refine ⟨fun e => ?_, fun e => ?_, fun e => ?_, fun e => ?_, fun e0 e1 e2 e3 => ?_⟩
  · subst e; exact hp
  · subst e; exact hp
  · subst e; exact hp
  · subst e
    exact ⟨fun q => absurd ⟨by decide, q⟩ hb, fun q => ⟨q, hp⟩⟩
  · have hd2 : ¬ how ≤ 2 := fun r => by
      obtain ⟨j, -, hj, ej⟩ := i32_rng (lo := 0) (hi := 2) (by decide) (by decide) h0 r
      rcases (by omega : j = 0 ∨ j = 1 ∨ j = 2) with q | q | q
      · subst q; exact e0 ej
      · subst q; exact e1 ej
      · subst q; exact e2 ej
    rw [sumV, if_neg e0, if_neg e1, if_neg e2, if_neg e3] at hp
    exact ⟨fun q => absurd ⟨hd2, q⟩ hb, fun q => ⟨q, hp⟩⟩
theorem num_lt' {x y : Int32} : x.toInt64 < y.toInt64 ↔ x < y := by rw [Int64.lt_iff_toInt_lt, Int32.toInt_toInt64, Int32.toInt_toInt64, Int32.lt_iff_toInt_lt]
theorem num_le' {x y : Int32} : x.toInt64 ≤ y.toInt64 ↔ x ≤ y := by rw [Int64.le_iff_toInt_le, Int32.toInt_toInt64, Int32.toInt_toInt64, Int32.le_iff_toInt_le]
theorem num_eq' {x y : Int32} : x.toInt64 = y.toInt64 ↔ x = y := ⟨fun e => by have := congrArg Int64.toInt32 e; rw [num_i, num_i] at this; exact this, fun e => by rw [e]⟩
theorem x_holds {μ : Mem} {how a b : Int32} {post : Int32 → Mem → Prop} (hy : holdV how a b = true → post 1 μ) (hn : ¬ holdV how a b = true → post 0 μ) : wp_X0_holds μ how a.toInt64 b.toInt64 post := by
  unfold wp_X0_holds
  rw [lg_cmp_ge, lg_cmp_gt, lg_cmp_le, lg_cmp_lt, lg_cmp_eq, num_le', num_lt', num_le', num_lt', num_eq']
  refine ⟨fun e => ?_, fun e => ?_, fun e => ?_, fun e => ?_, fun e => ?_, fun e0 e1 e2 e3 e4 => ?_⟩
  · subst e
    exact ⟨fun q => hn (by show ¬ decide (a < b) = true; simp only [decide_eq_true_eq]; exact Int32.not_lt.mpr q), fun q => hy (by show decide (a < b) = true; simp only [decide_eq_true_eq]; exact Int32.not_le.mp q)⟩
  · subst e
    exact ⟨fun q => hn (by show ¬ decide (a ≤ b) = true; simp only [decide_eq_true_eq]; exact Int32.not_le.mpr q), fun q => hy (by show decide (a ≤ b) = true; simp only [decide_eq_true_eq]; exact Int32.not_lt.mp q)⟩
  · subst e
    exact ⟨fun q => hn (by show ¬ decide (b < a) = true; simp only [decide_eq_true_eq]; exact Int32.not_lt.mpr q), fun q => hy (by show decide (b < a) = true; simp only [decide_eq_true_eq]; exact Int32.not_le.mp q)⟩
  · subst e
    exact ⟨fun q => hn (by show ¬ decide (b ≤ a) = true; simp only [decide_eq_true_eq]; exact Int32.not_le.mpr q), fun q => hy (by show decide (b ≤ a) = true; simp only [decide_eq_true_eq]; exact Int32.not_lt.mp q)⟩
  · subst e
    exact ⟨fun q => hy (by show decide (a = b) = true; simp only [decide_eq_true_eq]; exact q), fun q => hn (by show ¬ decide (a = b) = true; simp only [decide_eq_true_eq]; exact q)⟩
  · rw [holdV, if_neg e0, if_neg e1, if_neg e2, if_neg e3, if_neg e4, decide_eq_true_eq] at hy hn
    exact ⟨fun q => hn (fun z => z q), fun q => hy q⟩
theorem ok_num {n : Nat} {v : Int64} (hn : n ≤ 20000) (hv : okV n v) (h : v < 1099511627776) : v = v.toInt32.toInt64 := by
  rcases hv with ⟨x, rfl⟩ | ⟨c, hc, rfl⟩
  · rw [num_i]
  · exact absurd h (cell_ge (by omega))
theorem x_sum {nm : Nat → Nat × Nat} {μ : Mem} {A : Ad} {S : Sp} {E tt : Nat → Nat} {i c z : Nat} {post : Int32 → Mem → Prop} (h : XG μ A nm S E tt) (hW : WF S) (hw : s0 S 8 < s0 S 6) (hi : i < s0 S 2) (ha : si S 1 i = nI (sa S 1 i)) (ha2 : sa S 1 i < s1 S 1 (s1 S 10 (s0 S 8))) (hb : si S 2 i = nI (sa S 2 i)) (hb2 : sa S 2 i < s1 S 1 (s1 S 10 (s0 S 8))) (hc' : si S 3 i = nI (sa S 3 i)) (hc2 : sa S 3 i < s1 S 1 (s1 S 10 (s0 S 8))) (hd : inR (si S 4 i) 4) (h9 : E 9 < 262143)
    (hc : (rdS S (sa S 2 i) < 1099511627776 ∧ rdS S (sa S 3 i) < 1099511627776) → ¬ (¬ si S 4 i ≤ 2 ∧ (rdS S (sa S 3 i)).toInt32 = 0) → UC (eWr S E (s1 S 11 (s0 S 8) + sa S 1 i)) ≤ UC E + c) (hz : (rdS S (sa S 2 i) < 1099511627776 ∧ rdS S (sa S 3 i) < 1099511627776) → ¬ (¬ si S 4 i ≤ 2 ∧ (rdS S (sa S 3 i)).toInt32 = 0) → UZ (eWr S E (s1 S 11 (s0 S 8) + sa S 1 i)) ≤ UZ E + z)
    (h6 : ¬ (rdS S (sa S 2 i) < 1099511627776 ∧ rdS S (sa S 3 i) < 1099511627776) → post 6 μ)
    (h7 : (rdS S (sa S 2 i) < 1099511627776 ∧ rdS S (sa S 3 i) < 1099511627776) → (¬ si S 4 i ≤ 2 ∧ (rdS S (sa S 3 i)).toInt32 = 0) → post 7 μ)
    (hp : (rdS S (sa S 2 i) < 1099511627776 ∧ rdS S (sa S 3 i) < 1099511627776) → ¬ (¬ si S 4 i ≤ 2 ∧ (rdS S (sa S 3 i)).toInt32 = 0) → ∀ μ' A' nm', XG μ' A' nm' (wrS S (sa S 1 i) (sumV (si S 4 i) (rdS S (sa S 2 i)).toInt32 (rdS S (sa S 3 i)).toInt32).toInt64) (eWr S E (s1 S 11 (s0 S 8) + sa S 1 i)) tt → St gK E μ A nm μ' A' nm' → post 0 μ') : wp_X0_sum c z μ (A 0 1) (A 1 (s0 S 8)) (A 4 i) post := by
  obtain ⟨hN, hL, hK, hH, hP, hE⟩ := id h
  obtain ⟨i1, i2, i3, i4, i5, i6, i7, -⟩ := hP.2.2 i hi
  have hc3 := hW.c3
  have hbl := hW.2.2.2.2.2.2.2.2.2
  have vb := hW.2.2.2.2.1 _ (WF.sl hW.2.2.1 hw hb2)
  have vc := hW.2.2.2.2.1 _ (WF.sl hW.2.2.1 hw hc2)
  have lb := conv_lt hW.2.1 hbl hc3 vb
  have lc := conv_lt hW.2.1 hbl hc3 vc
  refine ⟨hE.1, A 0 2, hE.2.1, i1, hK.1.1, ?_⟩
  rw [i4, hb]
  refine x_readG h hW hw hb2 fun _ => ⟨A 0 2, hE.2.1, hK.1.1, ?_⟩
  rw [i5, hc']
  refine x_readG h hW hw hc2 fun _ => x_isCell (fun c1 _ => nz1 (h6 fun q => c1 (lb.mpr q.1))) (fun c1 _ => nz0 (x_isCell (fun c2 _ => nz1 (h6 fun q => c2 (lc.mpr q.2))) (fun c2 _ => nz0 ?_)))
  have n1 : rdS S (sa S 2 i) < 1099511627776 := lb.mp c1
  have n2 : rdS S (sa S 3 i) < 1099511627776 := lc.mp c2
  have e1 : conv S (sv S 0 (s1 S 11 (s0 S 8) + sa S 2 i)) = rdS S (sa S 2 i) := if_pos n1
  have e2 : conv S (sv S 0 (s1 S 11 (s0 S 8) + sa S 3 i)) = rdS S (sa S 3 i) := if_pos n2
  rw [e1, e2, i6, i3, ha, lg_cmp_eq]
  have e3 := ok_num hc3 vc n2
  have z0 : rdS S (sa S 3 i) = 0 ↔ (rdS S (sa S 3 i)).toInt32 = 0 := by
    constructor
    · intro q; rw [q]; rfl
    · intro q
      have : rdS S (sa S 3 i) = (rdS S (sa S 3 i)).toInt32.toInt64 := e3
      rw [this, q]; rfl
  have go : ¬ (¬ si S 4 i ≤ 2 ∧ (rdS S (sa S 3 i)).toInt32 = 0) → wp_X0_result μ (si S 4 i) (rdS S (sa S 2 i)).toInt32 (rdS S (sa S 3 i)).toInt32 (fun (r43 : Int32) (μ41 : Mem) => KM μ μ41 → ∃ c47 z48, c47 ≤ c ∧ z48 ≤ z ∧ wp_X0_become c47 z48 μ41 (A 0 1) (A 1 (s0 S 8)) (nI (sa S 1 i)) (Int32.toInt64 r43) (fun (r50 : Int32) (μ46 : Mem) => KM μ41 μ46 → post r50 μ46)) := fun hno => by
    refine x_result hno hd.1 fun _ => ⟨c, z, Nat.le_refl _, Nat.le_refl _, ?_⟩
    have := x_become (post := fun r μ' => KM μ μ' → post r μ') (v := (sumV (si S 4 i) (rdS S (sa S 2 i)).toInt32 (rdS S (sa S 3 i)).toInt32).toInt64) h hW hw ha2 h9 (hc ⟨n1, n2⟩ hno) (hz ⟨n1, n2⟩ hno) (fun μ' A' nm' x1 x2 _ => hp ⟨n1, n2⟩ hno μ' A' nm' x1 x2)
    rw [conv_num] at this
    exact this
  refine ⟨fun q => ⟨fun q3 => ?_, fun q3 => ⟨fun q4 => ?_, fun q4 => go fun r => ?_⟩⟩, fun q => go fun r => q (z0.mpr r.2)⟩
  · exact h7 ⟨n1, n2⟩ ⟨by rw [q3]; decide, z0.mp q⟩
  · exact h7 ⟨n1, n2⟩ ⟨by rw [q4]; decide, z0.mp q⟩
  · obtain ⟨j, -, hj, ej⟩ := i32_rng (lo := 0) (hi := 4) (by decide) (by decide) hd.1 hd.2
    rw [ej] at r q3 q4
    rcases (by omega : j = 0 ∨ j = 1 ∨ j = 2 ∨ j = 3 ∨ j = 4) with y | y | y | y | y <;> subst y
    · exact r.1 (by decide)
    · exact r.1 (by decide)
    · exact r.1 (by decide)
    · exact q3 rfl
    · exact q4 rfl
theorem x_rel {nm : Nat → Nat × Nat} {μ : Mem} {A : Ad} {S : Sp} {E tt : Nat → Nat} {i : Nat} {post : Int32 → Mem → Prop} (h : XG μ A nm S E tt) (hW : WF S) (hw : s0 S 8 < s0 S 6) (hi : i < s0 S 2) (ha : si S 1 i = nI (sa S 1 i)) (ha2 : sa S 1 i < s1 S 1 (s1 S 10 (s0 S 8))) (hb : si S 2 i = nI (sa S 2 i)) (hb2 : sa S 2 i < s1 S 1 (s1 S 10 (s0 S 8)))
    (h6 : ¬ (rdS S (sa S 1 i) < 1099511627776 ∧ rdS S (sa S 2 i) < 1099511627776) → post 6 μ)
    (h0 : (rdS S (sa S 1 i) < 1099511627776 ∧ rdS S (sa S 2 i) < 1099511627776) → holdV (si S 3 i) (rdS S (sa S 1 i)).toInt32 (rdS S (sa S 2 i)).toInt32 = true → post 0 μ)
    (h7 : (rdS S (sa S 1 i) < 1099511627776 ∧ rdS S (sa S 2 i) < 1099511627776) → ¬ holdV (si S 3 i) (rdS S (sa S 1 i)).toInt32 (rdS S (sa S 2 i)).toInt32 = true → post 7 μ) : wp_X0_compare μ (A 0 1) (A 1 (s0 S 8)) (A 4 i) post := by
  obtain ⟨hN, hL, hK, hH, hP, hE⟩ := id h
  obtain ⟨i1, i2, i3, i4, i5, i6, i7, -⟩ := hP.2.2 i hi
  have hc3 := hW.c3
  have hbl := hW.2.2.2.2.2.2.2.2.2
  have va := hW.2.2.2.2.1 _ (WF.sl hW.2.2.1 hw ha2)
  have vb := hW.2.2.2.2.1 _ (WF.sl hW.2.2.1 hw hb2)
  have la := conv_lt hW.2.1 hbl hc3 va
  have lb := conv_lt hW.2.1 hbl hc3 vb
  refine ⟨hE.1, A 0 2, hE.2.1, i1, hK.1.1, ?_⟩
  rw [i3, ha]
  refine x_readG h hW hw ha2 fun _ => ⟨A 0 2, hE.2.1, hK.1.1, ?_⟩
  rw [i4, hb]
  refine x_readG h hW hw hb2 fun _ => x_isCell (fun c1 _ => nz1 (h6 fun q => c1 (la.mpr q.1))) (fun c1 _ => nz0 (x_isCell (fun c2 _ => nz1 (h6 fun q => c2 (lb.mpr q.2))) (fun c2 _ => nz0 ?_)))
  have n1 : rdS S (sa S 1 i) < 1099511627776 := la.mp c1
  have n2 : rdS S (sa S 2 i) < 1099511627776 := lb.mp c2
  have e1 : conv S (sv S 0 (s1 S 11 (s0 S 8) + sa S 1 i)) = (rdS S (sa S 1 i)).toInt32.toInt64 := (if_pos n1).trans (ok_num hc3 va n1)
  have e2 : conv S (sv S 0 (s1 S 11 (s0 S 8) + sa S 2 i)) = (rdS S (sa S 2 i)).toInt32.toInt64 := (if_pos n2).trans (ok_num hc3 vb n2)
  rw [e1, e2, i5]
  exact x_holds (fun q _ => nz1 (h0 ⟨n1, n2⟩ q)) (fun q _ => nz0 (h7 ⟨n1, n2⟩ q))
theorem x_cut {nm : Nat → Nat × Nat} {μ : Mem} {A : Ad} {S : Sp} {E tt : Nat → Nat} {v : Int64} {post : Int32 → Mem → Prop} (h : XG μ A nm S E tt) (hW : WF S) (hw : s0 S 8 < s0 S 6) (hv : okV (s0 S 3) v) (h6 : ¬ v < 1099511627776 → post 6 μ)
    (hp : v < 1099511627776 → ∀ μ', XG μ' A nm (sp_cutS S v.toInt32.toNatClampNeg) (if s0 (sp_cutS S v.toInt32.toNatClampNeg) 7 = 0 then va_up E 9 0 else E) tt → St gK E μ A nm μ' A nm → post 0 μ') : wp_X0_cut μ (A 0 1) (A 1 (s0 S 8)) (conv S v) post := by
  obtain ⟨hN, hL, hK, hH, hP, hE⟩ := id h
  have lv := conv_lt hW.2.1 hW.2.2.2.2.2.2.2.2.2 hW.c3 hv
  refine x_isCell (fun c1 _ => nz1 (h6 fun q => c1 (lv.mpr q))) (fun c1 _ => nz0 ⟨hE.1, A 0 2, hE.2.1, hK.1.1, ?_⟩)
  have hn := lv.mp c1
  rw [show conv S v = v from if_pos hn]
  obtain ⟨h1, h2, h3, tp, tv, tq, h4, h5⟩ := hK
  refine x_cutTo ⟨h1, h2, h3, h4, h5⟩ hN hW.2.2.1 hW.2.2.2.1.1 hw (fun μ' hX ho _ => hp hn μ' (h.k (St.of (K_of4 hN ho)) ⟨?_, ?_, hX.ext⟩ ⟨rfl, rfl, rfl, rfl, rfl, rfl, rfl, rfl, ?_, ?_⟩ Pq.rf) (St.of (K_of4 hN ho)))
  · split
    · exact hN
    · exact hN
  · split
    · exact hL.km ho.1
    · exact hL.km ho.1
  · split <;> rfl
  · split <;> rfl
theorem x_drop {nm : Nat → Nat × Nat} {μ : Mem} {A : Ad} {S : Sp} {E tt : Nat → Nat} {v : Int64} {post : Int32 → Mem → Prop} (h : XG μ A nm S E tt) (hW : WF S) (hv : okV (s0 S 3) v) (h6 : ¬ v < 1099511627776 → post 6 μ)
    (hp : v < 1099511627776 → ∀ μ', XG μ' A nm (sp_deadS S v.toInt32) E tt → St gK E μ A nm μ' A nm → post 0 μ') : wp_X0_drop μ (A 0 1) (conv S v) post := by
  obtain ⟨hN, hL, hK, hH, hP, hE⟩ := id h
  have lv := conv_lt hW.2.1 hW.2.2.2.2.2.2.2.2.2 hW.c3 hv
  refine x_isCell (fun c1 _ => nz1 (h6 fun q => c1 (lv.mpr q))) (fun c1 _ => nz0 ⟨hE.1, A 0 2, hE.2.1, hK.1.1, ?_⟩)
  have hn := lv.mp c1
  rw [show conv S v = v from if_pos hn]
  obtain ⟨h1, h2, h3, tp, tv, tq, h4, h5⟩ := hK
  have hszd : szS S = s1 S 11 (s0 S 6) + 2 * s0 S 6 + 3 * s0 S 7 := rfl
  have hsz := hW.2.2.1.2.1
  have hdd : Pq S (sp_deadS S v.toInt32) ∧ Hq S (sp_deadS S v.toInt32) E E := by
    unfold sp_deadS
    split
    · exact ⟨Pq_dead, rfl, rfl, rfl, rfl, rfl, rfl, rfl, rfl, rfl, rfl⟩
    · exact ⟨Pq.rf, rfl, rfl, rfl, rfl, rfl, rfl, rfl, rfl, rfl, rfl⟩
  exact x_dropRedo ⟨h1, h2, h3, h4, h5⟩ hN (by omega) (fun μ' hX ho _ => hp hn μ' (h.k (St.of ho) ⟨hN.pq hdd.1.1 hdd.1.2.1 rfl rfl (hdd.1.2.2.1 4 (by decide)), (hL.km ho.1).pq hdd.1.1 hdd.1.2.1 rfl rfl (hdd.1.2.2.1 4 (by decide)), hX.ext⟩ hdd.2 hdd.1) (St.of ho))
theorem x_leaveRedo {nm : Nat → Nat × Nat} {μ : Mem} {A : Ad} {S : Sp} {E tt : Nat → Nat} {to c z : Nat} {post : Int32 → Mem → Prop} (h : XG μ A nm S E tt) (hW : WF S) (hw : s0 S 8 < s0 S 6) (hm : s0 S 11 < 2 ^ 31) (hc : szS S + 3 ≤ s0 S 14 → UC (eRd S E) ≤ UC E + c) (hz : szS S + 3 ≤ s0 S 14 → UZ (eRd S E) ≤ UZ E + z) (h4' : ¬ szS S + 3 ≤ s0 S 14 → post 4 μ)
    (hp : szS S + 3 ≤ s0 S 14 → ∀ μ' A' nm', XG μ' A' nm' (sp_tryS S to) (eRd S E) (va_up tt (s0 S 7) (E 9)) → St gK E μ A nm μ' A' nm' → post 0 μ') : wp_X0_leaveRedo c z μ (A 0 1) (A 1 (s0 S 8)) (nI to) post := by
  obtain ⟨hN, hL, hK, hH, hP, hE⟩ := id h
  obtain ⟨h1, h2, h3, tp, tv, tq, h4, h5⟩ := id hK
  have hsz := hW.2.2.1.2.1
  have hl14 := hW.2.2.2.2.2.2.2.2.1
  refine ⟨hE.1, A 0 2, hE.2.1, h1.1, x_hasRoom (m := 3) ⟨h1, h2, h3, h4, h5⟩ (by omega) (by omega) (fun hy _ => nz1 ?_) (fun hn _ => nz0 (h4' hn))⟩
  obtain ⟨x0, w, n, u, x1, x2⟩ := id hH
  refine ⟨A 0 2, hE.2.1, A 0 3, hE.2.2, x1.1, x_used x1 fun _ => ⟨h1.1, c, z, Nat.le_refl _, Nat.le_refl _, ?_⟩⟩
  have e23 : ∀ r, r = 2 ∨ r = 3 → eRd S E r = E r := fun r hr => by
    unfold eRd
    split
    · rfl
    · show (if r = 8 then _ else if r = 7 then _ else E r) = E r
      rw [if_neg (by omega), if_neg (by omega)]
  exact x_pushRedo h.ne hw (by omega) hm (hc hy) (hz hy) (fun μ' A' nm' x y _ => hp hy μ' A' nm' (h.k y x ⟨rfl, rfl, rfl, rfl, rfl, rfl, rfl, rfl, e23 2 (by omega), e23 3 (by omega)⟩ Pq_try) y)
theorem ePr_k {r : Nat} (hr : ¬ r = 3) : ∀ k n (E : Nat → Nat), ePr E n k r = E r := by
  intro k
  induction k with
  | zero => intro n E; rfl
  | succ k ih =>
    intro n E
    show ePr (eRow (eRow E 3 (2 * n)) 3 (2 * n + 1)) (n + 1) k r = E r
    rw [ih]
    exact (if_neg hr).trans (if_neg hr)
theorem eCmp_k {S : Sp} {r : Nat} (hr : ¬ r = 3) : ∀ m n f g (E : Nat → Nat), eCmp S m n f g E r = E r := by
  intro m
  induction m with
  | zero => intro n f g E; rfl
  | succ m ih =>
    intro n f g E
    rw [eCmp]
    split
    · rfl
    · split
      · split
        · exact ih _ _ _ _
        · rfl
      · split
        · rw [ih]; exact ePr_k hr _ _ _
        · rfl
theorem x_same {nm : Nat → Nat × Nat} {μ : Mem} {A : Ad} {S : Sp} {E tt : Nat → Nat} {x y : Int64} {c z : Nat} {post : Int32 → Mem → Prop} (h : XG μ A nm S E tt) (hW : WF S) (hx : okV (s0 S 3) x) (hy : okV (s0 S 3) y) (hc : UC (eCmp S 5000 1 (fun _ => x) (fun _ => y) (eRow (eRow E 3 0) 3 1)) ≤ UC E + c) (hz : UZ (eCmp S 5000 1 (fun _ => x) (fun _ => y) (eRow (eRow E 3 0) 3 1)) ≤ UZ E + z)
    (hp : ∀ μ' A' nm', XG μ' A' nm' S (eCmp S 5000 1 (fun _ => x) (fun _ => y) (eRow (eRow E 3 0) 3 1)) tt → St gH E μ A nm μ' A' nm' → post (cmpAns (sp_cmp S x y)) μ') : wp_X2_compare c z μ (A 0 3) (conv S x) (conv S y) post := by
  obtain ⟨hN, hL, hK, hH, hP, hE⟩ := id h
  obtain ⟨x0, w, n, u, x1, x2⟩ := id hH
  obtain ⟨g1, g2, g3, g4, g5, g6, g7, g8, g9, l1, l3⟩ := id x1
  have ne : ∀ a b, a < 24 → b < 24 → a ≠ b → ¬ A 0 a = A 0 b := fun a b ha hb hd => hN.ne (Us0 ha) (Us0 hb) (fun z => hd z.2)
  obtain ⟨u1, u2, -⟩ := eRow_U (E := E) (r := 3) (n := 0) (by decide)
  obtain ⟨v1, v2, -⟩ := eRow_U (E := eRow E 3 0) (r := 3) (n := 1) (by decide)
  obtain ⟨w1, w2, w5, w7⟩ := eCmp_U (S := S) 5000 1 (fun _ => x) (fun _ => y) (eRow (eRow E 3 0) 3 1)
  refine ⟨g1, A 0 10, g3, l3.1, x_shrink (k := 0) l3 (Nat.zero_le _) (fun μ1 hl1 ho1 ha1 _ => ?_)⟩
  have st1 : St gH E μ A nm μ1 A nm := St.of (ho1.sub (fun a _ hb => gH_of hN (by omega) hb))
  obtain ⟨q1, q2, -⟩ := ho1.2.2 (A 0 3) (by omega) (ne 3 10 (by decide) (by decide) (by decide))
  have h1 : XHm μ1 A S E (s0 S 12) (s0 S 5) w 0 u := ⟨ho1.kd g1, by rw [q2]; exact g2, by rw [q2]; exact g3, by rw [q1]; exact g4, by rw [q1]; exact g5, by rw [(ho1.2.2 _ (by have := l1.2.2.1; omega) (ne 19 10 (by decide) (by decide) (by decide))).2.2.1]; exact g6, ha1.trans g7, g8, g9, l1.off ho1 (ne 9 10 (by decide) (by decide) (by decide)) (ne 19 10 (by decide) (by decide) (by decide)), hl1⟩
  refine ⟨A 0 10, h1.2.2.1, hl1.1, UC (eRow E 3 0) - UC E, UZ (eRow E 3 0) - UZ E, by omega, by omega, ?_⟩
  refine x_pushP hN (hL.km ho1.1) h1 (by decide) (by omega) (by omega) (fun μ2 A2 nm2 N2 L2 h2 st2 _ => ?_)
  have a3 : A2 0 3 = A 0 3 := st2.2.2.2.2.1 3 (by decide)
  refine ⟨A2 0 10, by rw [← a3]; exact h2.2.2.1, h2.2.2.2.2.2.2.2.2.2.2.1, UC (eRow (eRow E 3 0) 3 1) - UC (eRow E 3 0), UZ (eRow (eRow E 3 0) 3 1) - UZ (eRow E 3 0), by omega, by omega, ?_⟩
  have h2' : XHm μ2 A2 S (eRow E 3 0) (s0 S 12) (s0 S 5) w 1 (va_up u 0 (conv S x)) := h2
  refine x_pushP N2 L2 h2' (by decide) (by omega) (by omega) (fun μ3 A3 nm3 N3 L3 h3 st3 _ => ?_)
  have a3' : A3 0 3 = A2 0 3 := st3.2.2.2.2.1 3 (by decide)
  have hc3 := hW.c3
  have := x_cmp27 x2 hW.2.1 hW.2.2.2.2.2.2.2.2.2 hc3 rfl 5000 1 (fun _ => x) (fun _ => y) _ μ3 A3 nm3 _ (c - (UC (eRow E 3 0) - UC E) - (UC (eRow (eRow E 3 0) 3 1) - UC (eRow E 3 0))) (z - (UZ (eRow E 3 0) - UZ E) - (UZ (eRow (eRow E 3 0) 3 1) - UZ (eRow E 3 0))) (Nat.le_refl _) (by decide) N3 L3 h3 (fun j hj => ?_) (by omega) (by omega) (post := post) (fun μ' A' nm' n' u' y1 y2 y3 y4 => ?_)
  · rw [a3', a3] at this
    exact ⟨_, this⟩
  · have ej : j = 0 := by omega
    subst ej
    refine ⟨?_, ?_, hx, hy⟩
    · show (if 2 * 0 = 1 then _ else if 2 * 0 = 0 then _ else _) = _
      rw [if_neg (by decide), if_pos (by decide)]
    · show (if 2 * 0 + 1 = 1 then _ else _) = _
      rw [if_pos (by decide)]
  · have stA : St gH E μ A nm μ' A' nm' := ((st1.tr st2 (Nat.le_refl _) (Nat.le_refl _)).tr st3 (Nat.le_refl _) (Nat.le_refl _)).tr y4 (Nat.le_refl _) (Nat.le_refl _)
    refine hp μ' A' nm' ⟨y1, y2, XKt.st hK hN stA ?_ ?_ w5 ?_ w7 ?_ ?_, ⟨x0, w, n', u', y3, x2⟩, hP.st hN stA (fun q => gP_h), hE.st hN stA (gH_n (by omega))⟩ stA
    · exact (eCmp_k (by decide) _ _ _ _ _).trans rfl
    · exact (eCmp_k (by decide) _ _ _ _ _).trans rfl
    · exact (eCmp_k (by decide) _ _ _ _ _).trans rfl
    · exact (eCmp_k (by decide) _ _ _ _ _).trans rfl
    · exact (eCmp_k (by decide) _ _ _ _ _).trans rfl
