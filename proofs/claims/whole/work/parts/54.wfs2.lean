/-! what always holds, behind a step -/
theorem WF.push {S : Sp} {p up at' : Nat} (h : WF S) (hp : p < s0 S 1) (hsz : szS S + (2 + s1 S 1 p) ≤ 20000)
    (hu0 : up = 0 ↔ s0 S 6 = 0) (hu : ∀ u, up = u + 1 → u < s0 S 6 ∧ at' < s1 S 4 (s1 S 10 u) ∧ s1 S 5 (s2 S 1 (s1 S 10 u) at') = 10 ∧ si S 1 (s2 S 1 (s1 S 10 u) at') = nI p) : WF (sp_pushS S p up at') := by
  obtain ⟨P, C, hB, ⟨T1, T2, T3⟩, V, N⟩ := h
  have hbg := WF.bg P hB (s0 S 6) (Nat.le_refl _)
  obtain ⟨B1, B2, B3, B4⟩ := hB
  have o11 : ∀ j, j ≤ s0 S 6 → s1 (sp_pushS S p up at') 11 j = s1 S 11 j := fun j hj => by simp [s1, sp_pushS, up2, show ¬ j = s0 S 6 + 1 by omega]
  have o : ∀ k j, k ≠ 11 → j < s0 S 6 → s1 (sp_pushS S p up at') k j = s1 S k j := fun k j hk hj => by simp [s1, sp_pushS, up2, show ¬ j = s0 S 6 by omega, hk]
  have n10 : s1 (sp_pushS S p up at') 10 (s0 S 6) = p := by simp [s1, sp_pushS, up2]
  have n11 : s1 (sp_pushS S p up at') 11 (s0 S 6 + 1) = s1 S 11 (s0 S 6) + s1 S 1 p := by simp [s1, sp_pushS, up2]
  have n12 : s1 (sp_pushS S p up at') 12 (s0 S 6) = up := by simp [s1, sp_pushS, up2]
  have n13 : s1 (sp_pushS S p up at') 13 (s0 S 6) = at' := by simp [s1, sp_pushS, up2]
  have n14 : s1 (sp_pushS S p up at') 14 (s0 S 6) = s0 S 7 := by simp [s1, sp_pushS, up2]
  have e : szS S = s1 S 11 (s0 S 6) + 2 * s0 S 6 + 3 * s0 S 7 := rfl
  refine ⟨P, C, ⟨by rw [o11 0 (Nat.zero_le _)]; exact B1, ?_, fun q => Nat.lt_succ_of_lt (B3 q), fun j hj => ?_⟩, ⟨⟨T1.1, fun i hi => Nat.le_succ_of_le (T1.2 i hi)⟩, T2, fun i hi => ?_⟩, fun m hm => ?_, N⟩
  · show s1 (sp_pushS S p up at') 11 (s0 S 6 + 1) + 2 * (s0 S 6 + 1) + 3 * s0 S 7 ≤ 20000
    rw [n11]; omega
  · have hj : j < s0 S 6 + 1 := hj
    show s1 (sp_pushS S p up at') 10 j < s0 S 1 ∧ s1 (sp_pushS S p up at') 11 (j + 1) = s1 (sp_pushS S p up at') 11 j + s1 S 1 (s1 (sp_pushS S p up at') 10 j) ∧ (s1 (sp_pushS S p up at') 12 j = 0 ↔ j = 0) ∧ s1 (sp_pushS S p up at') 14 j ≤ 7000 ∧ ∀ u, s1 (sp_pushS S p up at') 12 j = u + 1 → u < j ∧ s1 (sp_pushS S p up at') 13 j < s1 S 4 (s1 (sp_pushS S p up at') 10 u) ∧ s1 S 5 (s2 S 1 (s1 (sp_pushS S p up at') 10 u) (s1 (sp_pushS S p up at') 13 j)) = 10 ∧ si S 1 (s2 S 1 (s1 (sp_pushS S p up at') 10 u) (s1 (sp_pushS S p up at') 13 j)) = nI (s1 (sp_pushS S p up at') 10 j)
    rcases Nat.lt_or_ge j (s0 S 6) with q | q
    · rw [o 10 j (by decide) q, o 12 j (by decide) q, o 13 j (by decide) q, o 14 j (by decide) q, o11 j (by omega), o11 (j + 1) (by omega)]
      obtain ⟨b1, b2, b3, b4, b5⟩ := B4 j q
      refine ⟨b1, b2, b3, b4, fun u hu => ?_⟩
      have h5 := b5 u hu
      rw [o 10 u (by decide) (by omega)]
      exact h5
    · have ej : j = s0 S 6 := by omega
      subst ej
      rw [n10, n11, n12, n13, n14, o11 _ (Nat.le_refl _)]
      refine ⟨hp, rfl, hu0, by omega, fun u hu' => ?_⟩
      have h5 := hu u hu'
      rw [o 10 u (by decide) h5.1]
      exact h5
  · obtain ⟨a1, a2, a3, a4, a5, a6, a7⟩ := T3 i hi
    refine ⟨a1, a2, a3, a4, a5, a6, fun k hk => a7 k ?_⟩
    have hk : k < s1 (sp_pushS S p up at') 11 (s1 S 15 i) := hk
    rw [o11 _ (T1.2 i hi)] at hk
    exact hk
  · have hm : m < s1 (sp_pushS S p up at') 11 (s0 S 6 + 1) := hm
    show okV (s0 S 3) (if 0 = 0 ∧ s1 S 11 (s0 S 6) ≤ m then 0 else sv S 0 m)
    by_cases q : s1 S 11 (s0 S 6) ≤ m
    · rw [if_pos ⟨rfl, q⟩]; exact okV_num 0
    · rw [if_neg (fun z => q z.2)]; exact V m (by omega)
theorem WF.work {S : Sp} {w m : Nat} (h : WF S) (hw : w < s0 S 6) (hm : m ≤ 2000) : WF (u0 (u0 S 8 w) 9 m) := by
  obtain ⟨P, C, ⟨B1, B2, B3, B4⟩, T, V, N⟩ := h
  exact ⟨P, C, ⟨B1, B2, fun _ => hw, B4⟩, T, V, hm, N.2⟩
theorem WF.call {S : Sp} {i : Nat} (h : WF S) (hl : live S) (hat : s0 S 9 < s1 S 4 (s1 S 10 (s0 S 8))) (hi : i = atS S) (hk : s1 S 5 i = 10) (ha : si S 1 i = nI (sa S 1 i)) (ha2 : sa S 1 i < s0 S 1) (hn : s1 S 2 (sa S 1 i) ≤ s1 S 6 i) (hr : ∀ j, j < s1 S 6 i → s2 S 2 i j < s1 S 1 (s1 S 10 (s0 S 8))) : WF (sp_callS S i) := by
  unfold sp_callS
  have hN4 := h.2.2.2.2.2.2.2.2.1
  split
  · have hw := h.2.2.1.2.2.1 hl
    have hP := h.push (p := sa S 1 i) (up := s0 S 8 + 1) (at' := s0 S 9) ha2 (by omega) (by omega) (fun u hu => by
      have : u = s0 S 8 := by omega
      subst this
      exact ⟨hw, hat, by rw [hi] at hk; exact hk, by rw [hi] at ha ⊢; exact ha⟩)
    refine WF.work (hP.wrL _ fun k hk2 hT => ?_) ?_ (Nat.zero_le _)
    · refine hT.2.2.2.2.1 _ ?_ |> fun z => by rw [(wrL_e k).1] at z; exact z
      rw [(wrL_e k).1, (wrL_e k).2.1]
      show s1 S 11 (s0 S 8) + s2 S 2 i k < s1 (sp_pushS S (sa S 1 i) (s0 S 8 + 1) (s0 S 9)) 11 (s0 S 6 + 1)
      have n11 : s1 (sp_pushS S (sa S 1 i) (s0 S 8 + 1) (s0 S 9)) 11 (s0 S 6 + 1) = s1 S 11 (s0 S 6) + s1 S 1 (sa S 1 i) := by simp [s1, sp_pushS, up2]
      rw [n11]
      have := WF.sl h.2.2.1 hw (hr k (by omega))
      omega
    · rw [(wrL_e _).1]
      show s0 S 6 < s0 S 6 + 1
      omega
  · exact h.stop (by decide)
theorem WF.exit2 {S : Sp} (h : WF S) (hl : live S) (hs : s0 S 13 < s0 S 10) (hok : exOK S) : WF (sp_exit2 S) := by
  unfold sp_exit2
  have hw := h.2.2.1.2.2.1 hl
  split
  · obtain ⟨P, C, ⟨B1, B2, B3, B4⟩, T, V, ⟨N1, N2, N3⟩⟩ := h
    exact ⟨P, C, ⟨B1, B2, fun _ => hw, B4⟩, T, V, N1, hs, N3⟩
  · rename_i hz
    obtain ⟨o1, o2, o3, o4, o5, o6⟩ := hok hz
    obtain ⟨b1, -⟩ := h.2.2.1.2.2.2 (s0 S 8) hw
    obtain ⟨c1, -⟩ := h.2.2.1.2.2.2 (s1 S 12 (s0 S 8) - 1) (by omega)
    obtain ⟨-, -, -, -, -, -, -, p8, -⟩ := h.1.2.2.1 _ b1
    obtain ⟨-, -, -, -, -, -, q7, -⟩ := h.1.2.2.1 _ c1
    have hni := h.1.2.1
    have hL : WF (exL S (s1 S 10 (s0 S 8)) (s0 S 8) (s1 S 12 (s0 S 8) - 1) (exI S) (s1 S 3 (s1 S 10 (s0 S 8)))) := by
      refine h.wrL _ fun k hk hT => ?_
      refine hT.2.2.2.2.1 _ ?_ |> fun z => by rw [(wrL_e k).1] at z; exact z
      rw [(wrL_e k).1, (wrL_e k).2.1]
      exact WF.sl h.2.2.1 hw (p8 k hk)
    have e0 : s0 (exL S (s1 S 10 (s0 S 8)) (s0 S 8) (s1 S 12 (s0 S 8) - 1) (exI S) (s1 S 3 (s1 S 10 (s0 S 8)))) = s0 S := (wrL_e _).1
    have e1 : s1 (exL S (s1 S 10 (s0 S 8)) (s0 S 8) (s1 S 12 (s0 S 8) - 1) (exI S) (s1 S 3 (s1 S 10 (s0 S 8)))) = s1 S := (wrL_e _).2.1
    have hX : WF (exT S) := WF.work hL (by rw [e0]; omega) (by omega)
    split
    · rename_i hq
      have x6 : s0 (exT S) 6 = s0 S 6 := congrFun e0 6
      have x7 : s0 (exT S) 7 = s0 S 7 := congrFun e0 7
      have x1 : s1 (exT S) = s1 S := e1
      refine hX.drop (by rw [x6]; omega) (by rw [x7]; exact Nat.le_refl _) (fun i hi => ?_) (fun _ => ?_)
      · rw [x1]
        rcases hq.2 with r | r
        · omega
        · have T1 := h.2.2.2.1.1
          rcases Nat.lt_or_ge i (s0 S 7 - 1) with y | y
          · have := T1.1 i (s0 S 7 - 1) y (by omega); omega
          · rw [show i = s0 S 7 - 1 by omega]; exact r
      · show s1 S 12 (s0 S 8) - 1 < s0 S 8
        exact o1
    · exact hX
theorem WF.exit {S : Sp} (h : WF S) (hl : live S) (hs : s0 S 13 < s0 S 10) (hok : exOK S) : WF (sp_exitS S) := by
  unfold sp_exitS
  split
  · exact (h.cut hl).exit2 hl hs hok
  · exact h.exit2 hl hs hok
theorem WF.do' {S : Sp} (h : WF S) (hst : s0 S 17 = 1) (hs : s0 S 3 < s0 S 10) (hs2 : s0 S 13 < s0 S 10) (hat : s0 S 9 < s1 S 4 (s1 S 10 (s0 S 8))) (hrow : ∀ i j, i < s0 S 2 → (s1 S 5 i = 2 ∨ s1 S 5 i = 3 ∨ s1 S 5 i = 10) → j < s1 S 6 i → s2 S 2 i j < 40) : WF (sp_do S (atS S)) := by
  have hl : live S := Or.inl hst
  have hw := h.2.2.1.2.2.1 hl
  obtain ⟨b1, -⟩ := h.2.2.1.2.2.2 (s0 S 8) hw
  obtain ⟨-, sl1, sl2, -, -, -, sl7, -, sl9⟩ := h.1.2.2.1 _ b1
  obtain ⟨hi, hok⟩ := sl9 _ hat
  have hexo := h.exO hl hrow
  have eat : s2 S 1 (s1 S 10 (s0 S 8)) (s0 S 9) = atS S := rfl
  rw [eat] at hi hok
  have hni := h.1.2.1
  have hn6 := (h.1.2.2.2 _ hi).2.1
  generalize hii : atS S = i at hi hok hn6
  have isl : ∀ k, isSl S (s1 S 10 (s0 S 8)) (si S k i) → sa S k i < s1 S 1 (s1 S 10 (s0 S 8)) := fun k hk => (isSl_sa sl1 sl2 hk).2
  have hV : ∀ a, a < s1 S 1 (s1 S 10 (s0 S 8)) → okV (s0 S 3) (rdS S a) := fun a ha => h.2.2.2.2.1 _ (WF.sl h.2.2.1 hw ha)
  have nx : ∀ T, WF T → s0 T 9 = s0 S 9 → WF (nxS T) := fun T hT e => hT.next (by rw [e]; omega)
  unfold sp_do
  by_cases e : s1 S 5 i = 0
  · rw [if_pos e]
    exact nx _ (h.wrt (okV_num _)) rfl
  rw [if_neg e]
  clear e
  by_cases e : s1 S 5 i = 1
  · rw [if_pos e]
    have q : isSl S (s1 S 10 (s0 S 8)) (si S 1 i) ∧ isSl S (s1 S 10 (s0 S 8)) (si S 2 i) := okIn_c hok e
    exact nx _ (h.wrt (hV _ (isl 2 q.2))) rfl
  rw [if_neg e]
  clear e
  by_cases e : s1 S 5 i = 2
  · rw [if_pos e]
    have q : isSl S (s1 S 10 (s0 S 8)) (si S 1 i) ∧ inR (si S 2 i) 31 ∧ ¬ 5 ≤ nI (s1 S 6 i) ∧ allSl S (s1 S 10 (s0 S 8)) (s1 S 6 i) (fun j => nI (s2 S 2 i j)) := okIn_c hok e
    unfold sp_makeS
    by_cases hh : s0 S 5 + tkN (s1 S 6 i) ≤ s0 S 15
    · rw [if_pos hh]
      have hm : WF (mkS S i) := h.mk hs (by have := (inR_sa (m := 31) (by decide) q.2.1).2; omega) (n_le4 hn6 q.2.2.1) hh (fun k hk => hV _ (row_sl sl1 sl2 (by have := hrow i k hi (Or.inl e) hk; omega) q.2.2.2 hk))
      have hm2 : WF (wrS (mkS S i) (sa S 1 i) (cellV (s0 S 3))) := hm.wrt (Or.inr ⟨s0 S 3, Nat.lt_succ_self _, rfl⟩)
      split
      · exact nx _ hm2 rfl
      · exact hm2
    · rw [if_neg hh]
      rw [if_neg (show ¬ s0 (u0 S 17 6) 17 = 1 by show ¬ 6 = 1; decide)]
      exact h.stop (by decide)
  rw [if_neg e]
  clear e
  by_cases e : s1 S 5 i = 3
  · rw [if_pos e]
    have q : isSl S (s1 S 10 (s0 S 8)) (si S 1 i) ∧ inR (si S 2 i) 31 ∧ ¬ 5 ≤ nI (s1 S 6 i) ∧ allSl S (s1 S 10 (s0 S 8)) (s1 S 6 i) (fun j => nI (s2 S 2 i j)) := okIn_c hok e
    have hv := hV _ (isl 1 q.1)
    by_cases hh : hasV S (rdS S (sa S 1 i)) (si S 2 i) (nI (s1 S 6 i))
    · rw [ifHas_t hh]
      refine nx _ (h.wrL _ fun k hk _ => ?_) ?_
      · rcases hv with ⟨x, hx⟩ | ⟨c, hc, hx⟩
        · exact absurd (hx ▸ num_lt x) hh.1
        · have hc5 := h.2.1.2.2.2.2 c hc
          have hnc : s0 S 3 ≤ 20000 := by have := h.2.1.1; have := h.2.2.2.2.2.2.2.1; omega
          have ec : cix (rdS S (sa S 1 i)) = c := by rw [hx]; exact cix_cell (by omega)
          have hm : s1 S 8 c = s1 S 6 i := by
            have := hh.2.2
            rw [ec] at this
            rcases this with z | z
            · exact absurd z (nI_m1 (by omega))
            · exact (nI_eq (by omega) (by omega)).mp z
          show okV (s0 S 3) (sv S 1 (s1 S 9 (cix (rdS S (sa S 1 i))) + k))
          rw [ec]
          exact okV_le (by omega) (hc5.2.2.2 k (by omega))
      · exact congrFun (wrL_e _).1 9
    · rw [ifHas_f hh]; exact h.fail
  rw [if_neg e]
  clear e
  by_cases e : s1 S 5 i = 4
  · rw [if_pos e]
    unfold sp_sameS
    split
    · exact h.stop (by decide)
    · split
      · exact h.fail
      · exact nx _ h rfl
  rw [if_neg e]
  clear e
  by_cases e : s1 S 5 i = 5
  · rw [if_pos e]
    unfold sp_sumS
    split
    · split
      · exact h.fail
      · exact nx _ (h.wrt (okV_num _)) rfl
    · exact h.stop (by decide)
  rw [if_neg e]
  clear e
  by_cases e : s1 S 5 i = 6
  · rw [if_pos e]
    unfold sp_relS
    split
    · split
      · exact nx _ h rfl
      · exact h.fail
    · exact h.stop (by decide)
  rw [if_neg e]
  clear e
  by_cases e : s1 S 5 i = 7
  · rw [if_pos e]
    have q : inR (si S 1 i) 1999 := okIn_c hok e
    have := (inR_sa (m := 1999) (by decide) q).2
    exact h.next (by omega)
  rw [if_neg e]
  clear e
  by_cases e : s1 S 5 i = 8
  · rw [if_pos e]
    have q : isSl S (s1 S 10 (s0 S 8)) (si S 1 i) ∧ inR (si S 2 i) 31 ∧ inR (si S 3 i) 1999 := okIn_c hok e
    have := (inR_sa (m := 1999) (by decide) q.2.2).2
    refine h.next ?_
    unfold ifHas
    split <;> omega
  rw [if_neg e]
  clear e
  by_cases e : s1 S 5 i = 9
  · rw [if_pos e]
    have q : inR (si S 1 i) 1999 := okIn_c hok e
    have := (inR_sa (m := 1999) (by decide) q).2
    split
    · exact h.try' hl (by omega) (by omega) (by assumption)
    · exact h.stop (by decide)
  rw [if_neg e]
  clear e
  by_cases e : s1 S 5 i = 10
  · rw [if_pos e]
    have q : inR (si S 1 i) (nI (s0 S 1) - 1) ∧ nI (s1 S 6 i) = nI (s1 S 2 (sa S 1 i)) + nI (s1 S 3 (sa S 1 i)) ∧ allSl S (s1 S 10 (s0 S 8)) (s1 S 6 i) (fun j => nI (s2 S 2 i j)) := okIn_c hok e
    have hnp : 1 ≤ s0 S 1 := by omega
    have hnp2 := h.1.1
    rw [show nI (s0 S 1) - 1 = nI (s0 S 1 - 1) by rw [show (1 : Int32) = nI 1 from rfl, pk_sub hnp]] at q
    obtain ⟨a1, a2⟩ := inR_sa (by omega) q.1
    obtain ⟨-, -, -, -, -, w6, -⟩ := h.1.2.2.1 (sa S 1 i) (by omega)
    have en : s1 S 6 i = s1 S 2 (sa S 1 i) + s1 S 3 (sa S 1 i) := by
      have := q.2.1
      rw [nI_add] at this
      exact (nI_eq (by omega) (by omega)).mp this
    exact h.call hl hat hii.symm e a1 (by omega) (by omega) (fun j hj => row_sl sl1 sl2 (by have := hrow i j hi (Or.inr (Or.inr e)) hj; omega) q.2.2 hj)
  rw [if_neg e]
  clear e
  by_cases e : s1 S 5 i = 11
  · rw [if_pos e]
    exact nx _ (h.wrt (okV_num _)) rfl
  rw [if_neg e]
  clear e
  by_cases e : s1 S 5 i = 12
  · rw [if_pos e]
    split
    · exact (nx _ h rfl).cut hl
    · exact h.stop (by decide)
  rw [if_neg e]
  clear e
  by_cases e : s1 S 5 i = 13
  · rw [if_pos e]
    split
    · unfold sp_deadS
      split
      · exact (nx _ h rfl).dead
      · exact nx _ h rfl
    · exact h.stop (by decide)
  rw [if_neg e]
  clear e
  by_cases e : s1 S 5 i = 14
  · rw [if_pos e]
    exact h.exit hl hs2 hexo
  rw [if_neg e]
  exact h.fail
theorem WF.step {S : Sp} (h : WF S) (hst : s0 S 17 = 1) (hs : s0 S 10 < 20000) (hrow : ∀ i j, i < s0 S 2 → (s1 S 5 i = 2 ∨ s1 S 5 i = 3 ∨ s1 S 5 i = 10) → j < s1 S 6 i → s2 S 2 i j < 40) : WF (sp_stepS (u0 S 10 (s0 S 10 + 1))) := by
  have h1 := h.inc hs
  have hC := h.2.1.1
  have hN := h.2.2.2.2.2.2.1
  unfold sp_stepS
  split
  · rename_i hq
    exact h1.do' hst (show s0 S 3 < s0 S 10 + 1 by omega) (show s0 S 13 < s0 S 10 + 1 by omega) hq hrow
  · exact h1.fail
theorem WF.row {S : Sp} (h : WF S) : ∀ i j, i < s0 S 2 → (s1 S 5 i = 2 ∨ s1 S 5 i = 3 ∨ s1 S 5 i = 10) → j < s1 S 6 i → s2 S 2 i j < 40 := fun i j hi hk hj => (h.1.2.2.2 i hi).2.2 hk j hj
