/-! the reference's step -/
theorem RM_end {σ : MSt} {S : Sp} {tb k : Nat} {v : Int32} (h : RMb σ S tb) (hv : v + 1 = nI k) (h1 : 2 < k) (h2 : k ≤ 7) : RMb (smi σ 44 v) (u0 S 17 k) tb := by
  obtain ⟨h1', h2', h3, ⟨c1, c2, c3, c4, c5, c6, c7, c8, c9⟩, h5, h6⟩ := h
  refine ⟨h1', h2', h3, ⟨c1, c2, c3, c4, c5, c6, c7, fun q => absurd q ?_, c9⟩, h5, hv, h2, h6.2.2⟩
  rintro (q | q)
  · have : k = 1 := q
    omega
  · have : k = 2 := q
    omega
def ifHas {α : Type} (S : Sp) (v : Int64) (t n : Int32) (a b : α) : α := if ¬ v < 1099511627776 ∧ nI (s1 S 7 (cix v)) = t ∧ (n = -1 ∨ nI (s1 S 8 (cix v)) = n) then a else b
theorem ifHas_t {α : Type} {S : Sp} {v : Int64} {t n : Int32} {a b : α} (h : hasV S v t n) : ifHas S v t n a b = a := if_pos h
theorem ifHas_f {α : Type} {S : Sp} {v : Int64} {t n : Int32} {a b : α} (h : ¬ hasV S v t n) : ifHas S v t n a b = b := if_neg h
def sumV (how a b : Int32) : Int32 := if how = 0 then a + b else if how = 1 then a - b else if how = 2 then a * b else if how = 3 then a / b else a - a / b * b
def holdV (how a b : Int32) : Bool := if how = 0 then decide (a < b) else if how = 1 then decide (a ≤ b) else if how = 2 then decide (b < a) else if how = 3 then decide (b ≤ a) else if how = 4 then decide (a = b) else decide (¬ a = b)
def sp_deadS (S : Sp) (x : Int32) : Sp := if 0 ≤ x ∧ x < nI (s0 S 7) then u1 S 18 x.toNatClampNeg 1 else S
def sp_sumS (S : Sp) (i : Nat) : Sp :=
  if rdS S (sa S 2 i) < 1099511627776 ∧ rdS S (sa S 3 i) < 1099511627776 then
    (if ¬ si S 4 i ≤ 2 ∧ (rdS S (sa S 3 i)).toInt32 = 0 then sp_failS (s0 S 7) S else nxS (wrS S (sa S 1 i) (sumV (si S 4 i) (rdS S (sa S 2 i)).toInt32 (rdS S (sa S 3 i)).toInt32).toInt64))
  else u0 S 17 7
def sp_relS (S : Sp) (i : Nat) : Sp :=
  if rdS S (sa S 1 i) < 1099511627776 ∧ rdS S (sa S 2 i) < 1099511627776 then
    (if holdV (si S 3 i) (rdS S (sa S 1 i)).toInt32 (rdS S (sa S 2 i)).toInt32 = true then nxS S else sp_failS (s0 S 7) S)
  else u0 S 17 7
def sp_sameS (S : Sp) (i : Nat) : Sp :=
  if sp_cmp S (rdS S (sa S 1 i)) (rdS S (sa S 2 i)) = 2 then u0 S 17 7 else if sp_cmp S (rdS S (sa S 1 i)) (rdS S (sa S 2 i)) = 1 then sp_failS (s0 S 7) S else nxS S
def sp_do (S : Sp) (i : Nat) : Sp :=
  if s1 S 5 i = 0 then nxS (wrS S (sa S 1 i) (si S 2 i).toInt64) else
  if s1 S 5 i = 1 then nxS (wrS S (sa S 1 i) (rdS S (sa S 2 i))) else
  if s1 S 5 i = 2 then (if s0 (sp_makeS S i) 17 = 1 then nxS (sp_makeS S i) else sp_makeS S i) else
  if s1 S 5 i = 3 then ifHas S (rdS S (sa S 1 i)) (si S 2 i) (nI (s1 S 6 i)) (nxS (tkS S i (cix (rdS S (sa S 1 i))) (s1 S 6 i))) (sp_failS (s0 S 7) S) else
  if s1 S 5 i = 4 then sp_sameS S i else
  if s1 S 5 i = 5 then sp_sumS S i else
  if s1 S 5 i = 6 then sp_relS S i else
  if s1 S 5 i = 7 then u0 S 9 (sa S 1 i) else
  if s1 S 5 i = 8 then u0 S 9 (ifHas S (rdS S (sa S 1 i)) (si S 2 i) (-1) (s0 S 9 + 1) (sa S 3 i)) else
  if s1 S 5 i = 9 then (if szS S + 3 ≤ s0 S 14 then sp_tryS S (sa S 1 i) else u0 S 17 5) else
  if s1 S 5 i = 10 then sp_callS S i else
  if s1 S 5 i = 11 then nxS (wrS S (sa S 1 i) (nI (s0 S 7)).toInt64) else
  if s1 S 5 i = 12 then (if rdS S (sa S 1 i) < 1099511627776 then sp_cutS (nxS S) (rdS S (sa S 1 i)).toInt32.toNatClampNeg else u0 S 17 7) else
  if s1 S 5 i = 13 then (if rdS S (sa S 1 i) < 1099511627776 then sp_deadS (nxS S) (rdS S (sa S 1 i)).toInt32 else u0 S 17 7) else
  if s1 S 5 i = 14 then sp_exitS S else sp_failS (s0 S 7) S
/-- the instruction that is next -/
def atS (S : Sp) : Nat := s2 S 1 (s1 S 10 (s0 S 8)) (s0 S 9)
def sp_stepS (S : Sp) : Sp := if s0 S 9 < s1 S 4 (s1 S 10 (s0 S 8)) then sp_do S (atS S) else sp_failS (s0 S 7) S
theorem m_holds {σ : MSt} {how a b : Int32} {post : Int32 → MSt → Prop} (hy : holdV how a b = true → post 1 σ) (hn : ¬ holdV how a b = true → post 0 σ) : wp_X11_holds σ how a b post := by
  refine ⟨fun e => ?_, fun e => ?_, fun e => ?_, fun e => ?_, fun e => ?_, fun e0 e1 e2 e3 e4 => ?_⟩
  · subst e
    exact ⟨fun q => hn (by show ¬ decide (a < b) = true; simp only [decide_eq_true_eq]; exact Int32.not_lt.mpr q), fun q => hy (by show decide (a < b) = true; simp only [decide_eq_true_eq]; exact Int32.not_le.mp q)⟩
  · subst e
    exact ⟨fun q => hn (by show ¬ decide (a ≤ b) = true; simp only [decide_eq_true_eq]; exact Int32.not_le.mpr q), fun q => hy (by show decide (a ≤ b) = true; simp only [decide_eq_true_eq]; exact Int32.not_lt.mp q)⟩
  · subst e
    exact ⟨fun q => hn (by show ¬ decide (b < a) = true; simp only [decide_eq_true_eq]; exact Int32.not_lt.mpr q), fun q => hy (by show decide (b < a) = true; simp only [decide_eq_true_eq]; exact Int32.not_le.mp q)⟩
  · subst e
    exact ⟨fun q => hn (by show ¬ decide (b ≤ a) = true; simp only [decide_eq_true_eq]; exact Int32.not_le.mpr q), fun q => hy (by show decide (b ≤ a) = true; simp only [decide_eq_true_eq]; exact Int32.not_lt.mp q)⟩
  · subst e
    exact ⟨fun q => hy (by show decide (a = b) = true; simp only [decide_eq_true_eq]; exact q), fun q => hn (by show ¬ decide (a = b) = true; simp only [decide_eq_true_eq]; exact q)⟩
  · rw [holdV, if_neg e0, if_neg e1, if_neg e2, if_neg e3, if_neg e4, decide_eq_true_eq] at hy hn
    exact ⟨fun q => hn (fun z => z q), fun q => hy q⟩
theorem m_summed78 {σ : MSt} {S : Sp} {tb i : Nat} {a b d : Int32} {post : MSt → Prop} (h : RMb σ S tb) (hl : live S) (htb : tb < 200000) (hi : i < s0 S 2) (ha : si S 1 i = nI (sa S 1 i)) (ha2 : sa S 1 i < s1 S 1 (s1 S 10 (s0 S 8))) (hd : 0 ≤ d) (hb : ¬ (¬ d ≤ 2 ∧ b = 0)) (hp : ∀ σ', RMb σ' (nxS (wrS S (sa S 1 i) (sumV d a b).toInt64)) (tb + 1) → post σ') : wp_X11_summed_78 post σ (nI i) a b d := by
  obtain ⟨h1, h2, h3, h4, h5, h6⟩ := id h
  have hni : s0 S 2 ≤ 2000 := h2.2.2.2.1
  have q3 := (h2.2.2.2.2.2 i hi).2.2.1
  have fin : wp_X11_summed_138 post σ (nI i) (sumV d a b) := by
    unfold wp_X11_summed_138
    rw [nI_clamp (show i < 2 ^ 31 by omega), q3, ha]
    exact ⟨vp_in_nI (by omega) (by decide), m_set h hl htb ha2 (fun σ13 h13 => m_nx h13 hl hp)⟩
  refine ⟨fun e => ?_, fun e0 => ⟨fun e => ?_, fun e1 => ⟨fun e => ?_, fun e2 => ?_⟩⟩⟩
  · subst e; exact fin
  · subst e; exact fin
  · subst e; exact fin
  · have hd2 : ¬ d ≤ 2 := fun r => by
      obtain ⟨j, -, hj, ej⟩ := i32_rng (lo := 0) (hi := 2) (by decide) (by decide) hd r
      rcases (by omega : j = 0 ∨ j = 1 ∨ j = 2) with q | q | q
      · subst q; exact e0 ej
      · subst q; exact e1 ej
      · subst q; exact e2 ej
    have hb2 : ¬ b = 0 := fun q => hb ⟨hd2, q⟩
    refine ⟨fun e => ⟨hb2, ?_⟩, fun e => ⟨hb2, ?_⟩⟩
    · subst e; exact fin
    · rw [sumV, if_neg e0, if_neg e1, if_neg e2, if_neg e] at fin; exact fin
theorem m_summed {σ : MSt} {S : Sp} {tb i : Nat} {post : MSt → Prop} (h : RMb σ S tb) (hl : live S) (htb : tb < 200000) (hw : WR S) (hi : i < s0 S 2) (ha : si S 1 i = nI (sa S 1 i)) (ha2 : sa S 1 i < s1 S 1 (s1 S 10 (s0 S 8))) (hb : si S 2 i = nI (sa S 2 i)) (hb2 : sa S 2 i < s1 S 1 (s1 S 10 (s0 S 8))) (hc : si S 3 i = nI (sa S 3 i)) (hc2 : sa S 3 i < s1 S 1 (s1 S 10 (s0 S 8))) (hd : 0 ≤ si S 4 i)
    (hp : ∀ σ', RMb σ' (sp_sumS S i) (tb + 1) → post σ') : wp_X11_summed σ (nI i) post := by
  obtain ⟨h1, h2, h3, h4, h5, h6⟩ := id h
  have hni : s0 S 2 ≤ 2000 := h2.2.2.2.1
  obtain ⟨q1, q2, q3, q4, q5, q6, q7, q8, q9⟩ := h2.2.2.2.2.2 i hi
  have vi := vp_in_nI (n := i) (N := 2000) (by omega) (by decide)
  unfold wp_X11_summed
  rw [nI_clamp (show i < 2 ^ 31 by omega), q4, hb]
  refine ⟨vi, m_get' h4 h5.1 hl hb2 ⟨vi, ?_⟩⟩
  rw [q5, hc]
  refine m_get' h4 h5.1 hl hc2 ?_
  have bad : ¬ (rdS S (sa S 2 i) < 1099511627776 ∧ rdS S (sa S 3 i) < 1099511627776) → post (smi σ 44 6) := fun z => by
    rw [sp_sumS, if_neg z] at hp
    exact hp _ ((RM_end h rfl (by decide) (by decide)).le (by omega))
  refine m_isCell (fun c1 => nz1 fun σ7 e7 => ?_) (fun c1 => nz0 (m_isCell (fun c2 => nz1 fun σ16 e16 => ?_) (fun c2 => nz0 fun v10 e10 v11 e11 => ⟨vi, fun v12 e12 => ?_⟩)))
  · rw [e7]; exact bad (fun z => c1 z.1)
  · rw [e16]; exact bad (fun z => c2 z.2)
  · rw [q6] at e12
    rw [sp_sumS, if_pos ⟨c1, c2⟩] at hp
    subst e10; subst e11; subst e12
    by_cases hz : ¬ si S 4 i ≤ 2 ∧ (rdS S (sa S 3 i)).toInt32 = 0
    · rw [if_pos hz] at hp
      refine ⟨fun z => absurd z hz.1, fun _ => ⟨fun _ => m_fail h.core hw (by omega) (fun σ' h' => hp σ' (h'.le (by omega))), fun z => absurd hz.2 z⟩⟩
    · rw [if_neg hz] at hp
      have go := m_summed78 (a := (rdS S (sa S 2 i)).toInt32) h hl htb hi ha ha2 hd hz hp
      exact ⟨fun _ => go, fun z => ⟨fun z2 => absurd ⟨z, z2⟩ hz, fun _ => go⟩⟩
theorem m_compared {σ : MSt} {S : Sp} {tb i : Nat} {post : MSt → Prop} (h : RMb σ S tb) (hl : live S) (htb : tb < 200000) (hw : WR S) (hi : i < s0 S 2) (ha : si S 1 i = nI (sa S 1 i)) (ha2 : sa S 1 i < s1 S 1 (s1 S 10 (s0 S 8))) (hb : si S 2 i = nI (sa S 2 i)) (hb2 : sa S 2 i < s1 S 1 (s1 S 10 (s0 S 8)))
    (hp : ∀ σ', RMb σ' (sp_relS S i) tb → post σ') : wp_X11_compared σ (nI i) post := by
  obtain ⟨h1, h2, h3, h4, h5, h6⟩ := id h
  have hni : s0 S 2 ≤ 2000 := h2.2.2.2.1
  obtain ⟨q1, q2, q3, q4, q5, q6, q7, q8, q9⟩ := h2.2.2.2.2.2 i hi
  have vi := vp_in_nI (n := i) (N := 2000) (by omega) (by decide)
  unfold wp_X11_compared
  rw [nI_clamp (show i < 2 ^ 31 by omega), q3, ha]
  refine ⟨vi, m_get' h4 h5.1 hl ha2 ⟨vi, ?_⟩⟩
  rw [q4, hb]
  refine m_get' h4 h5.1 hl hb2 ?_
  have bad : ¬ (rdS S (sa S 1 i) < 1099511627776 ∧ rdS S (sa S 2 i) < 1099511627776) → post (smi σ 44 6) := fun z => by
    rw [sp_relS, if_neg z] at hp
    exact hp _ (RM_end h rfl (by decide) (by decide))
  refine m_isCell (fun c1 => nz1 fun σ7 e7 => ?_) (fun c1 => nz0 (m_isCell (fun c2 => nz1 fun σ16 e16 => ?_) (fun c2 => nz0 ⟨vi, ?_⟩)))
  · rw [e7]; exact bad (fun z => c1 z.1)
  · rw [e16]; exact bad (fun z => c2 z.2)
  · rw [q5]
    rw [sp_relS, if_pos ⟨c1, c2⟩] at hp
    refine m_holds (fun hy => nz1 ?_) (fun hn => nz0 ?_)
    · rw [if_pos hy] at hp
      exact m_nx h hl hp
    · rw [if_neg hn] at hp
      exact m_fail h.core hw (by omega) hp
theorem cmpA_le {S : Sp} : ∀ m n f g, cmpA S m n f g ≤ 2 := by
  intro m
  induction m with
  | zero => intro n f g; rw [cmpA]; split <;> omega
  | succ m ih =>
    intro n f g
    rw [cmpA]
    split
    · omega
    · split
      · split
        · exact ih _ _ _
        · omega
      · split
        · exact ih _ _ _
        · omega
theorem m_same {σ : MSt} {S : Sp} {tb i : Nat} {post : MSt → Prop} (h : RMb σ S tb) (hl : live S) (htb : tb < 200000) (hw : WR S) (hi : i < s0 S 2) (ha : si S 1 i = nI (sa S 1 i)) (ha2 : sa S 1 i < s1 S 1 (s1 S 10 (s0 S 8))) (hb : si S 2 i = nI (sa S 2 i)) (hb2 : sa S 2 i < s1 S 1 (s1 S 10 (s0 S 8))) (hW : ∀ c, c < s0 S 3 → ∀ k, k < s1 S 8 c → okV (s0 S 3) (sv S 1 (s1 S 9 c + k))) (hx : okV (s0 S 3) (rdS S (sa S 1 i))) (hy : okV (s0 S 3) (rdS S (sa S 2 i)))
    (hp : ∀ σ', RMb σ' (sp_sameS S i) tb → post σ') : wp_X11_same σ (nI i) post := by
  obtain ⟨h1, h2, h3, h4, h5, h6⟩ := id h
  have hni : s0 S 2 ≤ 2000 := h2.2.2.2.1
  obtain ⟨q1, q2, q3, q4, q5, q6, q7, q8, q9⟩ := h2.2.2.2.2.2 i hi
  have vi := vp_in_nI (n := i) (N := 2000) (by omega) (by decide)
  unfold wp_X11_same
  rw [nI_clamp (show i < 2 ^ 31 by omega), q3, ha]
  refine ⟨vi, m_get' h4 h5.1 hl ha2 ⟨vi, ?_⟩⟩
  rw [q4, hb]
  refine m_get' h4 h5.1 hl hb2 (m_compare h hW hx hy (fun σ5 h5' => ?_))
  rw [sp_sameS] at hp
  have hr : sp_cmp S (rdS S (sa S 1 i)) (rdS S (sa S 2 i)) ≤ 2 := cmpA_le _ _ _ _
  generalize sp_cmp S (rdS S (sa S 1 i)) (rdS S (sa S 2 i)) = r at hp hr
  rcases (by omega : r = 0 ∨ r = 1 ∨ r = 2) with q | q | q
  · subst q
    exact ⟨fun z => absurd z (by decide), fun _ => ⟨fun z => absurd z (by decide), fun _ => m_nx h5' hl hp⟩⟩
  · subst q
    exact ⟨fun z => absurd z (by decide), fun _ => ⟨fun _ => m_fail h5'.core hw (by omega) hp, fun z => absurd rfl z⟩⟩
  · subst q
    exact ⟨fun _ σ9 e9 => hp σ9 (by rw [e9]; exact RM_end h5' rfl (by decide) (by decide)), fun z => absurd rfl z⟩
theorem RM_dead {σ : MSt} {S : Sp} {tb j : Nat} (h : RMb σ S tb) (hj : j < s0 S 7) : RMb (sma σ 34 (s1 S 15 j + j) (vp_nar .boolean 1)) (u1 S 18 j 1) tb := by
  obtain ⟨h1, h2, h3, ⟨c1, c2, c3, c4, c5, c6, c7, c8, c9⟩, h5, h6⟩ := h
  refine ⟨h1, h2, h3, ⟨c1, c2, c3, c4, c5, c6, fun i ku hi hku => ?_, c8, c9⟩, h5, h6⟩
  have hi : i < s0 S 7 := hi
  obtain ⟨b1, b2, b3, b4, b5⟩ := c7 i ku hi hku
  refine ⟨b1, b2, b3, ?_, b5⟩
  by_cases e : i = j
  · subst e
    have a : s1 (u1 S 18 i 1) 18 i = 1 := if_pos ⟨rfl, rfl⟩
    rw [a]
    exact Eq.trans (sma_eq (σ := σ)) (by decide)
  · have : ¬ s1 S 15 i + i = s1 S 15 j + j := by
      rcases Nat.lt_or_ge i j with q | q
      · have := c1.2.2.1.1 i j q hj; omega
      · have := c1.2.2.1.1 j i (by omega) hi; omega
    have a : s1 (u1 S 18 j 1) 18 i = s1 S 18 i := if_neg (fun z => e z.2)
    rw [a]
    exact Eq.trans (sma_ne this) b4
theorem num_i (x : Int32) : x.toInt64.toInt32 = x := Int32.toInt32_toInt64 x
theorem num_neg (x : Int32) : (0 : Int64) ≤ x.toInt64 ↔ 0 ≤ x := by
  rw [Int64.le_iff_toInt_le, Int32.le_iff_toInt_le, Int32.toInt_toInt64]
  have a : (0 : Int64).toInt = 0 := by decide
  have b : (0 : Int32).toInt = 0 := by decide
  rw [a, b]
theorem m_cutOrDrop {σ : MSt} {S : Sp} {tb i : Nat} {post : MSt → Prop} (h : RMb σ S tb) (hl : live S) (hi : i < s0 S 2) (hk : s1 S 5 i = 12 ∨ s1 S 5 i = 13) (ha : si S 1 i = nI (sa S 1 i)) (ha2 : sa S 1 i < s1 S 1 (s1 S 10 (s0 S 8))) (hx : okV (s0 S 3) (rdS S (sa S 1 i)))
    (hp : ∀ σ', RMb σ' (if rdS S (sa S 1 i) < 1099511627776 then (if s1 S 5 i = 12 then sp_cutS (nxS S) (rdS S (sa S 1 i)).toInt32.toNatClampNeg else sp_deadS (nxS S) (rdS S (sa S 1 i)).toInt32) else u0 S 17 7) tb → post σ') : wp_X11_cutOrDrop σ (nI i) post := by
  obtain ⟨h1, h2, h3, h4, h5, h6⟩ := id h
  have hni : s0 S 2 ≤ 2000 := h2.2.2.2.1
  have hnc : s0 S 3 ≤ 20000 := h3.2.1
  obtain ⟨q1, q2, q3, q4, q5, q6, q7, q8, q9⟩ := h2.2.2.2.2.2 i hi
  have vi := vp_in_nI (n := i) (N := 2000) (by omega) (by decide)
  unfold wp_X11_cutOrDrop
  rw [nI_clamp (show i < 2 ^ 31 by omega), q3, ha]
  refine ⟨vi, m_get' h4 h5.1 hl ha2 (m_isCell (fun c1 => nz1 fun σ11 e11 => ?_) (fun c1 => nz0 (m_nx h hl fun σ5 h5' => ⟨vi, ?_⟩)))⟩
  · rw [if_neg c1] at hp
    exact hp _ (by rw [e11]; exact RM_end h rfl (by decide) (by decide))
  · rw [if_pos c1] at hp
    have k12 : ma σ5 12 i = nI (s1 S 5 i) := (h5'.2.1.2.2.2.2.2 i hi).1
    rw [k12]
    rcases hx with ⟨x, hx⟩ | ⟨c, hc, hx⟩
    rotate_left
    · exact absurd (hx ▸ c1) (cell_ge (by omega))
    rw [hx, num_i] at hp ⊢
    refine ⟨fun e => ?_, fun e => ?_⟩
    · have e : s1 S 5 i = 12 := (nI_eq (by omega) (by decide)).mp e
      rw [if_pos e] at hp
      exact m_cut h5' hl hp
    · have e : ¬ s1 S 5 i = 12 := fun z => e (by rw [z]; rfl)
      rw [if_neg e] at hp
      rw [lg_cmp_ge, num_neg]
      have hFL : FL σ5 (s0 S 6) (s0 S 7) (s1 S 15) := h5'.2.2.2.1.1
      have h7 := hFL.2.1
      refine ⟨fun hz => m_redoAt hFL (fun j hj ej => ?_) (fun hno => ⟨fun _ => ?_, fun z => absurd rfl z⟩), fun hz => ⟨fun _ => ?_, fun z => absurd rfl z⟩⟩
      · have hfj := hFL.2.2.1.2 j hj
        refine ⟨fun z => absurd z (nI_m1 (by omega)), fun _ => ⟨vp_in_nI (by omega) (by decide), fun σ8 e8 => ?_⟩⟩
        have hin : 0 ≤ x ∧ x < nI (s0 (nxS S) 7) := ⟨hz, by rw [ej]; exact nI_lt (b := s0 S 7) hj (by omega)⟩
        rw [sp_deadS, if_pos hin, ej, nI_clamp (by omega)] at hp
        rw [nI_clamp (by omega)] at e8
        refine hp σ8 ?_
        rw [e8]; exact RM_dead h5' hj
      · rw [sp_deadS, if_neg] at hp
        · exact hp σ5 h5'
        · rintro ⟨z1, z2⟩
          have z2 : x < nI (s0 S 7) := z2
          rcases pk_ix x (n := s0 S 7) (by omega) with y | y | ⟨j, hj, ej⟩
          · exact absurd y (Int32.not_lt.mpr z1)
          · exact absurd z2 (Int32.not_lt.mpr y)
          · exact hno j hj ej
      · rw [sp_deadS, if_neg (fun z => hz z.1)] at hp
        exact hp σ5 h5'
