/-! the class's step -/
def e4 (S : Sp) (E : Nat → Nat) (i : Nat) : Nat → Nat := eCmp S 5000 1 (fun _ => rdS S (sa S 1 i)) (fun _ => rdS S (sa S 2 i)) (eRow (eRow E 3 0) 3 1)
theorem e4_o (S : Sp) (E : Nat → Nat) (i : Nat) : e4 S E i 5 = E 5 ∧ e4 S E i 7 = E 7 ∧ e4 S E i 9 = E 9 := by
  obtain ⟨-, -, o5, o7⟩ := eCmp_U (S := S) 5000 1 (fun _ => rdS S (sa S 1 i)) (fun _ => rdS S (sa S 2 i)) (eRow (eRow E 3 0) 3 1)
  exact ⟨o5, o7, (eCmp_k (by decide) _ _ _ _ _).trans rfl⟩
theorem sameS_0 {S : Sp} {i : Nat} (y : sp_cmp S (rdS S (sa S 1 i)) (rdS S (sa S 2 i)) = 0) : sp_sameS S i = u0 S 9 (s0 S 9 + 1) := by
  rw [sp_sameS, if_neg (by rw [y]; decide), if_neg (by rw [y]; decide)]; rfl
theorem sameS_1 {S : Sp} {i : Nat} (y : sp_cmp S (rdS S (sa S 1 i)) (rdS S (sa S 2 i)) = 1) : sp_sameS S i = sp_failS (s0 S 7) S := by
  rw [sp_sameS, if_neg (by rw [y]; decide), if_pos y]
theorem sameS_2 {S : Sp} {i : Nat} (y : sp_cmp S (rdS S (sa S 1 i)) (rdS S (sa S 2 i)) = 2) : sp_sameS S i = u0 S 17 7 := by
  rw [sp_sameS, if_pos y]
theorem sp_do_4 {S : Sp} {i : Nat} (ek : s1 S 5 i = 4) : sp_do S i = sp_sameS S i := by
  rw [sp_do, if_neg (by omega), if_neg (by omega), if_neg (by omega), if_neg (by omega), if_pos ek]
theorem x_same4 {nm : Nat → Nat × Nat} {μ : Mem} {A : Ad} {S : Sp} {E tt : Nat → Nat} {i c z : Nat} {post : Int32 → Mem → Prop} (h : XG μ A nm S E tt) (hW : WF S) (ha : okV (s0 S 3) (rdS S (sa S 1 i))) (hb : okV (s0 S 3) (rdS S (sa S 2 i)))
    (hc : UC (e4 S E i) ≤ UC E + c) (hz : UZ (e4 S E i) ≤ UZ E + z)
    (p0 : sp_cmp S (rdS S (sa S 1 i)) (rdS S (sa S 2 i)) = 0 → ∀ μ' A' nm', XG μ' A' nm' S (e4 S E i) tt → St gH E μ A nm μ' A' nm' → post 0 μ')
    (p1 : sp_cmp S (rdS S (sa S 1 i)) (rdS S (sa S 2 i)) = 1 → ∀ μ' A' nm', XG μ' A' nm' S (e4 S E i) tt → St gH E μ A nm μ' A' nm' → post 7 μ')
    (p2 : sp_cmp S (rdS S (sa S 1 i)) (rdS S (sa S 2 i)) = 2 → ∀ μ' A' nm', XG μ' A' nm' S (e4 S E i) tt → St gH E μ A nm μ' A' nm' → post 6 μ') :
    wp_X2_compare c z μ (A 0 3) (conv S (rdS S (sa S 1 i))) (conv S (rdS S (sa S 2 i))) post := by
  refine x_same h hW ha hb hc hz (fun μ' A' nm' g st => ?_)
  have hr2 : sp_cmp S (rdS S (sa S 1 i)) (rdS S (sa S 2 i)) ≤ 2 := cmpA_le _ _ _ _
  rcases (by omega : sp_cmp S (rdS S (sa S 1 i)) (rdS S (sa S 2 i)) = 0 ∨ sp_cmp S (rdS S (sa S 1 i)) (rdS S (sa S 2 i)) = 1 ∨ sp_cmp S (rdS S (sa S 1 i)) (rdS S (sa S 2 i)) = 2) with y | y | y
  · rw [y]; exact p0 y μ' A' nm' g st
  · rw [y]; exact p1 y μ' A' nm' g st
  · rw [y]; exact p2 y μ' A' nm' g st
def eDo (S : Sp) (E tt : Nat → Nat) (i : Nat) : Nat → Nat :=
  if s1 S 5 i = 0 ∨ s1 S 5 i = 1 ∨ s1 S 5 i = 11 then eWr S E (s1 S 11 (s0 S 8) + sa S 1 i) else
  if s1 S 5 i = 2 then (if s0 S 5 + tkN (s1 S 6 i) ≤ s0 S 15 then eWr S (eMk S E (s1 S 6 i)) (s1 S 11 (s0 S 8) + sa S 1 i) else E) else
  if s1 S 5 i = 3 then ifHas S (rdS S (sa S 1 i)) (si S 2 i) (nI (s1 S 6 i)) (eWL S E (fun k => s1 S 11 (s0 S 8) + s2 S 2 i k) (s1 S 6 i)) (eFail tt (s0 S 7) S E) else
  if s1 S 5 i = 4 then (if sp_cmp S (rdS S (sa S 1 i)) (rdS S (sa S 2 i)) = 1 then eFail tt (s0 S 7) S (e4 S E i) else e4 S E i) else
  if s1 S 5 i = 5 then (if rdS S (sa S 2 i) < 1099511627776 ∧ rdS S (sa S 3 i) < 1099511627776 then (if ¬ si S 4 i ≤ 2 ∧ (rdS S (sa S 3 i)).toInt32 = 0 then eFail tt (s0 S 7) S E else eWr S E (s1 S 11 (s0 S 8) + sa S 1 i)) else E) else
  if s1 S 5 i = 6 then (if rdS S (sa S 1 i) < 1099511627776 ∧ rdS S (sa S 2 i) < 1099511627776 then (if holdV (si S 3 i) (rdS S (sa S 1 i)).toInt32 (rdS S (sa S 2 i)).toInt32 = true then E else eFail tt (s0 S 7) S E) else E) else
  if s1 S 5 i = 9 then (if szS S + 3 ≤ s0 S 14 then eRd S E else E) else
  if s1 S 5 i = 10 then (if szS S + (2 + s1 S 1 (sa S 1 i)) ≤ s0 S 14 then ePf S E (sa S 1 i) else E) else
  if s1 S 5 i = 12 then (if rdS S (sa S 1 i) < 1099511627776 then eCut (sp_cutS S (rdS S (sa S 1 i)).toInt32.toNatClampNeg) E else E) else
  if s1 S 5 i = 14 then exE S E else
  if s1 S 5 i = 7 ∨ s1 S 5 i = 8 ∨ s1 S 5 i = 13 then E else eFail tt (s0 S 7) S E
theorem eDo_4 {S : Sp} {E tt : Nat → Nat} {i : Nat} (ek : s1 S 5 i = 4) : eDo S E tt i = (if sp_cmp S (rdS S (sa S 1 i)) (rdS S (sa S 2 i)) = 1 then eFail tt (s0 S 7) S (e4 S E i) else e4 S E i) := by
  rw [eDo, if_neg (by omega), if_neg (by omega), if_neg (by omega), if_pos ek]
def tDo (S : Sp) (E tt : Nat → Nat) (i : Nat) : Nat → Nat := if s1 S 5 i = 9 ∧ szS S + 3 ≤ s0 S 14 then va_up tt (s0 S 7) (E 9) else tt
def eStep (S : Sp) (E tt : Nat → Nat) : Nat → Nat := if s0 S 9 < s1 S 4 (s1 S 10 (s0 S 8)) then eDo S E tt (atS S) else eFail tt (s0 S 7) S E
def tStep (S : Sp) (E tt : Nat → Nat) : Nat → Nat := if s0 S 9 < s1 S 4 (s1 S 10 (s0 S 8)) then tDo S E tt (atS S) else tt
theorem exS_s0 {S : Sp} {k : Nat} (h6 : k ≠ 6) (h7 : k ≠ 7) : s0 (exS S) k = s0 S k := by
  unfold exS
  split
  · show va_up (va_up (va_up (s0 S) 7 _) 6 _) 7 _ k = _
    rw [va_up, if_neg h7, va_up, if_neg h6, va_up, if_neg h7]
  · rfl
theorem exS_s1 {S : Sp} : s1 (exS S) = s1 S := by unfold exS; split <;> rfl
theorem exit2_n {S : Sp} (h : ¬ s1 S 12 (s0 S 8) = 0) : s0 (sp_exit2 S) 17 = s0 S 17 ∧ s0 (sp_exit2 S) 10 = s0 S 10 ∧ s0 (sp_exit2 S) 13 = s0 S 13 ∧ s0 (sp_exit2 S) 8 = s1 S 12 (s0 S 8) - 1 ∧ s0 (sp_exit2 S) 9 = s1 S 13 (s0 S 8) + 1 := by
  rw [sp_exit2, if_neg h]
  have e : ∀ k, k ≠ 8 → k ≠ 9 → s0 (exT S) k = s0 S k := fun k h8 h9 => by
    show va_up (va_up (s0 (exL S _ _ _ _ _)) 8 _) 9 _ k = _
    rw [va_up, if_neg h9, va_up, if_neg h8]
    exact congrFun (wrL_e _).1 k
  split
  · exact ⟨e 17 (by decide) (by decide), e 10 (by decide) (by decide), e 13 (by decide) (by decide), rfl, rfl⟩
  · exact ⟨e 17 (by decide) (by decide), e 10 (by decide) (by decide), e 13 (by decide) (by decide), rfl, rfl⟩
theorem exitS_n {S : Sp} (h : ¬ s1 S 12 (s0 S 8) = 0) : s0 (sp_exitS S) 17 = s0 S 17 ∧ s0 (sp_exitS S) 10 = s0 S 10 ∧ s0 (sp_exitS S) 13 = s0 S 13 ∧ s0 (sp_exitS S) 8 = s1 S 12 (s0 S 8) - 1 ∧ s0 (sp_exitS S) 9 = s1 S 13 (s0 S 8) + 1 := by
  have e8 := exS_s0 (S := S) (k := 8) (by decide) (by decide)
  obtain ⟨a, b, c, d, e⟩ := exit2_n (S := exS S) (by rw [exS_s1, e8]; exact h)
  rw [exS_s1, e8] at d e
  rw [exS_s0 (by decide) (by decide)] at a b c
  exact ⟨a, b, c, d, e⟩
theorem exitS_z {S : Sp} (h : s1 S 12 (s0 S 8) = 0) : s0 (sp_exitS S) 17 = 2 ∧ s0 (sp_exitS S) 10 = s0 S 10 ∧ s0 (sp_exitS S) 13 = s0 S 13 + 1 := by
  have e8 := exS_s0 (S := S) (k := 8) (by decide) (by decide)
  have e : sp_exitS S = u0 (u0 (exS S) 17 2) 13 (s0 (exS S) 13 + 1) := if_pos (show s1 (exS S) 12 (s0 (exS S) 8) = 0 by rw [exS_s1, e8]; exact h)
  rw [e]
  exact ⟨rfl, exS_s0 (k := 10) (by decide) (by decide), congrArg (· + 1) (exS_s0 (k := 13) (by decide) (by decide))⟩
theorem exitS_z' {S : Sp} (h : s1 S 12 (s0 S 8) = 0) : s0 (sp_exitS S) 8 = s0 S 8 ∧ s0 (sp_exitS S) 9 = s0 S 9 := by
  have e8 := exS_s0 (S := S) (k := 8) (by decide) (by decide)
  have e : sp_exitS S = u0 (u0 (exS S) 17 2) 13 (s0 (exS S) 13 + 1) := if_pos (show s1 (exS S) 12 (s0 (exS S) 8) = 0 by rw [exS_s1, e8]; exact h)
  rw [e]
  exact ⟨e8, exS_s0 (k := 9) (by decide) (by decide)⟩
theorem exE_57 (S : Sp) (E : Nat → Nat) : exE S E 5 = E 5 ∧ exE S E 7 = E 7 := by
  obtain ⟨cu1, cu2, cu3, cu5, cu7⟩ := eCut_o (S' := sp_cutS S (s1 S 14 (s0 S 8))) (E := E)
  have e : ∀ E1 : Nat → Nat, ∀ T : Sp, eEx T E1 5 = E1 5 ∧ eEx T E1 7 = E1 7 := fun E1 T => by
    unfold eEx
    split
    · exact ⟨rfl, rfl⟩
    · exact ⟨eWL_o (by decide) (by decide) _, eWL_o (by decide) (by decide) _⟩
  unfold exE
  obtain ⟨p, q⟩ := e (if s1 S 0 (s1 S 10 (s0 S 8)) = 0 then eCut (sp_cutS S (s1 S 14 (s0 S 8))) E else E) (exS S)
  rw [p, q]
  split
  · exact ⟨cu5, cu7⟩
  · exact ⟨rfl, rfl⟩
theorem settle_ok {nm : Nat → Nat × Nat} {μ : Mem} {A : Ad} {S' : Sp} {E' tt' : Nat → Nat} {r : Int32} {Q : Mem → Prop} (h : XG μ A nm S' E' tt') (hr : ¬ r = 7) (h17 : r + 1 = nI (s0 S' 17)) (f3 : fi μ 2 3 (A 0 1) = nI (s0 S' 10)) (f4 : fi μ 2 4 (A 0 1) = nI (s0 S' 13)) (f5 : live S' → fr μ 2 5 (A 0 1) = some (A 1 (s0 S' 8)) ∧ (s0 S' 17 = 1 → fi μ 2 6 (A 0 1) = nI (s0 S' 9)))
    (hQ : ∀ μ', XG μ' A nm S' E' tt' → XZ μ' A S' → St gE E' μ A nm μ' A nm → Q μ') : wp_X0_settle μ (A 0 1) r Q := by
  refine ⟨fun q => absurd q hr, fun _ => ⟨h.2.2.2.2.2.1, fun μ2 e2 => ?_⟩⟩
  have ho : Off (fun a => a = A 0 1) μ μ2 := by rw [e2]; exact Off_sfi
  obtain ⟨G2, st2⟩ := h.eng ho (by rw [e2]; rfl) (by rw [e2]; rfl)
  refine hQ μ2 G2 ⟨?_, ?_, ?_, fun q => ⟨?_, fun q1 => ?_⟩⟩ st2
  · rw [e2, fi_sfi_e]; exact h17
  · rw [e2, fi_sfi_k (by decide)]; exact f3
  · rw [e2, fi_sfi_k (by decide)]; exact f4
  · rw [e2, fr_sfi]; exact (f5 q).1
  · rw [e2, fi_sfi_k (by decide)]; exact (f5 q).2 q1
theorem settle_fail {nm : Nat → Nat × Nat} {μ : Mem} {A : Ad} {S : Sp} {E tt : Nat → Nat} {Q : Mem → Prop} (h : XG μ A nm S E tt) (hW : WF S) (h9 : E 9 < 262144) (f3 : fi μ 2 3 (A 0 1) = nI (s0 S 10)) (f4 : fi μ 2 4 (A 0 1) = nI (s0 S 13)) (h17 : s0 S 17 = 1)
    (hQ : ∀ μ', XG μ' A nm (sp_failS (s0 S 7) S) (eFail tt (s0 S 7) S E) tt → XZ μ' A (sp_failS (s0 S 7) S) → St gE E μ A nm μ' A nm → Q μ') : wp_X0_settle μ (A 0 1) 7 Q :=
  ⟨fun _ => ⟨h.2.2.2.2.2.1, x_failE h (hW.stop (by decide)) h9 f3 f4 h17 (fun μ' x y z _ => hQ μ' x y z)⟩, fun q => absurd rfl q⟩
theorem x_step {nm : Nat → Nat × Nat} {μ : Mem} {A : Ad} {S : Sp} {E tt : Nat → Nat} {c z : Nat} {Q : Mem → Prop} (h : XG μ A nm S E tt) (hW : WF S) (h17 : s0 S 17 = 1) (hs : s0 S 3 < s0 S 10) (hs2 : s0 S 13 < s0 S 10) (h9 : E 9 + 8 < 262143) (h11 : s0 S 11 < 2 ^ 31) (h12 : s0 S 12 < 2 ^ 31)
    (f3 : fi μ 2 3 (A 0 1) = nI (s0 S 10)) (f4 : fi μ 2 4 (A 0 1) = nI (s0 S 13)) (f5 : fr μ 2 5 (A 0 1) = some (A 1 (s0 S 8))) (f6 : fi μ 2 6 (A 0 1) = nI (s0 S 9))
    (hc : UC (eStep S E tt) ≤ UC E + c) (hz : UZ (eStep S E tt) ≤ UZ E + z)
    (hQ : ∀ μ' A' nm', XG μ' A' nm' (sp_stepS S) (eStep S E tt) (tStep S E tt) → XZ μ' A' (sp_stepS S) → St gE E μ A nm μ' A' nm' → A' 0 1 = A 0 1 → Q μ') :
    wp_X0_step c z μ (A 0 1) (A 1 (s0 S 8)) (fun (r23 : Int32) (μ19 : Mem) => KM μ μ19 → wp_X0_settle μ19 (A 0 1) r23 (fun (μ25 : Mem) => KM μ19 μ25 → Q μ25)) := by
  obtain ⟨hN, hL, hK, hH, hP, hE⟩ := id h
  obtain ⟨k1, k2, k3, tp, tv, tq, k4, k5⟩ := id hK
  have hl : live S := Or.inl h17
  obtain ⟨⟨P1, P2, P3, P4⟩, hC, ⟨B1, B2, B3, B4⟩, hT, hV, ⟨N1, N2, N3, N4, N5⟩⟩ := id hW
  have hw := B3 hl
  obtain ⟨hpw, hbw, -, h14, -⟩ := B4 (s0 S 8) hw
  obtain ⟨-, sl1, sl2, -, -, -, sl7, -, sl9⟩ := P3 _ hpw
  have e5 : s0 S 6 ≤ E 5 := k2.2.2.2.2.1
  obtain ⟨ff1, -⟩ := k3.2 (s0 S 8) hw
  obtain ⟨q1, q2, q3, q4, q5, q6, q7, q8, q9, q10⟩ := hP.2.1 _ hpw
  have hrow := hW.row
  have hexo := hW.exO hl hrow
  refine ⟨(k3.1 _ (by omega)).1, A 3 _, ff1, hE.1, q1, q1, A 5 _, q6, q10.1, x_lsize q10 fun _ => ?_⟩
  rw [f6]
  by_cases hat : s0 S 9 < s1 S 4 (s1 S 10 (s0 S 8))
  rotate_left
  · have eS : sp_stepS S = sp_failS (s0 S 7) S := if_neg hat
    have eE : eStep S E tt = eFail tt (s0 S 7) S E := if_neg hat
    have eT : tStep S E tt = tt := if_neg hat
    rw [eS, eE, eT] at hQ
    refine s_within_f (Or.inr (nI_le (by omega) (by omega))) fun _ => nz0 fun _ => ⟨fun _ => fun _ => settle_fail h hW (by omega) f3 f4 h17 (fun μ' x y z _ => hQ μ' A nm x y z rfl), fun x11 e11 => absurd e11 (by simp)⟩
  have eS : sp_stepS S = sp_do S (atS S) := if_pos hat
  have eE : eStep S E tt = eDo S E tt (atS S) := if_pos hat
  have eT : tStep S E tt = tDo S E tt (atS S) := if_pos hat
  rw [eS, eE, eT] at hQ
  rw [eE] at hc hz
  obtain ⟨hi, hok⟩ := sl9 _ hat
  have eat : s2 S 1 (s1 S 10 (s0 S 8)) (s0 S 9) = atS S := rfl
  rw [eat] at hi hok
  refine s_within_t (nI_pos (by omega)) (nI_ge hat (by omega)) fun _ => nz1 ⟨A 5 _, q6, q10.1, x_lget q10 hat fun _ => ⟨A 4 (atS S), rfl, ?_, fun _ => ⟨fun q => absurd q (by simp), fun x11 e11 μ12 e12 => ?_⟩⟩⟩
  · exact (hP.2.2 _ hi).1
  cases e11
  rw [f6, nI_1] at e12
  have ho : Off (fun a => a = A 0 1) μ μ12 := by rw [e12]; exact Off_sfi
  obtain ⟨G, st0⟩ := h.eng ho (by rw [e12]; rfl) (by rw [e12]; rfl)
  have v3 : fi μ12 2 3 (A 0 1) = nI (s0 S 10) := by rw [e12, fi_sfi_k (by decide)]; exact f3
  have v4 : fi μ12 2 4 (A 0 1) = nI (s0 S 13) := by rw [e12, fi_sfi_k (by decide)]; exact f4
  have v5 : fr μ12 2 5 (A 0 1) = some (A 1 (s0 S 8)) := by rw [e12, fr_sfi]; exact f5
  have v6 : fi μ12 2 6 (A 0 1) = nI (s0 S 9 + 1) := by rw [e12, fi_sfi_e]
  clear e12 ho
  obtain ⟨gN, gL, gK', gH', gP', gE'⟩ := id G
  obtain ⟨i1, i2, i3, i4, i5, i6, i7, i8, i9, i10, i11⟩ := gP'.2.2 _ hi
  generalize hii : atS S = i at *
  have hn6 := (P4 i hi).2.1
  have isl : ∀ k, isSl S (s1 S 10 (s0 S 8)) (si S k i) → si S k i = nI (sa S k i) ∧ sa S k i < s1 S 1 (s1 S 10 (s0 S 8)) := fun k hk => isSl_sa sl1 sl2 hk
  have hvw : ∀ a, a < s1 S 1 (s1 S 10 (s0 S 8)) → okV (s0 S 3) (rdS S a) := fun a ha => hV _ (WF.sl ⟨B1, B2, B3, B4⟩ hw ha)
  have kk : ∀ c, c < 16 → nI (s1 S 5 i) = nI c → s1 S 5 i = c := fun c hc' e => (nI_eq (by have := (P4 i hi).1; omega) (by omega)).mp e
  have hsp : sp_do S i = sp_do S i := rfl
  -- a write of the frame at work
  have wr : ∀ (v : Int64) (E1 : Nat → Nat), sp_do S i = nxS (wrS S (sa S 1 i) v) → eDo S E tt i = eWr S E (s1 S 11 (s0 S 8) + sa S 1 i) → tDo S E tt i = tt → sa S 1 i < s1 S 1 (s1 S 10 (s0 S 8)) → ∀ μ0, μ0 = μ12 → wp_X0_become c z μ0 (A 0 1) (A 1 (s0 S 8)) (nI (sa S 1 i)) (conv S v) (fun (r21 : Int32) (μ17 : Mem) => KM μ12 μ17 → KM μ μ17 → wp_X0_settle μ17 (A 0 1) r21 (fun (μ25 : Mem) => KM μ17 μ25 → Q μ25)) := by
    intro v E1 d1 d2 d3 d4 μ0 e0
    subst e0
    rw [d1, d2, d3] at hQ
    rw [d2] at hc hz
    refine x_become G hW hw d4 (by omega) hc hz (fun μ1 A1 nm1 g1 st1 _ _ => ?_)
    have ef := G.efk st1
    have a0 : A1 0 1 = A 0 1 := st1.2.2.2.2.1 1 (by decide)
    have a1 : A1 1 (s0 S 8) = A 1 (s0 S 8) := st1.2.2.1 _ (by omega)
    rw [← a0]
    exact settle_ok (S' := nxS (wrS S (sa S 1 i) v)) g1 (by decide) (by show (0 : Int32) + 1 = nI (s0 S 17); rw [h17]; rfl) (by rw [ef.1]; exact v3) (by rw [ef.1]; exact v4) (fun _ => ⟨by rw [ef.2, v5, ← a1]; rfl, fun _ => by rw [ef.1]; exact v6⟩) (fun μ' x y z' _ => hQ μ' A1 nm1 x y ((st0.tr st1.k (Nat.le_refl _) (Nat.le_refl _)).tr z' (by rw [eWr_o (by decide) (by decide)]; exact Nat.le_refl _) (by rw [eWr_o (by decide) (by decide)]; exact Nat.le_refl _)) a0)
  have fl : ∀ μ1 A1 nm1 E1, XG μ1 A1 nm1 S E1 tt → sp_do S i = sp_failS (s0 S 7) S → eDo S E tt i = eFail tt (s0 S 7) S E1 → tDo S E tt i = tt → EF μ12 A μ1 A1 → St gE E μ12 A nm μ1 A1 nm1 → E1 9 < 262144 → E 5 ≤ E1 5 → E 7 ≤ E1 7 → KM μ μ1 → wp_X0_settle μ1 (A 0 1) 7 (fun (μ25 : Mem) => KM μ1 μ25 → Q μ25) := by
    intro μ1 A1 nm1 E1 g1 d1 d2 d3 ef st1 b9 b5 b7 _
    rw [d1, d2, d3] at hQ
    have a0 : A1 0 1 = A 0 1 := st1.2.2.2.2.1 1 (by decide)
    rw [← a0]
    exact settle_fail g1 hW b9 (by rw [ef.1]; exact v3) (by rw [ef.1]; exact v4) h17 (fun μ' x y z' _ => hQ μ' A1 nm1 x y ((st0.tr st1 (Nat.le_refl _) (Nat.le_refl _)).tr z' b5 b7) a0)
  have en : ∀ (k : Nat) (r : Int32) μ1 A1 nm1 E1, r + 1 = nI k → ¬ r = 7 → 2 < k → XG μ1 A1 nm1 S E1 tt → sp_do S i = u0 S 17 k → eDo S E tt i = E1 → tDo S E tt i = tt → EF μ12 A μ1 A1 → St gE E μ12 A nm μ1 A1 nm1 → E 5 ≤ E1 5 → E 7 ≤ E1 7 → KM μ μ1 → wp_X0_settle μ1 (A 0 1) r (fun (μ25 : Mem) => KM μ1 μ25 → Q μ25) := by
    intro k r μ1 A1 nm1 E1 hr1 hr2 hk2 g1 d1 d2 d3 ef st1 b5 b7 _
    rw [d1, d2, d3] at hQ
    have a0 : A1 0 1 = A 0 1 := st1.2.2.2.2.1 1 (by decide)
    rw [← a0]
    exact settle_ok (S' := u0 S 17 k) g1 hr2 hr1 (by rw [ef.1]; exact v3) (by rw [ef.1]; exact v4) (fun q => by
      exfalso
      rcases q with q | q
      · have : k = 1 := q
        omega
      · have : k = 2 := q
        omega) (fun μ' x y z' _ => hQ μ' A1 nm1 x y ((st0.tr st1 (Nat.le_refl _) (Nat.le_refl _)).tr z' b5 b7) a0)
  have nx : ∀ (m : Nat) μ1 A1 nm1 E1, XG μ1 A1 nm1 S E1 tt → sp_do S i = u0 S 9 m → eDo S E tt i = E1 → tDo S E tt i = tt → fi μ1 2 3 (A1 0 1) = nI (s0 S 10) → fi μ1 2 4 (A1 0 1) = nI (s0 S 13) → fr μ1 2 5 (A1 0 1) = some (A1 1 (s0 S 8)) → fi μ1 2 6 (A1 0 1) = nI m → St gE E μ12 A nm μ1 A1 nm1 → E 5 ≤ E1 5 → E 7 ≤ E1 7 → KM μ μ1 → wp_X0_settle μ1 (A 0 1) 0 (fun (μ25 : Mem) => KM μ1 μ25 → Q μ25) := by
    intro m μ1 A1 nm1 E1 g1 d1 d2 d3 x3 x4 x5 x6 st1 b5 b7 _
    rw [d1, d2, d3] at hQ
    have a0 : A1 0 1 = A 0 1 := st1.2.2.2.2.1 1 (by decide)
    rw [← a0]
    exact settle_ok (S' := u0 S 9 m) g1 (by decide) (by show (0 : Int32) + 1 = nI (s0 S 17); rw [h17]; rfl) x3 x4 (fun _ => ⟨x5, fun _ => x6⟩) (fun μ' x y z' _ => hQ μ' A1 nm1 x y ((st0.tr st1 (Nat.le_refl _) (Nat.le_refl _)).tr z' b5 b7) a0)
  refine ⟨i1, ?_⟩
  rw [i2, i3, i4]
  refine ⟨fun e => ?_, fun e => ?_, fun e => ?_, fun e => ?_, fun e => ?_, fun e => ?_, fun e => ?_, fun e => ?_, fun e => ?_, fun e => ?_, fun e => ?_, fun e => ?_, fun e => ?_, fun e => ?_, fun e => ?_, fun n0 n1 n2 n3 n4 n5 n6 n7 n8 n9 n10 n11 n12 n13 n14 => ?_⟩
  · have ek := kk 0 (by decide) e
    obtain ⟨a1, a2⟩ := isl 1 (okIn_c hok ek)
    have dS : sp_do S i = nxS (wrS S (sa S 1 i) (si S 2 i).toInt64) := by rw [sp_do, if_pos ek]
    have dE : eDo S E tt i = eWr S E (s1 S 11 (s0 S 8) + sa S 1 i) := by rw [eDo, if_pos (Or.inl ek)]
    have dT : tDo S E tt i = tt := by rw [tDo, if_neg (fun q => by omega)]
    have := wr (si S 2 i).toInt64 E dS dE dT a2 μ12 rfl
    rw [conv_num] at this
    rw [a1]
    exact ⟨c, z, Nat.le_refl _, Nat.le_refl _, this⟩
  · have ek := kk 1 (by decide) e
    have q : isSl S (s1 S 10 (s0 S 8)) (si S 1 i) ∧ isSl S (s1 S 10 (s0 S 8)) (si S 2 i) := okIn_c hok ek
    obtain ⟨a1, a2⟩ := isl 1 q.1
    obtain ⟨b1, b2⟩ := isl 2 q.2
    have dS : sp_do S i = nxS (wrS S (sa S 1 i) (rdS S (sa S 2 i))) := by rw [sp_do, ek]; rfl
    have dE : eDo S E tt i = eWr S E (s1 S 11 (s0 S 8) + sa S 1 i) := by rw [eDo, if_pos (Or.inr (Or.inl ek))]
    have dT : tDo S E tt i = tt := by rw [tDo, if_neg (fun q => by omega)]
    rw [a1, b1]
    exact ⟨A 0 2, gE'.2.1, gK'.1.1, x_readG G hW hw b2 fun _ => ⟨c, z, Nat.le_refl _, Nat.le_refl _, wr (rdS S (sa S 2 i)) E dS dE dT a2 μ12 rfl⟩⟩
  · have ek := kk 2 (by decide) e
    have q : isSl S (s1 S 10 (s0 S 8)) (si S 1 i) ∧ inR (si S 2 i) 31 ∧ ¬ 5 ≤ nI (s1 S 6 i) ∧ allSl S (s1 S 10 (s0 S 8)) (s1 S 6 i) (fun j => nI (s2 S 2 i j)) := okIn_c hok ek
    obtain ⟨a1, a2⟩ := isl 1 q.1
    obtain ⟨b1, b2⟩ := inR_sa (m := 31) (by decide) q.2.1
    have hn4 := n_le4 hn6 q.2.2.1
    have dT : tDo S E tt i = tt := by rw [tDo, if_neg (fun q => by omega)]
    have dE0 : eDo S E tt i = (if s0 S 5 + tkN (s1 S 6 i) ≤ s0 S 15 then eWr S (eMk S E (s1 S 6 i)) (s1 S 11 (s0 S 8) + sa S 1 i) else E) := by rw [eDo, ek]; rfl
    have dS0 : sp_do S i = (if s0 (sp_makeS S i) 17 = 1 then nxS (sp_makeS S i) else sp_makeS S i) := by rw [sp_do, ek]; rfl
    refine ⟨c, z, Nat.le_refl _, Nat.le_refl _, x_make G hW hs hw hi ek a1 a2 b1 (by omega) (fun j hj => row_sl sl1 sl2 (by have := hrow i j hi (Or.inl ek) hj; omega) q.2.2.2 hj) hn4 (by omega) h12 (fun hy => by rw [dE0, if_pos hy] at hc; exact hc) (fun hy => by rw [dE0, if_pos hy] at hz; exact hz) (fun hno _ hkm => ?_) (fun hy μ1 A1 nm1 g1 ef st1 _ hkm => ?_)⟩
    · refine en 6 5 μ12 A nm E rfl (by decide) (by decide) G ?_ (by rw [dE0, if_neg hno]) dT EF.rf St.rf (Nat.le_refl _) (Nat.le_refl _) hkm
      rw [dS0, sp_makeS, if_neg hno, if_neg (show ¬ s0 (u0 S 17 6) 17 = 1 by show ¬ 6 = 1; decide)]
    · have dS : sp_do S i = nxS (wrS (mkS S i) (sa S 1 i) (cellV (s0 S 3))) := by
        rw [dS0, sp_makeS, if_pos hy, if_pos (show s0 (wrS (mkS S i) (sa S 1 i) (cellV (s0 S 3))) 17 = 1 from h17)]
      have dE : eDo S E tt i = eWr S (eMk S E (s1 S 6 i)) (s1 S 11 (s0 S 8) + sa S 1 i) := by rw [dE0, if_pos hy]
      rw [dS, dE, dT] at hQ
      have a0 : A1 0 1 = A 0 1 := st1.2.2.2.2.1 1 (by decide)
      have a1' : A1 1 (s0 S 8) = A 1 (s0 S 8) := st1.2.2.1 _ (by omega)
      have o5 : eWr S (eMk S E (s1 S 6 i)) (s1 S 11 (s0 S 8) + sa S 1 i) 5 = E 5 := by rw [eWr_o (by decide) (by decide)]; unfold eMk; split; rfl; exact eW_o (by decide) _
      have o7 : eWr S (eMk S E (s1 S 6 i)) (s1 S 11 (s0 S 8) + sa S 1 i) 7 = E 7 := by rw [eWr_o (by decide) (by decide)]; unfold eMk; split; rfl; exact eW_o (by decide) _
      rw [← a0]
      exact settle_ok (S' := nxS (wrS (mkS S i) (sa S 1 i) (cellV (s0 S 3)))) g1 (by decide) (by show (0 : Int32) + 1 = nI (s0 S 17); rw [h17]; rfl) (by rw [ef.1]; exact v3) (by rw [ef.1]; exact v4) (fun _ => ⟨by rw [ef.2, v5, ← a1']; rfl, fun _ => by rw [ef.1]; exact v6⟩) (fun μ' x y z' _ => hQ μ' A1 nm1 x y ((st0.tr st1 (Nat.le_refl _) (Nat.le_refl _)).tr z' (by rw [o5]; exact Nat.le_refl _) (by rw [o7]; exact Nat.le_refl _)) a0)
  · have ek := kk 3 (by decide) e
    have q : isSl S (s1 S 10 (s0 S 8)) (si S 1 i) ∧ inR (si S 2 i) 31 ∧ ¬ 5 ≤ nI (s1 S 6 i) ∧ allSl S (s1 S 10 (s0 S 8)) (s1 S 6 i) (fun j => nI (s2 S 2 i j)) := okIn_c hok ek
    obtain ⟨a1, a2⟩ := isl 1 q.1
    have hn4 := n_le4 hn6 q.2.2.1
    have dT : tDo S E tt i = tt := by rw [tDo, if_neg (fun q => by omega)]
    have dE0 : eDo S E tt i = ifHas S (rdS S (sa S 1 i)) (si S 2 i) (nI (s1 S 6 i)) (eWL S E (fun k => s1 S 11 (s0 S 8) + s2 S 2 i k) (s1 S 6 i)) (eFail tt (s0 S 7) S E) := by rw [eDo, ek]; rfl
    have dS0 : sp_do S i = ifHas S (rdS S (sa S 1 i)) (si S 2 i) (nI (s1 S 6 i)) (nxS (tkS S i (cix (rdS S (sa S 1 i))) (s1 S 6 i))) (sp_failS (s0 S 7) S) := by rw [sp_do, ek]; rfl
    refine ⟨c, z, Nat.le_refl _, Nat.le_refl _, x_take G hW hw hi ek a1 a2 (fun j hj => row_sl sl1 sl2 (by have := hrow i j hi (Or.inr (Or.inl ek)) hj; omega) q.2.2.2 hj) hn4 (by omega) (fun hy => by rw [dE0, ifHas_t hy] at hc; exact hc) (fun hy => by rw [dE0, ifHas_t hy] at hz; exact hz) (fun hno _ hkm => fl μ12 A nm E G (by rw [dS0, ifHas_f hno]) (by rw [dE0, ifHas_f hno]) dT EF.rf St.rf (by omega) (Nat.le_refl _) (Nat.le_refl _) hkm) (fun hy μ1 A1 nm1 g1 ef st1 _ hkm => ?_)⟩
    have dS : sp_do S i = nxS (tkS S i (cix (rdS S (sa S 1 i))) (s1 S 6 i)) := by rw [dS0, ifHas_t hy]
    have dE : eDo S E tt i = eWL S E (fun k => s1 S 11 (s0 S 8) + s2 S 2 i k) (s1 S 6 i) := by rw [dE0, ifHas_t hy]
    rw [dS, dE, dT] at hQ
    have a0 : A1 0 1 = A 0 1 := st1.2.2.2.2.1 1 (by decide)
    have a1' : A1 1 (s0 S 8) = A 1 (s0 S 8) := st1.2.2.1 _ (by omega)
    have we0 : s0 (tkS S i (cix (rdS S (sa S 1 i))) (s1 S 6 i)) = s0 S := (wrL_e _).1
    have t9 : s0 (nxS (tkS S i (cix (rdS S (sa S 1 i))) (s1 S 6 i))) 9 = s0 S 9 + 1 := congrArg (· + 1) (congrFun we0 9)
    rw [← a0]
    exact settle_ok (S' := nxS (tkS S i (cix (rdS S (sa S 1 i))) (s1 S 6 i))) g1 (by decide) (by rw [show s0 (nxS (tkS S i (cix (rdS S (sa S 1 i))) (s1 S 6 i))) 17 = s0 S 17 from congrFun we0 17, h17]; rfl) (by rw [ef.1, show s0 (nxS (tkS S i (cix (rdS S (sa S 1 i))) (s1 S 6 i))) 10 = s0 S 10 from congrFun we0 10]; exact v3) (by rw [ef.1, show s0 (nxS (tkS S i (cix (rdS S (sa S 1 i))) (s1 S 6 i))) 13 = s0 S 13 from congrFun we0 13]; exact v4) (fun _ => ⟨by rw [ef.2, v5, ← a1', show s0 (nxS (tkS S i (cix (rdS S (sa S 1 i))) (s1 S 6 i))) 8 = s0 S 8 from congrFun we0 8], fun _ => by rw [ef.1, t9]; exact v6⟩) (fun μ' x y z' _ => hQ μ' A1 nm1 x y ((st0.tr st1.k (Nat.le_refl _) (Nat.le_refl _)).tr z' (by rw [eWL_o (by decide) (by decide)]; exact Nat.le_refl _) (by rw [eWL_o (by decide) (by decide)]; exact Nat.le_refl _)) a0)
  · have ek := kk 4 (by decide) e
    have q : isSl S (s1 S 10 (s0 S 8)) (si S 1 i) ∧ isSl S (s1 S 10 (s0 S 8)) (si S 2 i) := okIn_c hok ek
    obtain ⟨a1, a2⟩ := isl 1 q.1
    obtain ⟨b1, b2⟩ := isl 2 q.2
    have dT : tDo S E tt i = tt := by rw [tDo, if_neg (fun q => by omega)]
    have dE0 : eDo S E tt i = (if sp_cmp S (rdS S (sa S 1 i)) (rdS S (sa S 2 i)) = 1 then eFail tt (s0 S 7) S (e4 S E i) else e4 S E i) := eDo_4 ek
    have dS0 : sp_do S i = sp_sameS S i := sp_do_4 ek
    obtain ⟨o5, o7, o9⟩ := e4_o S E i
    have hU : UC (eDo S E tt i) = UC (e4 S E i) ∧ UZ (eDo S E tt i) = UZ (e4 S E i) := by
      rw [dE0]
      split
      · exact eFail_U _ _ _
      · exact ⟨rfl, rfl⟩
    rw [hU.1] at hc
    rw [hU.2] at hz
    rw [a1]
    refine ⟨A 0 3, gE'.2.2, A 0 2, gE'.2.1, gK'.1.1, x_readG G hW hw a2 fun _ => ⟨A 0 2, gE'.2.1, gK'.1.1, ?_⟩⟩
    rw [i4, b1]
    refine x_readG G hW hw b2 fun _ => ⟨?_, c, z, Nat.le_refl _, Nat.le_refl _, ?_⟩
    · obtain ⟨-, w, n, u, x1, -⟩ := gH'; exact x1.1
    refine x_same4 G hW (hvw _ a2) (hvw _ b2) hc hz (fun y μ1 A1 nm1 g1 st1 _ hkm => ?_) (fun y μ1 A1 nm1 g1 st1 _ hkm => ?_) (fun y μ1 A1 nm1 g1 st1 _ hkm => ?_)
    · have ef := G.efh st1
      have a1' : A1 1 (s0 S 8) = A 1 (s0 S 8) := st1.2.2.1 _ (by omega)
      exact nx (s0 S 9 + 1) μ1 A1 nm1 (e4 S E i) g1 (by rw [dS0]; exact sameS_0 y) (by rw [dE0, if_neg (by rw [y]; decide)]) dT (by rw [ef.1]; exact v3) (by rw [ef.1]; exact v4) (by rw [ef.2, v5, a1']) (by rw [ef.1]; exact v6) st1.h (Nat.le_of_eq o5.symm) (Nat.le_of_eq o7.symm) hkm
    · exact fl μ1 A1 nm1 (e4 S E i) g1 (by rw [dS0]; exact sameS_1 y) (by rw [dE0, if_pos y]) dT (G.efh st1) st1.h (Nat.lt_of_le_of_lt (Nat.le_of_eq o9) (by omega)) (Nat.le_of_eq o5.symm) (Nat.le_of_eq o7.symm) hkm
    · exact en 7 6 μ1 A1 nm1 (e4 S E i) rfl (by decide) (by decide) g1 (by rw [dS0]; exact sameS_2 y) (by rw [dE0, if_neg (by rw [y]; decide)]) dT (G.efh st1) st1.h (Nat.le_of_eq o5.symm) (Nat.le_of_eq o7.symm) hkm
  · have ek := kk 5 (by decide) e
    have q : isSl S (s1 S 10 (s0 S 8)) (si S 1 i) ∧ isSl S (s1 S 10 (s0 S 8)) (si S 2 i) ∧ isSl S (s1 S 10 (s0 S 8)) (si S 3 i) ∧ inR (si S 4 i) 4 := okIn_c hok ek
    obtain ⟨a1, a2⟩ := isl 1 q.1
    obtain ⟨b1, b2⟩ := isl 2 q.2.1
    obtain ⟨d1, d2⟩ := isl 3 q.2.2.1
    have dT : tDo S E tt i = tt := by rw [tDo, if_neg (fun q => by omega)]
    have dE0 : eDo S E tt i = (if rdS S (sa S 2 i) < 1099511627776 ∧ rdS S (sa S 3 i) < 1099511627776 then (if ¬ si S 4 i ≤ 2 ∧ (rdS S (sa S 3 i)).toInt32 = 0 then eFail tt (s0 S 7) S E else eWr S E (s1 S 11 (s0 S 8) + sa S 1 i)) else E) := by rw [eDo, ek]; rfl
    have dS0 : sp_do S i = sp_sumS S i := by rw [sp_do, ek]; rfl
    rw [sp_sumS] at dS0
    refine ⟨c, z, Nat.le_refl _, Nat.le_refl _, x_sum G hW hw hi a1 a2 b1 b2 d1 d2 q.2.2.2 (by omega) (fun y0 y1 => by rw [dE0, if_pos y0, if_neg y1] at hc; exact hc) (fun y0 y1 => by rw [dE0, if_pos y0, if_neg y1] at hz; exact hz) (fun y0 _ hkm => ?_) (fun y0 y1 _ hkm => ?_) (fun y0 y1 μ1 A1 nm1 g1 st1 _ hkm => ?_)⟩
    · exact en 7 6 μ12 A nm E rfl (by decide) (by decide) G (by rw [dS0, if_neg y0]) (by rw [dE0, if_neg y0]) dT EF.rf St.rf (Nat.le_refl _) (Nat.le_refl _) hkm
    · exact fl μ12 A nm E G (by rw [dS0, if_pos y0, if_pos y1]) (by rw [dE0, if_pos y0, if_pos y1]) dT EF.rf St.rf (by omega) (Nat.le_refl _) (Nat.le_refl _) hkm
    · rw [dS0, if_pos y0, if_neg y1, dE0, if_pos y0, if_neg y1, dT] at hQ
      have ef := G.efk st1
      have a0 : A1 0 1 = A 0 1 := st1.2.2.2.2.1 1 (by decide)
      have a1' : A1 1 (s0 S 8) = A 1 (s0 S 8) := st1.2.2.1 _ (by omega)
      rw [← a0]
      exact settle_ok (S' := nxS (wrS S (sa S 1 i) (sumV (si S 4 i) (rdS S (sa S 2 i)).toInt32 (rdS S (sa S 3 i)).toInt32).toInt64)) g1 (by decide) (by show (0 : Int32) + 1 = nI (s0 S 17); rw [h17]; rfl) (by rw [ef.1]; exact v3) (by rw [ef.1]; exact v4) (fun _ => ⟨by rw [ef.2, v5, ← a1']; rfl, fun _ => by rw [ef.1]; exact v6⟩) (fun μ' x y z' _ => hQ μ' A1 nm1 x y ((st0.tr st1.k (Nat.le_refl _) (Nat.le_refl _)).tr z' (by rw [eWr_o (by decide) (by decide)]; exact Nat.le_refl _) (by rw [eWr_o (by decide) (by decide)]; exact Nat.le_refl _)) a0)
  · have ek := kk 6 (by decide) e
    have q : isSl S (s1 S 10 (s0 S 8)) (si S 1 i) ∧ isSl S (s1 S 10 (s0 S 8)) (si S 2 i) ∧ inR (si S 3 i) 5 := okIn_c hok ek
    obtain ⟨a1, a2⟩ := isl 1 q.1
    obtain ⟨b1, b2⟩ := isl 2 q.2.1
    have dT : tDo S E tt i = tt := by rw [tDo, if_neg (fun q => by omega)]
    have dE0 : eDo S E tt i = (if rdS S (sa S 1 i) < 1099511627776 ∧ rdS S (sa S 2 i) < 1099511627776 then (if holdV (si S 3 i) (rdS S (sa S 1 i)).toInt32 (rdS S (sa S 2 i)).toInt32 = true then E else eFail tt (s0 S 7) S E) else E) := by rw [eDo, ek]; rfl
    have dS0 : sp_do S i = sp_relS S i := by rw [sp_do, ek]; rfl
    rw [sp_relS] at dS0
    refine x_rel G hW hw hi a1 a2 b1 b2 (fun y0 _ hkm => ?_) (fun y0 y1 _ hkm => ?_) (fun y0 y1 _ hkm => ?_)
    · exact en 7 6 μ12 A nm E rfl (by decide) (by decide) G (by rw [dS0, if_neg y0]) (by rw [dE0, if_neg y0]) dT EF.rf St.rf (Nat.le_refl _) (Nat.le_refl _) hkm
    · exact nx (s0 S 9 + 1) μ12 A nm E G (by rw [dS0, if_pos y0, if_pos y1]; rfl) (by rw [dE0, if_pos y0, if_pos y1]) dT v3 v4 v5 v6 St.rf (Nat.le_refl _) (Nat.le_refl _) hkm
    · exact fl μ12 A nm E G (by rw [dS0, if_pos y0, if_neg y1]) (by rw [dE0, if_pos y0, if_neg y1]) dT EF.rf St.rf (by omega) (Nat.le_refl _) (Nat.le_refl _) hkm
  · have ek := kk 7 (by decide) e
    have q : inR (si S 1 i) 1999 := okIn_c hok ek
    obtain ⟨a1, a2⟩ := inR_sa (m := 1999) (by decide) q
    have dT : tDo S E tt i = tt := by rw [tDo, if_neg (fun q => by omega)]
    have dE : eDo S E tt i = E := by rw [eDo, ek]; rfl
    have dS : sp_do S i = u0 S 9 (sa S 1 i) := by rw [sp_do, ek]; rfl
    rw [a1]
    refine ⟨gE'.1, fun μ1 e1 _ hkm => ?_⟩
    have ho1 : Off (fun a => a = A 0 1) μ12 μ1 := by rw [e1]; exact Off_sfi
    obtain ⟨G1, st1⟩ := G.eng ho1 (by rw [e1]; rfl) (by rw [e1]; rfl)
    exact nx (sa S 1 i) μ1 A nm E G1 dS dE dT (by rw [e1, fi_sfi_k (by decide)]; exact v3) (by rw [e1, fi_sfi_k (by decide)]; exact v4) (by rw [e1, fr_sfi]; exact v5) (by rw [e1, fi_sfi_e]) st1 (Nat.le_refl _) (Nat.le_refl _) hkm
  · have ek := kk 8 (by decide) e
    have q : isSl S (s1 S 10 (s0 S 8)) (si S 1 i) ∧ inR (si S 2 i) 31 ∧ inR (si S 3 i) 1999 := okIn_c hok ek
    obtain ⟨a1, a2⟩ := isl 1 q.1
    obtain ⟨b1, b2⟩ := inR_sa (m := 1999) (by decide) q.2.2
    have dT : tDo S E tt i = tt := by rw [tDo, if_neg (fun q => by omega)]
    have dE : eDo S E tt i = E := by rw [eDo, ek]; rfl
    have dS0 : sp_do S i = u0 S 9 (ifHas S (rdS S (sa S 1 i)) (si S 2 i) (-1) (s0 S 9 + 1) (sa S 3 i)) := by rw [sp_do, ek]; rfl
    rw [a1]
    refine ⟨A 0 2, gE'.2.1, gK'.1.1, x_readG G hW hw a2 fun _ => ?_⟩
    rw [i4]
    refine x_hasTag hW (hvw _ a2) (fun y0 y1 _ => nz1 fun hkm => ?_) (fun y0 _ => nz0 ?_)
    · have hh : hasV S (rdS S (sa S 1 i)) (si S 2 i) (-1) := ⟨y0, y1, Or.inl rfl⟩
      exact nx (s0 S 9 + 1) μ12 A nm E G (by rw [dS0, ifHas_t hh]) dE dT v3 v4 v5 v6 St.rf (Nat.le_refl _) (Nat.le_refl _) hkm
    · have hh : ¬ hasV S (rdS S (sa S 1 i)) (si S 2 i) (-1) := fun y => y0 ⟨y.1, y.2.1⟩
      rw [i5, b1]
      refine ⟨gE'.1, fun μ1 e1 _ hkm => ?_⟩
      have ho1 : Off (fun a => a = A 0 1) μ12 μ1 := by rw [e1]; exact Off_sfi
      obtain ⟨G1, st1⟩ := G.eng ho1 (by rw [e1]; rfl) (by rw [e1]; rfl)
      exact nx (sa S 3 i) μ1 A nm E G1 (by rw [dS0, ifHas_f hh]) dE dT (by rw [e1, fi_sfi_k (by decide)]; exact v3) (by rw [e1, fi_sfi_k (by decide)]; exact v4) (by rw [e1, fr_sfi]; exact v5) (by rw [e1, fi_sfi_e]) st1 (Nat.le_refl _) (Nat.le_refl _) hkm
  · have ek := kk 9 (by decide) e
    have q : inR (si S 1 i) 1999 := okIn_c hok ek
    obtain ⟨a1, a2⟩ := inR_sa (m := 1999) (by decide) q
    have dE0 : eDo S E tt i = (if szS S + 3 ≤ s0 S 14 then eRd S E else E) := by rw [eDo, ek]; rfl
    have dS0 : sp_do S i = (if szS S + 3 ≤ s0 S 14 then sp_tryS S (sa S 1 i) else u0 S 17 5) := by rw [sp_do, ek]; rfl
    rw [a1]
    refine ⟨c, z, Nat.le_refl _, Nat.le_refl _, x_leaveRedo G hW hw h11 (fun hy => by rw [dE0, if_pos hy] at hc; exact hc) (fun hy => by rw [dE0, if_pos hy] at hz; exact hz) (fun hno _ hkm => ?_) (fun hy μ1 A1 nm1 g1 st1 _ hkm => ?_)⟩
    · exact en 5 4 μ12 A nm E rfl (by decide) (by decide) G (by rw [dS0, if_neg hno]) (by rw [dE0, if_neg hno]) (by rw [tDo, if_neg (fun q => hno q.2)]) EF.rf St.rf (Nat.le_refl _) (Nat.le_refl _) hkm
    · have dT : tDo S E tt i = va_up tt (s0 S 7) (E 9) := by rw [tDo, if_pos ⟨ek, hy⟩]
      rw [dS0, if_pos hy, dE0, if_pos hy, dT] at hQ
      have ef := G.efk st1
      have a0 : A1 0 1 = A 0 1 := st1.2.2.2.2.1 1 (by decide)
      have a1' : A1 1 (s0 S 8) = A 1 (s0 S 8) := st1.2.2.1 _ (by omega)
      have o5 : eRd S E 5 = E 5 := by unfold eRd; split <;> rfl
      have o7 : E 7 ≤ eRd S E 7 := by
        unfold eRd
        split
        · exact Nat.le_refl _
        · show E 7 ≤ E 7 + 1
          omega
      rw [← a0]
      exact settle_ok (S' := sp_tryS S (sa S 1 i)) g1 (by decide) (by show (0 : Int32) + 1 = nI (s0 S 17); rw [h17]; rfl) (by rw [ef.1]; exact v3) (by rw [ef.1]; exact v4) (fun _ => ⟨by rw [ef.2, v5, ← a1']; rfl, fun _ => by rw [ef.1]; exact v6⟩) (fun μ' x y z' _ => hQ μ' A1 nm1 x y ((st0.tr st1.k (Nat.le_refl _) (Nat.le_refl _)).tr z' (by rw [o5]; exact Nat.le_refl _) o7) a0)
  · have ek := kk 10 (by decide) e
    have q : inR (si S 1 i) (nI (s0 S 1) - 1) ∧ nI (s1 S 6 i) = nI (s1 S 2 (sa S 1 i)) + nI (s1 S 3 (sa S 1 i)) ∧ allSl S (s1 S 10 (s0 S 8)) (s1 S 6 i) (fun j => nI (s2 S 2 i j)) := okIn_c hok ek
    have hnp : 1 ≤ s0 S 1 := by omega
    rw [show nI (s0 S 1) - 1 = nI (s0 S 1 - 1) by rw [show (1 : Int32) = nI 1 from rfl, pk_sub hnp]] at q
    obtain ⟨a1, a2⟩ := inR_sa (by omega) q.1
    obtain ⟨-, -, -, -, -, w6, -⟩ := P3 (sa S 1 i) (by omega)
    have en6 : s1 S 6 i = s1 S 2 (sa S 1 i) + s1 S 3 (sa S 1 i) := by
      have := q.2.1
      rw [nI_add] at this
      exact (nI_eq (by omega) (by omega)).mp this
    have dT : tDo S E tt i = tt := by rw [tDo, if_neg (fun q => by omega)]
    have dE0 : eDo S E tt i = (if szS S + (2 + s1 S 1 (sa S 1 i)) ≤ s0 S 14 then ePf S E (sa S 1 i) else E) := by rw [eDo, ek]; rfl
    have dS0 : sp_do S i = sp_callS S i := by rw [sp_do, ek]; rfl
    refine ⟨c, z, Nat.le_refl _, Nat.le_refl _, x_call G hW hl hw hat hii.symm hi ek a1 (by omega) en6 (fun j hj => row_sl sl1 sl2 (by have := hrow i j hi (Or.inr (Or.inr ek)) hj; omega) q.2.2 hj) (by omega) h11 v6 (fun hy => by rw [dE0, if_pos hy] at hc; exact hc) (fun hy => by rw [dE0, if_pos hy] at hz; exact hz) (fun hno _ hkm => ?_) (fun hy μ1 A1 nm1 g1 w1 w2 w3 st1 _ hkm => ?_)⟩
    · exact en 5 4 μ12 A nm E rfl (by decide) (by decide) G (by rw [dS0, sp_callS, if_neg hno]) (by rw [dE0, if_neg hno]) dT EF.rf St.rf (Nat.le_refl _) (Nat.le_refl _) hkm
    · rw [dS0, dE0, if_pos hy, dT] at hQ
      have a0 : A1 0 1 = A 0 1 := st1.2.2.2.2.1 1 (by decide)
      have we0 := (wrL_e (S := sp_pushS S (sa S 1 i) (s0 S 8 + 1) (s0 S 9)) (f := fun k => s1 S 11 (s0 S 6) + k) (g := fun k T => sv T 0 (s1 S 11 (s0 S 8) + s2 S 2 i k)) (s1 S 2 (sa S 1 i))).1
      have cS : sp_callS S i = u0 (u0 (wrL (sp_pushS S (sa S 1 i) (s0 S 8 + 1) (s0 S 9)) (fun k => s1 S 11 (s0 S 6) + k) (fun k T => sv T 0 (s1 S 11 (s0 S 8) + s2 S 2 i k)) (s1 S 2 (sa S 1 i))) 8 (s0 S 6)) 9 0 := by rw [sp_callS, if_pos hy]
      have c17 : s0 (sp_callS S i) 17 = s0 S 17 := by rw [cS]; exact congrFun we0 17
      have c10 : s0 (sp_callS S i) 10 = s0 S 10 := by rw [cS]; exact congrFun we0 10
      have c13 : s0 (sp_callS S i) 13 = s0 S 13 := by rw [cS]; exact congrFun we0 13
      have c8 : s0 (sp_callS S i) 8 = s0 S 6 := by rw [cS]; rfl
      have c9 : s0 (sp_callS S i) 9 = 0 := by rw [cS]; rfl
      rw [← a0]
      exact settle_ok (S' := sp_callS S i) g1 (by decide) (by rw [c17, h17]; rfl) (by rw [w1 3 (by decide), c10]; exact v3) (by rw [w1 4 (by decide), c13]; exact v4) (fun _ => ⟨by rw [w3, c8], fun _ => by rw [w2, c9]; rfl⟩) (fun μ' x y z' _ => hQ μ' A1 nm1 x y ((st0.tr st1 (Nat.le_refl _) (Nat.le_refl _)).tr z' ePf_5 (by rw [ePf_o (by decide) (by decide) (by decide)]; exact Nat.le_refl _)) a0)
  · have ek := kk 11 (by decide) e
    obtain ⟨a1, a2⟩ := isl 1 (okIn_c hok ek)
    have dS : sp_do S i = nxS (wrS S (sa S 1 i) (nI (s0 S 7)).toInt64) := by rw [sp_do, ek]; rfl
    have dE : eDo S E tt i = eWr S E (s1 S 11 (s0 S 8) + sa S 1 i) := by rw [eDo, if_pos (Or.inr (Or.inr ek))]
    have dT : tDo S E tt i = tt := by rw [tDo, if_neg (fun q => by omega)]
    have := wr (nI (s0 S 7)).toInt64 E dS dE dT a2 μ12 rfl
    rw [conv_num] at this
    rw [a1]
    refine ⟨A 0 2, gE'.2.1, gK'.1.1, c, z, Nat.le_refl _, Nat.le_refl _, ?_⟩
    rw [gK'.1.2.2.2.2.2.2.1]
    exact this
  · have ek := kk 12 (by decide) e
    obtain ⟨a1, a2⟩ := isl 1 (okIn_c hok ek)
    have dT : tDo S E tt i = tt := by rw [tDo, if_neg (fun q => by omega)]
    have dE0 : eDo S E tt i = (if rdS S (sa S 1 i) < 1099511627776 then eCut (sp_cutS S (rdS S (sa S 1 i)).toInt32.toNatClampNeg) E else E) := by rw [eDo, ek]; rfl
    have dS0 : sp_do S i = (if rdS S (sa S 1 i) < 1099511627776 then sp_cutS (nxS S) (rdS S (sa S 1 i)).toInt32.toNatClampNeg else u0 S 17 7) := by rw [sp_do, ek]; rfl
    rw [a1]
    refine ⟨A 0 2, gE'.2.1, gK'.1.1, x_readG G hW hw a2 fun _ => x_cut G hW hw (hvw _ a2) (fun y0 _ hkm => ?_) (fun y0 μ1 g1 st1 _ hkm => ?_)⟩
    · have y0 : ¬ rdS S (sa S 1 i) < 1099511627776 := y0
      exact en 7 6 μ12 A nm E rfl (by decide) (by decide) G (by rw [dS0, if_neg y0]) (by rw [dE0, if_neg y0]) dT EF.rf St.rf (Nat.le_refl _) (Nat.le_refl _) hkm
    · have y0 : rdS S (sa S 1 i) < 1099511627776 := y0
      rw [dS0, if_pos y0, dE0, if_pos y0, dT] at hQ
      have ef := G.efk st1
      obtain ⟨-, -, -, cu5, cu7⟩ := eCut_o (S' := sp_cutS S (rdS S (sa S 1 i)).toInt32.toNatClampNeg) (E := E)
      exact settle_ok (S' := sp_cutS (nxS S) (rdS S (sa S 1 i)).toInt32.toNatClampNeg) g1 (by decide) (by show (0 : Int32) + 1 = nI (s0 S 17); rw [h17]; rfl) (by rw [ef.1]; exact v3) (by rw [ef.1]; exact v4) (fun _ => ⟨by rw [ef.2]; exact v5, fun _ => by rw [ef.1]; exact v6⟩) (fun μ' x y z' _ => hQ μ' A nm x y ((st0.tr st1.k (Nat.le_refl _) (Nat.le_refl _)).tr z' (Nat.le_of_eq cu5.symm) (Nat.le_of_eq cu7.symm)) rfl)
  · have ek := kk 13 (by decide) e
    obtain ⟨a1, a2⟩ := isl 1 (okIn_c hok ek)
    have dT : tDo S E tt i = tt := by rw [tDo, if_neg (fun q => by omega)]
    have dE : eDo S E tt i = E := by rw [eDo, ek]; rfl
    have dS0 : sp_do S i = (if rdS S (sa S 1 i) < 1099511627776 then sp_deadS (nxS S) (rdS S (sa S 1 i)).toInt32 else u0 S 17 7) := by rw [sp_do, ek]; rfl
    rw [a1]
    refine ⟨A 0 2, gE'.2.1, gK'.1.1, x_readG G hW hw a2 fun _ => x_drop G hW (hvw _ a2) (fun y0 _ hkm => ?_) (fun y0 μ1 g1 st1 _ hkm => ?_)⟩
    · have y0 : ¬ rdS S (sa S 1 i) < 1099511627776 := y0
      exact en 7 6 μ12 A nm E rfl (by decide) (by decide) G (by rw [dS0, if_neg y0]) dE dT EF.rf St.rf (Nat.le_refl _) (Nat.le_refl _) hkm
    · have y0 : rdS S (sa S 1 i) < 1099511627776 := y0
      rw [dS0, if_pos y0, dE, dT] at hQ
      have ef := G.efk st1
      have cS : sp_deadS (nxS S) (rdS S (sa S 1 i)).toInt32 = nxS (sp_deadS S (rdS S (sa S 1 i)).toInt32) := by
        by_cases y : 0 ≤ (rdS S (sa S 1 i)).toInt32 ∧ (rdS S (sa S 1 i)).toInt32 < nI (s0 S 7)
        · have q1 : sp_deadS S (rdS S (sa S 1 i)).toInt32 = u1 S 18 (rdS S (sa S 1 i)).toInt32.toNatClampNeg 1 := if_pos y
          have q2 : sp_deadS (nxS S) (rdS S (sa S 1 i)).toInt32 = u1 (nxS S) 18 (rdS S (sa S 1 i)).toInt32.toNatClampNeg 1 := if_pos y
          rw [q1, q2]; rfl
        · exact Eq.trans (if_neg y) (congrArg nxS (if_neg y)).symm
      rw [cS] at hQ
      have cD : s0 (sp_deadS S (rdS S (sa S 1 i)).toInt32) = s0 S := by unfold sp_deadS; split <;> rfl
      exact settle_ok (S' := nxS (sp_deadS S (rdS S (sa S 1 i)).toInt32)) g1 (by decide) (by rw [show s0 (nxS (sp_deadS S (rdS S (sa S 1 i)).toInt32)) 17 = s0 S 17 from congrFun cD 17, h17]; rfl) (by rw [ef.1, show s0 (nxS (sp_deadS S (rdS S (sa S 1 i)).toInt32)) 10 = s0 S 10 from congrFun cD 10]; exact v3) (by rw [ef.1, show s0 (nxS (sp_deadS S (rdS S (sa S 1 i)).toInt32)) 13 = s0 S 13 from congrFun cD 13]; exact v4) (fun _ => ⟨by rw [ef.2, show s0 (nxS (sp_deadS S (rdS S (sa S 1 i)).toInt32)) 8 = s0 S 8 from congrFun cD 8]; exact v5, fun _ => by rw [ef.1, show s0 (nxS (sp_deadS S (rdS S (sa S 1 i)).toInt32)) 9 = s0 S 9 + 1 from congrArg (· + 1) (congrFun cD 9)]; exact v6⟩) (fun μ' x y z' _ => hQ μ' A nm x y ((st0.tr st1.k (Nat.le_refl _) (Nat.le_refl _)).tr z' (Nat.le_refl _) (Nat.le_refl _)) rfl)
  · have ek := kk 14 (by decide) e
    have dT : tDo S E tt i = tt := by rw [tDo, if_neg (fun q => by omega)]
    have dE : eDo S E tt i = exE S E := by rw [eDo, ek]; rfl
    have dS : sp_do S i = sp_exitS S := by rw [sp_do, ek]; rfl
    rw [dS, dE, dT] at hQ
    rw [dE] at hc hz
    obtain ⟨x5, x7⟩ := exE_57 S E
    refine ⟨c, z, Nat.le_refl _, Nat.le_refl _, x_exit G hW hl hw hexo h9 v4 hc hz (fun y0 μ1 g1 w1 w2 w3 st1 _ _ => ?_) (fun y0 μ1 A1 nm1 g1 w1 w2 w3 st1 _ _ => ?_)⟩
    · obtain ⟨c17, c10, c13⟩ := exitS_z y0
      obtain ⟨c8, c9⟩ := exitS_z' y0
      exact settle_ok (S' := sp_exitS S) g1 (by decide) (by rw [c17]; rfl) (by rw [w1 3 (by decide), c10]; exact v3) (by rw [w2, c13]) (fun _ => ⟨by rw [w3, c8]; exact v5, fun q1 => absurd (c17.symm.trans q1) (by decide)⟩) (fun μ' x y z' _ => hQ μ' A nm x y ((st0.tr st1 (Nat.le_refl _) (Nat.le_refl _)).tr z' (Nat.le_of_eq x5.symm) (Nat.le_of_eq x7.symm)) rfl)
    · obtain ⟨c17, c10, c13, c8, c9⟩ := exitS_n y0
      have a0 : A1 0 1 = A 0 1 := st1.2.2.2.2.1 1 (by decide)
      rw [← a0]
      exact settle_ok (S' := sp_exitS S) g1 (by decide) (by rw [c17, h17]; rfl) (by rw [w1 3 (by decide), c10]; exact v3) (by rw [w1 4 (by decide), c13]; exact v4) (fun _ => ⟨by rw [w3, c8], fun _ => by rw [w2, c9]⟩) (fun μ' x y z' _ => hQ μ' A1 nm1 x y ((st0.tr st1 (Nat.le_refl _) (Nat.le_refl _)).tr z' (Nat.le_of_eq x5.symm) (Nat.le_of_eq x7.symm)) a0)
  · have hk15 := (P4 i hi).1
    have ek : s1 S 5 i = 15 := by
      have z0 : ¬ s1 S 5 i = 0 := fun y => n0 (by rw [y]; rfl)
      have z1 : ¬ s1 S 5 i = 1 := fun y => n1 (by rw [y]; rfl)
      have z2 : ¬ s1 S 5 i = 2 := fun y => n2 (by rw [y]; rfl)
      have z3 : ¬ s1 S 5 i = 3 := fun y => n3 (by rw [y]; rfl)
      have z4 : ¬ s1 S 5 i = 4 := fun y => n4 (by rw [y]; rfl)
      have z5 : ¬ s1 S 5 i = 5 := fun y => n5 (by rw [y]; rfl)
      have z6 : ¬ s1 S 5 i = 6 := fun y => n6 (by rw [y]; rfl)
      have z7 : ¬ s1 S 5 i = 7 := fun y => n7 (by rw [y]; rfl)
      have z8 : ¬ s1 S 5 i = 8 := fun y => n8 (by rw [y]; rfl)
      have z9 : ¬ s1 S 5 i = 9 := fun y => n9 (by rw [y]; rfl)
      have z10 : ¬ s1 S 5 i = 10 := fun y => n10 (by rw [y]; rfl)
      have z11 : ¬ s1 S 5 i = 11 := fun y => n11 (by rw [y]; rfl)
      have z12 : ¬ s1 S 5 i = 12 := fun y => n12 (by rw [y]; rfl)
      have z13 : ¬ s1 S 5 i = 13 := fun y => n13 (by rw [y]; rfl)
      have z14 : ¬ s1 S 5 i = 14 := fun y => n14 (by rw [y]; rfl)
      omega
    have dT : tDo S E tt i = tt := by rw [tDo, if_neg (fun q => by omega)]
    have dE : eDo S E tt i = eFail tt (s0 S 7) S E := by rw [eDo, ek]; rfl
    have dS : sp_do S i = sp_failS (s0 S 7) S := by rw [sp_do, ek]; rfl
    exact fun hkm => fl μ12 A nm E G dS dE dT EF.rf St.rf (by omega) (Nat.le_refl _) (Nat.le_refl _) hkm
