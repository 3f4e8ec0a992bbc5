/-! the class runs -/
def WG (S : Sp) : Prop := s0 S 11 ≤ 20000 ∧ s0 S 12 ≤ 20000 ∧ s0 S 17 ≤ 7 ∧ (s0 S 17 = 2 → s0 S 8 = 0)
theorem WG.cg {S S' : Sp} (h : WG S) (e11 : s0 S' 11 = s0 S 11) (e12 : s0 S' 12 = s0 S 12) (e17 : s0 S' 17 = s0 S 17) (h2 : ¬ s0 S 17 = 2) : WG S' := by
  obtain ⟨a, b, c, d⟩ := h
  exact ⟨by rw [e11]; exact a, by rw [e12]; exact b, by rw [e17]; exact c, fun q => absurd (e17.symm.trans q) h2⟩
theorem WG.end' {S : Sp} {k : Nat} (h : WG S) (hk : k ≤ 7) (h2 : ¬ k = 2) : WG (u0 S 17 k) := ⟨h.1, h.2.1, hk, fun q => absurd q h2⟩
theorem WG.fail : ∀ n (S : Sp), WG S → ¬ s0 S 17 = 2 → WG (sp_failS n S) := by
  intro n
  induction n with
  | zero => intro S h _; exact h.end' (by decide) (by decide)
  | succ n ih =>
    intro S h h2
    rw [sp_failS]
    split
    · exact ⟨h.1, h.2.1, h.2.2.1, fun q => absurd q h2⟩
    · exact ih _ h h2
theorem WG.do' {S : Sp} {i : Nat} (h : WG S) (h17 : s0 S 17 = 1) (hb : s1 S 12 (s0 S 8) = 0 → s0 S 8 = 0) (h14 : s0 S 14 ≤ 20000) (h15 : s0 S 15 ≤ 20000) : WG (sp_do S i) := by
  have h2 : ¬ s0 S 17 = 2 := by omega
  have hf := WG.fail (s0 S 7) S h h2
  unfold sp_do
  by_cases k0 : s1 S 5 i = 0
  · rw [if_pos k0]; exact h
  rw [if_neg k0]
  by_cases k1 : s1 S 5 i = 1
  · rw [if_pos k1]; exact h
  rw [if_neg k1]
  by_cases k2 : s1 S 5 i = 2
  · rw [if_pos k2]
    have hm : WG (sp_makeS S i) := by
      unfold sp_makeS
      split
      · refine ⟨h.1, ?_, h.2.2⟩
        show (if s0 S 12 < s0 S 5 + tkN (s1 S 6 i) then s0 S 5 + tkN (s1 S 6 i) else s0 S 12) ≤ 20000
        have := h.2.1
        split <;> omega
      · exact h.end' (by decide) (by decide)
    split
    · exact hm
    · exact hm
  rw [if_neg k2]
  by_cases k3 : s1 S 5 i = 3
  · rw [if_pos k3]
    unfold ifHas
    split
    · exact h.cg (congrFun (wrL_e _).1 11) (congrFun (wrL_e _).1 12) (congrFun (wrL_e _).1 17) h2
    · exact hf
  rw [if_neg k3]
  by_cases k4 : s1 S 5 i = 4
  · rw [if_pos k4]
    unfold sp_sameS
    split
    · exact h.end' (by decide) (by decide)
    · split
      · exact hf
      · exact h
  rw [if_neg k4]
  by_cases k5 : s1 S 5 i = 5
  · rw [if_pos k5]
    unfold sp_sumS
    split
    · split
      · exact hf
      · exact h
    · exact h.end' (by decide) (by decide)
  rw [if_neg k5]
  by_cases k6 : s1 S 5 i = 6
  · rw [if_pos k6]
    unfold sp_relS
    split
    · split
      · exact h
      · exact hf
    · exact h.end' (by decide) (by decide)
  rw [if_neg k6]
  by_cases k7 : s1 S 5 i = 7
  · rw [if_pos k7]; exact h
  rw [if_neg k7]
  by_cases k8 : s1 S 5 i = 8
  · rw [if_pos k8]; exact h
  rw [if_neg k8]
  by_cases k9 : s1 S 5 i = 9
  · rw [if_pos k9]
    split
    · refine ⟨?_, h.2⟩
      show (if s0 S 11 < szS S + 3 then szS S + 3 else s0 S 11) ≤ 20000
      have := h.1
      split <;> omega
    · exact h.end' (by decide) (by decide)
  rw [if_neg k9]
  by_cases k10 : s1 S 5 i = 10
  · rw [if_pos k10]
    unfold sp_callS
    split
    · have we := (wrL_e (S := sp_pushS S (sa S 1 i) (s0 S 8 + 1) (s0 S 9)) (f := fun k => s1 S 11 (s0 S 6) + k) (g := fun k T => sv T 0 (s1 S 11 (s0 S 8) + s2 S 2 i k)) (s1 S 2 (sa S 1 i))).1
      refine WG.cg (S := sp_pushS S (sa S 1 i) (s0 S 8 + 1) (s0 S 9)) ⟨?_, h.2⟩ (congrFun we 11) (congrFun we 12) (congrFun we 17) h2
      show (if s0 S 11 < szS S + (2 + s1 S 1 (sa S 1 i)) then szS S + (2 + s1 S 1 (sa S 1 i)) else s0 S 11) ≤ 20000
      have := h.1
      split <;> omega
    · exact h.end' (by decide) (by decide)
  rw [if_neg k10]
  by_cases k11 : s1 S 5 i = 11
  · rw [if_pos k11]; exact h
  rw [if_neg k11]
  by_cases k12 : s1 S 5 i = 12
  · rw [if_pos k12]
    split
    · exact h
    · exact h.end' (by decide) (by decide)
  rw [if_neg k12]
  by_cases k13 : s1 S 5 i = 13
  · rw [if_pos k13]
    split
    · unfold sp_deadS
      split
      · exact h
      · exact h
    · exact h.end' (by decide) (by decide)
  rw [if_neg k13]
  by_cases k14 : s1 S 5 i = 14
  · rw [if_pos k14]
    have hx : WG (exS S) := h.cg (exS_s0 (by decide) (by decide)) (exS_s0 (by decide) (by decide)) (exS_s0 (by decide) (by decide)) h2
    have e8 : s0 (exS S) 8 = s0 S 8 := exS_s0 (by decide) (by decide)
    have e17 : s0 (exS S) 17 = s0 S 17 := exS_s0 (by decide) (by decide)
    show WG (sp_exit2 (exS S))
    unfold sp_exit2
    split
    · rename_i hq
      rw [exS_s1, e8] at hq
      exact ⟨hx.1, hx.2.1, by show 2 ≤ 7; decide, fun _ => e8.trans (hb hq)⟩
    · have hT : WG (exT (exS S)) := hx.cg (congrFun (wrL_e _).1 11) (congrFun (wrL_e _).1 12) (congrFun (wrL_e _).1 17) (by omega)
      split
      · exact hT
      · exact hT
  rw [if_neg k14]
  exact hf
theorem WG.step {S : Sp} (h : WG S) (hW : WF S) (h17 : s0 S 17 = 1) : WG (sp_stepS (u0 S 10 (s0 S 10 + 1))) := by
  obtain ⟨-, -, -, h14, h15⟩ := hW.2.2.2.2.2
  have h1 : WG (u0 S 10 (s0 S 10 + 1)) := h
  unfold sp_stepS
  split
  · exact h1.do' h17 (fun q => ((hW.2.2.1.2.2.2 (s0 S 8) (hW.2.2.1.2.2.1 (Or.inl h17))).2.2.1).mp q) h14 h15
  · exact WG.fail _ _ h1 (show ¬ s0 S 17 = 2 by omega)
theorem st_eqx {v : Int32} {s m : Nat} (h : v + 1 = nI s) (hs : s ≤ 7) (hm : m ≤ 6) : v = nI m ↔ s = m + 1 := by
  have hs' := add_sub1 h
  rw [hs']
  rcases Nat.eq_zero_or_pos s with z | z
  · rw [z]
    constructor
    · intro e
      have : (nI 0 - 1).toInt = (nI m).toInt := congrArg Int32.toInt e
      rw [nI_toInt (by omega)] at this
      have z1 : (nI 0 - 1).toInt = -1 := by decide
      omega
    · intro e; omega
  · rw [show nI s - 1 = nI (s - 1) by rw [show (1 : Int32) = nI 1 from rfl, pk_sub z], nI_eq (by omega) (by omega)]
    omega
def eRunL : Nat → Sp → (Nat → Nat) → (Nat → Nat) → (Nat → Nat) × (Nat → Nat)
  | 0, _, E, tt => (E, tt)
  | d + 1, S, E, tt => if s0 S 17 = 1 then eRunL d (if s0 S 10 = 20000 then u0 S 17 4 else sp_stepS (u0 S 10 (s0 S 10 + 1))) (if s0 S 10 = 20000 then E else eStep (u0 S 10 (s0 S 10 + 1)) E tt) (if s0 S 10 = 20000 then tt else tStep (u0 S 10 (s0 S 10 + 1)) E tt) else (E, tt)
theorem EM.rf {E : Nat → Nat} : EM E E := fun _ _ => Nat.le_refl _
theorem EM.tr {E E1 E2 : Nat → Nat} (h : EM E E1) (h' : EM E1 E2) : EM E E2 := fun r hr => Nat.le_trans (h r hr) (h' r hr)
theorem EM.nine {E : Nat → Nat} {v : Nat} : EM E (va_up E 9 v) := fun r hr => by rw [va_up, if_neg hr]; exact Nat.le_refl _
theorem eRow_em {E : Nat → Nat} {r n : Nat} : EM E (eRow E r n) := by
  intro k hk
  unfold eRow
  rw [va_up]
  split
  · rename_i q; rw [q]; split <;> omega
  · exact Nat.le_refl _
theorem eWr_em {S : Sp} {E : Nat → Nat} {q : Nat} : EM E (eWr S E q) := by
  unfold eWr
  split
  · exact eRow_em.tr EM.nine
  · exact EM.rf
theorem eWL_em {S : Sp} {E : Nat → Nat} {f : Nat → Nat} : ∀ k, EM E (eWL S E f k) := by
  intro k
  induction k with
  | zero => exact EM.rf
  | succ k ih => exact ih.tr eWr_em
theorem eW_em {E : Nat → Nat} {n : Nat} : ∀ k, EM E (eW E n k) := by
  intro k
  induction k with
  | zero => exact EM.rf
  | succ k ih => exact ih.tr eRow_em
theorem eZ_em {E : Nat → Nat} {n : Nat} : ∀ k, EM E (eZ E n k) := by
  intro k
  induction k with
  | zero => exact EM.rf
  | succ k ih => exact ih.tr eRow_em
theorem eMk_em {S : Sp} {E : Nat → Nat} {n : Nat} : EM E (eMk S E n) := by
  unfold eMk
  split
  · exact EM.rf
  · exact eW_em _
theorem ePr_em : ∀ k n (E : Nat → Nat), EM E (ePr E n k) := by
  intro k
  induction k with
  | zero => intro n E; exact EM.rf
  | succ k ih => intro n E; exact (eRow_em.tr eRow_em).tr (ih (n + 1) _)
theorem eCmp_em {S : Sp} : ∀ m n f g (E : Nat → Nat), EM E (eCmp S m n f g E) := by
  intro m
  induction m with
  | zero => intro n f g E; exact EM.rf
  | succ m ih =>
    intro n f g E
    rw [eCmp]
    split
    · exact EM.rf
    · split
      · split
        · exact ih _ _ _ _
        · exact EM.rf
      · split
        · exact (ePr_em _ _ _).tr (ih _ _ _ _)
        · exact EM.rf
theorem e4_em {S : Sp} {E : Nat → Nat} {i : Nat} : EM E (e4 S E i) := (eRow_em.tr eRow_em).tr (eCmp_em _ _ _ _ _)
theorem gcap_em {n cap : Nat} : cap ≤ gcap n cap := by
  unfold gcap
  split
  · split <;> omega
  · omega
theorem eRd_em {S : Sp} {E : Nat → Nat} : EM E (eRd S E) := by
  unfold eRd
  split
  · exact EM.rf
  · intro k hk
    rw [va_up]
    split
    · rename_i q; rw [q]; exact gcap_em
    · rw [va_up]
      split
      · rename_i q; rw [q]; omega
      · exact Nat.le_refl _
theorem eFr_em {S : Sp} {E : Nat → Nat} : EM E (eFr S E) := by
  unfold eFr
  split
  · exact EM.rf
  · intro k hk
    rw [va_up]
    split
    · rename_i q; rw [q]; exact gcap_em
    · rw [va_up]
      split
      · rename_i q; rw [q]; omega
      · exact Nat.le_refl _
theorem ePf_em {S : Sp} {E : Nat → Nat} {p : Nat} : EM E (ePf S E p) := eFr_em.tr (eZ_em _)
theorem eFail_em {tt : Nat → Nat} : ∀ n (S : Sp) (E : Nat → Nat), EM E (eFail tt n S E) := by
  intro n
  induction n with
  | zero => intro S E; exact EM.rf
  | succ n ih =>
    intro S E
    rw [eFail]
    split
    · exact EM.nine
    · exact ih _ _
theorem eCut_em {S : Sp} {E : Nat → Nat} : EM E (eCut S E) := by
  unfold eCut
  split
  · exact EM.nine
  · exact EM.rf
theorem exE_em {S : Sp} {E : Nat → Nat} : EM E (exE S E) := by
  have ec : EM E (if s1 S 0 (s1 S 10 (s0 S 8)) = 0 then eCut (sp_cutS S (s1 S 14 (s0 S 8))) E else E) := by
    split
    · exact eCut_em
    · exact EM.rf
  unfold exE
  refine ec.tr ?_
  unfold eEx
  generalize (if s1 S 0 (s1 S 10 (s0 S 8)) = 0 then eCut (sp_cutS S (s1 S 14 (s0 S 8))) E else E) = E1
  split
  · exact EM.rf
  · exact eWL_em _
theorem eStep_em {S : Sp} {E tt : Nat → Nat} : EM E (eStep S E tt) := by
  have ef : EM E (eFail tt (s0 S 7) S E) := eFail_em _ _ _
  unfold eStep
  by_cases hat : s0 S 9 < s1 S 4 (s1 S 10 (s0 S 8))
  rotate_left
  · rw [if_neg hat]; exact ef
  rw [if_pos hat]
  generalize atS S = i
  unfold eDo
  by_cases k0 : s1 S 5 i = 0 ∨ s1 S 5 i = 1 ∨ s1 S 5 i = 11
  · rw [if_pos k0]; exact eWr_em
  rw [if_neg k0]
  by_cases k2 : s1 S 5 i = 2
  · rw [if_pos k2]
    split
    · exact eMk_em.tr eWr_em
    · exact EM.rf
  rw [if_neg k2]
  by_cases k3 : s1 S 5 i = 3
  · rw [if_pos k3]
    unfold ifHas
    split
    · exact eWL_em _
    · exact ef
  rw [if_neg k3]
  by_cases k4 : s1 S 5 i = 4
  · rw [if_pos k4]
    split
    · exact e4_em.tr (eFail_em _ _ _)
    · exact e4_em
  rw [if_neg k4]
  by_cases k5 : s1 S 5 i = 5
  · rw [if_pos k5]
    split
    · split
      · exact ef
      · exact eWr_em
    · exact EM.rf
  rw [if_neg k5]
  by_cases k6 : s1 S 5 i = 6
  · rw [if_pos k6]
    split
    · split
      · exact EM.rf
      · exact ef
    · exact EM.rf
  rw [if_neg k6]
  by_cases k9 : s1 S 5 i = 9
  · rw [if_pos k9]
    split
    · exact eRd_em
    · exact EM.rf
  rw [if_neg k9]
  by_cases k10 : s1 S 5 i = 10
  · rw [if_pos k10]
    split
    · exact ePf_em
    · exact EM.rf
  rw [if_neg k10]
  by_cases k12 : s1 S 5 i = 12
  · rw [if_pos k12]
    split
    · exact eCut_em
    · exact EM.rf
  rw [if_neg k12]
  by_cases k14 : s1 S 5 i = 14
  · rw [if_pos k14]; exact exE_em
  rw [if_neg k14]
  split
  · exact EM.rf
  · exact ef
theorem eRunL_em : ∀ d (S : Sp) (E tt : Nat → Nat), EM E (eRunL d S E tt).1 := by
  intro d
  induction d with
  | zero => intro S E tt; exact EM.rf
  | succ d ih =>
    intro S E tt
    rw [eRunL]
    split
    · refine EM.tr ?_ (ih _ _ _)
      split
      · exact EM.rf
      · exact eStep_em
    · exact EM.rf
/-- what holds of the class between calls -/
def XJ (μ : Mem) (A : Ad) (nm : Nat → Nat × Nat) (S : Sp) (E tt : Nat → Nat) : Prop := XG μ A nm S E tt ∧ XZ μ A S ∧ WF S ∧ WG S ∧ EBd E ∧ E 9 ≤ 8 * s0 S 10
theorem XG.tb {μ : Mem} {A : Ad} {nm : Nat → Nat × Nat} {S : Sp} {E tt : Nat → Nat} (h : XG μ A nm S E tt) : ∀ i, i < s0 S 7 → tt i ≤ E 9 := by
  obtain ⟨-, -, ⟨-, -, -, tp, tv, tq, -, ⟨-, -, -, -, -, -, -, -, t9⟩⟩, -⟩ := h
  exact fun i hi => (t9 i hi).1
theorem XJ.ok {μ : Mem} {A : Ad} {nm : Nat → Nat × Nat} {S : Sp} {E tt : Nat → Nat} (h : XJ μ A nm S E tt) (h17 : s0 S 17 = 1) (h10 : ¬ s0 S 10 = 20000) : EOK E (eStep (u0 S 10 (s0 S 10 + 1)) E tt) 8 := by
  obtain ⟨G, Z, W, V, B, h9⟩ := h
  have n10 : s0 S 10 ≤ 20000 := W.2.2.2.2.2.2.2.1
  exact eStep_ok (W.inc (by omega)) h17 B (by omega) G.tb
theorem x_runL {N oa : Nat} {post : Int32 → Mem → Prop} (hN : N < 2 ^ 31) : ∀ d k μ A nm S E tt c z, k + d = N → A 0 1 = oa → XJ μ A nm S E tt → (UC (eRunL d S E tt).1 ≤ UC E + c ∨ 537396 ≤ UC E + c) → (UZ (eRunL d S E tt).1 ≤ UZ E + z ∨ 1181512 ≤ UZ E + z) →
    (∀ μ' A' nm', XJ μ' A' nm' (sp_runL d S) (eRunL d S E tt).1 (eRunL d S E tt).2 → St gE E μ A nm μ' A' nm' → EM E (eRunL d S E tt).1 → post (nI (s0 (sp_runL d S) 17) - 1) μ') → wp_X0_advance_24 oa post (d + 1) c z μ (nI N) (nI k) := by
  intro d
  induction d with
  | zero =>
    intro k μ A nm S E tt c z hk ho h hc hz hp
    have e : k = N := by omega
    subst e
    rw [wp_X0_advance_24]
    refine ⟨fun _ => ⟨by rw [← ho]; exact h.1.2.2.2.2.2.1, ?_⟩, fun z => absurd (nI_le (Nat.le_refl _) hN) z⟩
    rw [← ho, add_sub1 h.2.1.1]
    exact hp μ A nm h St.rf (fun _ _ => Nat.le_refl _)
  | succ d ih =>
    intro k μ A nm S E tt c z hk ho h hc hz hp
    obtain ⟨G, ⟨Z1, Z2, Z3, Z4⟩, W, V, B, h9⟩ := id h
    have n10 : s0 S 10 ≤ 20000 := W.2.2.2.2.2.2.2.1
    have st := fun m hm => st_eqx (m := m) Z1 V.2.2.1 hm
    rw [wp_X0_advance_24]
    refine ⟨fun z => absurd z (nI_ge (by omega) hN), fun _ => ⟨by rw [← ho]; exact G.2.2.2.2.2.1, fun hz0 => ?_, fun hz0 => ?_⟩⟩
    · rw [← ho] at hz0 ⊢
      have hst : s0 S 17 = 1 := (st 0 (by decide)).mp hz0
      rw [sp_runL, if_pos hst] at hp
      rw [eRunL, if_pos hst] at hp hc hz
      rw [Z2]
      obtain ⟨w1, w2⟩ := Z4 (Or.inl hst)
      refine ⟨fun hf μ4 e4 v7 e7 => ?_, fun hf r8 e8 => ?_⟩
      · have ef : s0 S 10 = 20000 := by
          rcases Nat.lt_or_ge (s0 S 10) 20000 with r | r
          · exact absurd hf (nI_ge (b := 20000) r (by decide))
          · omega
        rw [if_pos ef, if_pos ef, if_pos ef] at hp
        rw [if_pos ef, if_pos ef, if_pos ef] at hc hz
        rw [e7, nI_1, ho]
        have hoF : Off (fun a => a = A 0 1) μ μ4 := by rw [e4]; exact Off_sfi
        obtain ⟨G4, st4⟩ := G.eng hoF (by rw [e4]; rfl) (by rw [e4]; rfl)
        have hJ : XJ μ4 A nm (u0 S 17 4) E tt := by
          refine ⟨G4, ⟨?_, ?_, ?_, fun q => ?_⟩, W.stop (by decide), V.end' (by decide) (by decide), B, h9⟩
          · rw [e4, fi_sfi_e]; rfl
          · rw [e4, fi_sfi_k (by decide)]; exact Z2
          · rw [e4, fi_sfi_k (by decide)]; exact Z3
          · rcases q with q | q <;> cases q
        exact ih (k + 1) μ4 A nm _ E tt c z (by omega) ho hJ hc hz (fun μ' A' nm' x1 x2 x3 => hp μ' A' nm' x1 (st4.tr x2 (Nat.le_refl _) (Nat.le_refl _)) x3)
      · have ef : ¬ s0 S 10 = 20000 := fun q => hf (by rw [q]; decide)
        rw [if_neg ef, if_neg ef, if_neg ef] at hp
        rw [if_neg ef, if_neg ef, if_neg ef] at hc hz
        rw [w1] at e8
        subst e8
        refine ⟨fun q => absurd q (by simp), fun x9 e9 μ14 e14 r17 e17 => ?_⟩
        rw [nI_1] at e14
        have hoF : Off (fun a => a = A 0 1) μ μ14 := by rw [e14]; exact Off_sfi
        obtain ⟨G4, st4⟩ := G.eng hoF (by rw [e14]; rfl) (by rw [e14]; rfl)
        rw [e14, fr_sfi, w1] at e17
        subst e17
        obtain ⟨u1, u2⟩ := h.ok hst ef
        have hu := u1.U
        have hin := W.inc (by omega)
        have hWs := W.step hst (by omega) W.row
        have hst5 : (eStep (u0 S 10 (s0 S 10 + 1)) E tt) 9 ≤ 8 * s0 (sp_stepS (u0 S 10 (s0 S 10 + 1))) 10 := by
          rw [step10]
          show _ ≤ 8 * (s0 S 10 + 1)
          have := u2.2
          omega
        -- what the rest takes
        have hrest : ∀ μ' A' nm', XG μ' A' nm' (sp_stepS (u0 S 10 (s0 S 10 + 1))) (eStep (u0 S 10 (s0 S 10 + 1)) E tt) (tStep (u0 S 10 (s0 S 10 + 1)) E tt) → XZ μ' A' (sp_stepS (u0 S 10 (s0 S 10 + 1))) → XJ μ' A' nm' (sp_stepS (u0 S 10 (s0 S 10 + 1))) (eStep (u0 S 10 (s0 S 10 + 1)) E tt) (tStep (u0 S 10 (s0 S 10 + 1)) E tt) := fun μ' A' nm' x y => ⟨x, y, hWs, V.step W hst, u2.1, hst5⟩
        have hm : UC (eStep (u0 S 10 (s0 S 10 + 1)) E tt) ≤ UC (eRunL d (sp_stepS (u0 S 10 (s0 S 10 + 1))) (eStep (u0 S 10 (s0 S 10 + 1)) E tt) (tStep (u0 S 10 (s0 S 10 + 1)) E tt)).1 ∧ UZ (eStep (u0 S 10 (s0 S 10 + 1)) E tt) ≤ UZ (eRunL d (sp_stepS (u0 S 10 (s0 S 10 + 1))) (eStep (u0 S 10 (s0 S 10 + 1)) E tt) (tStep (u0 S 10 (s0 S 10 + 1)) E tt)).1 := (eRunL_em _ _ _ _).U
        have hb9 := u2.1.U
        refine ⟨A 1 (s0 S 8), rfl, UC (eStep (u0 S 10 (s0 S 10 + 1)) E tt) - UC E, UZ (eStep (u0 S 10 (s0 S 10 + 1)) E tt) - UZ E, by omega, by omega, ?_⟩
        have hC := W.2.1.1
        have hN13 := W.2.2.2.2.2.2.1
        refine x_step (S := u0 S 10 (s0 S 10 + 1)) G4 hin hst (show s0 S 3 < s0 S 10 + 1 by omega) (show s0 S 13 < s0 S 10 + 1 by omega) (by omega) (show s0 S 11 < 2 ^ 31 by have := V.1; omega) (show s0 S 12 < 2 ^ 31 by have := V.2.1; omega) (by rw [e14, fi_sfi_e]; rfl) (by rw [e14, fi_sfi_k (by decide)]; exact Z3) (by rw [e14, fr_sfi]; exact w1) (by rw [e14, fi_sfi_k (by decide)]; exact w2 hst) (by omega) (by omega) (fun μ1 A1 nm1 g1 z1 st1 a0 v28 e28 => ?_)
        rw [e28, nI_1, ho]
        exact ih (k + 1) μ1 A1 nm1 _ _ _ _ _ (by omega) (a0.trans ho) (hrest μ1 A1 nm1 g1 z1) (by omega) (by omega) (fun μ' A' nm' x1 x2 x3 => hp μ' A' nm' x1 ((st4.tr st1 (Nat.le_refl _) (Nat.le_refl _)).tr x2 (u1 5 (by decide)) (u1 7 (by decide))) (fun r hr => Nat.le_trans (u1 r hr) (x3 r hr)))
    · have hst : ¬ s0 S 17 = 1 := fun q => hz0 (by rw [← ho]; exact (st 0 (by decide)).mpr q)
      rw [sp_runL, if_neg hst] at hp
      rw [eRunL, if_neg hst] at hp hc hz
      rw [← ho, add_sub1 Z1]
      exact hp μ A nm h St.rf (fun _ _ => Nat.le_refl _)
