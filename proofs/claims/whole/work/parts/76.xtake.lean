/-! the class takes cells apart and makes them -/
def eWL (S : Sp) (E : Nat → Nat) (f : Nat → Nat) : Nat → (Nat → Nat)
  | 0 => E
  | k + 1 => eWr S (eWL S E f k) (f k)
theorem eWL_o {S : Sp} {E : Nat → Nat} {f : Nat → Nat} {r : Nat} (h1 : ¬ r = 1) (h9 : ¬ r = 9) : ∀ k, eWL S E f k r = E r := by
  intro k
  induction k with
  | zero => rfl
  | succ k ih => exact (eWr_o h1 h9).trans ih
theorem eWL_U {S : Sp} {E : Nat → Nat} {f : Nat → Nat} : ∀ k d, UC (eWL S E f k) ≤ UC (eWL S E f (k + d)) ∧ UZ (eWL S E f k) ≤ UZ (eWL S E f (k + d)) ∧ eWL S E f (k + d) 9 ≤ eWL S E f k 9 + d := by
  intro k d
  induction d with
  | zero => exact ⟨Nat.le_refl _, Nat.le_refl _, Nat.le_refl _⟩
  | succ d ih =>
    obtain ⟨a, b, c, e⟩ := eWr_U (S := S) (E := eWL S E f (k + d)) (q := f (k + d))
    refine ⟨Nat.le_trans ih.1 a, Nat.le_trans ih.2.1 b, ?_⟩
    have : eWL S E f (k + (d + 1)) 9 ≤ eWL S E f (k + d) 9 + 1 := e
    omega
theorem eWr_cg {S S' : Sp} {E : Nat → Nat} {q : Nat} (e7 : s0 S' 7 = s0 S 7) (es : s1 S' = s1 S) : eWr S' E q = eWr S E q := by
  unfold eWr onT
  rw [e7, es]
theorem conv_s1 {S S' : Sp} (h7 : s1 S' 7 = s1 S 7) (h8 : s1 S' 8 = s1 S 8) : conv S' = conv S ∧ cellX S' = cellX S := by
  have e : cellX S' = cellX S := funext fun c => by
    unfold cellX plc hpS
    rw [h7, h8]
  refine ⟨funext fun v => ?_, e⟩
  unfold conv
  rw [e]
theorem x_take_loop {S : Sp} {i cc : Nat} {E tt : Nat → Nat} {oa fa ia : Nat} {post : Int32 → Mem → Prop} (hW : WF S) (hw : s0 S 8 < s0 S 6) (hi : i < s0 S 2) (hk : s1 S 5 i = 3) (hcc : cc < s0 S 3) (hm : s1 S 8 cc = s1 S 6 i) (hr : ∀ j, j < s1 S 6 i → s2 S 2 i j < s1 S 1 (s1 S 10 (s0 S 8))) (h6 : s1 S 6 i ≤ 4) (h9 : E 9 + 4 < 262143) :
    ∀ d k μ A nm c z, k + d = s1 S 6 i → XG μ A nm (tkS S i cc k) (eWL S E (fun k => s1 S 11 (s0 S 8) + s2 S 2 i k) k) tt → A 0 1 = oa → A 1 (s0 S 8) = fa → A 4 i = ia → UC (eWL S E (fun k => s1 S 11 (s0 S 8) + s2 S 2 i k) (s1 S 6 i)) ≤ UC (eWL S E (fun k => s1 S 11 (s0 S 8) + s2 S 2 i k) k) + c → UZ (eWL S E (fun k => s1 S 11 (s0 S 8) + s2 S 2 i k) (s1 S 6 i)) ≤ UZ (eWL S E (fun k => s1 S 11 (s0 S 8) + s2 S 2 i k) k) + z →
      (∀ μ' A' nm', XG μ' A' nm' (tkS S i cc (s1 S 6 i)) (eWL S E (fun k => s1 S 11 (s0 S 8) + s2 S 2 i k) (s1 S 6 i)) tt → EF μ A μ' A' → St gK (eWL S E (fun k => s1 S 11 (s0 S 8) + s2 S 2 i k) k) μ A nm μ' A' nm' → post 0 μ') → wp_X0_take_42 oa post (d + 1) c z μ fa ia (cellX S cc) (nI k) := by
  have we := fun k => wrL_e (S := S) (f := fun k => s1 S 11 (s0 S 8) + s2 S 2 i k) (g := fun k _ => sv S 1 (s1 S 9 cc + k)) k
  intro d
  induction d with
  | zero =>
    intro k μ A nm c z hkd h ho hf hia hc hz hp
    have ek : k = s1 S 6 i := by omega
    subst ek
    obtain ⟨e0, e1, e2, e3, -⟩ := we (s1 S 6 i)
    have hP : XP μ A S := h.2.2.2.2.1.pq ⟨congrFun e0.symm 1, congrFun e0.symm 2, fun k _ => congrFun e1.symm k, e2.symm, e3.symm⟩
    obtain ⟨i1, i2, i3, i4, i5, i6, i7, i8, i9, i10, -⟩ := hP.2.2 i hi
    subst ho; subst hf; subst hia
    rw [wp_X0_take_42]
    refine ⟨i1, A 8 i, i7, Or.inr (Or.inl i8), ?_⟩
    rw [i9]
    exact ⟨fun _ => hp μ A nm h EF.rf St.rf, fun q => absurd (nI_le (Nat.le_refl _) (by omega)) q⟩
  | succ d ih =>
    intro k μ A nm c z hkd h ho hf hia hc hz hp
    obtain ⟨e0, e1, e2, e3, e4, e5⟩ := we k
    have e0 : s0 (tkS S i cc k) = s0 S := e0
    have e1 : s1 (tkS S i cc k) = s1 S := e1
    have e2 : s2 (tkS S i cc k) = s2 S := e2
    have e3 : si (tkS S i cc k) = si S := e3
    have e5 : sv (tkS S i cc k) 1 = sv S 1 := e5
    have hWk : WF (tkS S i cc k) := hW.wrL k fun l hl _ => okV_le (by omega) ((hW.2.1.2.2.2.2 cc hcc).2.2.2 l (by omega))
    have hP : XP μ A S := h.2.2.2.2.1.pq ⟨congrFun e0.symm 1, congrFun e0.symm 2, fun k _ => congrFun e1.symm k, e2.symm, e3.symm⟩
    obtain ⟨i1, i2, i3, i4, i5, i6, i7, i8, i9, i10, -⟩ := hP.2.2 i hi
    have hE := h.2.2.2.2.2
    obtain ⟨cv, cx⟩ := conv_s1 (S := S) (S' := tkS S i cc k) (congrFun e1 7) (congrFun e1 8)
    obtain ⟨x0, w, n, u, x1, x2⟩ := id h.2.2.2.1
    subst ho; subst hf; subst hia
    rw [wp_X0_take_42]
    refine ⟨i1, A 8 i, i7, Or.inr (Or.inl i8), ?_⟩
    rw [i9]
    refine ⟨fun q => absurd q (nI_ge (by omega) (by omega)), fun _ => ⟨hE.1, A 0 2, hE.2.1, A 8 i, i7, i8, ?_⟩⟩
    rw [i9, nI_clamp (show k < 2 ^ 31 by omega), i10 (Or.inr (Or.inl hk)) k (by omega)]
    refine ⟨vp_in_nI (by omega) (by omega), A 0 3, hE.2.2, x1.1, ?_⟩
    rw [← cx]
    refine x_field x1 x2 hWk.2.1 hWk.2.2.2.2.2.2.2.2.2 rfl (by rw [e0]; exact hcc) (by rw [e1]; omega) fun _ => ⟨h.2.2.1.1.1, ?_⟩
    obtain ⟨u1, u2, u3⟩ := eWL_U (S := S) (E := E) (f := fun k => s1 S 11 (s0 S 8) + s2 S 2 i k) k 1
    obtain ⟨v1, v2, -⟩ := eWL_U (S := S) (E := E) (f := fun k => s1 S 11 (s0 S 8) + s2 S 2 i k) (k + 1) d
    obtain ⟨-, -, t3⟩ := eWL_U (S := S) (E := E) (f := fun k => s1 S 11 (s0 S 8) + s2 S 2 i k) 0 k
    rw [show k + 1 + d = s1 S 6 i by omega] at v1 v2
    rw [Nat.zero_add] at t3
    have t3 : eWL S E (fun k => s1 S 11 (s0 S 8) + s2 S 2 i k) k 9 ≤ E 9 + k := t3
    have eE : eWr (tkS S i cc k) (eWL S E (fun k => s1 S 11 (s0 S 8) + s2 S 2 i k) k) (s1 S 11 (s0 S 8) + s2 S 2 i k) = eWL S E (fun k => s1 S 11 (s0 S 8) + s2 S 2 i k) (k + 1) := eWr_cg (congrFun e0 7) e1
    refine ⟨UC (eWL S E (fun k => s1 S 11 (s0 S 8) + s2 S 2 i k) (k + 1)) - UC (eWL S E (fun k => s1 S 11 (s0 S 8) + s2 S 2 i k) k), UZ (eWL S E (fun k => s1 S 11 (s0 S 8) + s2 S 2 i k) (k + 1)) - UZ (eWL S E (fun k => s1 S 11 (s0 S 8) + s2 S 2 i k) k), by omega, by omega, ?_⟩
    have := x_writeG (v := sv (tkS S i cc k) 1 (s1 (tkS S i cc k) 9 cc + k)) (c := UC (eWL S E (fun k => s1 S 11 (s0 S 8) + s2 S 2 i k) (k + 1)) - UC (eWL S E (fun k => s1 S 11 (s0 S 8) + s2 S 2 i k) k)) (z := UZ (eWL S E (fun k => s1 S 11 (s0 S 8) + s2 S 2 i k) (k + 1)) - UZ (eWL S E (fun k => s1 S 11 (s0 S 8) + s2 S 2 i k) k)) (a := s2 S 2 i k) (j := s0 S 8) (post := fun μ36 => KM μ μ36 → ∀ v44 : Int32, v44 = nI k + 1 → wp_X0_take_42 (A 0 1) post (d + 1) (c - (UC (eWL S E (fun k => s1 S 11 (s0 S 8) + s2 S 2 i k) (k + 1)) - UC (eWL S E (fun k => s1 S 11 (s0 S 8) + s2 S 2 i k) k))) (z - (UZ (eWL S E (fun k => s1 S 11 (s0 S 8) + s2 S 2 i k) (k + 1)) - UZ (eWL S E (fun k => s1 S 11 (s0 S 8) + s2 S 2 i k) k))) μ36 (A 1 (s0 S 8)) (A 4 i) (cellX S cc) v44) h hWk (by rw [e0]; exact hw) (by rw [e1]; exact hr k (by omega)) (by omega) (by rw [e1, eE]; omega) (by rw [e1, eE]; omega) (fun μ1 A1 nm1 g1 st1 _ v44 e44 => ?_)
    · rw [cx]; exact this
    · rw [e44, nI_1]
      rw [e1, eE, e5] at g1
      have a4 : A1 4 i = A 4 i := st1.2.1 4 i (gK_no (by decide))
      have a1 : A1 1 (s0 S 8) = A 1 (s0 S 8) := st1.2.2.1 _ (by have h6' := h.2.2.1.2.1.2.2.2.2.1; rw [e0] at h6'; omega)
      exact ih (k + 1) μ1 A1 nm1 _ _ (by omega) g1 (st1.2.2.2.2.1 1 (by decide)) a1 a4 (by omega) (by omega) (fun μ' A' nm' y1 y2 y3 => hp μ' A' nm' y1 ((h.efk st1).tr y2) (st1.tr y3 (by rw [eWL_o (by decide) (by decide), eWL_o (by decide) (by decide)]; exact Nat.le_refl _) (by rw [eWL_o (by decide) (by decide), eWL_o (by decide) (by decide)]; exact Nat.le_refl _)))
theorem x_take {nm : Nat → Nat × Nat} {μ : Mem} {A : Ad} {S : Sp} {E tt : Nat → Nat} {i c z : Nat} {post : Int32 → Mem → Prop} (h : XG μ A nm S E tt) (hW : WF S) (hw : s0 S 8 < s0 S 6) (hi : i < s0 S 2) (hk : s1 S 5 i = 3) (ha : si S 1 i = nI (sa S 1 i)) (ha2 : sa S 1 i < s1 S 1 (s1 S 10 (s0 S 8))) (hr : ∀ j, j < s1 S 6 i → s2 S 2 i j < s1 S 1 (s1 S 10 (s0 S 8))) (h6 : s1 S 6 i ≤ 4) (h9 : E 9 + 4 < 262143)
    (hc : hasV S (rdS S (sa S 1 i)) (si S 2 i) (nI (s1 S 6 i)) → UC (eWL S E (fun k => s1 S 11 (s0 S 8) + s2 S 2 i k) (s1 S 6 i)) ≤ UC E + c) (hz : hasV S (rdS S (sa S 1 i)) (si S 2 i) (nI (s1 S 6 i)) → UZ (eWL S E (fun k => s1 S 11 (s0 S 8) + s2 S 2 i k) (s1 S 6 i)) ≤ UZ E + z)
    (h7 : ¬ hasV S (rdS S (sa S 1 i)) (si S 2 i) (nI (s1 S 6 i)) → post 7 μ)
    (hp : hasV S (rdS S (sa S 1 i)) (si S 2 i) (nI (s1 S 6 i)) → ∀ μ' A' nm', XG μ' A' nm' (tkS S i (cix (rdS S (sa S 1 i))) (s1 S 6 i)) (eWL S E (fun k => s1 S 11 (s0 S 8) + s2 S 2 i k) (s1 S 6 i)) tt → EF μ A μ' A' → St gK E μ A nm μ' A' nm' → post 0 μ') : wp_X0_take c z μ (A 0 1) (A 1 (s0 S 8)) (A 4 i) post := by
  obtain ⟨hN, hL, hK, hH, hP, hE⟩ := id h
  obtain ⟨i1, i2, i3, i4, i5, i6, i7, i8, i9, -⟩ := hP.2.2 i hi
  have va := hW.2.2.2.2.1 _ (WF.sl hW.2.2.1 hw ha2)
  have hc3 := hW.c3
  refine ⟨hE.1, A 0 2, hE.2.1, i1, hK.1.1, ?_⟩
  rw [i3, ha]
  refine x_readG h hW hw ha2 fun _ => ?_
  rw [i4]
  refine x_hasTag hW va (fun q1 q2 _ => nz1 ?_) (fun q _ => nz0 (h7 fun z => q ⟨z.1, z.2.1⟩))
  rcases va with ⟨x, hx⟩ | ⟨cc, hcc, hx⟩
  · exact absurd (by rw [hx]; exact num_lt x) q1
  · obtain ⟨p1, p2, p3⟩ := hW.2.1.pb hW.2.2.2.2.2.2.2.2.2 hcc
    have hrd : rdS S (sa S 1 i) = cellV cc := hx
    have ecx : cix (rdS S (sa S 1 i)) = cc := by rw [hrd]; exact cix_cell (by omega)
    unfold hasV at h7 hp hc hz
    rw [ecx] at h7 hp hc hz
    rw [hx] at q2
    rw [cix_cell (show cc < 2 ^ 31 by omega)] at q2
    show KM μ μ → _
    intro _
    rw [hx, conv_cell (show cc < 2 ^ 31 by omega), cellX_mk, mkX_fields p1 p2 p3]
    have h84 := (hW.2.1.2.2.2.2 cc hcc).2.1
    refine ⟨A 8 i, i7, Or.inr (Or.inl i8), ?_⟩
    rw [i9]
    refine ⟨fun q => ?_, fun q => h7 fun z => ?_⟩
    · have hm : s1 S 8 cc = s1 S 6 i := (nI_eq (by omega) (by omega)).mp q
      exact ⟨_, x_take_loop hW hw hi hk hcc hm hr h6 h9 (s1 S 6 i) 0 μ A nm c z (Nat.zero_add _) h rfl rfl rfl (hc ⟨q1, q2, Or.inr q⟩) (hz ⟨q1, q2, Or.inr q⟩) (hp ⟨q1, q2, Or.inr q⟩)⟩
    · rcases z.2.2 with y | y
      · exact absurd y (nI_m1 (by omega))
      · exact q y
