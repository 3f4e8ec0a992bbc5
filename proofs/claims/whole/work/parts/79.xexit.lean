/-! the class exits -/
def exF (S : Sp) (k : Nat) : Nat := s1 S 11 (s1 S 12 (s0 S 8) - 1) + s2 S 2 (exI S) (s1 S 2 (s1 S 10 (s0 S 8)) + k)
/-- the room behind an exit's writes -/
def eEx (S : Sp) (E : Nat → Nat) : Nat → Nat := if s1 S 12 (s0 S 8) = 0 then E else eWL S E (exF S) (s1 S 3 (s1 S 10 (s0 S 8)))
theorem x_exit_loop {S : Sp} {E tt : Nat → Nat} {oa fa pa ua ia u p i : Nat} {post : Int32 → Mem → Prop} (hW : WF S) (hw : s0 S 8 < s0 S 6) (hz0 : ¬ s1 S 12 (s0 S 8) = 0) (hok : exOK S) (hu : u = s1 S 12 (s0 S 8) - 1) (hpp : p = s1 S 10 (s0 S 8)) (hii : i = exI S) (h9 : E 9 + 8 < 262143) :
    ∀ d k μ A nm c z, k + d = s1 S 3 p → XG μ A nm (exL S p (s0 S 8) u i k) (eWL S E (exF S) k) tt → A 0 1 = oa → A 1 (s0 S 8) = fa → A 3 p = pa → A 1 u = ua → A 4 i = ia → UC (eWL S E (exF S) (s1 S 3 p)) ≤ UC (eWL S E (exF S) k) + c → UZ (eWL S E (exF S) (s1 S 3 p)) ≤ UZ (eWL S E (exF S) k) + z →
      (∀ μ' A' nm', XG μ' A' nm' (exL S p (s0 S 8) u i (s1 S 3 p)) (eWL S E (exF S) (s1 S 3 p)) tt → EF μ A μ' A' → St gK (eWL S E (exF S) k) μ A nm μ' A' nm' → A' 0 1 = oa → A' 1 (s0 S 8) = fa → A' 1 u = ua → kd μ' oa = 3 ∧ ∃ x22, fr μ' 2 0 oa = some x22 ∧ kd μ' x22 = 10 ∧ wp_X7_leave μ' x22 fa (fun (μ23 : Mem) => KM μ' μ23 → ∀ μ29 : Mem, μ29 = sfr μ23 2 5 oa (some ua) → kd μ29 fa = 4 ∧ wp_X0_go μ29 oa (fi μ29 3 5 fa) (fun (r36 : Int32) (μ34 : Mem) => KM μ29 μ34 → post r36 μ34))) →
      wp_X0_exit_59 oa post (d + 1) c z μ fa pa ua ia (nI k) := by
  obtain ⟨o1, o2, o3, o4, o5, o6⟩ := hok hz0
  subst hu; subst hpp; subst hii
  have we := fun k => wrL_e (S := S) (f := fun k => s1 S 11 (s1 S 12 (s0 S 8) - 1) + s2 S 2 (exI S) (s1 S 2 (s1 S 10 (s0 S 8)) + k)) (g := fun k T => sv T 0 (s1 S 11 (s0 S 8) + s2 S 0 (s1 S 10 (s0 S 8)) k)) k
  have hB := hW.2.2.1
  obtain ⟨bp, -⟩ := hB.2.2.2 (s0 S 8) hw
  obtain ⟨-, -, -, -, pp5, -, -, pp8, -⟩ := hW.1.2.2.1 _ bp
  have h610 := (hW.1.2.2.2 _ o3).2.1
  have hWk : ∀ k, k ≤ s1 S 3 (s1 S 10 (s0 S 8)) → WF (exL S (s1 S 10 (s0 S 8)) (s0 S 8) (s1 S 12 (s0 S 8) - 1) (exI S) k) := fun k hk => hW.wrL k fun l hl hT => by
    refine hT.2.2.2.2.1 _ ?_ |> fun z => by rw [(wrL_e l).1] at z; exact z
    rw [(wrL_e l).1, (wrL_e l).2.1]
    exact WF.sl hB hw (pp8 l (by omega))
  intro d
  induction d with
  | zero =>
    intro k μ A nm c z hkd h ho hf hpa hua hia hc hz hp
    have ek : k = s1 S 3 (s1 S 10 (s0 S 8)) := by omega
    subst ek
    obtain ⟨e0, e1, e2, e3, -⟩ := we (s1 S 3 (s1 S 10 (s0 S 8)))
    have hP : XP μ A S := h.2.2.2.2.1.pq ⟨congrFun e0.symm 1, congrFun e0.symm 2, fun k _ => congrFun e1.symm k, e2.symm, e3.symm⟩
    obtain ⟨q1, q2, q3, q4, q5, q6, q7, q8, -⟩ := hP.2.1 _ bp
    have hl := hp μ A nm h EF.rf St.rf ho hf hua
    subst hpa
    rw [wp_X0_exit_59]
    refine ⟨q1, A 7 _, q5, Or.inr (Or.inl q7), ?_⟩
    rw [q8]
    exact ⟨fun _ => hl, fun q => absurd (nI_le (Nat.le_refl _) (by omega)) q⟩
  | succ d ih =>
    intro k μ A nm c z hkd h ho hf hpa hua hia hc hz hp
    obtain ⟨e0, e1, e2, e3, e4, e5⟩ := we k
    have e0 : s0 (exL S (s1 S 10 (s0 S 8)) (s0 S 8) (s1 S 12 (s0 S 8) - 1) (exI S) k) = s0 S := e0
    have e1 : s1 (exL S (s1 S 10 (s0 S 8)) (s0 S 8) (s1 S 12 (s0 S 8) - 1) (exI S) k) = s1 S := e1
    have e2 : s2 (exL S (s1 S 10 (s0 S 8)) (s0 S 8) (s1 S 12 (s0 S 8) - 1) (exI S) k) = s2 S := e2
    have e3 : si (exL S (s1 S 10 (s0 S 8)) (s0 S 8) (s1 S 12 (s0 S 8) - 1) (exI S) k) = si S := e3
    have hP : XP μ A S := h.2.2.2.2.1.pq ⟨congrFun e0.symm 1, congrFun e0.symm 2, fun k _ => congrFun e1.symm k, e2.symm, e3.symm⟩
    obtain ⟨q1, q2, q3, q4, q5, q6, q7, q8, q9, -⟩ := hP.2.1 _ bp
    obtain ⟨i1, i2, i3, i4, i5, i6, i7, i8, i9, i10, -⟩ := hP.2.2 _ o3
    have hE := h.2.2.2.2.2
    have hWkk := hWk k (by omega)
    subst ho; subst hf; subst hpa; subst hua; subst hia
    rw [wp_X0_exit_59]
    refine ⟨q1, A 7 _, q5, Or.inr (Or.inl q7), ?_⟩
    rw [q8, q4, nI_add]
    refine ⟨fun q => absurd q (nI_ge (by omega) (by omega)), fun _ => ⟨i1, A 8 _, i7, Or.inr (Or.inl i8), ?_⟩⟩
    rw [i9]
    refine ⟨fun q => absurd q (nI_ge (by omega) (by omega)), fun _ => ⟨hE.1, A 0 2, hE.2.1, A 8 _, i7, i8, ?_⟩⟩
    rw [i9, nI_clamp (show s1 S 2 (s1 S 10 (s0 S 8)) + k < 2 ^ 31 by omega), i10 (Or.inr (Or.inr o4)) _ (by omega), nI_clamp (show k < 2 ^ 31 by omega)]
    refine ⟨vp_in_nI (by omega) (by omega), A 0 2, hE.2.1, A 7 _, q5, q7, ?_⟩
    rw [q8, q9 k (by omega)]
    refine ⟨vp_in_nI (by omega) (by omega), h.2.2.1.1.1, x_readG h hWkk (by rw [e0]; exact hw) (by rw [e1]; exact pp8 k (by omega)) fun _ => ⟨h.2.2.1.1.1, ?_⟩⟩
    obtain ⟨u1, u2, u3⟩ := eWL_U (S := S) (E := E) (f := exF S) k 1
    obtain ⟨v1, v2, -⟩ := eWL_U (S := S) (E := E) (f := exF S) (k + 1) d
    obtain ⟨-, -, t3⟩ := eWL_U (S := S) (E := E) (f := exF S) 0 k
    rw [show k + 1 + d = s1 S 3 (s1 S 10 (s0 S 8)) by omega] at v1 v2
    rw [Nat.zero_add] at t3
    have t3 : eWL S E (exF S) k 9 ≤ E 9 + k := t3
    have eE : eWr (exL S (s1 S 10 (s0 S 8)) (s0 S 8) (s1 S 12 (s0 S 8) - 1) (exI S) k) (eWL S E (exF S) k) (s1 S 11 (s1 S 12 (s0 S 8) - 1) + s2 S 2 (exI S) (s1 S 2 (s1 S 10 (s0 S 8)) + k)) = eWL S E (exF S) (k + 1) := eWr_cg (congrFun e0 7) e1
    refine ⟨UC (eWL S E (exF S) (k + 1)) - UC (eWL S E (exF S) k), UZ (eWL S E (exF S) (k + 1)) - UZ (eWL S E (exF S) k), by omega, by omega, ?_⟩
    have hwr := x_writeG (v := sv (exL S (s1 S 10 (s0 S 8)) (s0 S 8) (s1 S 12 (s0 S 8) - 1) (exI S) k) 0 (s1 S 11 (s0 S 8) + s2 S 0 (s1 S 10 (s0 S 8)) k)) (c := UC (eWL S E (exF S) (k + 1)) - UC (eWL S E (exF S) k)) (z := UZ (eWL S E (exF S) (k + 1)) - UZ (eWL S E (exF S) k)) (a := s2 S 2 (exI S) (s1 S 2 (s1 S 10 (s0 S 8)) + k)) (j := s1 S 12 (s0 S 8) - 1) (post := fun μ79 => KM μ μ79 → ∀ v88 : Int32, v88 = nI k + 1 → wp_X0_exit_59 (A 0 1) post (d + 1) (c - (UC (eWL S E (exF S) (k + 1)) - UC (eWL S E (exF S) k))) (z - (UZ (eWL S E (exF S) (k + 1)) - UZ (eWL S E (exF S) k))) μ79 (A 1 (s0 S 8)) (A 3 (s1 S 10 (s0 S 8))) (A 1 (s1 S 12 (s0 S 8) - 1)) (A 4 (exI S)) v88) h hWkk (by rw [e0]; omega) (by rw [e1]; exact o6 _ (by omega)) (by omega) (by rw [e1, eE]; omega) (by rw [e1, eE]; omega) (fun μ1 A1 nm1 g1 st1 _ v88 e88 => ?_)
    · rw [e1]
      exact hwr
    · rw [e88, nI_1]
      rw [e1, eE] at g1
      have a5 : s0 S 6 ≤ eWL S E (exF S) k 5 := by have := h.2.2.1.2.1.2.2.2.2.1; rw [e0] at this; exact this
      have a4 : A1 4 (exI S) = A 4 (exI S) := st1.2.1 4 _ (gK_no (by decide))
      have a3 : A1 3 (s1 S 10 (s0 S 8)) = A 3 (s1 S 10 (s0 S 8)) := st1.2.1 3 _ (gK_no (by decide))
      exact ih (k + 1) μ1 A1 nm1 _ _ (by omega) g1 (st1.2.2.2.2.1 1 (by decide)) (st1.2.2.1 _ (by omega)) a3 (st1.2.2.1 _ (by omega)) a4 (by omega) (by omega) (fun μ' A' nm' y1 y2 y3 => hp μ' A' nm' y1 ((h.efk st1).tr y2) (st1.tr y3 (by rw [eWL_o (by decide) (by decide), eWL_o (by decide) (by decide)]; exact Nat.le_refl _) (by rw [eWL_o (by decide) (by decide), eWL_o (by decide) (by decide)]; exact Nat.le_refl _)))
theorem x_exit24 {nm : Nat → Nat × Nat} {μ : Mem} {A : Ad} {S : Sp} {E tt : Nat → Nat} {c z : Nat} {post : Int32 → Mem → Prop} (h : XG μ A nm S E tt) (hW : WF S) (hw : s0 S 8 < s0 S 6) (hok : exOK S) (h9 : E 9 + 8 < 262143) (h4 : fi μ 2 4 (A 0 1) = nI (s0 S 13))
    (hc : UC (eEx S E) ≤ UC E + c) (hz : UZ (eEx S E) ≤ UZ E + z)
    (h1 : s1 S 12 (s0 S 8) = 0 → ∀ μ', XG μ' A nm (sp_exit2 S) (eEx S E) tt → (∀ k, k ≠ 4 → fi μ' 2 k (A 0 1) = fi μ 2 k (A 0 1)) → fi μ' 2 4 (A 0 1) = nI (s0 S 13 + 1) → (∀ k, fr μ' 2 k (A 0 1) = fr μ 2 k (A 0 1)) → St gE E μ A nm μ' A nm → post 1 μ')
    (h0 : ¬ s1 S 12 (s0 S 8) = 0 → ∀ μ' A' nm', XG μ' A' nm' (sp_exit2 S) (eEx S E) tt → (∀ k, k ≠ 6 → fi μ' 2 k (A' 0 1) = fi μ 2 k (A 0 1)) → fi μ' 2 6 (A' 0 1) = nI (s1 S 13 (s0 S 8) + 1) → fr μ' 2 5 (A' 0 1) = some (A' 1 (s1 S 12 (s0 S 8) - 1)) → St gE E μ A nm μ' A' nm' → post 0 μ') : wp_X0_exit_24 (A 0 1) post c z μ (A 1 (s0 S 8)) (A 3 (s1 S 10 (s0 S 8))) := by
  obtain ⟨hN, hL, hK, hH, hP, hE⟩ := id h
  obtain ⟨k1, k2, k3, tp, tv, tq, k4, k5⟩ := id hK
  have e5 : s0 S 6 ≤ E 5 := k2.2.2.2.2.1
  obtain ⟨f1, f2, f3, f4, f5⟩ := k3.2 (s0 S 8) hw
  have hB := hW.2.2.1
  refine ⟨(k3.1 _ (by omega)).1, fun r5 er5 r6 er6 => ?_⟩
  by_cases hz0 : s1 S 12 (s0 S 8) = 0
  · have eEE : eEx S E = E := if_pos hz0
    rw [eEE] at h1
    obtain ⟨g1, g2⟩ := f4 hz0
    rw [g1] at er5
    subst er5
    refine ⟨fun _ => ⟨hE.1, fun μ9 e9 => ?_⟩, fun x7 e7 => absurd e7 (by simp)⟩
    rw [h4, nI_1] at e9
    have ho : Off (fun a => a = A 0 1) μ μ9 := by rw [e9]; exact Off_sfi
    obtain ⟨G9, st9⟩ := h.eng ho (by rw [e9]; rfl) (by rw [e9]; rfl)
    refine h1 hz0 μ9 ?_ (fun k hk => by rw [e9, fi_sfi_k hk]) (by rw [e9, fi_sfi_e]) (fun k => by rw [e9]; rfl) st9
    rw [sp_exit2, if_pos hz0]
    exact G9
  · have eEE : eEx S E = eWL S E (exF S) (s1 S 3 (s1 S 10 (s0 S 8))) := if_neg hz0
    rw [eEE] at h0 hc hz
    obtain ⟨g1, g2, g3⟩ := f5 (s1 S 12 (s0 S 8) - 1) (by omega)
    obtain ⟨o1, o2, o3, o4, o5, o6⟩ := hok hz0
    rw [g1] at er5
    rw [g2] at er6
    subst er5; subst er6
    refine ⟨fun q => absurd q (by simp), fun x7 e7 => ⟨fun q => absurd q (by simp), fun x13 e13 => ?_⟩⟩
    cases e7; cases e13
    refine ⟨_, x_exit_loop (u := s1 S 12 (s0 S 8) - 1) (p := s1 S 10 (s0 S 8)) (i := exI S) hW hw hz0 hok rfl rfl rfl h9 (s1 S 3 (s1 S 10 (s0 S 8))) 0 μ A nm c z (Nat.zero_add _) h rfl rfl rfl rfl rfl hc hz (fun μ1 A1 nm1 G1 ef1 st1 a0 a1 au => ?_)⟩
    have st1 : St gK E μ A nm μ1 A1 nm1 := st1
    obtain ⟨e0, e1, e2, e3, -⟩ := wrL_e (S := S) (f := fun k => s1 S 11 (s1 S 12 (s0 S 8) - 1) + s2 S 2 (exI S) (s1 S 2 (s1 S 10 (s0 S 8)) + k)) (g := fun k T => sv T 0 (s1 S 11 (s0 S 8) + s2 S 0 (s1 S 10 (s0 S 8)) k)) (s1 S 3 (s1 S 10 (s0 S 8)))
    have e0 : s0 (exL S (s1 S 10 (s0 S 8)) (s0 S 8) (s1 S 12 (s0 S 8) - 1) (exI S) (s1 S 3 (s1 S 10 (s0 S 8)))) = s0 S := e0
    have e1 : s1 (exL S (s1 S 10 (s0 S 8)) (s0 S 8) (s1 S 12 (s0 S 8) - 1) (exI S) (s1 S 3 (s1 S 10 (s0 S 8)))) = s1 S := e1
    have hWL : WF (exL S (s1 S 10 (s0 S 8)) (s0 S 8) (s1 S 12 (s0 S 8) - 1) (exI S) (s1 S 3 (s1 S 10 (s0 S 8)))) := hW.wrL _ fun l hl hT => by
      obtain ⟨bp, -⟩ := hB.2.2.2 (s0 S 8) hw
      obtain ⟨-, -, -, -, -, -, -, pp8, -⟩ := hW.1.2.2.1 _ bp
      refine hT.2.2.2.2.1 _ ?_ |> fun z => by rw [(wrL_e l).1] at z; exact z
      rw [(wrL_e l).1, (wrL_e l).2.1]
      exact WF.sl hB hw (pp8 l hl)
    obtain ⟨N1, L1, K1, H1, P1, E1⟩ := id G1
    obtain ⟨y1, y2, y3, tp', tv', tq', y4, y5⟩ := id K1
    refine ⟨by rw [← a0]; exact E1.1, A1 0 2, by rw [← a0]; exact E1.2.1, y1.1, ?_⟩
    rw [← a1]
    refine x_leave ⟨y1, y2, y3, y4, y5⟩ N1 hWL.2.2.1 hWL.2.2.2.1.1 (by rw [e0]; exact hw) (fun μ2 X2 ho2 _ μ3 e3' => ?_)
    have n2 : ¬ (A1 1 (s0 S 8) = A1 0 2 ∨ A1 1 (s0 S 8) = A1 0 7) := fun zz => by
      have h5' : s0 S 8 < eWL S E (exF S) (s1 S 3 (s1 S 10 (s0 S 8))) 5 := by rw [eWL_o (by decide) (by decide)]; omega
      rcases zz with zz | zz
      · exact N1.ne (Us1 h5') (Us0 (by decide)) (fun q => absurd q.1 (by decide)) zz
      · exact N1.ne (Us1 h5') (Us0 (by decide)) (fun q => absurd q.1 (by decide)) zz
    have kf1 : kd μ1 (A1 1 (s0 S 8)) = 4 := (y3.1 _ (by rw [eWL_o (by decide) (by decide)]; omega)).1
    have f35 : fi μ1 3 5 (A1 1 (s0 S 8)) = nI (s1 S 13 (s0 S 8) + 1) := by
      have := y3.2 (s0 S 8) (by rw [e0]; exact hw)
      unfold XF at this
      rw [e1] at this
      exact (this.2.2.2.2 (s1 S 12 (s0 S 8) - 1) (by omega)).2.2
    have st2 : St gK E μ1 A1 nm1 μ2 A1 nm1 := St.of (K_of2' N1 ho2)
    have f35' : fi μ3 3 5 (A1 1 (s0 S 8)) = nI (s1 S 13 (s0 S 8) + 1) := by
      rw [e3', fi_sfr, (ho2.2.2 _ (by omega) n2).1]; exact f35
    refine ⟨by rw [e3']; exact ho2.kd kf1, ?_⟩
    rw [f35']
    have G2 : XG μ2 A1 nm1 (sp_exit2 S) (eWL S E (exF S) (s1 S 3 (s1 S 10 (s0 S 8)))) tt := by
      have hX : XG μ2 A1 nm1 (if s0 S 8 + 1 = s0 (exL S (s1 S 10 (s0 S 8)) (s0 S 8) (s1 S 12 (s0 S 8) - 1) (exI S) (s1 S 3 (s1 S 10 (s0 S 8)))) 6 ∧ (s0 (exL S (s1 S 10 (s0 S 8)) (s0 S 8) (s1 S 12 (s0 S 8) - 1) (exI S) (s1 S 3 (s1 S 10 (s0 S 8)))) 7 = 0 ∨ s1 (exL S (s1 S 10 (s0 S 8)) (s0 S 8) (s1 S 12 (s0 S 8) - 1) (exI S) (s1 S 3 (s1 S 10 (s0 S 8)))) 15 (s0 (exL S (s1 S 10 (s0 S 8)) (s0 S 8) (s1 S 12 (s0 S 8) - 1) (exI S) (s1 S 3 (s1 S 10 (s0 S 8)))) 7 - 1) ≤ s0 S 8) then sp_drop (exL S (s1 S 10 (s0 S 8)) (s0 S 8) (s1 S 12 (s0 S 8) - 1) (exI S) (s1 S 3 (s1 S 10 (s0 S 8)))) (s0 S 8) (s0 (exL S (s1 S 10 (s0 S 8)) (s0 S 8) (s1 S 12 (s0 S 8) - 1) (exI S) (s1 S 3 (s1 S 10 (s0 S 8)))) 7) else exL S (s1 S 10 (s0 S 8)) (s0 S 8) (s1 S 12 (s0 S 8) - 1) (exI S) (s1 S 3 (s1 S 10 (s0 S 8)))) (eWL S E (exF S) (s1 S 3 (s1 S 10 (s0 S 8)))) tt := by
        refine G1.k (St.of (K_of2' N1 ho2)) ⟨?_, ?_, X2.ext⟩ ?_ ?_
        · split <;> exact N1
        · split <;> exact L1.km ho2.1
        · split <;> exact ⟨rfl, rfl, rfl, rfl, rfl, rfl, rfl, rfl, rfl, rfl⟩
        · split <;> exact Pq.rf
      rw [e0, e1] at hX
      rw [sp_exit2, if_neg hz0]
      by_cases hq : s0 S 8 + 1 = s0 S 6 ∧ (s0 S 7 = 0 ∨ s1 S 15 (s0 S 7 - 1) ≤ s0 S 8)
      · rw [if_pos hq] at hX ⊢
        exact hX
      · rw [if_neg hq] at hX ⊢
        exact hX
    rw [← a0, ← au] at e3'
    have k3' : kd μ3 (A 0 1) = 3 := by rw [e3', ← a0]; exact G2.2.2.2.2.2.1
    refine ⟨k3', fun μ4 e4 _ => ?_⟩
    rw [← a0] at e4
    have ho : Off (fun a => a = A1 0 1) μ2 μ4 := by
      have x1 : Off (fun a => a = A1 0 1) μ2 μ3 := by rw [e3']; exact Off_sfr
      have x2 : Off (fun a => a = A1 0 1) μ3 μ4 := by rw [e4]; exact Off_sfi
      exact x1.tr x2
    obtain ⟨G4, st4⟩ := G2.eng ho (by rw [e4, fr_sfi, e3', fr_sfr_k (by decide)]) (by rw [e4, fr_sfi, e3', fr_sfr_k (by decide)])
    have ef2 := G1.efk (St.of (K_of2' N1 ho2))
    refine h0 hz0 μ4 A1 nm1 G4 (fun k hk => ?_) (by rw [e4, fi_sfi_e]) (by rw [e4, fr_sfi, e3', fr_sfr_e]) (((st1.k).tr st2.k (Nat.le_refl _) (Nat.le_refl _)).tr st4 (by rw [eWL_o (by decide) (by decide)]; exact Nat.le_refl _) (by rw [eWL_o (by decide) (by decide)]; exact Nat.le_refl _))
    rw [e4, fi_sfi_k hk, e3', fi_sfr, ef2.1, ef1.1]
/-- the room behind a cut -/
def eCut (S' : Sp) (E : Nat → Nat) : Nat → Nat := if s0 S' 7 = 0 then va_up E 9 0 else E
def exS (S : Sp) : Sp := if s1 S 0 (s1 S 10 (s0 S 8)) = 0 then sp_cutS S (s1 S 14 (s0 S 8)) else S
def exE (S : Sp) (E : Nat → Nat) : Nat → Nat := eEx (exS S) (if s1 S 0 (s1 S 10 (s0 S 8)) = 0 then eCut (sp_cutS S (s1 S 14 (s0 S 8))) E else E)
theorem eCut_o {S' : Sp} {E : Nat → Nat} : UC (eCut S' E) = UC E ∧ UZ (eCut S' E) = UZ E ∧ eCut S' E 9 ≤ E 9 ∧ eCut S' E 5 = E 5 ∧ eCut S' E 7 = E 7 := by
  unfold eCut
  split
  · exact ⟨rfl, rfl, Nat.zero_le _, rfl, rfl⟩
  · exact ⟨rfl, rfl, Nat.le_refl _, rfl, rfl⟩
theorem x_exit {nm : Nat → Nat × Nat} {μ : Mem} {A : Ad} {S : Sp} {E tt : Nat → Nat} {c z : Nat} {post : Int32 → Mem → Prop} (h : XG μ A nm S E tt) (hW : WF S) (hl : live S) (hw : s0 S 8 < s0 S 6) (hok : exOK S) (h9 : E 9 + 8 < 262143) (h4 : fi μ 2 4 (A 0 1) = nI (s0 S 13))
    (hc : UC (exE S E) ≤ UC E + c) (hz : UZ (exE S E) ≤ UZ E + z)
    (h1 : s1 S 12 (s0 S 8) = 0 → ∀ μ', XG μ' A nm (sp_exitS S) (exE S E) tt → (∀ k, k ≠ 4 → fi μ' 2 k (A 0 1) = fi μ 2 k (A 0 1)) → fi μ' 2 4 (A 0 1) = nI (s0 S 13 + 1) → (∀ k, fr μ' 2 k (A 0 1) = fr μ 2 k (A 0 1)) → St gE E μ A nm μ' A nm → post 1 μ')
    (h0 : ¬ s1 S 12 (s0 S 8) = 0 → ∀ μ' A' nm', XG μ' A' nm' (sp_exitS S) (exE S E) tt → (∀ k, k ≠ 6 → fi μ' 2 k (A' 0 1) = fi μ 2 k (A 0 1)) → fi μ' 2 6 (A' 0 1) = nI (s1 S 13 (s0 S 8) + 1) → fr μ' 2 5 (A' 0 1) = some (A' 1 (s1 S 12 (s0 S 8) - 1)) → St gE E μ A nm μ' A' nm' → post 0 μ') : wp_X0_exit c z μ (A 0 1) (A 1 (s0 S 8)) post := by
  obtain ⟨hN, hL, hK, hH, hP, hE⟩ := id h
  obtain ⟨k1, k2, k3, tp, tv, tq, k4, k5⟩ := id hK
  have hB := hW.2.2.1
  have e5 : s0 S 6 ≤ E 5 := k2.2.2.2.2.1
  obtain ⟨f1, f2, f3, f4, f5⟩ := k3.2 (s0 S 8) hw
  obtain ⟨bp, -, -, b14, -⟩ := hB.2.2.2 (s0 S 8) hw
  obtain ⟨q1, q2, q3, q4, -⟩ := hP.2.1 _ bp
  obtain ⟨pa, -⟩ := hW.1.2.2.1 _ bp
  refine ⟨(k3.1 _ (by omega)).1, A 3 _, f1, q1, ?_⟩
  rw [q2]
  by_cases hag : s1 S 0 (s1 S 10 (s0 S 8)) = 0
  · have eS : sp_exitS S = sp_exit2 (sp_cutS S (s1 S 14 (s0 S 8))) := by rw [sp_exitS, if_pos hag]
    have eE : exE S E = eEx (sp_cutS S (s1 S 14 (s0 S 8))) (eCut (sp_cutS S (s1 S 14 (s0 S 8))) E) := by rw [exE, exS, if_pos hag, if_pos hag]
    rw [eS, eE] at h1 h0
    rw [eE] at hc hz
    refine ⟨fun _ => ⟨hE.1, A 0 2, hE.2.1, k1.1, ?_⟩, fun q => absurd (by rw [hag]; rfl) q⟩
    rw [f3]
    obtain ⟨cu1, cu2, cu3, cu5, cu7⟩ := eCut_o (S' := sp_cutS S (s1 S 14 (s0 S 8))) (E := E)
    refine x_cutTo ⟨k1, k2, k3, k4, k5⟩ hN hB hW.2.2.2.1.1 hw (fun μ1 X1 ho1 _ => ?_)
    rw [nI_clamp (show s1 S 14 (s0 S 8) < 2 ^ 31 by omega)] at X1
    have st1 : St gK E μ A nm μ1 A nm := St.of (K_of4 hN ho1)
    have G1 : XG μ1 A nm (sp_cutS S (s1 S 14 (s0 S 8))) (eCut (sp_cutS S (s1 S 14 (s0 S 8))) E) tt := by
      refine h.k st1 ⟨hN.pq rfl rfl cu5 cu7, (hL.km ho1.1).pq rfl rfl cu5 cu7, X1.ext⟩ ⟨rfl, rfl, rfl, rfl, rfl, rfl, rfl, rfl, ?_, ?_⟩ Pq.rf
      · unfold eCut; split <;> rfl
      · unfold eCut; split <;> rfl
    have ef1 := h.efk st1
    have hW1 : WF (sp_cutS S (s1 S 14 (s0 S 8))) := hW.cut hl
    refine x_exit24 (S := sp_cutS S (s1 S 14 (s0 S 8))) G1 hW1 (hW1.2.2.1.2.2.1 hl) hok (by omega) (by rw [ef1.1]; exact h4) (by omega) (by omega) (fun y0 μ' g1 g2 g3 g4 g5 => h1 y0 μ' g1 (fun k hk => (g2 k hk).trans (ef1.1 k)) g3 (fun k => (g4 k).trans (ef1.2 k)) (st1.k.tr g5 (by rw [cu5]; exact Nat.le_refl _) (by rw [cu7]; exact Nat.le_refl _))) (fun y0 μ' A' nm' g1 g2 g3 g4 g5 => h0 y0 μ' A' nm' g1 (fun k hk => (g2 k hk).trans (ef1.1 k)) g3 g4 (st1.k.tr g5 (by rw [cu5]; exact Nat.le_refl _) (by rw [cu7]; exact Nat.le_refl _)))
  · have eS : sp_exitS S = sp_exit2 S := by rw [sp_exitS, if_neg hag]
    have eE : exE S E = eEx S E := by rw [exE, exS, if_neg hag, if_neg hag]
    rw [eS, eE] at h1 h0
    rw [eE] at hc hz
    refine ⟨fun q => absurd ((nI_eq (by omega) (by decide)).mp q) hag, fun _ => ?_⟩
    exact x_exit24 h hW hw hok h9 h4 hc hz h1 h0
