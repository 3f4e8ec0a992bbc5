/-! the class advances and starts -/
def eRunS (S : Sp) (E tt : Nat → Nat) (n : Int32) : (Nat → Nat) × (Nat → Nat) := if n < 1 ∨ ¬ (s0 S 17 = 1 ∨ s0 S 17 = 2) then (E, tt) else eRunL n.toNatClampNeg (if s0 S 17 = 2 then sp_failS (s0 S 7) (u0 S 17 1) else S) (if s0 S 17 = 2 then eFail tt (s0 S 7) (u0 S 17 1) E else E) tt
theorem eRunS_em {S : Sp} {E tt : Nat → Nat} {n : Int32} : EM E (eRunS S E tt n).1 := by
  unfold eRunS
  split
  · exact EM.rf
  · refine EM.tr ?_ (eRunL_em _ _ _ _)
    split
    · exact eFail_em _ _ _
    · exact EM.rf
theorem x_advance {nm : Nat → Nat × Nat} {μ : Mem} {A : Ad} {S : Sp} {E tt : Nat → Nat} {n : Int32} {c z : Nat} {post : Int32 → Mem → Prop} (h : XJ μ A nm S E tt) (hc : UC (eRunS S E tt n).1 ≤ UC E + c ∨ 537396 ≤ UC E + c) (hz : UZ (eRunS S E tt n).1 ≤ UZ E + z ∨ 1181512 ≤ UZ E + z)
    (hp : ∀ μ' A' nm', XJ μ' A' nm' (sp_runS S n) (eRunS S E tt n).1 (eRunS S E tt n).2 → St gE E μ A nm μ' A' nm' → post (nI (s0 (sp_runS S n) 17) - 1) μ') : wp_X0_advance c z μ (A 0 1) n post := by
  obtain ⟨G, ⟨Z1, Z2, Z3, Z4⟩, W, V, B, h9⟩ := id h
  have n10 : s0 S 10 ≤ 20000 := W.2.2.2.2.2.2.2.1
  have st := fun m hm => st_eqx (m := m) Z1 V.2.2.1 hm
  have no : (n < 1 ∨ ¬ (s0 S 17 = 1 ∨ s0 S 17 = 2)) → post (fi μ 2 2 (A 0 1)) μ := fun q => by
    rw [sp_runS, eRunS, if_pos q, if_pos q] at hp
    rw [add_sub1 Z1]
    exact hp μ A nm h St.rf
  have il : ¬ 1 ≤ n ↔ n < 1 := by
    rw [Int32.le_iff_toInt_le, Int32.lt_iff_toInt_lt]; omega
  refine ⟨fun hn => ⟨G.2.2.2.2.2.1, fun hs => ?_, fun hs => ?_⟩, fun hn => ⟨G.2.2.2.2.2.1, no (Or.inl (il.mp hn))⟩⟩
  · have hst : s0 S 17 = 2 := (st 1 (by decide)).mp hs
    have hno : ¬ (n < 1 ∨ ¬ (s0 S 17 = 1 ∨ s0 S 17 = 2)) := by
      rintro (q | q)
      · exact il.mpr q hn
      · exact q (Or.inr hst)
    obtain ⟨N, hN, eN⟩ : ∃ N, N < 2 ^ 31 ∧ n = nI N := nI_of (fun q => (il.mpr (by
      rw [Int32.lt_iff_toInt_lt] at q ⊢
      have a : (0 : Int32).toInt = 0 := by decide
      have b : (1 : Int32).toInt = 1 := by decide
      omega)) hn)
    subst eN
    have eS : sp_runS S (nI N) = sp_runL N (sp_failS (s0 S 7) (u0 S 17 1)) := by rw [sp_runS, if_neg hno, if_pos hst, nI_clamp hN]
    have eE : eRunS S E tt (nI N) = eRunL N (sp_failS (s0 S 7) (u0 S 17 1)) (eFail tt (s0 S 7) (u0 S 17 1) E) tt := by rw [eRunS, if_neg hno, if_pos hst, if_pos hst, nI_clamp hN]
    rw [eS, eE] at hp
    rw [eE] at hc hz
    have hW1 : WF (u0 S 17 1) := by
      obtain ⟨P, C, ⟨B1, B2, B3, B4⟩, T⟩ := W
      exact ⟨P, C, ⟨B1, B2, fun _ => B3 (Or.inr hst), B4⟩, T⟩
    have G1 : XG μ A nm (u0 S 17 1) E tt := G
    have ok := eFail_ok (s0 S 7) (u0 S 17 1) E G.tb B
    refine x_failE (S := u0 S 17 1) G1 (hW1.stop (by decide)) (by omega) Z2 Z3 rfl (fun μ1 g1 z1 st1 _ => ⟨_, x_runL hN N 0 μ1 A nm _ _ tt c z (by omega) rfl ⟨g1, z1, hW1.fail, WG.fail _ _ (V.end' (by decide) (by decide)) (show ¬ (1 : Nat) = 2 by decide), ok.2.1, ?_⟩ ?_ ?_ (fun μ' A' nm' x1 x2 x3 => hp μ' A' nm' x1 (st1.tr x2 (ok.1 5 (by decide)) (ok.1 7 (by decide))))⟩)
    · have := ok.2.2
      show eFail tt (s0 S 7) (u0 S 17 1) E 9 ≤ 8 * s0 (sp_failS (s0 S 7) (u0 S 17 1)) 10
      rw [fail10]
      show _ ≤ 8 * s0 S 10
      omega
    · have := ok.1.U.1
      show UC (eRunL N (sp_failS (s0 S 7) (u0 S 17 1)) (eFail tt (s0 S 7) (u0 S 17 1) E) tt).1 ≤ UC (eFail tt (s0 S 7) (u0 S 17 1) E) + c ∨ 537396 ≤ UC (eFail tt (s0 S 7) (u0 S 17 1) E) + c
      omega
    · have := ok.1.U.2
      show UZ (eRunL N (sp_failS (s0 S 7) (u0 S 17 1)) (eFail tt (s0 S 7) (u0 S 17 1) E) tt).1 ≤ UZ (eFail tt (s0 S 7) (u0 S 17 1) E) + z ∨ 1181512 ≤ UZ (eFail tt (s0 S 7) (u0 S 17 1) E) + z
      omega
  · have h2 : ¬ s0 S 17 = 2 := fun q => hs ((st 1 (by decide)).mpr q)
    obtain ⟨N, hN, eN⟩ : ∃ N, N < 2 ^ 31 ∧ n = nI N := nI_of (fun q => (il.mpr (by
      rw [Int32.lt_iff_toInt_lt] at q ⊢
      have a : (0 : Int32).toInt = 0 := by decide
      have b : (1 : Int32).toInt = 1 := by decide
      omega)) hn)
    subst eN
    by_cases h1 : s0 S 17 = 1
    · have hno : ¬ (nI N < 1 ∨ ¬ (s0 S 17 = 1 ∨ s0 S 17 = 2)) := by
        rintro (q | q)
        · exact il.mpr q hn
        · exact q (Or.inl h1)
      rw [sp_runS, eRunS, if_neg hno, if_neg hno, if_neg h2, if_neg h2, nI_clamp hN] at hp
      rw [eRunS, if_neg hno, if_neg h2, if_neg h2, nI_clamp hN] at hc hz
      exact ⟨_, x_runL hN N 0 μ A nm S E tt c z (by omega) rfl h hc hz (fun μ' A' nm' x1 x2 _ => hp μ' A' nm' x1 x2)⟩
    · have := no (Or.inr (by rintro (q | q); exact h1 q; exact h2 q))
      refine ⟨1, ?_⟩
      rw [wp_X0_advance_24]
      refine ⟨fun _ => ⟨G.2.2.2.2.2.1, this⟩, fun _ => ⟨G.2.2.2.2.2.1, fun q => absurd ((st 0 (by decide)).mp q) h1, fun _ => this⟩⟩
/-- the stack is cleared -/
theorem x_kclear {nm : Nat → Nat × Nat} {μ : Mem} {A : Ad} {S : Sp} {E tt : Nat → Nat} {st hp : Nat} {post : Mem → Prop} (h : XG μ A nm S E tt) (h11 : s1 S 11 0 = 0)
    (hq : ∀ μ', RXK μ' A nm (sp_clr S st hp) (va_up E 9 0) tt → St gK E μ A nm μ' A nm → post μ') : wp_X7_clear μ (A 0 2) (nI st) post := by
  obtain ⟨hN, hL, hK, hH, hP, hE⟩ := id h
  obtain ⟨⟨a1, a2, a3, a4, a5, a6, a7, a8, a9⟩, k2, k3, tp, tv, tq, k4, ⟨t1, t2, t3, t4, t5, t6, t7, t8, t9⟩⟩ := id hK
  have ne : ∀ i k, i < 24 → k < 24 → i ≠ k → ¬ A 0 i = A 0 k := fun i k hi hk hd => hN.ne (Us0 hi) (Us0 hk) (fun z => hd z.2)
  refine ⟨a1, fun μ2 e2 μ5 e5 => ?_⟩
  have o2 : Off (fun a => a = A 0 2) μ μ2 := by rw [e2]; exact Off_sfi
  have o5 : Off (fun a => a = A 0 2) μ2 μ5 := by rw [e5]; exact Off_sfi
  have o25 := o2.tr o5
  have l5 : LR μ5 (A 0 7) (A 0 17) (s1 S 11 (s0 S 6)) (fun k => conv S (sv S 0 k)) := t1.off o25 (ne 7 2 (by decide) (by decide) (by decide)) (ne 17 2 (by decide) (by decide) (by decide))
  have m5 : LR μ5 (A 0 8) (A 0 18) (E 9) tq := t2.off o25 (ne 8 2 (by decide) (by decide) (by decide)) (ne 18 2 (by decide) (by decide) (by decide))
  have f5 : fr μ5 9 4 (A 0 2) = some (A 0 7) ∧ fr μ5 9 5 (A 0 2) = some (A 0 8) := by rw [e5, fr_sfi, e2, fr_sfi]; exact ⟨a4, a5⟩
  refine ⟨A 0 7, f5.1, l5.1, x_shrink (k := 0) l5 (Nat.zero_le _) (fun μ9 l9 o9 al9 _ => ?_)⟩
  have q9 := (o9.2.2 (A 0 2) (by rw [o25.kd a1]; decide) (ne 2 7 (by decide) (by decide) (by decide)))
  have m9 : LR μ9 (A 0 8) (A 0 18) (E 9) tq := m5.off o9 (ne 8 7 (by decide) (by decide) (by decide)) (ne 18 7 (by decide) (by decide) (by decide))
  refine ⟨A 0 8, by rw [q9.2.1]; exact f5.2, m9.1, x_shrink (k := 0) m9 (Nat.zero_le _) (fun μ15 l15 o15 al15 _ μ20 e20 μ23 e23 => ?_)⟩
  have q15 := (o15.2.2 (A 0 2) (by rw [o9.kd (o25.kd a1)]; decide) (ne 2 8 (by decide) (by decide) (by decide)))
  have o20 : Off (fun a => a = A 0 2) μ15 μ20 := by rw [e20]; exact Off_sfi
  have o23 : Off (fun a => a = A 0 2) μ20 μ23 := by rw [e23]; exact Off_sfi
  have ho : Off (fun a => a = A 0 2 ∨ a = A 0 7 ∨ a = A 0 8) μ μ23 := (((o25.sub (fun a _ q => Or.inl q)).tr (o9.sub (fun a _ q => Or.inr (Or.inl q)))).tr (o15.sub (fun a _ q => Or.inr (Or.inr q)))).tr ((o20.tr o23).sub (fun a _ q => Or.inl q))
  have nd : ∀ i, i < 24 → i ≠ 2 → i ≠ 7 → i ≠ 8 → ¬ (A 0 i = A 0 2 ∨ A 0 i = A 0 7 ∨ A 0 i = A 0 8) := fun i hi x y z q => by
    rcases q with q | q | q
    · exact ne i 2 hi (by decide) x q
    · exact ne i 7 hi (by decide) y q
    · exact ne i 8 hi (by decide) z q
  have st : St gK E μ A nm μ23 A nm := St.of (ho.sub (fun a ha q => K_of2 hN a ha (by omega)))
  have o2023 := o20.tr o23
  have c2 := k2.off ho (nd 5 (by decide) (by decide) (by decide) (by decide)) (nd 6 (by decide) (by decide) (by decide) (by decide)) (nd 15 (by decide) (by decide) (by decide) (by decide)) (nd 16 (by decide) (by decide) (by decide) (by decide))
  have n1 : ∀ j, j < E 5 → ¬ (A 1 j = A 0 2 ∨ A 1 j = A 0 7 ∨ A 1 j = A 0 8) := fun j hj q => by
    rcases q with q | q | q
    · exact hN.ne (Us1 hj) (Us0 (by decide)) (fun z => absurd z.1 (by decide)) q
    · exact hN.ne (Us1 hj) (Us0 (by decide)) (fun z => absurd z.1 (by decide)) q
    · exact hN.ne (Us1 hj) (Us0 (by decide)) (fun z => absurd z.1 (by decide)) q
  have n2 : ∀ j, j < E 7 → ¬ (A 2 j = A 0 2 ∨ A 2 j = A 0 7 ∨ A 2 j = A 0 8) := fun j hj q => by
    rcases q with q | q | q
    · exact hN.ne (Us2 hj) (Us0 (by decide)) (fun z => absurd z.1 (by decide)) q
    · exact hN.ne (Us2 hj) (Us0 (by decide)) (fun z => absurd z.1 (by decide)) q
    · exact hN.ne (Us2 hj) (Us0 (by decide)) (fun z => absurd z.1 (by decide)) q
  have c3 := k3.off ho k2.2.2.2.2.1 n1
  have c4 := k4.off ho k2.2.2.2.2.2 n2
  refine hq μ23 ⟨hN.pq rfl rfl rfl rfl, (hL.km ho.1).pq rfl rfl rfl rfl, ⟨ho.kd a1, ?_, ?_, ?_, ?_, ?_, ?_, ?_, ?_⟩, ⟨c2.1, c2.2.1, c2.2.2.1, c2.2.2.2.1, Nat.zero_le _, Nat.zero_le _⟩, ⟨c3.1, fun j hj => absurd hj (Nat.not_lt_zero j)⟩, tp, tv, tq, ⟨c4.1, fun j hj => absurd hj (Nat.not_lt_zero j)⟩, ⟨?_, ?_, ?_, ?_, t5, t6, fun j hj => absurd hj (Nat.not_lt_zero j), fun i j _ hj => absurd hj (Nat.not_lt_zero j), fun j hj => absurd hj (Nat.not_lt_zero j)⟩⟩ st
  · rw [e23, fr_sfi, e20, fr_sfi, q15.2.1, q9.2.1, e5, fr_sfi, e2, fr_sfi]; exact a2
  · rw [e23, fr_sfi, e20, fr_sfi, q15.2.1, q9.2.1, e5, fr_sfi, e2, fr_sfi]; exact a3
  · rw [e23, fr_sfi, e20, fr_sfi, q15.2.1, q9.2.1, e5, fr_sfi, e2, fr_sfi]; exact a4
  · rw [e23, fr_sfi, e20, fr_sfi, q15.2.1, q9.2.1, e5, fr_sfi, e2, fr_sfi]; exact a5
  · rw [e23, fi_sfi_k (by decide), e20, fi_sfi_k (by decide), q15.1, q9.1, e5, fi_sfi_k (by decide), e2, fi_sfi_e]; rfl
  · rw [e23, fi_sfi_k (by decide), e20, fi_sfi_k (by decide), q15.1, q9.1, e5, fi_sfi_e]; rfl
  · rw [e23, fi_sfi_k (by decide), e20, fi_sfi_e]; rfl
  · rw [e23, fi_sfi_e]; rfl
  · have l23 := (l9.off o15 (ne 7 8 (by decide) (by decide) (by decide)) (ne 17 8 (by decide) (by decide) (by decide))).off o2023 (ne 7 2 (by decide) (by decide) (by decide)) (ne 17 2 (by decide) (by decide) (by decide))
    show LR μ23 (A 0 7) (A 0 17) (s1 S 11 0) (fun k => conv S (sv S 0 k))
    rw [h11]; exact l23
  · exact l15.off o2023 (ne 8 2 (by decide) (by decide) (by decide)) (ne 18 2 (by decide) (by decide) (by decide))
  · exact (ho.2.2 (A 0 17) (hL 0 17 (Us0 (by decide))) (nd 17 (by decide) (by decide) (by decide) (by decide))).2.2.1.trans t3
  · exact (ho.2.2 (A 0 18) (hL 0 18 (Us0 (by decide))) (nd 18 (by decide) (by decide) (by decide) (by decide))).2.2.1.trans t4
theorem x_hclear {nm : Nat → Nat × Nat} {μ : Mem} {A : Ad} {S : Sp} {E E' : Nat → Nat} {st hp : Nat} {post : Mem → Prop} (hN : RN nm A S E) (hL : LV μ A S E) (hH : XHt μ A S E) (e2 : E' 2 = E 2) (e3 : E' 3 = E 3)
    (hq : ∀ μ', XHt μ' A (sp_clr S st hp) E' → St gH E μ A nm μ' A nm → post μ') : wp_X2_clear μ (A 0 3) (nI hp) post := by
  obtain ⟨x0, w, m, u, ⟨g1, g2, g3, g4, g5, g6, g7, g8, g9, l1, l3⟩, x2⟩ := hH
  have ne : ∀ i k, i < 24 → k < 24 → i ≠ k → ¬ A 0 i = A 0 k := fun i k hi hk hd => hN.ne (Us0 hi) (Us0 hk) (fun z => hd z.2)
  refine ⟨g1, A 0 9, g2, l1.1, x_shrink (k := 0) l1 (Nat.zero_le _) (fun μ3 l3' o3 al3 _ μ8 e8 μ11 e11 => ?_)⟩
  have o8 : Off (fun a => a = A 0 3) μ3 μ8 := by rw [e8]; exact Off_sfi
  have o11 : Off (fun a => a = A 0 3) μ8 μ11 := by rw [e11]; exact Off_sfi
  have o := o8.tr o11
  have ho : Off (fun a => a = A 0 3 ∨ a = A 0 9) μ μ11 := (o3.sub (fun a _ q => Or.inr q)).tr (o.sub (fun a _ q => Or.inl q))
  have q3 := o3.2.2 (A 0 3) (by omega) (ne 3 9 (by decide) (by decide) (by decide))
  have nd : ∀ i, i < 24 → i ≠ 3 → i ≠ 9 → ¬ (A 0 i = A 0 3 ∨ A 0 i = A 0 9) := fun i hi x y q => by
    rcases q with q | q
    · exact ne i 3 hi (by decide) x q
    · exact ne i 9 hi (by decide) y q
  refine hq μ11 ⟨Nat.le_refl _, w, m, u, ⟨ho.kd g1, ?_, ?_, ?_, ?_, ?_, ?_, by rw [e2]; exact g8, by rw [e3]; exact g9, l3'.off o (ne 9 3 (by decide) (by decide) (by decide)) (ne 19 3 (by decide) (by decide) (by decide)), l3.off ho (nd 10 (by decide) (by decide) (by decide)) (nd 20 (by decide) (by decide) (by decide))⟩, fun c k hc => absurd hc (Nat.not_lt_zero c)⟩ (St.of (ho.sub (fun a _ q => by rcases q with q | q; exact gH_of hN (j := 3) (by omega) q; exact gH_of hN (j := 9) (by omega) q)))
  · rw [e11, fr_sfi, e8, fr_sfi, q3.2.1]; exact g2
  · rw [e11, fr_sfi, e8, fr_sfi, q3.2.1]; exact g3
  · rw [e11, fi_sfi_k (by decide), e8, fi_sfi_e]; rfl
  · rw [e11, fi_sfi_e]; rfl
  · rw [e2]; exact (ho.2.2 (A 0 19) (hL 0 19 (Us0 (by decide))) (nd 19 (by decide) (by decide) (by decide))).2.2.1.trans g6
  · rw [e3]; exact (ho.2.2 (A 0 20) (hL 0 20 (Us0 (by decide))) (nd 20 (by decide) (by decide) (by decide))).2.2.1.trans g7
theorem gE_9 {k j : Nat} : ¬ gE (k + 3, j) := by
  rintro (q | q | q)
  · rcases q with ⟨q, -⟩ | q | q
    · exact absurd q (Nat.succ_ne_zero _)
    · have q : k + 3 = 1 := q
      omega
    · have q : k + 3 = 2 := q
      omega
  · exact absurd q.1 (Nat.succ_ne_zero _)
  · cases q
/-- the room behind a begin -/
def eBeg (S : Sp) (E : Nat → Nat) (p st hp : Nat) : Nat → Nat := ePf (sp_clr S st hp) (va_up E 9 0) p
theorem eBeg_em {S : Sp} {E : Nat → Nat} {p st hp : Nat} : EM E (eBeg S E p st hp) := EM.nine.tr ePf_em
theorem eBeg_9 {S : Sp} {E : Nat → Nat} {p st hp : Nat} : eBeg S E p st hp 9 = 0 := by
  unfold eBeg ePf
  rw [eZ_o (by decide)]
  unfold eFr
  split <;> rfl
theorem eBeg_bd {S : Sp} {E : Nat → Nat} {p st hp : Nat} (hW : WF S) (hB : EBd E) (hpp : p < s0 S 1) (hst : st ≤ 20000) (hhp : hp ≤ 20000) (hsz : 2 + s1 S 1 p ≤ st) : EBd (eBeg S E p st hp) ∧ EM E (eBeg S E p st hp) := by
  obtain ⟨⟨P1, P2, P3, P4⟩, hC, ⟨B1, B2, B3, B4⟩, hT, hV, hNN⟩ := id hW
  obtain ⟨-, sl1, sl2, sl3, -⟩ := P3 _ hpp
  have hW2 : WF (u0 (sp_clr S st hp) 17 3) := by
    refine ⟨⟨P1, P2, P3, P4⟩, ⟨Nat.le_refl _, rfl, rfl, Nat.zero_le _, fun c hc => absurd hc (Nat.not_lt_zero c)⟩, ⟨B1, ?_, (fun q => by rcases q with q | q <;> cases q), fun j hj => absurd hj (Nat.not_lt_zero j)⟩, ⟨⟨fun i j _ b => absurd b (Nat.not_lt_zero j), fun i b => absurd b (Nat.not_lt_zero i)⟩, fun i j _ b => absurd b (Nat.not_lt_zero j), fun i b => absurd b (Nat.not_lt_zero i)⟩, fun m hm => ?_, ⟨Nat.zero_le _, Nat.le_refl _, Nat.zero_le _, hst, hhp⟩⟩
    · show s1 S 11 0 + 2 * 0 + 3 * 0 ≤ 20000
      omega
    · have hm : m < s1 S 11 0 := hm
      omega
  have zz : szS (sp_clr S st hp) = 0 := by show s1 S 11 0 + 2 * 0 + 3 * 0 = 0; omega
  have k := ePf_ok (S := u0 (sp_clr S st hp) 17 3) (p := p) hW2 (EOK.nine (v := 0) (d := 0) hB (Nat.zero_le _)).2.1 sl1 (by show szS (sp_clr S st hp) + (2 + s1 S 1 p) ≤ 20000; omega)
  exact ⟨k.2.1, fun r hr => Nat.le_trans (Nat.le_of_eq (if_neg hr).symm) (k.1 r hr)⟩
theorem x_start {nm : Nat → Nat × Nat} {μ : Mem} {A : Ad} {S : Sp} {E tt : Nat → Nat} {p st hp ra j c z : Nat} {post : Mem → Prop} (h : XG μ A nm S E tt) (hW : WF S) (hB : EBd E) (hpp : p < s0 S 1) (hst : st ≤ 20000) (hhp : hp ≤ 20000) (hsz : 2 + s1 S 1 p ≤ st) (hn : s0 S 0 = s1 S 2 p)
    (r1 : kd μ ra = 102) (r2 : al μ ra = s0 S 0) (r3 : ∀ i, i < s0 S 0 → ai μ ra i = si S 0 i) (r4 : nm ra = (9, j))
    (hc : UC (eBeg S E p st hp) ≤ UC E + c) (hz : UZ (eBeg S E p st hp) ≤ UZ E + z)
    (hq : ∀ μ' A' nm', XJ μ' A' nm' (sp_begS S p st hp) (eBeg S E p st hp) tt → St gE E μ A nm μ' A' nm' → post μ') : wp_X0_start c z μ (A 0 1) (A 3 p) ra (nI st) (nI hp) post := by
  obtain ⟨hN, hL, hK, hH, hP, hE⟩ := id h
  obtain ⟨⟨P1, P2, P3, P4⟩, hC, ⟨B1, B2, B3, B4⟩, hT, hV, hNN⟩ := id hW
  obtain ⟨-, sl1, sl2, sl3, -⟩ := P3 _ hpp
  refine ⟨hE.1, A 0 2, hE.2.1, hK.1.1, x_kclear (st := st) (hp := hp) h B1 (fun μ1 R1 st1 _ => ?_)⟩
  have hE1 := hE.st hN st1 (gK_n (by omega))
  have hH1 := hH.st hN st1
  have hP1 := hP.st hN st1 (fun q => gP_k)
  have N1 : RN nm A S E := hN
  have L1 := hL.km st1.km
  refine ⟨A 0 3, hE1.2.2, (by obtain ⟨-, w, m, u, x1, -⟩ := hH1; exact x1.1), x_hclear (E' := va_up E 9 0) (st := st) (hp := hp) N1 L1 hH1 rfl rfl (fun μ2 H2 st2 _ => ?_)⟩
  have E2 := hE1.st N1 st2 (gH_n (by omega))
  have K2 := XKt.st (E := va_up E 9 0) R1.2.2 R1.1 st2 rfl rfl rfl rfl rfl rfl rfl
  have P2' : XP μ2 A (sp_clr S st hp) := (hP1.st N1 st2 (fun q => gP_h)).pq ⟨rfl, rfl, fun _ _ => rfl, rfl, rfl⟩
  have G2 : XG μ2 A nm (sp_clr S st hp) (va_up E 9 0) tt := ⟨R1.1, R1.2.1.km st2.km, K2, H2, P2', E2⟩
  have st12 : St gE E μ A nm μ2 A nm := st1.k.tr st2.h (Nat.le_refl _) (Nat.le_refl _)
  have hW2 : WF (u0 (sp_clr S st hp) 17 3) := by
    refine ⟨⟨P1, P2, P3, P4⟩, ⟨Nat.le_refl _, rfl, rfl, Nat.zero_le _, fun c hc => absurd hc (Nat.not_lt_zero c)⟩, ⟨B1, ?_, (fun q => by rcases q with q | q <;> cases q), fun j hj => absurd hj (Nat.not_lt_zero j)⟩, ⟨⟨fun i j _ b => absurd b (Nat.not_lt_zero j), fun i b => absurd b (Nat.not_lt_zero i)⟩, fun i j _ b => absurd b (Nat.not_lt_zero j), fun i b => absurd b (Nat.not_lt_zero i)⟩, fun m hm => ?_, ⟨Nat.zero_le _, Nat.le_refl _, Nat.zero_le _, hst, hhp⟩⟩
    · show s1 S 11 0 + 2 * 0 + 3 * 0 ≤ 20000
      omega
    · have hm : m < s1 S 11 0 := hm
      omega
  obtain ⟨q1, q2, q3, -⟩ := P2'.2.1 p hpp
  have zz : szS (sp_clr S st hp) = 0 := by show s1 S 11 0 + 2 * 0 + 3 * 0 = 0; omega
  refine ⟨A 0 2, E2.2.1, K2.1.1, c, z, Nat.le_refl _, Nat.le_refl _, ?_⟩
  refine x_pushFrame (S := sp_clr S st hp) (E := va_up E 9 0) (p := p) G2.ne hpp sl1 (by rw [zz]; show 0 + (2 + s1 S 1 p) ≤ 20000; omega) (by show 0 < 2 ^ 31; decide) (fun i hi => absurd hi (Nat.not_lt_zero i)) (fun i hi => by have : i = 0 := Nat.le_zero.mp hi; rw [this]; exact Nat.le_refl _) (fun j u hj => absurd hj (Nat.not_lt_zero j)) (fun i hi => absurd hi (Nat.not_lt_zero i)) q1 q3 hc hz (fun μ3 A3 nm3 R3 st3 _ => ?_)
  have hB1 : EBd (eBeg S E p st hp) := (ePf_ok (S := u0 (sp_clr S st hp) 17 3) (p := p) hW2 (EOK.nine (v := 0) (d := 0) hB (Nat.zero_le _)).2.1 sl1 (by show szS (sp_clr S st hp) + (2 + s1 S 1 p) ≤ 20000; omega)).2.1
  have hW3 : WF (sp_pushS (sp_clr S st hp) p 0 0) := by
    obtain ⟨P', C', ⟨B1', B2', B3', B4'⟩, T', V', N'⟩ := hW2.push (p := p) (up := 0) (at' := 0) hpp (by show s1 S 11 0 + 2 * 0 + 3 * 0 + (2 + s1 S 1 p) ≤ 20000; omega) ⟨fun _ => rfl, fun _ => rfl⟩ (fun u hu => absurd hu (by omega))
    exact ⟨P', C', ⟨B1', B2', fun _ => Nat.zero_lt_one, B4'⟩, T', V', N'⟩
  have G3 : XG μ3 A3 nm3 (sp_pushS (sp_clr S st hp) p 0 0) (eBeg S E p st hp) tt := G2.k st3 R3 ⟨rfl, rfl, rfl, rfl, rfl, rfl, rfl, rfl, (eZ_o (by decide) _).trans (by unfold eFr; split <;> rfl), (eZ_o (by decide) _).trans (by unfold eFr; split <;> rfl)⟩ ⟨rfl, rfl, fun k hk => by
    funext x
    have hh : ∀ m, 10 ≤ m → ¬ k = m := fun m hm => by omega
    simp [s1, sp_pushS, up2, hh 10 (by omega), hh 11 (by omega), hh 12 (by omega), hh 13 (by omega), hh 14 (by omega)], rfl, rfl⟩
  have st13 : St gE E μ A nm μ3 A3 nm3 := st12.tr (E1 := va_up E 9 0) st3.k (Nat.le_refl _) (Nat.le_refl _)
  have we := fun k => wrL_e (S := sp_pushS (sp_clr S st hp) p 0 0) (f := fun k => k) (g := fun k _ => (si S 0 k).toInt64) k
  have p11 : s1 (sp_pushS (sp_clr S st hp) p 0 0) 11 0 = 0 := Eq.trans (show s1 (sp_pushS (sp_clr S st hp) p 0 0) 11 0 = s1 S 11 0 from rfl) B1
  have p10 : s1 (sp_pushS (sp_clr S st hp) p 0 0) 10 0 = p := rfl
  have p1 : s1 (sp_pushS (sp_clr S st hp) p 0 0) 1 = s1 S 1 := by funext x; simp [s1, sp_pushS, up2, sp_clr]
  have hWk : ∀ k, WF (wrL (sp_pushS (sp_clr S st hp) p 0 0) (fun k => k) (fun k _ => (si S 0 k).toInt64) k) := fun k => hW3.wrL _ fun _ _ _ => okV_num _
  have key : ∀ d k μ' A' nm' c z, k + d = s0 S 0 → XG μ' A' nm' (wrL (sp_pushS (sp_clr S st hp) p 0 0) (fun k => k) (fun k _ => (si S 0 k).toInt64) k) (eBeg S E p st hp) tt → St gE E μ A nm μ' A' nm' → wp_X0_start_30 (A 0 1) post (d + 1) c z μ' ra (some (A' 1 0)) (nI k) := by
    intro d
    induction d with
    | zero =>
      intro k μ' A' nm' c z hk G' st'
      have e : k = s0 S 0 := by omega
      subst e
      have a0 : A' 0 1 = A 0 1 := st'.2.2.2.2.1 1 (by decide)
      obtain ⟨u1, u2, u3, u4, -⟩ := st'.1.2.2 ra (by rw [r1]; decide) (by show ¬ gE (nm ra); rw [r4]; exact gE_9)
      have kr : kd μ' ra = 102 := st'.km _ (by rw [r1]; decide) |>.trans r1
      rw [wp_X0_start_30, u3, r2]
      refine ⟨Or.inr (Or.inl kr), fun _ => ⟨by rw [← a0]; exact G'.2.2.2.2.2.1, fun μ24 e24 μ27 e27 μ30 e30 μ33 e33 μ36 e36 => ?_⟩, fun z => absurd (nI_le (Nat.le_refl _) (by omega)) z⟩
      rw [← a0] at e24 e27 e30 e33 e36
      have ho : Off (fun a => a = A' 0 1) μ' μ36 := by
        have x1 : Off (fun a => a = A' 0 1) μ' μ24 := by rw [e24]; exact Off_sfi
        have x2 : Off (fun a => a = A' 0 1) μ24 μ27 := by rw [e27]; exact Off_sfi
        have x3 : Off (fun a => a = A' 0 1) μ27 μ30 := by rw [e30]; exact Off_sfi
        have x4 : Off (fun a => a = A' 0 1) μ30 μ33 := by rw [e33]; exact Off_sfr
        have x5 : Off (fun a => a = A' 0 1) μ33 μ36 := by rw [e36]; exact Off_sfi
        exact (((x1.tr x2).tr x3).tr x4).tr x5
      obtain ⟨G4, st4⟩ := G'.eng ho (by rw [e36, fr_sfi, e33, fr_sfr_k (by decide), e30, fr_sfi, e27, fr_sfi, e24, fr_sfi]) (by rw [e36, fr_sfi, e33, fr_sfr_k (by decide), e30, fr_sfi, e27, fr_sfi, e24, fr_sfi])
      have e0 := (we (s0 S 0)).1
      refine hq μ36 A' nm' ⟨G4, ⟨?_, ?_, ?_, fun _ => ⟨?_, fun _ => ?_⟩⟩, hW.beg hpp hst hhp hsz, ⟨?_, ?_, ?_, fun _ => rfl⟩, hB1, by rw [eBeg_9]; exact Nat.zero_le _⟩ (st'.tr st4 (eBeg_em 5 (by decide)) (eBeg_em 7 (by decide)))
      · rw [e36, fi_sfi_k (by decide), e33, fi_sfr, e30, fi_sfi_k (by decide), e27, fi_sfi_k (by decide), e24, fi_sfi_e]
        rw [show s0 (sp_begS S p st hp) 17 = 1 from congrFun e0 17]; rfl
      · rw [e36, fi_sfi_k (by decide), e33, fi_sfr, e30, fi_sfi_k (by decide), e27, fi_sfi_e, show s0 (sp_begS S p st hp) 10 = 0 from congrFun e0 10]; rfl
      · rw [e36, fi_sfi_k (by decide), e33, fi_sfr, e30, fi_sfi_e, show s0 (sp_begS S p st hp) 13 = 0 from congrFun e0 13]; rfl
      · rw [e36, fr_sfi, e33, fr_sfr_e]; rfl
      · rw [e36, fi_sfi_e]; rfl
      · rw [show s0 (sp_begS S p st hp) 11 = s0 (sp_pushS (sp_clr S st hp) p 0 0) 11 from congrFun e0 11]
        show (if 0 < szS (sp_clr S st hp) + (2 + s1 S 1 p) then szS (sp_clr S st hp) + (2 + s1 S 1 p) else 0) ≤ 20000
        rw [zz]
        split <;> omega
      · rw [show s0 (sp_begS S p st hp) 12 = 0 from congrFun e0 12]; omega
      · rw [show s0 (sp_begS S p st hp) 17 = 1 from congrFun e0 17]; omega
    | succ d ih =>
      intro k μ' A' nm' c z hk G' st'
      have a0 : A' 0 1 = A 0 1 := st'.2.2.2.2.1 1 (by decide)
      obtain ⟨u1, u2, u3, u4, -⟩ := st'.1.2.2 ra (by rw [r1]; decide) (by show ¬ gE (nm ra); rw [r4]; exact gE_9)
      have kr : kd μ' ra = 102 := st'.km _ (by rw [r1]; decide) |>.trans r1
      rw [wp_X0_start_30, u3, r2, u4, nI_clamp (show k < 2 ^ 31 by omega), r3 k (by omega)]
      refine ⟨Or.inr (Or.inl kr), fun z => absurd z (nI_ge (by omega) (by omega)), fun _ => ⟨by rw [← a0]; exact G'.2.2.2.2.2.1, A' 0 2, by rw [← a0]; exact G'.2.2.2.2.2.2.1, kr, vp_in_nI (by omega) (by omega), A' 1 0, rfl, G'.2.2.1.1.1, 0, 0, Nat.zero_le _, Nat.zero_le _, ?_⟩⟩
      obtain ⟨e0, e1, -⟩ := we k
      have eW : ∀ q, eWr (wrL (sp_pushS (sp_clr S st hp) p 0 0) (fun k => k) (fun k _ => (si S 0 k).toInt64) k) (eBeg S E p st hp) q = eBeg S E p st hp := fun q => by
        unfold eWr onT
        rw [e0]
        exact if_neg (by simp [sp_pushS, s0, sp_clr, va_up])
      have hwr := x_writeG (v := (si S 0 k).toInt64) (c := 0) (z := 0) (a := k) (j := 0) (post := fun μ43 => KM μ' μ43 → ∀ v51 : Int32, v51 = nI k + 1 → wp_X0_start_30 (A 0 1) post (d + 1) (c - 0) (z - 0) μ43 ra (some (A' 1 0)) v51) G' (hWk k) (by rw [e0]; exact Nat.zero_lt_one) (by rw [e1, p10, p1]; omega) (by rw [eBeg_9]; decide) (by rw [eW]; exact Nat.le_refl _) (by rw [eW]; exact Nat.le_refl _) (fun μ4 A4 nm4 g4 st4 _ v51 e51 => ?_)
      · rw [conv_num] at hwr
        exact hwr
      · rw [e51, nI_1]
        rw [eW, e1, p11, Nat.zero_add] at g4
        have e5 : s0 (sp_pushS (sp_clr S st hp) p 0 0) 6 ≤ eBeg S E p st hp 5 := by have := G'.2.2.1.2.1.2.2.2.2.1; rw [e0] at this; exact this
        have a1 : A4 1 0 = A' 1 0 := st4.2.2.1 0 (Nat.lt_of_lt_of_le Nat.zero_lt_one e5)
        rw [← a1]
        exact ih (k + 1) μ4 A4 nm4 _ _ (by omega) g4 (st'.tr st4.k (eBeg_em 5 (by decide)) (eBeg_em 7 (by decide)))
  exact ⟨_, key (s0 S 0) 0 μ3 A3 nm3 _ _ (by omega) G3 st13⟩
