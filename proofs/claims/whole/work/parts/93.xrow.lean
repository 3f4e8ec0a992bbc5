/-! the machine's row, its procedures; begin -/
theorem x_copyI {μ : Mem} {a n N c z : Nat} {post : Option Nat → Mem → Prop} (ha : kd μ a = 102) (hl : al μ a = n) (hN : N ≤ n) (hn : n ≤ 100000) (hc : 1 ≤ c) (hz : n ≤ z)
    (hp : ∀ q μ', kd μ q = 0 → Off (fun _ => False) μ μ' → kd μ' q = 102 → al μ' q = N → (∀ i, i < N → ai μ' q i = ai μ a i) → post (some q) μ') : wp_J7_copyOf_59c91 c z μ a (nI N) post := by
  refine ⟨Or.inr (Or.inl ha), fun h => ⟨ha, hc, by rw [hl]; exact hz, fun q μ12 hq e12 => ?_⟩, fun h => ?_⟩
  · rw [hl] at h
    have e : N = n := (nI_eq (by omega) (by omega)).mp h
    have hne : ¬ a = q := fun e => by rw [e, hq] at ha; cases ha
    refine hp q μ12 hq ⟨fun b hb => ?_, fun b hb => ?_, fun b hb _ => ?_⟩ ?_ ?_ (fun i _ => ?_)
    · have : ¬ b = q := fun e => hb (by rw [e]; exact hq)
      rw [e12]
      show (if b = q then kd μ a else kd μ b) = kd μ b
      rw [if_neg this]
    · rw [e12] at hb
      have hb : (if b = q then kd μ a else kd μ b) = 106 := hb
      by_cases e : b = q
      · rw [if_pos e, ha] at hb; cases hb
      · rw [if_neg e] at hb
        refine ⟨hb, ?_⟩
        rw [e12]
        show (if b = q then al μ a else al μ b) = al μ b
        rw [if_neg e]
    · have nb : ¬ b = q := fun e => hb (by rw [e]; exact hq)
      rw [e12]
      refine ⟨fun _ _ => rfl, fun _ _ => rfl, ?_, fun i => ?_, fun i => ?_, fun i => ?_⟩
      · show (if b = q then al μ a else al μ b) = al μ b
        rw [if_neg nb]
      · show (if b = q then ai μ a i else ai μ b i) = ai μ b i
        rw [if_neg nb]
      · show (if b = q then aj μ a i else aj μ b i) = aj μ b i
        rw [if_neg nb]
      · show (if b = q then ar μ a i else ar μ b i) = ar μ b i
        rw [if_neg nb]
    · rw [e12]
      show (if q = q then kd μ a else kd μ q) = 102
      rw [if_pos rfl]; exact ha
    · rw [e12]
      show (if q = q then al μ a else al μ q) = N
      rw [if_pos rfl, e]; exact hl
    · rw [e12]
      show (if q = q then ai μ a i else ai μ q i) = ai μ a i
      rw [if_pos rfl]
  · have lt : N < n := by
      rw [hl] at h
      rcases Nat.lt_or_ge N n with r | r
      · exact r
      · exact absurd (congrArg nI (show N = n by omega)) h
    rw [nI_clamp (by omega)]
    refine ⟨nI_pos (by omega), by omega, hc, by omega, fun q μ1 hq e1 => ?_⟩
    have hne : a ≠ q := fun e => by rw [e, hq] at ha; cases ha
    subst e1
    have k1 : kd (nar μ 102 q N) a = 102 := by rw [kd_narE, if_neg hne]; exact ha
    have l1 : al (nar μ 102 q N) a = n := by rw [al_nar, if_neg hne]; exact hl
    have l2 : al (nar μ 102 q N) q = N := by rw [al_nar, if_pos rfl]
    rw [l1, l2]
    have hm : (if nI N < nI n then nI N else nI n) = nI N := if_pos (nI_lt lt (by omega))
    refine ⟨Or.inr (Or.inl k1), k1, by decide, by decide, ?_⟩
    simp only [hm]
    rw [nI_clamp (by omega)]
    refine ⟨nI_pos (by omega), by show 0 + N ≤ n; omega, by show 0 + N ≤ N; omega, fun μ6 e6 => ?_⟩
    subst e6
    have hO : Off (fun _ => False) μ (nar μ 102 q N) := Off_nar hq (by decide)
    refine hp q _ hq ⟨hO.1, hO.2.1, fun b hb _ => ?_⟩ (by rw [kd_cpi, kd_nar]) (by rw [al_cpi, al_nar, if_pos rfl]) (fun i hi => ?_)
    · have nb : ¬ b = q := fun e => hb (by rw [e]; exact hq)
      obtain ⟨x1, x2, x3, x4, x5, x6⟩ := hO.2.2 b hb (fun z => z)
      refine ⟨x1, x2, x3, fun i => ?_, x5, x6⟩
      rw [ai_cpi, if_neg nb]; exact x4 i
    · rw [ai_cpi, if_pos rfl]
      show (if 0 ≤ i ∧ i < 0 + N then ai (nar μ 102 q N) a (0 + (i - 0)) else _) = _
      rw [if_pos (by omega), ai_nar, if_neg hne, show 0 + (i - 0) = i by omega]
theorem RN.up {nm : Nat → Nat × Nat} {μ : Mem} {A : Ad} {S : Sp} {E : Nat → Nat} {q : Nat} {r : Nat × Nat} (hN : RN nm A S E) (hL : LV μ A S E) (hq : kd μ q = 0) : RN (upN nm q r) A S E := fun k j hu => by
  have : ¬ A k j = q := fun e => hL k j hu (by rw [e]; exact hq)
  exact (if_neg this).trans (hN k j hu)
theorem XX.nm {nm nm' : Nat → Nat × Nat} {μ : Mem} {A : Ad} {S : Sp} {E tt : Nat → Nat} (h : XX μ A nm S E tt) (hN : RN nm' A S E) : XX μ A nm' S E tt := by
  obtain ⟨⟨⟨-, G⟩, R⟩, M⟩ := h
  exact ⟨⟨⟨hN, G⟩, R⟩, M⟩
/-- something changes at the machine alone, and dead addresses -/
theorem XX.mach {nm : Nat → Nat × Nat} {μ μ' : Mem} {A : Ad} {S S' : Sp} {E tt : Nat → Nat} (h : XX μ A nm S E tt) (ho : Off (fun a => a = A 0 0) μ μ') (hJ : XJ μ' A nm S E tt → XJ μ' A nm S' E tt) (hM : XM μ' A S') (e16 : s0 S' 16 = s0 S 16) (e22 : s1 S' 22 = s1 S 22) (hC : XCl S') : XX μ' A nm S' E tt := by
  obtain ⟨J, M, T, C⟩ := h
  obtain ⟨hN, hL, -⟩ := id J.1
  have st : St (fun q => q = (0, 0)) E μ A nm μ' A nm := St.of (ho.sub (fun a _ q => by rw [q, hN 0 0 (Us0 (by decide))]))
  exact ⟨hJ (J.stx (st.mono (fun q hq => by rw [hq]; exact ⟨rfl, Or.inl rfl⟩)) hN (hL.km ho.1) (fun _ _ _ => rfl) J.2.2.2.2.1), hM, T.st hN hL st (fun j hj q => by have : j = 0 := congrArg Prod.snd q; omega) rfl rfl e16 e22, hC⟩
theorem x_takeRow {nm : Nat → Nat × Nat} {μ : Mem} {A : Ad} {S : Sp} {E tt : Nat → Nat} {c z : Nat} {post : Option Nat → Mem → Prop} (h : XX μ A nm S E tt) (hc : 1 ≤ c) (hz : 10 ≤ z)
    (hp : ∀ q μ', kd μ q = 0 → kd μ' q = 102 → al μ' q = s0 S 0 → (∀ i, i < s0 S 0 → ai μ' q i = si S 0 i) → XX μ' A (upN nm q (9, 0)) (u0 S 0 0) E tt → Off (fun a => a = A 0 0) μ μ' → post (some q) μ') : wp_X10_takeRow c z μ (A 0 0) post := by
  obtain ⟨hJ, hM, hT, hC⟩ := id h
  obtain ⟨g1, g2, g3, g4, g5, g6, g7, g8, g9, g10, g11⟩ := id hM
  obtain ⟨hN, hL, -⟩ := id hJ.1
  refine ⟨g1, A 0 14, g2, c, z, Nat.le_refl _, Nat.le_refl _, ?_⟩
  rw [g3, if_neg (nI_pos (by omega))]
  refine x_copyI g8 g9 g10 (by decide) hc hz (fun q μ3 hq o3 k3 l3 a3 _ μ9 e9 => ?_)
  have n14 : ¬ A 0 14 = A 0 0 := hN.ne (Us0 (by decide)) (Us0 (by decide)) (fun z => absurd z.2 (by decide))
  have q0 : ¬ q = A 0 0 := fun e => by rw [← e, hq] at g1; cases g1
  have o9 : Off (fun a => a = A 0 0) μ3 μ9 := by rw [e9]; exact Off_sfi
  have ho : Off (fun a => a = A 0 0) μ μ9 := (o3.sub (fun a _ q => q.elim)).tr o9
  obtain ⟨x1, x2, -⟩ := o3.2.2 (A 0 0) (by omega) (fun z => z)
  obtain ⟨-, -, y3, y4, -⟩ := ho.2.2 (A 0 14) (by omega) n14
  have R : XX μ9 A nm (u0 S 0 0) E tt := h.mach ho (fun J => J.row0) ⟨ho.kd g1, by rw [e9, fr_sfi, x2]; exact g2, by rw [e9, fi_sfi_e]; rfl, by rw [e9, fr_sfi, x2]; exact g4, by rw [e9, fi_sfi_k (by decide), x1]; exact g5, by rw [e9, fr_sfi, x2]; exact g6, by rw [e9, fr_sfi, x2]; exact g7, ho.kd g8, by rw [y3]; exact g9, Nat.zero_le _, fun i hi => absurd hi (Nat.not_lt_zero i)⟩ rfl rfl hC
  refine hp q μ9 hq (by rw [e9]; exact k3) (by rw [e9]; exact l3) (fun i hi => ?_) (R.nm (RN.up (μ := μ) R.1.1.1 (LV.pq (S := S) hL rfl rfl rfl rfl) hq)) ho
  rw [e9]
  show ai μ3 q i = si S 0 i
  rw [a3 i hi]; exact g11 i hi
theorem inR_lt {n : Nat} {a : Int32} (h : n ≤ 2000) : inR a (nI n - 1) ↔ 0 ≤ a ∧ a < nI n := by
  unfold inR
  have e : (nI n - 1).toInt = (n : Int) - 1 := by
    rw [Int32.toInt_sub, nI_toInt (by omega), show (1 : Int32).toInt = 1 by decide]
    apply Int.bmod_eq_of_le
    · omega
    · omega
  rw [Int32.le_iff_toInt_le, Int32.le_iff_toInt_le, Int32.lt_iff_toInt_lt, e, nI_toInt (by omega)]
  omega
theorem inR_ex {n : Nat} {a : Int32} (h : n ≤ 2000) (hr : inR a (nI n - 1)) : ∃ p, p < n ∧ a = nI p := by
  obtain ⟨h0, h1⟩ := (inR_lt h).mp hr
  obtain ⟨p, hp, ep⟩ := nI_of (Int32.not_lt.mpr h0)
  subst ep
  refine ⟨p, ?_, rfl⟩
  rw [Int32.lt_iff_toInt_lt, nI_toInt hp, nI_toInt (by omega)] at h1
  omega
theorem x_procAt {nm : Nat → Nat × Nat} {μ : Mem} {A : Ad} {S : Sp} {E tt : Nat → Nat} {a : Int32} {post : Option Nat → Mem → Prop} (h : XX μ A nm S E tt) (hy : ∀ p, p < s0 S 1 → a = nI p → post (some (A 3 p)) μ) (hn : ¬ inR a (nI (s0 S 1) - 1) → post none μ) : wp_X10_procedureAt μ (A 0 0) a post := by
  obtain ⟨hJ, hM, hT, hC⟩ := id h
  obtain ⟨g1, g2, g3, g4, -⟩ := id hM
  obtain ⟨hN, hL, hK, hH, hP, hE⟩ := id hJ.1
  have h60 := hJ.2.2.1.1.1
  refine ⟨g1, A 0 13, g4, hP.1.1, x_lsize hP.1 fun _ => x_within (fun y0 y1 _ => nz1 ⟨A 0 13, g4, hP.1.1, ?_⟩) (fun y _ => nz0 (hn fun q => y ((inR_lt (by omega)).mp q)))⟩
  obtain ⟨p, hp, ep⟩ := inR_ex (n := s0 S 1) (by omega) ((inR_lt (by omega)).mpr ⟨y0, y1⟩)
  subst ep
  exact x_lget hP.1 hp fun _ => ⟨A 3 p, rfl, (hP.2.1 p hp).1, hy p hp rfl⟩
theorem x_isLimit {μ : Mem} {a : Int32} {post : Int32 → Mem → Prop} (hy : inR a 20000 → post 1 μ) (hn : ¬ inR a 20000 → post 0 μ) : wp_X10_isLimit μ a post :=
  ⟨fun h => hn fun q => absurd h (Int32.not_lt.mpr q.1), fun h => ⟨fun h2 => hn fun q => absurd h2 (Int32.not_lt.mpr q.2), fun h2 => hy ⟨Int32.not_lt.mp h, Int32.not_lt.mp h2⟩⟩⟩
theorem x_mbegin {nm : Nat → Nat × Nat} {μ : Mem} {A : Ad} {S : Sp} {E tt : Nat → Nat} {p st hp : Int32} {c z : Nat} {post : Int32 → Mem → Prop} (h : XX μ A nm S E tt) (hc1 : 1 ≤ c) (hz1 : 10 ≤ z)
    (hc : okBeg S p st hp → UC (eBeg S E p.toNatClampNeg st.toNatClampNeg hp.toNatClampNeg) + 1 ≤ UC E + c) (hz : okBeg S p st hp → UZ (eBeg S E p.toNatClampNeg st.toNatClampNeg hp.toNatClampNeg) + 10 ≤ UZ E + z)
    (hy : okBeg S p st hp → ∀ μ' A' nm', XX μ' A' nm' (sp_begS S p.toNatClampNeg st.toNatClampNeg hp.toNatClampNeg) (eBeg S E p.toNatClampNeg st.toNatClampNeg hp.toNatClampNeg) tt → A' 0 0 = A 0 0 → KP μ nm μ' nm' → post 1 μ')
    (hn : ¬ okBeg S p st hp → ∀ μ' nm', XX μ' A nm' (u0 S 0 0) E tt → KP μ nm μ' nm' → post 0 μ') : wp_X10_begin c z μ (A 0 0) p st hp post := by
  refine ⟨h.2.1.1, 1, 10, hc1, hz1, x_takeRow h (Nat.le_refl _) (Nat.le_refl _) (fun q μ1 hq k1 l1 a1 X1 o1 _ => ?_)⟩
  have kp1 : KP μ nm μ1 (upN nm q (9, 0)) := KP.of o1 (fun a z e => by rw [z, h.1.1.1 0 0 (Us0 (by decide))] at e; cases e) (upN_kp hq)
  have fl : ¬ okBeg S p st hp → post 0 μ1 := fun y => hn y μ1 _ X1 kp1
  refine x_procAt X1 (fun p' hp' ep _ => ⟨fun z => absurd z (by simp), fun x12 e12 => ?_⟩) (fun y _ => ⟨fun _ => fl fun z => y z.1, fun x12 e12 => absurd e12 (by simp)⟩)
  cases e12
  obtain ⟨hJ, hM, hT, hC⟩ := id X1
  obtain ⟨hN, hL, hK, hH, hP, hE⟩ := id hJ.1
  have hW : WF S := by obtain ⟨-, -, W, -⟩ := hJ; exact W
  have hp' : p' < s0 S 1 := hp'
  have h60 : s0 S 1 ≤ 60 := hW.1.1
  obtain ⟨q1, q2, q3, q4, q5, q6, q7, q8, -⟩ := hP.2.1 p' hp'
  have q3 : fi μ1 7 1 (A 3 p') = nI (s1 S 1 p') := q3
  have q4 : fi μ1 7 2 (A 3 p') = nI (s1 S 2 p') := q4
  obtain ⟨-, sl1, sl2, sl3, -⟩ := hW.1.2.2.1 p' hp'
  have hs0 : s0 S 0 ≤ 10 := h.2.1.2.2.2.2.2.2.2.2.2.1
  subst ep
  have inp : inR (nI p') (nI (s0 S 1) - 1) := (inR_lt (by omega)).mpr ⟨Int32.not_lt.mp (nI_pos (by omega)), nI_lt hp' (by omega)⟩
  have fl : ¬ okBeg S (nI p') st hp → post 0 μ1 := fl
  refine ⟨q, rfl, Or.inr (Or.inl k1), q1, ?_⟩
  rw [l1, q4]
  refine ⟨fun e => ?_, fun e => fl fun z => e (by have := z.2.1; rw [nI_clamp (by omega)] at this; exact this)⟩
  refine x_isLimit (fun ist _ => nz1 (x_isLimit (fun ihp _ => nz1 ⟨q1, ?_⟩) (fun y _ => nz0 (fl fun z => y z.2.2.2.1)))) (fun y _ => nz0 (fl fun z => y z.2.2.1))
  rw [q3]
  intro _
  refine ⟨fun y => ?_, fun y => fl fun z => y (Int32.not_lt.mp (by have := z.2.2.2.2; rw [nI_clamp (by omega)] at this; exact this))⟩
  have ok : okBeg S (nI p') st hp := ⟨inp, by rw [nI_clamp (by omega)]; exact e, ist, ihp, by rw [nI_clamp (by omega)]; exact Int32.not_lt.mpr y⟩
  have hc := hc ok
  have hz := hz ok
  have hy := hy ok
  obtain ⟨ws, -, ws2, es⟩ := i32_rng (lo := 0) (hi := 20000) (by decide) (by decide) ist.1 ist.2
  obtain ⟨wh, -, wh2, eh⟩ := i32_rng (lo := 0) (hi := 20000) (by decide) (by decide) ihp.1 ihp.2
  subst es; subst eh
  rw [nI_clamp (by omega), nI_clamp (by omega), nI_clamp (by omega)] at hc hz hy
  have hsz : 2 + s1 S 1 p' ≤ ws := by
    rw [show (2 : Int32) = nI 2 from rfl, nI_add, Int32.le_iff_toInt_le, nI_toInt (by omega), nI_toInt (by omega)] at y
    omega
  have en : s0 S 0 = s1 S 2 p' := (nI_eq (by omega) (by omega)).mp e
  have nq : upN nm q (9, 0) q = (9, 0) := if_pos rfl
  refine ⟨A 0 1, hM.2.2.2.2.2.1, hE.1, c - 1, z - 10, Nat.le_refl _, Nat.le_refl _, ?_⟩
  refine x_start (S := S) (j := 0) hJ.1 hW hJ.2.2.2.2.1 hp' ws2 wh2 hsz en k1 l1 a1 nq (by omega) (by omega) (fun μ2 A2 nm2 J2 st2 _ => ?_)
  have we := wrL_e (S := sp_pushS (sp_clr S ws wh) p' 0 0) (f := fun k => k) (g := fun k _ => (si S 0 k).toInt64) (s0 S 0)
  have kr : KR (sp_pushS (sp_clr S ws wh) p' 0 0) (wrL (sp_pushS (sp_clr S ws wh) p' 0 0) (fun k => k) (fun k _ => (si S 0 k).toInt64) (s0 S 0)) := KR.wr _
  obtain ⟨r1, r2, r3, r4, r5, r6, r7⟩ := KR.tr (KR.push (S := sp_clr S ws wh) (p := p') (up := 0) (at' := 0)) kr
  refine hy μ2 A2 nm2 ⟨J2, (hM.st hN st2 (gE_n (by omega)) (gE_n (by omega))).cg r1 r2 (congrFun r5 0), hT.st hN hL st2 (fun j hj => gE_n (by omega)) ?_ ?_ r3 r7, ?_⟩ (st2.2.2.2.2.1 0 (by decide)) (kp1.tr (st2.kp gE_99))
  · exact (ePf_o (by omega) (by omega) (by omega)).trans rfl
  · exact (ePf_o (by omega) (by omega) (by omega)).trans rfl
  · unfold XCl sa
    rw [show s0 (sp_begS S p' ws wh) 2 = s0 S 2 from r2, show s0 (sp_begS S p' ws wh) 1 = s0 S 1 from r4, show s1 (sp_begS S p' ws wh) 5 = s1 S 5 from r6, show si (sp_begS S p' ws wh) = si S from r5]
    exact hC
