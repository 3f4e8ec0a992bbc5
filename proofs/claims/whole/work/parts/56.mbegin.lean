/-! the reference begins -/
def okBeg (S : Sp) (p st hp : Int32) : Prop := inR p (nI (s0 S 1) - 1) ∧ nI (s0 S 0) = nI (s1 S 2 p.toNatClampNeg) ∧ inR st 20000 ∧ inR hp 20000 ∧ ¬ st < 2 + nI (s1 S 1 p.toNatClampNeg)
/-- all cleared -/
def sp_clr (S : Sp) (st hp : Nat) : Sp := (fun k => if k = 1 ∨ k = 2 ∨ k = 16 then s0 S k else if k = 14 then st else if k = 15 then hp else if k = 17 then 1 else 0, s1 S, s2 S, si S, sv S, sw S)
def sp_begS (S : Sp) (p st hp : Nat) : Sp := u0 (u0 (wrL (sp_pushS (sp_clr S st hp) p 0 0) (fun k => k) (fun k _ => (si S 0 k).toInt64) (s0 S 0)) 8 0) 9 0
theorem m_beg_no {σ : MSt} {x1 x2 x3 x4 : Int32} {post : Int32 → MSt → Prop} (hp : post 0 σ) : wp_X11_begin_75 post σ x1 x2 x3 x4 0 := ⟨fun _ => hp, fun h => absurd rfl h⟩
theorem RM_clr {σ : MSt} {S : Sp} {tb st hp : Nat} (h : RMb σ S tb) (h0 : s0 S 0 = 0) (hst : st ≤ 20000) (hhp : hp ≤ 20000) :
    RMc (smi (smi (smi (smi (smi (smi (smi (smi (smi (smi (smi (smi (smi (smi σ 26 0) 40 0) 41 0) 19 0) 24 0) 25 0) 49 0) 47 0) 48 0) 46 0) 50 0) 44 0) 51 (nI st)) 52 (nI hp)) (sp_clr S st hp) 0 := by
  obtain ⟨h1, h2, h3, ⟨c1, c2, c3, c4, c5, c6, c7, c8, c9⟩, h5, h6⟩ := h
  have z7 : s0 (sp_clr S st hp) 7 = 0 := rfl
  have z6 : s0 (sp_clr S st hp) 6 = 0 := rfl
  have e1 : mi σ 2 = nI 0 := by rw [← h0]; exact h1.1
  refine ⟨⟨e1, by show 0 ≤ 10; omega, fun i hi => absurd hi (Nat.not_lt_zero i)⟩, h2, ⟨rfl, by show 0 ≤ 20000; omega, rfl, by show 0 ≤ 20000; omega, rfl, by show 0 ≤ 20000; omega, fun c hc => absurd hc (Nat.not_lt_zero c), fun c hc => absurd hc (Nat.not_lt_zero c)⟩, ⟨⟨rfl, by show 0 + 0 < 7000; omega, ⟨fun i j _ b => absurd b (Nat.not_lt_zero j), fun i b => absurd b (Nat.not_lt_zero i)⟩, fun t ht => absurd ht (Nat.not_lt_zero t)⟩, ⟨fun j k hj => absurd hj (Nat.not_lt_zero j), fun j hj => absurd hj (Nat.not_lt_zero j), ?_⟩, ?_, ?_, c5, fun j k hj => absurd hj (Nat.not_lt_zero j), fun i k hi => absurd hi (Nat.not_lt_zero i), fun j hj => absurd hj (Nat.not_lt_zero j)⟩, ⟨fun k hk => ?_, 0, fun _ => 0, rfl, Nat.le_refl _, fun m hm => absurd hm (Nat.not_lt_zero m), fun i j _ b => absurd b (Nat.not_lt_zero j), fun i b => absurd b (Nat.not_lt_zero i)⟩, ⟨rfl, by show 1 ≤ 7; omega, rfl, by show 0 ≤ 20000; omega, rfl, by show 0 ≤ 20000; omega, rfl, by show 0 ≤ 20000; omega, rfl, by show 0 ≤ 20000; omega, rfl, hst, rfl, hhp, h6.2.2.2.2.2.2.2.2.2.2.2.2.2.2⟩⟩
  · show s1 S 11 0 + 2 * 0 + 3 * 0 ≤ 20000
    omega
  · show (0 : Int32) = nI (s1 S 11 0 + 2 * 0 + 3 * 0)
    rw [c5]; rfl
  · show (0 : Int32) = nI (s1 S 11 0)
    rw [c5]; rfl
  · have hk : k < s1 S 11 0 := hk
    omega
theorem m_beg_loop {σ : MSt} {S : Sp} {n : Nat} {row : Nat → Int32} {post : Int32 → MSt → Prop} (hn : n ≤ 10) (h : RMc σ S 0) (h7 : s0 S 7 = 0) (h6 : s0 S 6 = 1) (h30 : ma σ 30 0 = 0) (hr : ∀ i, i < n → ma σ 1 i = row i) (hs : n ≤ s1 S 11 1) (hs2 : s1 S 11 1 ≤ 20000)
    (hp : ∀ σ', RMb σ' (u0 (u0 (wrL S (fun k => k) (fun k _ => (row k).toInt64) n) 8 0) 9 0) 0 → post 1 σ') : ∃ f, wp_X11_begin_164 post f σ (nI n) 0 := by
  have we := fun k => wrL_e (S := S) (f := fun k => k) (g := fun k _ => (row k).toInt64) k
  have key : ∀ d k σ', k + d = n → RMc σ' (wrL S (fun k => k) (fun k _ => (row k).toInt64) k) 0 → ma σ' 30 0 = 0 → (∀ i, i < n → ma σ' 1 i = row i) → wp_X11_begin_164 post (d + 1) σ' (nI n) (nI k) := by
    intro d
    induction d with
    | zero =>
      intro k σ' hk hR h30 hr
      have e : k = n := by omega
      subst e
      rw [wp_X11_begin_164]
      refine ⟨fun _ σ21 e21 => hp σ21 ?_, fun z => absurd (nI_le (Nat.le_refl _) (by omega)) z⟩
      rw [e21]
      have hR2 : RMc (smi σ' 45 0) (u0 (u0 (wrL S (fun k => k) (fun k _ => (row k).toInt64) k) 8 0) 9 0) 0 := hR
      obtain ⟨e0, e1, -⟩ := we k
      refine hR2.full fun _ => ⟨?_, fun k' hk' => ?_⟩
      · show 0 < s0 (wrL S (fun k => k) (fun k _ => (row k).toInt64) k) 6
        rw [e0, h6]; decide
      · have hk' : FK (s0 (wrL S (fun k => k) (fun k _ => (row k).toInt64) k) 7) (s1 (wrL S (fun k => k) (fun k _ => (row k).toInt64) k) 15) 0 k' := hk'
        rw [e0, h7] at hk'
        have : k' = 0 := by have := hk'.1; omega
        subst this
        exact ⟨rfl, h30⟩
    | succ d ih =>
      intro k σ' hk hR h30 hr
      rw [wp_X11_begin_164, nI_clamp (show k < 2 ^ 31 by omega), hr k (by omega)]
      refine ⟨fun z => absurd z (nI_ge (by omega) (by omega)), fun _ => ⟨vp_in_nI (by omega) (by decide), vp_in_nI (by omega) (by decide), fun σ22 e22 v23 e23 => ?_⟩⟩
      rw [e23, nI_1]
      refine ih (k + 1) σ22 (by omega) ?_ (by rw [e22]; exact h30) (by rw [e22]; exact hr)
      rw [e22]
      refine RM_free hR fun i hi => ?_
      rw [(we k).1, h7] at hi
      omega
  exact ⟨_, key n 0 σ (by omega) h h30 hr⟩
theorem m_begin {σ : MSt} {S : Sp} {p st hp : Int32} {post : Int32 → MSt → Prop} (h : RM σ S) (hy : okBeg S p st hp → ∀ σ', RM σ' (sp_begS S p.toNatClampNeg st.toNatClampNeg hp.toNatClampNeg) → post 1 σ') (hn : ¬ okBeg S p st hp → ∀ σ', RM σ' (u0 S 0 0) → post 0 σ') : wp_X11_begin σ p st hp post := by
  have h0 := h.thr (v := 0)
  intro σ1 e1
  rw [← e1] at h0
  have hrow : s0 S 0 ≤ 10 := h0.1.2.1
  refine m_taken h0 (fun σ2 h2 hr2 => ?_)
  have hnp : s0 S 1 ≤ 60 := h2.2.1.2.1
  have e3 : mi σ2 3 = nI (s0 S 1) := h2.2.1.1
  rw [e3]
  refine m_isWithin (fun qp => nz1 ?_) (fun qp => nz0 (m_beg_no (hn (fun z => qp z.1) σ2 h2)))
  have h1 : 1 ≤ s0 S 1 := by
    rcases Nat.eq_zero_or_pos (s0 S 1) with z | z
    · rw [z] at qp
      have a := Int32.le_iff_toInt_le.mp qp.1
      have b := Int32.le_iff_toInt_le.mp qp.2
      have c : (0 : Int32).toInt = 0 := by decide
      have d : (nI 0 - 1).toInt = -1 := by decide
      omega
    · exact z
  have qp0 := qp
  rw [show nI (s0 S 1) - 1 = nI (s0 S 1 - 1) by rw [show (1 : Int32) = nI 1 from rfl, pk_sub h1]] at qp
  obtain ⟨j, -, hj, ej⟩ := i32_rng (lo := 0) (hi := s0 S 1 - 1) (by decide) (by omega) qp.1 qp.2
  subst ej
  have ejc : (nI j).toNatClampNeg = j := nI_clamp (by omega)
  have hjl : j < s0 S 1 := by omega
  obtain ⟨-, -, f3, f4, f5, f6, f7, -⟩ := h2.2.1.2.2.2.2.1 j hjl
  have f3 : ma σ2 5 j = nI (s1 S 1 j) := f3
  have f4 : 1 ≤ s1 S 1 j := f4
  have f5 : s1 S 1 j ≤ 40 := f5
  have f6 : ma σ2 6 j = nI (s1 S 2 j) := f6
  have f7 : s1 S 2 j ≤ s1 S 1 j := f7
  have vj := vp_in_nI (n := j) (N := 60) (by omega) (by decide)
  rw [ejc, f6]
  refine ⟨vj, fun qn => m_isWithin (fun qs => nz1 (m_isWithin (fun qh => nz1 ⟨vj, fun ql => ?_, fun ql => ?_⟩) (fun qh => nz0 (m_beg_no (hn (fun z => qh z.2.2.2.1) σ2 h2))))) (fun qs => nz0 (m_beg_no (hn (fun z => qs z.2.2.1) σ2 h2))), fun qn => m_beg_no (hn (fun z => qn (by have := z.2.1; rw [ejc] at this; exact this)) σ2 h2)⟩
  · rw [f3] at ql
    exact m_beg_no (hn (fun z => z.2.2.2.2 (by rw [ejc]; exact ql)) σ2 h2)
  · rw [f3] at ql
    have hok : okBeg S (nI j) st hp := ⟨qp0, by rw [ejc]; exact qn, qs, qh, by rw [ejc]; exact ql⟩
    obtain ⟨a, -, ha, ea⟩ := i32_rng (lo := 0) (hi := 20000) (by decide) (by decide) qs.1 qs.2
    obtain ⟨b, -, hb, eb⟩ := i32_rng (lo := 0) (hi := 20000) (by decide) (by decide) qh.1 qh.2
    subst ea; subst eb
    have hy := hy hok
    rw [ejc, nI_clamp (by omega), nI_clamp (by omega)] at hy
    have hsz : 2 + s1 S 1 j ≤ a := by
      rw [show (2 : Int32) = nI 2 from rfl, nI_add] at ql
      rcases Nat.lt_or_ge a (2 + s1 S 1 j) with q | q
      · exact absurd (nI_lt q (by omega)) ql
      · exact q
    have en : s0 S 0 = s1 S 2 j := (nI_eq (by omega) (by omega)).mp qn
    refine ⟨fun z => absurd z (by decide), fun _ σ6 e6 σ7 e7 σ8 e8 σ9 e9 σ10 e10 σ11 e11 σ12 e12 σ13 e13 σ14 e14 σ15 e15 σ16 e16 σ17 e17 σ18 e18 σ19 e19 => ?_⟩
    have hC := RM_clr (st := a) (hp := b) h2 rfl ha hb
    rw [← e6, ← e7, ← e8, ← e9, ← e10, ← e11, ← e12, ← e13, ← e14, ← e15, ← e16, ← e17, ← e18, ← e19] at hC
    have hS : sp_clr (u0 S 0 0) a b = sp_clr S a b := by
      refine Prod.ext (funext fun k => ?_) rfl
      show (if k = 1 ∨ k = 2 ∨ k = 16 then (if k = 0 then 0 else s0 S k) else _) = (if k = 1 ∨ k = 2 ∨ k = 16 then s0 S k else _)
      by_cases hk : k = 1 ∨ k = 2 ∨ k = 16
      · rw [if_pos hk, if_pos hk, if_neg (by omega)]
      · rw [if_neg hk, if_neg hk]
    rw [hS] at hC
    have c5 : s1 S 11 0 = 0 := hC.2.2.2.1.2.2.2.2.1
    have hr19 : ∀ i, i < s0 S 0 → ma σ19 1 i = si S 0 i := fun i hi => by
      rw [e19, e18, e17, e16, e15, e14, e13, e12, e11, e10, e9, e8, e7, e6]; exact hr2 i hi
    have hszc : szS (sp_clr S a b) = 0 := by
      show s1 S 11 0 + 2 * 0 + 3 * 0 = 0
      omega
    refine m_pushFrame (up := 0) (at' := 0) hC hjl (by rw [hszc]; show 0 + (2 + s1 S 1 j) ≤ 20000; omega) (fun _ => rfl) (fun u ku hu => absurd hu (by omega)) (fun z => absurd rfl z) (fun σ20 h20 _ h30 hro => ?_)
    have y11 : s1 (sp_pushS (sp_clr S a b) j 0 0) 11 1 = s1 S 1 j := by
      have : s1 (sp_pushS (sp_clr S a b) j 0 0) 11 1 = s1 S 11 0 + s1 S 1 j := by simp [s1, sp_pushS, up2, sp_clr, s0]
      rw [this, c5, Nat.zero_add]
    refine m_beg_loop (row := si S 0) hrow h20 rfl rfl h30 (fun i hi => by rw [hro]; exact hr19 i hi) (by rw [y11]; omega) (by rw [y11]; omega) (fun σ' h' => hy σ' ?_)
    have e10' : s0 (sp_begS S j a b) 10 = 0 := congrFun (wrL_e (S := sp_pushS (sp_clr S a b) j 0 0) _).1 10
    show RMb σ' _ (8 * s0 (sp_begS S j a b) 10)
    rw [e10']
    exact h'
