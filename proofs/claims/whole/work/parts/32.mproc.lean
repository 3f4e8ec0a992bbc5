/-! the reference's procedure -/
/-- a row copied into row field k from place b on -/
def sro (σ : MSt) (k b t : Nat) (row : Nat → Int32) : MSt := (σ.1, fun k' i => if k' = k ∧ b ≤ i ∧ i < b + t then row (i - b) else σ.2.1 k' i, σ.2.2)
theorem sro_0 {σ : MSt} {k b : Nat} {row : Nat → Int32} : sro σ k b 0 row = σ := by
  refine mst_ext (fun _ => rfl) ?_ rfl
  funext k' i
  show (if k' = k ∧ b ≤ i ∧ i < b + 0 then row (i - b) else ma σ k' i) = ma σ k' i
  rw [if_neg (fun q => by omega)]
theorem sro_s {σ : MSt} {k b t : Nat} {row : Nat → Int32} : sma (sro σ k b t row) k (b + t) (row t) = sro σ k b (t + 1) row := by
  refine mst_ext (fun _ => rfl) ?_ rfl
  funext k' i
  show (if k' = k ∧ i = b + t then row t else if k' = k ∧ b ≤ i ∧ i < b + t then row (i - b) else ma σ k' i) = (if k' = k ∧ b ≤ i ∧ i < b + (t + 1) then row (i - b) else ma σ k' i)
  by_cases h1 : k' = k
  · by_cases h2 : i = b + t
    · rw [if_pos ⟨h1, h2⟩, if_pos ⟨h1, by omega, by omega⟩, show i - b = t by omega]
    · rw [if_neg (fun q => h2 q.2)]
      by_cases h3 : b ≤ i ∧ i < b + t
      · rw [if_pos ⟨h1, h3⟩, if_pos ⟨h1, h3.1, by omega⟩]
      · rw [if_neg (fun q => h3 q.2), if_neg (fun q => h3 ⟨q.2.1, by omega⟩)]
  · rw [if_neg (fun q => h1 q.1), if_neg (fun q => h1 q.1), if_neg (fun q => h1 q.1)]
def okProc (S : Sp) (sl ins : Int32) : Prop := s0 S 1 < 60 ∧ (1 ≤ sl ∧ sl ≤ 40) ∧ (0 ≤ ins ∧ ins ≤ sl) ∧ s0 S 0 ≤ 8 ∧ ¬ 11 ≤ nI (s0 S 0) + ins ∧ ∀ i, i < s0 S 0 → 0 ≤ si S 0 i ∧ si S 0 i ≤ sl - 1
def sp_procS (S : Sp) (b : Nat) (sl ins : Int32) : Sp :=
  (va_up (va_up (s0 S) 0 0) 1 (s0 S 1 + 1), up2 (up2 (up2 (up2 (up2 (s1 S) 0 (s0 S 1) b) 1 (s0 S 1) sl.toNatClampNeg) 2 (s0 S 1) ins.toNatClampNeg) 3 (s0 S 1) (s0 S 0)) 4 (s0 S 1) 0,
   fun k i j => if k = 0 ∧ i = s0 S 1 then (si S 0 j).toNatClampNeg else s2 S k i j, si S, sv S, sw S)
theorem m_proc_loop {σ : MSt} {n p : Nat} {row : Nat → Int32} {post : Int32 → MSt → Prop} (hn : n ≤ 8) (hp : p < 60) (hr : ∀ i, i < n → ma σ 1 i = row i) (h3 : mi σ 3 = nI p)
    (hq : post (nI p) (smi (sma (sro σ 8 (8 * p) n row) 9 p 0) 3 (nI (p + 1)))) : ∀ d t, t + d = n → wp_X11_procedure_121 post (d + 1) (sro σ 8 (8 * p) t row) (nI n) (nI p) (nI t) := by
  intro d
  induction d with
  | zero =>
    intro t ht
    have e : t = n := by omega
    subst e
    rw [wp_X11_procedure_121]
    refine ⟨fun _ => ⟨vp_in_nI hp (by decide), fun σ9 e9 σ10 e10 => ?_⟩, fun h => absurd (nI_le (Nat.le_refl _) (by omega)) h⟩
    rw [nI_clamp (by omega)] at e9
    have e3 : mi σ9 3 = nI p := by rw [e9]; exact h3
    rw [e10, e3, nI_1, e9]; exact hq
  | succ d ih =>
    intro t ht
    rw [wp_X11_procedure_121]
    have e8 : (8 : Int32) * nI p + nI t = nI (8 * p + t) := by rw [show (8 : Int32) = nI 8 from rfl, pk_mul, nI_add]
    refine ⟨fun h => absurd h (nI_ge (by omega) (by omega)), fun _ => ⟨vp_in_nI (by omega) (by omega), ?_⟩⟩
    rw [e8, nI_clamp (by omega), nI_clamp (by omega)]
    refine ⟨vp_in_nI (by omega) (by omega), fun σ11 e11 v e => ?_⟩
    have e1 : ma (sro σ 8 (8 * p) t row) 1 t = row t := hr t (by omega)
    rw [e1, sro_s] at e11
    rw [e, nI_1, e11]
    exact ih (t + 1) (by omega)
theorem i32_rng {x : Int32} {lo hi : Nat} (hlo : lo < 2 ^ 31) (hhi : hi < 2 ^ 31) (h1 : nI lo ≤ x) (h2 : x ≤ nI hi) : ∃ j, lo ≤ j ∧ j ≤ hi ∧ x = nI j := by
  have a := Int32.le_iff_toInt_le.mp h1
  have b := Int32.le_iff_toInt_le.mp h2
  rw [nI_toInt hlo] at a
  rw [nI_toInt hhi] at b
  have hx : ¬ x < 0 := fun q => by
    have c := Int32.lt_iff_toInt_lt.mp q
    have z : (0 : Int32).toInt = 0 := rfl
    omega
  obtain ⟨j, hj, ej⟩ := nI_of hx
  subst ej
  rw [nI_toInt hj] at a b
  exact ⟨j, by omega, by omega, rfl⟩
theorem nar_bool {b : Nat} (h : b ≤ 1) : vp_nar .boolean (nI b) = nI b := by
  rcases (show b = 0 ∨ b = 1 by omega) with e | e <;> subst e <;> decide
theorem m_proc_no {σ : MSt} {x1 x2 x3 x4 : Int32} {post : Int32 → MSt → Prop} (hp : post (-1) σ) : wp_X11_procedure_70 post σ x1 x2 x3 x4 0 := ⟨fun _ => hp, fun h => absurd rfl h⟩
theorem m_procedure {σ : MSt} {S : Sp} {b : Nat} {sl ins : Int32} {post : Int32 → MSt → Prop} (h : RM σ S) (hb : b ≤ 1) (hy : okProc S sl ins → ∀ σ', RM σ' (sp_procS S b sl ins) → post (nI (s0 S 1)) σ') (hn : ¬ okProc S sl ins → ∀ σ', RM σ' (u0 S 0 0) → post (-1) σ') : wp_X11_procedure σ (nI b) sl ins post := by
  have h0 := h.thr (v := 0)
  have hn10 : s0 S 0 ≤ 10 := h.1.2.1
  intro σ1 e1
  rw [← e1] at h0
  refine m_taken h0 fun σ2 h2 hrow => ?_
  have hnp : mi σ2 3 = nI (s0 S 1) := h2.2.1.1
  have hnp60 : s0 S 1 ≤ 60 := h.2.1.2.1
  have no : ¬ okProc S sl ins → post (-1) σ2 := fun q => hn q σ2 h2
  rw [hnp]
  refine ⟨fun hq => m_proc_no (no fun k => absurd hq (by rw [show (60 : Int32) = nI 60 from rfl]; exact nI_ge k.1 (by decide))), fun hq => ?_⟩
  have hp60 : s0 S 1 < 60 := by
    rcases Nat.lt_or_ge (s0 S 1) 60 with q | q
    · exact q
    · exact absurd (nI_le q (by omega)) hq
  refine m_isWithin (fun hs => ⟨fun z => absurd z (by decide), fun _ => ?_⟩) (fun hs => ⟨fun _ => m_proc_no (no fun k => hs k.2.1), fun z => absurd rfl z⟩)
  refine m_isWithin (fun hi => ⟨fun z => absurd z (by decide), fun _ => ?_⟩) (fun hi => ⟨fun _ => m_proc_no (no fun k => hi k.2.2.1), fun z => absurd rfl z⟩)
  refine ⟨fun h9 => m_proc_no (no fun k => absurd h9 (by rw [show (9 : Int32) = nI 9 from rfl]; exact nI_ge (by have := k.2.2.2.1; omega) (by decide))), fun h9 => ?_⟩
  have hr8 : s0 S 0 ≤ 8 := by
    rcases Nat.lt_or_ge 8 (s0 S 0) with q | q
    · exact absurd (nI_le (a := 9) q (by omega)) h9
    · exact q
  refine ⟨fun h11 => m_proc_no (no fun k => k.2.2.2.2.1 h11), fun h11 => ?_⟩
  refine m_areSlots hn10 hrow (fun ha => ⟨fun z => absurd z (by decide), fun _ => ?_⟩) (fun ha => ⟨fun _ => m_proc_no (no fun k => ha k.2.2.2.2.2), fun z => absurd rfl z⟩)
  have ok : okProc S sl ins := ⟨hp60, hs, hi, hr8, h11, ha⟩
  obtain ⟨js, hs1, hs2, es⟩ := i32_rng (lo := 1) (hi := 40) (by decide) (by decide) hs.1 hs.2
  subst es
  obtain ⟨ji, hi1, hi2, ei⟩ := i32_rng (lo := 0) (hi := js) (by decide) (by omega) hi.1 hi.2
  subst ei
  have h10 : s0 S 0 + ji ≤ 10 := by
    rw [nI_add] at h11
    rcases Nat.lt_or_ge 10 (s0 S 0 + ji) with q | q
    · exact absurd (nI_le (a := 11) q (by omega)) h11
    · exact q
  have hsl : ∀ i, i < s0 S 0 → ∃ j, j < js ∧ si S 0 i = nI j := fun i hii => by
    have q := ha i hii
    rw [show nI js - 1 = nI (js - 1) by rw [show (1 : Int32) = nI 1 from rfl, pk_sub hs1]] at q
    obtain ⟨j, -, q2, q3⟩ := i32_rng (lo := 0) (hi := js - 1) (by decide) (by omega) q.1 q.2
    exact ⟨j, by omega, q3⟩
  refine ⟨fun z => absurd z (by decide), fun _ v4 e4 => ?_⟩
  rw [hnp] at e4
  subst e4
  refine ⟨vp_in_nI hp60 (by decide), fun σ5 e5 => ⟨vp_in_nI hp60 (by decide), fun σ6 e6 => ⟨vp_in_nI hp60 (by decide), fun σ7 e7 => ⟨vp_in_nI hp60 (by decide), fun σ8 e8 => ?_⟩⟩⟩⟩
  rw [nI_clamp (by omega)] at e5 e6 e7 e8
  rw [nar_bool hb] at e5
  have hrow8 : ∀ i, i < s0 S 0 → ma σ8 1 i = si S 0 i := fun i hii => by rw [e8, e7, e6, e5]; exact hrow i hii
  have h38 : mi σ8 3 = nI (s0 S 1) := by rw [e8, e7, e6, e5]; exact hnp
  refine ⟨s0 S 0 + 1, ?_⟩
  have key := m_proc_loop (σ := σ8) (row := si S 0) (post := post) hr8 hp60 hrow8 h38 ?_ (s0 S 0) 0 (by omega)
  · rw [sro_0, nI_0] at key; exact key
  refine hy ok _ ?_
  obtain ⟨r1, r2, r3, r4, r5, r6⟩ := h2
  obtain ⟨p1, p2, p3, p4, p5, p6⟩ := r2
  refine ⟨⟨by rw [e8, e7, e6, e5]; exact r1.1, Nat.zero_le _, fun i hii => absurd hii (Nat.not_lt_zero i)⟩, ⟨rfl, by show s0 S 1 + 1 ≤ 60; omega, by rw [e8, e7, e6, e5]; exact p3, p4, fun p hp => ?_, by rw [e8, e7, e6, e5]; exact p6⟩, by rw [e8, e7, e6, e5]; exact r3, ?_, by rw [e8, e7, e6, e5]; exact r5, by rw [e8, e7, e6, e5]; exact r6⟩
  · have hp : p < s0 S 1 + 1 := hp
    subst e8; subst e7; subst e6; subst e5
    by_cases q : p = s0 S 1
    · subst q
      have a0 : s1 (sp_procS S b (nI js) (nI ji)) 0 (s0 S 1) = b := by simp [s1, sp_procS, up2]
      have a1 : s1 (sp_procS S b (nI js) (nI ji)) 1 (s0 S 1) = js := by simp [s1, sp_procS, up2, nI_clamp (show js < 2 ^ 31 by omega)]
      have a2 : s1 (sp_procS S b (nI js) (nI ji)) 2 (s0 S 1) = ji := by simp [s1, sp_procS, up2, nI_clamp (show ji < 2 ^ 31 by omega)]
      have a3 : s1 (sp_procS S b (nI js) (nI ji)) 3 (s0 S 1) = s0 S 0 := by simp [s1, sp_procS, up2]
      have a4 : s1 (sp_procS S b (nI js) (nI ji)) 4 (s0 S 1) = 0 := by simp [s1, sp_procS, up2]
      rw [a0, a1, a2, a3, a4]
      refine ⟨by simp [ma, smi, sma, sro, up2], hb, by simp [ma, smi, sma, sro, up2], hs1, hs2, by simp [ma, smi, sma, sro, up2], hi2, by simp [ma, smi, sma, sro, up2], hr8, by omega, by simp [ma, smi, sma, sro, up2]; rfl, by omega, fun k hk => ?_, fun i hii => absurd hii (Nat.not_lt_zero i)⟩
      obtain ⟨j, hj, ej⟩ := hsl k hk
      have c1 : s2 (sp_procS S b (nI js) (nI ji)) 0 (s0 S 1) k = j := by simp [s2, sp_procS, ej, nI_clamp (show j < 2 ^ 31 by omega)]
      rw [c1]
      refine ⟨?_, hj⟩
      have : (8 * s0 S 1 ≤ 8 * s0 S 1 + k) ∧ (8 * s0 S 1 + k < 8 * s0 S 1 + s0 S 0) := ⟨by omega, by omega⟩
      simp [ma, smi, sma, sro, up2, hk, ej]
    · have hpl : p < s0 S 1 := by omega
      obtain ⟨f1, f2, f3, f4, f5, f6, f7, f8, f9, f10, f11, f12, f13, f14⟩ := p5 p hpl
      have b0 : ∀ k, s1 (sp_procS S b (nI js) (nI ji)) k p = s1 S k p := fun k => by simp [s1, sp_procS, up2, q]
      have b2 : ∀ k j, s2 (sp_procS S b (nI js) (nI ji)) k p j = s2 S k p j := fun k j => by simp [s2, sp_procS, q]
      simp only [b0, b2]
      refine ⟨by simp [ma, smi, sma, sro, up2, q]; exact f1, f2, by simp [ma, smi, sma, sro, up2, q]; exact f3, f4, f5, by simp [ma, smi, sma, sro, up2, q]; exact f6, f7, by simp [ma, smi, sma, sro, up2, q]; exact f8, f9, f10, by simp [ma, smi, sma, sro, up2, q]; exact f11, f12, fun k hk => ⟨?_, (f13 k hk).2⟩, fun i hii => ⟨by simp [ma, smi, sma, sro, up2]; exact (f14 i hii).1, (f14 i hii).2⟩⟩
      have hk8 : k < 8 := Nat.lt_of_lt_of_le hk f9
      have g : ¬ (8 * s0 S 1 ≤ 8 * p + k) := by omega
      simp [ma, smi, sma, sro, up2, g]
      exact (f13 k hk).1
  · obtain ⟨q1, q2, q3, q4, q5, q6, q7, q8, q9⟩ := r4
    subst e8; subst e7; subst e6; subst e5
    refine ⟨q1, ⟨q2.1, fun j hj => ?_, q2.2.2⟩, q3, q4, q5, q6, q7, q8, fun j hj => ?_⟩
    · obtain ⟨g1, g2, g3⟩ := q2.2.1 j hj
      have hne : ¬ s1 S 10 j = s0 S 1 := fun e => by have := q9 j hj; have t2 : s1 S 10 j < s0 S 1 := this; omega
      have b1 : s1 (sp_procS S b (nI js) (nI ji)) 1 (s1 S 10 j) = s1 S 1 (s1 S 10 j) := by simp [s1, sp_procS, up2]; intro e; exact absurd e hne
      refine ⟨g1, ?_, ?_⟩
      · show ma _ 5 (s1 S 10 j) = nI (s1 (sp_procS S b (nI js) (nI ji)) 1 (s1 S 10 j))
        rw [b1]
        have c5 : ma σ2 5 (s1 S 10 j) = nI (s1 S 1 (s1 S 10 j)) := g2
        rw [← c5]
        show (if 5 = 5 ∧ s1 S 10 j = s0 S 1 then nI js else ma σ2 5 (s1 S 10 j)) = _
        rw [if_neg (fun e => hne e.2)]
      · show s1 S 11 (j + 1) = s1 S 11 j + s1 (sp_procS S b (nI js) (nI ji)) 1 (s1 S 10 j)
        rw [b1]; exact g3
    · have : s1 S 10 j < s0 S 1 := q9 j hj
      show s1 S 10 j < s0 S 1 + 1
      omega
