/-! the builder of texts -/
def SB (μ : Mem) (o it cap : Nat) (l : List Nat) : Prop := kd μ o = 1 ∧ fr μ 0 0 o = some it ∧ fi μ 0 1 o = 0 ∧ fi μ 0 3 o = nI l.length ∧ kd μ it = 101 ∧ al μ it = cap ∧ 16 ≤ cap ∧ cap ≤ 100000 ∧ l.length ≤ cap ∧ (∀ i, i < cap → ∃ b, b < 128 ∧ ai μ it i = nI b) ∧ ∀ i, i < l.length → ai μ it i = nI (l.getD i 0)
theorem SB.off {D : Nat → Prop} {μ μ' : Mem} {o it cap : Nat} {l : List Nat} (h : SB μ o it cap l) (hf : Off D μ μ') (h1 : ¬ D o) (h2 : ¬ D it) : SB μ' o it cap l := by
  obtain ⟨g1, g2, g3, g4, g5, g6, g7, g8, g9, g10, g11⟩ := h
  obtain ⟨a1, a2, -⟩ := hf.2.2 o (by omega) h1
  obtain ⟨-, -, b3, b4, -⟩ := hf.2.2 it (by omega) h2
  exact ⟨hf.kd g1, by rw [a2]; exact g2, by rw [a1]; exact g3, by rw [a1]; exact g4, hf.kd g5, by rw [b3]; exact g6, g7, g8, g9, fun i hi => by rw [b4]; exact g10 i hi, fun i hi => by rw [b4]; exact g11 i hi⟩
theorem sh0r (x : Int32) : x >>> ((0 : Int32) &&& 31) = x := by
  rw [show (0 : Int32) &&& 31 = 0 by decide]
  simp
theorem sh0l (x : Int32) : x <<< ((0 : Int32) &&& 31) = x := by
  rw [show (0 : Int32) &&& 31 = 0 by decide]
  simp
set_option maxRecDepth 100000 in
theorem byteS : ∀ c, c < 128 → vp_nar .byte (Int8.toInt32 (Int32.toInt8 (nI c))) = nI c := by decide
set_option maxRecDepth 100000 in
theorem byteN : ∀ c, c < 128 → vp_nar .byte (nI c) = nI c := by decide
set_option maxRecDepth 100000 in
theorem byteF : ∀ c, c < 128 → fits .byte (.int (nI c)) = true := by decide
theorem x_copyB {μ : Mem} {a n N c z : Nat} {post : Option Nat → Mem → Prop} (ha : kd μ a = 101) (hl : al μ a = n) (hN : n < N) (hN2 : N ≤ 1048576) (hc : 1 ≤ c) (hz : N ≤ z) (hf : ∀ i, i < n → ∃ b, b < 128 ∧ ai μ a i = nI b)
    (hp : ∀ q, kd μ q = 0 → post (some q) (cpi (nar μ 101 q N) a 0 q 0 n)) : wp_J7_copyOf_9075b c z μ a (nI N) post := by
  refine ⟨Or.inl ha, fun h => ?_, fun _ => ?_⟩
  · rw [hl] at h
    exact absurd ((nI_eq (by omega) (by omega)).mp h) (by omega)
  · rw [nI_clamp (by omega)]
    refine ⟨nI_pos (by omega), hN2, hc, hz, fun q μ1 hq e1 => ?_⟩
    have hne : a ≠ q := fun e => by rw [e, hq] at ha; cases ha
    subst e1
    have k1 : kd (nar μ 101 q N) a = 101 := by rw [kd_narE, if_neg hne]; exact ha
    have l1 : al (nar μ 101 q N) a = n := by rw [al_nar, if_neg hne]; exact hl
    have l2 : al (nar μ 101 q N) q = N := by rw [al_nar, if_pos rfl]
    rw [l1, l2]
    have hm : (if nI N < nI n then nI N else nI n) = nI n := if_neg (nI_nlt (by omega) (by omega))
    refine ⟨Or.inl k1, k1, by decide, by decide, ?_⟩
    simp only [hm]
    rw [nI_clamp (by omega)]
    refine ⟨nI_pos (by omega), by show 0 + n ≤ n; omega, by show 0 + n ≤ N; omega, fun i hi => ?_, fun μ6 e6 => ?_⟩
    · rw [show Int32.toNatClampNeg 0 + i = i by show 0 + i = i; omega, ai_nar, if_neg hne]
      obtain ⟨b, hb, eb⟩ := hf i hi
      rw [eb]
      exact byteF b hb
    · subst e6
      exact hp q hq
def bcap (cap m : Nat) : Nat := if m ≤ cap then cap else if m < 2 * cap + 2 then 2 * cap + 2 else m
theorem x_bens {μ : Mem} {o it cap m c z : Nat} {l : List Nat} {post : Mem → Prop} (h : SB μ o it cap l) (hm : m ≤ 100000) (hm2 : 2 * cap + 2 ≤ 100000) (hc : cap < m → 1 ≤ c ∧ bcap cap m ≤ z)
    (hp : ∀ μ' it', SB μ' o it' (bcap cap m) l → Off (fun a => a = o) μ μ' → (it' = it ∨ kd μ it' = 0) → post μ') : wp_J5_ensureCapacityInternal_d00df c z μ o (nI m) post := by
  obtain ⟨g1, g2, g3, g4, g5, g6, g7, g8, g9, g10, g11⟩ := id h
  refine ⟨g1, it, g2, Or.inl g5, fun v3 e3 => ?_⟩
  rw [g3, sh0r, g6] at e3
  subst e3
  rcases Nat.lt_or_ge cap m with r | r
  · rw [pk_sub (by omega)]
    have eb : bcap cap m = (if m < 2 * cap + 2 then 2 * cap + 2 else m) := if_neg (by omega)
    obtain ⟨c1, c2⟩ := hc r
    refine ⟨fun q => absurd q (nI_nle (by omega) (by omega)), fun _ => ⟨it, g2, g1, it, g2, Or.inl g5, fun v3 e3 v4 e4 v5 e5 v1 e1 => ?_⟩⟩
    rw [g6] at e3
    rw [g3, sh0l] at e4
    subst e3; subst e4
    rw [pk_sub (by omega)] at e5
    subst e5
    rw [g3, sh0l, show (2 : Int32) = nI 2 from rfl, nI_add] at e1
    have e1' : v1 = nI (bcap cap m) := by
      rw [e1, eb]
      by_cases q : m < 2 * cap + 2
      · rw [if_pos q, if_pos (nI_lt (by omega) (by omega)), nI_add, show cap + (cap + 2) = 2 * cap + 2 by omega]
      · rw [if_neg q, if_neg (nI_nlt (by omega) (by omega)), nI_add, show cap + (m - cap) = m by omega]
    have b1 : cap < bcap cap m := by rw [eb]; split <;> omega
    have b2 : bcap cap m ≤ 100000 := by rw [eb]; split <;> omega
    subst e1'
    refine ⟨fun q => absurd q (nI_nle (by omega) (by omega)), fun _ => ⟨fun q => absurd q (by rw [show (2147483639 : Int32) = nI 2147483639 from rfl]; exact nI_nlt (by omega) (by omega)), fun _ _ => ⟨fun q => ?_, fun _ _ => ⟨c, z, Nat.le_refl _, Nat.le_refl _, ?_⟩⟩⟩⟩
    · rw [show (2147483647 : Int32) = nI 2147483647 from rfl] at q
      have := (nI_eq (by omega) (by omega)).mp q
      omega
    · rw [g3, sh0r, sh0l]
      refine x_copyB g5 g6 b1 (by omega) c1 (by omega) g10 (fun q hq _ μ15 e15 => ?_)
      have nq : ¬ o = q := fun e => by rw [e, hq] at g1; cases g1
      have ni : ¬ it = q := fun e => by rw [e, hq] at g5; cases g5
      have a0 : ∀ i, i < cap → ai (cpi (nar μ 101 q (bcap cap m)) it 0 q 0 cap) q i = ai μ it i := fun i hi => by
        rw [ai_cpi, if_pos rfl]
        show (if 0 ≤ i ∧ i < 0 + cap then ai (nar μ 101 q (bcap cap m)) it (0 + (i - 0)) else _) = _
        rw [if_pos (by omega), ai_nar, if_neg ni, show 0 + (i - 0) = i by omega]
      have a1 : ∀ i, ¬ i < cap → ai (cpi (nar μ 101 q (bcap cap m)) it 0 q 0 cap) q i = 0 := fun i hi => by
        rw [ai_cpi, if_pos rfl]
        show (if 0 ≤ i ∧ i < 0 + cap then _ else ai (nar μ 101 q (bcap cap m)) q i) = _
        rw [if_neg (by omega), ai_nar, if_pos rfl]
      refine hp μ15 q ?_ ?_ (Or.inr hq)
      · rw [e15]
        refine ⟨?_, by rw [fr_sfr_e], by rw [fi_sfr]; exact g3, by rw [fi_sfr]; exact g4, ?_, ?_, by omega, b2, by omega, fun i hi => ?_, fun i hi => ?_⟩
        · show (if o = q then 101 else kd μ o) = 1
          rw [if_neg nq]; exact g1
        · show (if q = q then 101 else kd μ q) = 101
          rw [if_pos rfl]
        · show (if q = q then bcap cap m else al μ q) = bcap cap m
          rw [if_pos rfl]
        · show ∃ b, b < 128 ∧ ai (cpi (nar μ 101 q (bcap cap m)) it 0 q 0 cap) q i = nI b
          rcases Nat.lt_or_ge i cap with y | y
          · rw [a0 i y]; exact g10 i y
          · rw [a1 i (by omega)]; exact ⟨0, by decide, rfl⟩
        · show ai (cpi (nar μ 101 q (bcap cap m)) it 0 q 0 cap) q i = _
          rw [a0 i (by omega)]; exact g11 i hi
      · refine ⟨fun a ha => ?_, fun a ha => ?_, fun a ha hd => ?_⟩
        · have : ¬ a = q := fun e => ha (by rw [e]; exact hq)
          rw [e15]
          show (if a = q then 101 else kd μ a) = kd μ a
          rw [if_neg this]
        · rw [e15] at ha
          have ha : (if a = q then 101 else kd μ a) = 106 := ha
          by_cases e : a = q
          · rw [if_pos e] at ha; cases ha
          · rw [if_neg e] at ha
            refine ⟨ha, ?_⟩
            rw [e15]
            show (if a = q then bcap cap m else al μ a) = al μ a
            rw [if_neg e]
        · have na : ¬ a = q := fun e => ha (by rw [e]; exact hq)
          rw [e15]
          refine ⟨fun c k => rfl, fun c k => ?_, ?_, fun i => ?_, fun i => ?_, fun i => ?_⟩
          · show (if c = 0 ∧ k = 0 ∧ a = o then some q else fr μ c k a) = fr μ c k a
            rw [if_neg (fun z => hd z.2.2)]
          · show (if a = q then bcap cap m else al μ a) = al μ a
            rw [if_neg na]
          · show (if a = q then _ else (if a = q then 0 else ai μ a i)) = ai μ a i
            rw [if_neg na, if_neg na]
          · show (if a = q then 0 else aj μ a i) = aj μ a i
            rw [if_neg na]
          · show (if a = q then none else ar μ a i) = ar μ a i
            rw [if_neg na]
  · have eb : bcap cap m = cap := if_pos r
    rw [eb] at hp
    refine ⟨fun _ => hp μ it h (Off.rf μ) (Or.inl rfl), fun q => absurd ?_ q⟩
    rw [Int32.le_iff_toInt_le, Int32.toInt_sub, nI_toInt (by omega), nI_toInt (by omega)]
    have : (0 : Int32).toInt = 0 := by decide
    rw [this]
    have hb : ((m : Int) - (cap : Int)).bmod (2 ^ 32) = (m : Int) - cap := by
      apply Int.bmod_eq_of_le
      · omega
      · omega
    rw [hb]
    omega
