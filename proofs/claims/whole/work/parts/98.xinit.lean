/-! the class as it is made -/
def NW (μ μ' : Mem) (L : List Nat) : Prop := L.Nodup ∧ ∀ a, a ∈ L → kd μ a = 0 ∧ kd μ' a ≠ 0
theorem NW.nil {μ μ' : Mem} : NW μ μ' [] := ⟨List.nodup_nil, fun a ha => absurd ha (by simp)⟩
theorem NW.up {μ μ1 μ2 : Mem} {L : List Nat} (h : NW μ μ1 L) (k : KM μ1 μ2) : NW μ μ2 L := ⟨h.1, fun a ha => ⟨(h.2 a ha).1, by rw [k a (h.2 a ha).2]; exact (h.2 a ha).2⟩⟩
theorem NW.down {μ μ1 μ2 : Mem} {L : List Nat} (h : NW μ1 μ2 L) (k : KM μ μ1) : NW μ μ2 L := ⟨h.1, fun a ha => ⟨by
  rcases Nat.eq_zero_or_pos (kd μ a) with r | r
  · exact r
  · have := k a (by omega)
    rw [(h.2 a ha).1] at this; omega, (h.2 a ha).2⟩⟩
theorem NW.tr {μ μ1 μ2 : Mem} {L L' : List Nat} (h : NW μ μ1 L) (h' : NW μ1 μ2 L') (k : KM μ μ1) (k' : KM μ1 μ2) : NW μ μ2 (L ++ L') := by
  refine ⟨List.nodup_append.mpr ⟨h.1, h'.1, fun a ha b hb e => ?_⟩, fun a ha => ?_⟩
  · subst e
    exact (h.2 a ha).2 (h'.2 a hb).1
  · rcases List.mem_append.mp ha with r | r
    · exact (h.up k').2 a r
    · exact (h'.down k).2 a r
theorem NW.one {μ μ' : Mem} {q : Nat} (h : kd μ q = 0) (h' : kd μ' q ≠ 0) : NW μ μ' [q] := ⟨by simp, fun a ha => by
  have : a = q := by simpa using ha
  subst this; exact ⟨h, h'⟩⟩
theorem Off_fresh {D D' : Nat → Prop} {μ μ' : Mem} (h : Off D μ μ') (hs : ∀ a, D a → kd μ a = 0 ∨ D' a) : Off D' μ μ' := ⟨h.1, h.2.1, fun a ha hd => h.2.2 a ha (fun z => by
  rcases hs a z with r | r
  · exact ha r
  · exact hd r)⟩
/-- something new is made, readied, and put into a field of o -/
theorem st3 {μ μ1 μ2 μ3 : Mem} {o q co k : Nat} {L : List Nat} (hq : kd μ q = 0) (ho : kd μ o ≠ 0) (o1 : ∀ D, Off D μ μ1) (k1 : kd μ1 q ≠ 0) (o2 : Off (fun a => a = q) μ1 μ2) (n2 : NW μ1 μ2 L) (e3 : μ3 = sfr μ2 co k o (some q)) :
    Off (fun a => a = o) μ μ3 ∧ Off (fun a => a = o) μ2 μ3 ∧ NW μ μ3 (q :: L) ∧ fr μ3 co k o = some q ∧ (∀ k', ¬ k' = k → fr μ3 co k' o = fr μ co k' o) ∧ (∀ c' k', fi μ3 c' k' o = fi μ c' k' o) ∧ ¬ q = o ∧ ∀ a, a ∈ L → ¬ a = o := by
  have o3 : Off (fun a => a = o) μ2 μ3 := by rw [e3]; exact Off_sfr
  have nq : ¬ q = o := fun e => ho (by rw [← e]; exact hq)
  have w : Off (fun a => a = q) μ μ2 := (o1 _).tr o2
  have w0 : Off (fun a => a = o) μ μ2 := Off_fresh w (fun a z => Or.inl (by rw [z]; exact hq))
  have nk : NW μ μ1 [q] := NW.one hq k1
  have nn : NW μ μ2 (q :: L) := nk.tr n2 (o1 (fun _ => False)).1 o2.1
  obtain ⟨a1, a2, -⟩ := w.2.2 o ho (fun e => nq e.symm)
  refine ⟨w0.tr o3, o3, nn.up o3.1, by rw [e3, fr_sfr_e], fun k' hk => by rw [e3, fr_sfr_k hk]; exact a2 co k', fun c' k' => by rw [e3]; exact a1 c' k', nq, fun a ha e => ?_⟩
  have := (nn.2 a (List.mem_cons_of_mem q ha)).1
  exact ho (by rw [← e]; exact this)
def E106 (μ : Mem) : Prop := ∀ q, kd μ q = 106 → al μ q = 0 ∧ ∀ q', kd μ q' = 106 → q = q'
theorem E106.off {D : Nat → Prop} {μ μ' : Mem} (h : E106 μ) (hf : Off D μ μ') : E106 μ' := fun q hq => ⟨(hf.2.1 q hq).2.trans (h q (hf.2.1 q hq).1).1, fun q' hq' => (h q (hf.2.1 q hq).1).2 q' (hf.2.1 q' hq').1⟩
/-- an empty list -/
def AE (μ : Mem) (o : Nat) : Prop := ∀ el g t, isEl t → AL μ o el 0 g t
theorem AE.off {D : Nat → Prop} {μ μ' : Mem} {o : Nat} (h : AE μ o) (hf : Off D μ μ') (h1 : ¬ D o) : AE μ' o := fun el g t ht => (h el g t ht).off hf h1 (Or.inl rfl) (Or.inl rfl)
theorem x_Linit {μ : Mem} {o c z : Nat} {post : Mem → Prop} (ho : kd μ o = 7) (h1 : fi μ 6 1 o = 0) (hc : 1 ≤ c) (hz : 32 ≤ z) (hp : ∀ μ' q, NW μ μ' [q] → LR μ' o q 0 (fun _ => 0) → al μ' q = 32 → Off (fun a => a = o) μ μ' → post μ') : wp_X4_init c z μ o post := by
  refine ⟨by decide, by decide, hc, hz, fun q μ2 hq e2 => ?_⟩
  have n : ¬ o = q := fun e => by rw [e, hq] at ho; cases ho
  have o2 : Off (fun a => a = o) μ μ2 := by rw [e2]; exact Off_nar hq (by decide)
  have k2 : kd μ2 q = 103 := by rw [e2, kd_narE, if_pos rfl]
  have l2 : al μ2 q = 32 := by rw [e2, al_nar, if_pos rfl]; rfl
  have ko : kd μ2 o = 7 := o2.kd ho
  have f2 : fi μ2 6 1 o = 0 := by rw [e2]; exact h1
  refine ⟨ko, fun μ6 e6 => hp μ6 q (NW.one hq (by rw [e6]; show kd μ2 q ≠ 0; omega)) ⟨by rw [e6]; exact ko, by rw [e6, fr_sfr_e], by rw [e6]; exact k2, by rw [e6]; exact f2, Nat.zero_le _, by rw [e6]; show al μ2 q ≤ _; omega, fun i hi => absurd hi (Nat.not_lt_zero i)⟩ (by rw [e6]; exact l2) (o2.tr (by rw [e6]; exact Off_sfr))⟩
theorem x_Ainit {μ : Mem} {o : Nat} {post : Mem → Prop} (hE : E106 μ) (ho : kd μ o = 2) (h2 : fi μ 1 2 o = 0) (hp : ∀ μ', AE μ' o → Off (fun a => a = o) μ μ' → post μ') : wp_Jx4a65c_init_da8c8 μ o post := by
  refine fun _ => ⟨ho, fun μ4 e4 _ q3 hq3 => ⟨by rw [e4]; exact ho, fun μ6 e6 => ?_⟩⟩
  have o4 : Off (fun a => a = o) μ μ4 := by rw [e4]; exact Off_sfi
  have o6 : Off (fun a => a = o) μ4 μ6 := by rw [e6]; exact Off_sfr
  have oo := o4.tr o6
  have k6 : kd μ6 q3 = 106 := o6.kd hq3
  refine hp μ6 (fun el g t ht => ⟨oo.kd ho, Or.inl rfl, ?_, fun _ => ⟨q3, by rw [e6, fr_sfr_e], k6, ((hE.off oo) q3 k6).1⟩, fun z => absurd rfl z, fun i hi => absurd hi (Nat.not_lt_zero i), ht, hE.off oo⟩) oo
  rw [e6]; show fi μ4 1 2 o = 0; rw [e4, fi_sfi_k (by decide)]; exact h2
theorem x_Kinit {μ : Mem} {o c z : Nat} {post : Mem → Prop} (hE : E106 μ) (ho : kd μ o = 10) (hc : 6 ≤ c) (hz : 74 ≤ z)
    (hp : ∀ μ' q1 q2 q3 i3 q4 i4, NW μ μ' [q1, q2, q3, i3, q4, i4] → Off (fun a => a = o) μ μ' → fr μ' 9 0 o = some q1 → fr μ' 9 2 o = some q2 → fr μ' 9 4 o = some q3 → fr μ' 9 5 o = some q4 → (∀ k, fi μ' 9 k o = fi μ 9 k o) → AE μ' q1 → AE μ' q2 → LR μ' q3 i3 0 (fun _ => 0) → al μ' i3 = 32 → LR μ' q4 i4 0 (fun _ => 0) → al μ' i4 = 32 → post μ') : wp_X7_init c z μ o post := by
  have lo : kd μ o ≠ 0 := by omega
  refine ⟨by omega, by omega, fun q1 μ2 hq1 e2 => ?_⟩
  have o2 : ∀ D, Off D μ μ2 := fun D => by rw [e2]; exact Off_nob hq1 (by decide)
  have k2 : kd μ2 q1 = 2 := by rw [e2]; exact if_pos rfl
  refine x_Ainit (hE.off (o2 (fun _ => False))) k2 (by rw [e2, fi_nob, if_pos ⟨rfl, rfl⟩]) (fun μ5 L5 o5 _ => ⟨o5.kd ((o2 (fun _ => False)).kd ho), fun μ9 e9 => ?_⟩)
  obtain ⟨a1, a2, a3, a4, a5, a6, a7, -⟩ := st3 hq1 lo o2 (by omega) o5 (NW.nil (μ := μ2) (μ' := μ5)) e9
  have L9 : AE μ9 q1 := L5.off a2 a7
  have E9 := hE.off a1
  have ho9 := a1.kd ho
  clear L5 o5 e9 a2 o2 k2 e2
  refine ⟨by omega, by omega, fun q13 μ14 hq13 e14 => ?_⟩
  have o2 : ∀ D, Off D μ9 μ14 := fun D => by rw [e14]; exact Off_nob hq13 (by decide)
  have k2 : kd μ14 q13 = 2 := by rw [e14]; exact if_pos rfl
  refine x_Ainit (E9.off (o2 (fun _ => False))) k2 (by rw [e14, fi_nob, if_pos ⟨rfl, rfl⟩]) (fun μ18 L18 o18 _ μ22 e22 => ?_)
  obtain ⟨b1, b2, b3, b4, b5, b6, b7, -⟩ := st3 hq13 (by omega) o2 (by omega) o18 (NW.nil (μ := μ14) (μ' := μ18)) e22
  have L22 : AE μ22 q13 := L18.off b2 b7
  have L22' : AE μ22 q1 := L9.off b1 a7
  have n22 := a3.tr b3 a1.1 b1.1
  have ho22 := b1.kd ho9
  clear L18 o18 e22 b2 o2 k2 e14
  refine ⟨by omega, by omega, fun q26 μ27 hq26 e27 => ⟨1, 32, by omega, by omega, ?_⟩⟩
  have o2 : ∀ D, Off D μ22 μ27 := fun D => by rw [e27]; exact Off_nob hq26 (by decide)
  have k2 : kd μ27 q26 = 7 := by rw [e27]; exact if_pos rfl
  refine x_Linit k2 (by rw [e27, fi_nob, if_pos ⟨rfl, rfl⟩]) (Nat.le_refl _) (Nat.le_refl _) (fun μ31 i26 w1 w2 w3 w4 _ μ37 e37 => ?_)
  obtain ⟨c1, c2, c3, c4, c5, c6, c7, c8⟩ := st3 hq26 (by omega) o2 (by omega) w4 w1 e37
  have ni : ¬ i26 = o := c8 i26 (by simp)
  have R37 : LR μ37 q26 i26 0 (fun _ => 0) := w2.off c2 c7 ni
  have l37 : al μ37 i26 = 32 := by rw [(c2.2.2 i26 (by have := w2.2.2.1; omega) ni).2.2.1]; exact w3
  have n37 := n22.tr c3 (a1.tr b1).1 c1.1
  have ho37 := c1.kd ho22
  clear w1 w2 w3 w4 e37 c2 o2 k2 e27
  refine ⟨by omega, by omega, fun q41 μ42 hq41 e42 => ⟨1, 32, by omega, by omega, ?_⟩⟩
  have o2 : ∀ D, Off D μ37 μ42 := fun D => by rw [e42]; exact Off_nob hq41 (by decide)
  have k2 : kd μ42 q41 = 7 := by rw [e42]; exact if_pos rfl
  refine x_Linit k2 (by rw [e42, fi_nob, if_pos ⟨rfl, rfl⟩]) (Nat.le_refl _) (Nat.le_refl _) (fun μ46 i41 w1 w2 w3 w4 _ μ52 e52 => ?_)
  obtain ⟨d1, d2, d3, d4, d5, d6, d7, d8⟩ := st3 hq41 (by omega) o2 (by omega) w4 w1 e52
  have ni2 : ¬ i41 = o := d8 i41 (by simp)
  refine hp μ52 q1 q13 q26 i26 q41 i41 (n37.tr d3 ((a1.tr b1).tr c1).1 d1.1) (((a1.tr b1).tr c1).tr d1) ?_ ?_ ?_ d4 (fun k => by rw [d6, c6, b6, a6]) ((L22'.off c1 a7).off d1 a7) ((L22.off c1 b7).off d1 b7) (R37.off d1 c7 ni) ?_ (w2.off d2 d7 ni2) ?_
  · rw [d5 0 (by decide), c5 0 (by decide), b5 0 (by decide)]; exact a4
  · rw [d5 2 (by decide), c5 2 (by decide)]; exact b4
  · rw [d5 4 (by decide)]; exact c4
  · rw [(d1.2.2 i26 (by have := R37.2.2.1; omega) ni).2.2.1]; exact l37
  · rw [(d2.2.2 i41 (by have := w2.2.2.1; omega) ni2).2.2.1]; exact w3
theorem x_Hinit {μ : Mem} {o c z : Nat} {post : Mem → Prop} (ho : kd μ o = 5) (hc : 4 ≤ c) (hz : 68 ≤ z)
    (hp : ∀ μ' q3 i3 q4 i4, NW μ μ' [q3, i3, q4, i4] → Off (fun a => a = o) μ μ' → fr μ' 4 0 o = some q3 → fr μ' 4 1 o = some q4 → (∀ k, fi μ' 4 k o = fi μ 4 k o) → LR μ' q3 i3 0 (fun _ => 0) → al μ' i3 = 32 → LR μ' q4 i4 0 (fun _ => 0) → al μ' i4 = 32 → post μ') : wp_X2_init c z μ o post := by
  have lo : kd μ o ≠ 0 := by omega
  refine ⟨by omega, by omega, fun q26 μ27 hq26 e27 => ⟨1, 32, by omega, by omega, ?_⟩⟩
  have o2 : ∀ D, Off D μ μ27 := fun D => by rw [e27]; exact Off_nob hq26 (by decide)
  have k2 : kd μ27 q26 = 7 := by rw [e27]; exact if_pos rfl
  refine x_Linit k2 (by rw [e27, fi_nob, if_pos ⟨rfl, rfl⟩]) (Nat.le_refl _) (Nat.le_refl _) (fun μ31 i26 w1 w2 w3 w4 _ => ⟨w4.kd ((o2 (fun _ => False)).kd ho), fun μ37 e37 => ?_⟩)
  obtain ⟨c1, c2, c3, c4, c5, c6, c7, c8⟩ := st3 hq26 lo o2 (by omega) w4 w1 e37
  have ni : ¬ i26 = o := c8 i26 (by simp)
  have R37 : LR μ37 q26 i26 0 (fun _ => 0) := w2.off c2 c7 ni
  have l37 : al μ37 i26 = 32 := by rw [(c2.2.2 i26 (by have := w2.2.2.1; omega) ni).2.2.1]; exact w3
  have ho37 := c1.kd ho
  clear w1 w2 w3 w4 e37 c2 o2 k2 e27
  refine ⟨by omega, by omega, fun q41 μ42 hq41 e42 => ⟨1, 32, by omega, by omega, ?_⟩⟩
  have o2 : ∀ D, Off D μ37 μ42 := fun D => by rw [e42]; exact Off_nob hq41 (by decide)
  have k2 : kd μ42 q41 = 7 := by rw [e42]; exact if_pos rfl
  refine x_Linit k2 (by rw [e42, fi_nob, if_pos ⟨rfl, rfl⟩]) (Nat.le_refl _) (Nat.le_refl _) (fun μ46 i41 w1 w2 w3 w4 _ μ52 e52 => ?_)
  obtain ⟨d1, d2, d3, d4, d5, d6, d7, d8⟩ := st3 hq41 (by omega) o2 (by omega) w4 w1 e52
  have ni2 : ¬ i41 = o := d8 i41 (by simp)
  refine hp μ52 q26 i26 q41 i41 (c3.tr d3 c1.1 d1.1) (c1.tr d1) ?_ d4 (fun k => by rw [d6, c6]) (R37.off d1 c7 ni) ?_ (w2.off d2 d7 ni2) ?_
  · rw [d5 0 (by decide)]; exact c4
  · rw [(d1.2.2 i26 (by have := R37.2.2.1; omega) ni).2.2.1]; exact l37
  · rw [(d2.2.2 i41 (by have := w2.2.2.1; omega) ni2).2.2.1]; exact w3
/-- a stack, a heap, a text as they are made -/
def KI (μ : Mem) (o q1 q2 q3 i3 q4 i4 : Nat) : Prop := kd μ o = 10 ∧ fr μ 9 0 o = some q1 ∧ fr μ 9 2 o = some q2 ∧ fr μ 9 4 o = some q3 ∧ fr μ 9 5 o = some q4 ∧ (∀ k, fi μ 9 k o = 0) ∧ AE μ q1 ∧ AE μ q2 ∧ LR μ q3 i3 0 (fun _ => 0) ∧ al μ i3 = 32 ∧ LR μ q4 i4 0 (fun _ => 0) ∧ al μ i4 = 32
theorem KI.off {D : Nat → Prop} {μ μ' : Mem} {o q1 q2 q3 i3 q4 i4 : Nat} (h : KI μ o q1 q2 q3 i3 q4 i4) (hf : Off D μ μ') (hD : ∀ a, a ∈ [o, q1, q2, q3, i3, q4, i4] → ¬ D a) : KI μ' o q1 q2 q3 i3 q4 i4 := by
  obtain ⟨g1, g2, g3, g4, g5, g6, g7, g8, g9, g10, g11, g12⟩ := h
  obtain ⟨a1, a2, -⟩ := hf.2.2 o (by omega) (hD o (by simp))
  refine ⟨hf.kd g1, by rw [a2]; exact g2, by rw [a2]; exact g3, by rw [a2]; exact g4, by rw [a2]; exact g5, fun k => by rw [a1]; exact g6 k, g7.off hf (hD _ (by simp)), g8.off hf (hD _ (by simp)), g9.off hf (hD _ (by simp)) (hD _ (by simp)), ?_, g11.off hf (hD _ (by simp)) (hD _ (by simp)), ?_⟩
  · rw [(hf.2.2 i3 (by have := g9.2.2.1; omega) (hD _ (by simp))).2.2.1]; exact g10
  · rw [(hf.2.2 i4 (by have := g11.2.2.1; omega) (hD _ (by simp))).2.2.1]; exact g12
def HI (μ : Mem) (o q3 i3 q4 i4 : Nat) : Prop := kd μ o = 5 ∧ fr μ 4 0 o = some q3 ∧ fr μ 4 1 o = some q4 ∧ (∀ k, fi μ 4 k o = 0) ∧ LR μ q3 i3 0 (fun _ => 0) ∧ al μ i3 = 32 ∧ LR μ q4 i4 0 (fun _ => 0) ∧ al μ i4 = 32
theorem HI.off {D : Nat → Prop} {μ μ' : Mem} {o q3 i3 q4 i4 : Nat} (h : HI μ o q3 i3 q4 i4) (hf : Off D μ μ') (hD : ∀ a, a ∈ [o, q3, i3, q4, i4] → ¬ D a) : HI μ' o q3 i3 q4 i4 := by
  obtain ⟨g1, g2, g3, g6, g9, g10, g11, g12⟩ := h
  obtain ⟨a1, a2, -⟩ := hf.2.2 o (by omega) (hD o (by simp))
  refine ⟨hf.kd g1, by rw [a2]; exact g2, by rw [a2]; exact g3, fun k => by rw [a1]; exact g6 k, g9.off hf (hD _ (by simp)) (hD _ (by simp)), ?_, g11.off hf (hD _ (by simp)) (hD _ (by simp)), ?_⟩
  · rw [(hf.2.2 i3 (by have := g9.2.2.1; omega) (hD _ (by simp))).2.2.1]; exact g10
  · rw [(hf.2.2 i4 (by have := g11.2.2.1; omega) (hD _ (by simp))).2.2.1]; exact g12
def TI (μ : Mem) (o q3 i3 q4 i4 : Nat) : Prop := kd μ o = 11 ∧ (fr μ 10 0 o = some q3 ∧ fr μ 10 2 o = some i3) ∧ fr μ 10 3 o = some q4 ∧ SB μ o q3 i3 [] ∧ LR μ q4 i4 0 (fun _ => 0) ∧ al μ i4 = 32
theorem TI.off {D : Nat → Prop} {μ μ' : Mem} {o q3 i3 q4 i4 : Nat} (h : TI μ o q3 i3 q4 i4) (hf : Off D μ μ') (hD : ∀ a, a ∈ [o, q3, i3, q4, i4] → ¬ D a) : TI μ' o q3 i3 q4 i4 := by
  obtain ⟨g1, g2, g3, g9, g11, g12⟩ := h
  obtain ⟨a1, a2, -⟩ := hf.2.2 o (by omega) (hD o (by simp))
  refine ⟨hf.kd g1, by rw [a2, a2]; exact g2, by rw [a2]; exact g3, g9.off hf (by omega) (hD _ (by simp)) (hD _ (by simp)) (hD _ (by simp)), g11.off hf (hD _ (by simp)) (hD _ (by simp)), ?_⟩
  rw [(hf.2.2 i4 (by have := g11.2.2.1; omega) (hD _ (by simp))).2.2.1]; exact g12
theorem x_Einit {μ : Mem} {o c z : Nat} {post : Mem → Prop} (hE : E106 μ) (ho : kd μ o = 3) (hc : 12 ≤ c) (hz : 154 ≤ z)
    (hp : ∀ μ' s q1 q2 q3 i3 q4 i4 h h3 j3 h4 j4, NW μ μ' [s, q1, q2, q3, i3, q4, i4, h, h3, j3, h4, j4] → Off (fun a => a = o) μ μ' → fr μ' 2 0 o = some s → fr μ' 2 1 o = some h → fi μ' 2 2 o = -1 → (∀ k, ¬ k = 2 → fi μ' 2 k o = fi μ 2 k o) → KI μ' s q1 q2 q3 i3 q4 i4 → HI μ' h h3 j3 h4 j4 → post μ') : wp_X0_init c z μ o post := by
  have lo : kd μ o ≠ 0 := by omega
  refine ⟨by omega, by omega, fun s μ2 hs e2 => ⟨6, 74, by omega, by omega, ?_⟩⟩
  have o2 : ∀ D, Off D μ μ2 := fun D => by rw [e2]; exact Off_nob hs (by decide)
  have k2 : kd μ2 s = 10 := by rw [e2]; exact if_pos rfl
  have z2 : ∀ k, fi μ2 9 k s = 0 := fun k => by rw [e2, fi_nob, if_pos ⟨rfl, rfl⟩]
  have nso : ¬ o = s := fun e => by rw [e, hs] at ho; cases ho
  refine x_Kinit (hE.off (o2 (fun _ => False))) k2 (Nat.le_refl _) (Nat.le_refl _) (fun μ5 q1 q2 q3 i3 q4 i4 n5 o5 f1 f2 f3 f4 f5 w1 w2 w3 w4 w5 w6 _ => ⟨o5.kd ((o2 (fun _ => False)).kd ho), fun μ11 e11 => ?_⟩)
  have K5 : KI μ5 s q1 q2 q3 i3 q4 i4 := ⟨o5.kd k2, f1, f2, f3, f4, fun k => by rw [f5]; exact z2 k, w1, w2, w3, w4, w5, w6⟩
  obtain ⟨a1, a2, a3, a4, a5, a6, a7, a8⟩ := st3 hs lo o2 (by omega) o5 n5 e11
  have nL : ∀ a, a ∈ [s, q1, q2, q3, i3, q4, i4] → ¬ a = o := fun a ha => by
    rcases List.mem_cons.mp ha with r | r
    · rw [r]; exact a7
    · exact a8 a r
  have K11 : KI μ11 s q1 q2 q3 i3 q4 i4 := K5.off a2 nL
  have ho11 := a1.kd ho
  clear K5 f1 f2 f3 f4 f5 w1 w2 w3 w4 w5 w6 e11 o5 n5 a2 o2 k2 z2 e2
  refine ⟨by omega, by omega, fun h μ16 hh e16 => ⟨4, 68, by omega, by omega, ?_⟩⟩
  have o2 : ∀ D, Off D μ11 μ16 := fun D => by rw [e16]; exact Off_nob hh (by decide)
  have k2 : kd μ16 h = 5 := by rw [e16]; exact if_pos rfl
  have z2 : ∀ k, fi μ16 4 k h = 0 := fun k => by rw [e16, fi_nob, if_pos ⟨rfl, rfl⟩]
  refine x_Hinit k2 (Nat.le_refl _) (Nat.le_refl _) (fun μ20 h3 j3 h4 j4 n20 o20 f1 f2 f5 w3 w4 w5 w6 _ μ26 e26 μ30 e30 => ?_)
  have H20 : HI μ20 h h3 j3 h4 j4 := ⟨o20.kd k2, f1, f2, fun k => by rw [f5]; exact z2 k, w3, w4, w5, w6⟩
  obtain ⟨b1, b2, b3, b4, b5, b6, b7, b8⟩ := st3 hh (by omega) o2 (by omega) o20 n20 e26
  have nH : ∀ a, a ∈ [h, h3, j3, h4, j4] → ¬ a = o := fun a ha => by
    rcases List.mem_cons.mp ha with r | r
    · rw [r]; exact b7
    · exact b8 a r
  have o30 : Off (fun a => a = o) μ26 μ30 := by rw [e30]; exact Off_sfi
  refine hp μ30 s q1 q2 q3 i3 q4 i4 h h3 j3 h4 j4 ((a3.tr b3 a1.1 b1.1).up o30.1) ((a1.tr b1).tr o30) ?_ ?_ ?_ (fun k hk => ?_) ((K11.off b1 nL).off o30 nL) ((H20.off b2 nH).off o30 nH)
  · rw [e30]; show fr μ26 2 0 o = some s; rw [b5 0 (by decide)]; exact a4
  · rw [e30]; exact b4
  · rw [e30, fi_sfi_e]
  · rw [e30, fi_sfi_k hk, b6, a6]
theorem x_Tinit {μ : Mem} {o c z : Nat} {post : Mem → Prop} (ho : kd μ o = 11) (h1 : fi μ 10 1 o = 0) (hc : 4 ≤ c) (hz : 1044 ≤ z)
    (hp : ∀ μ' q3 i3 q4 i4, NW μ μ' [q3, i3, q4, i4] → Off (fun a => a = o) μ μ' → TI μ' o q3 i3 q4 i4 → post μ') : wp_X8_init c z μ o post := by
  have lo : kd μ o ≠ 0 := by omega
  have n1000 : Int32.toNatClampNeg 1000 = 1000 := by decide
  have n10 : Int32.toNatClampNeg 10 = 10 := by decide
  unfold wp_X8_init
  rw [n1000, n10]
  refine ⟨by decide, by decide, by omega, by omega, fun q1 μ2 hq1 e2 => ?_⟩
  have o2 : ∀ D, Off D μ μ2 := fun D => by rw [e2]; exact Off_nar hq1 (by decide)
  have k2 : kd μ2 q1 = 101 := by rw [e2, kd_narE, if_pos rfl]
  have l2 : al μ2 q1 = 1000 := by rw [e2, al_nar, if_pos rfl]
  refine ⟨(o2 (fun _ => False)).kd ho, fun μ6 e6 => ?_⟩
  obtain ⟨a1, a2, a3, a4, a5, a6, a7, -⟩ := st3 hq1 lo o2 (by omega) (Off.rf μ2) (NW.nil (μ := μ2) (μ' := μ2)) e6
  have k6 : kd μ6 q1 = 101 := a2.kd k2
  have l6 : al μ6 q1 = 1000 := by rw [(a2.2.2 q1 (by omega) a7).2.2.1]; exact l2
  have ho6 := a1.kd ho
  clear e6 a2 o2 e2 k2 l2
  refine ⟨by decide, by decide, by omega, by omega, fun q10 μ11 hq10 e11 μ15 e15 => ?_⟩
  have o2 : ∀ D, Off D μ6 μ11 := fun D => by rw [e11]; exact Off_nar hq10 (by decide)
  have k2 : kd μ11 q10 = 101 := by rw [e11, kd_narE, if_pos rfl]
  have l2 : al μ11 q10 = 10 := by rw [e11, al_nar, if_pos rfl]
  obtain ⟨b1, b2, b3, b4, b5, b6, b7, -⟩ := st3 hq10 (by omega) o2 (by omega) (Off.rf μ11) (NW.nil (μ := μ11) (μ' := μ11)) e15
  have k15 : kd μ15 q10 = 101 := b2.kd k2
  have l15 : al μ15 q10 = 10 := by rw [(b2.2.2 q10 (by omega) b7).2.2.1]; exact l2
  have n15 := a3.tr b3 a1.1 b1.1
  have k15' : kd μ15 q1 = 101 := b1.kd k6
  have l15' : al μ15 q1 = 1000 := by rw [(b1.2.2 q1 (by omega) a7).2.2.1]; exact l6
  have ho15 := b1.kd ho6
  clear e15 b2 o2 e11 k2 l2
  refine ⟨by omega, by omega, fun q19 μ20 hq19 e20 => ⟨1, 32, by omega, by omega, ?_⟩⟩
  have o2 : ∀ D, Off D μ15 μ20 := fun D => by rw [e20]; exact Off_nob hq19 (by decide)
  have k2 : kd μ20 q19 = 7 := by rw [e20]; exact if_pos rfl
  refine x_Linit k2 (by rw [e20, fi_nob, if_pos ⟨rfl, rfl⟩]) (Nat.le_refl _) (Nat.le_refl _) (fun μ24 i19 w1 w2 w3 w4 _ μ30 e30 => ?_)
  obtain ⟨d1, d2, d3, d4, d5, d6, d7, d8⟩ := st3 hq19 (by omega) o2 (by omega) w4 w1 e30
  have ni2 : ¬ i19 = o := d8 i19 (by simp)
  refine hp μ30 q1 q10 q19 i19 (n15.tr d3 (a1.tr b1).1 d1.1) ((a1.tr b1).tr d1) ⟨d1.kd ho15, ⟨?_, ?_⟩, d4, ⟨?_, d1.kd k15', ?_, d1.kd k15, ?_, fun i hi => absurd hi (Nat.not_lt_zero i)⟩, w2.off d2 d7 ni2, ?_⟩
  · rw [d5 0 (by decide), b5 0 (by decide)]; exact a4
  · rw [d5 2 (by decide)]; exact b4
  · rw [d6, b6, a6]; exact h1
  · rw [(d1.2.2 q1 (by omega) a7).2.2.1]; exact l15'
  · rw [(d1.2.2 q10 (by omega) b7).2.2.1]; exact l15
  · rw [(d2.2.2 i19 (by have := w2.2.2.1; omega) ni2).2.2.1]; exact w3
