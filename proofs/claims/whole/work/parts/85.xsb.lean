/-! the class's rows of characters: what is told ends at 1000, so they hold the beginning of a list -/
theorem getD_l {l l' : List Nat} {i : Nat} (h : i < l.length) : (l ++ l').getD i 0 = l.getD i 0 := by
  simp [List.getD, List.getElem?_append_left h]
theorem getD_r {l l' : List Nat} {i : Nat} (h : l.length ≤ i) : (l ++ l').getD i 0 = l'.getD (i - l.length) 0 := by
  simp [List.getD, List.getElem?_append_right h]
theorem dgs_len {w : Nat} : ∀ k, (dgs w k).length = k := by
  intro k
  induction k with
  | zero => rfl
  | succ k ih => rw [dgs, List.length_cons, ih]
def SB (μ : Mem) (o it dg : Nat) (l : List Nat) : Prop := fi μ 10 1 o = nI (l.take 1000).length ∧ kd μ it = 101 ∧ al μ it = 1000 ∧ kd μ dg = 101 ∧ al μ dg = 10 ∧ ∀ i, i < (l.take 1000).length → ai μ it i = nI ((l.take 1000).getD i 0)
theorem SB.off {D : Nat → Prop} {μ μ' : Mem} {o it dg : Nat} {l : List Nat} (h : SB μ o it dg l) (hf : Off D μ μ') (h0 : kd μ o ≠ 0) (h1 : ¬ D o) (h2 : ¬ D it) (h3 : ¬ D dg) : SB μ' o it dg l := by
  obtain ⟨g1, g2, g3, g4, g5, g6⟩ := h
  obtain ⟨a1, -⟩ := hf.2.2 o h0 h1
  obtain ⟨-, -, b3, b4, -⟩ := hf.2.2 it (by omega) h2
  obtain ⟨-, -, c3, -⟩ := hf.2.2 dg (by omega) h3
  exact ⟨by rw [a1]; exact g1, hf.kd g2, by rw [b3]; exact g3, hf.kd g4, by rw [c3]; exact g5, fun i hi => by rw [b4]; exact g6 i hi⟩
theorem SB.cg {μ : Mem} {o it dg : Nat} {l l' : List Nat} (h : SB μ o it dg l) (e : l'.take 1000 = l.take 1000) : SB μ o it dg l' := by
  unfold SB at h ⊢
  rw [e]
  exact h
set_option maxRecDepth 100000 in
theorem charN : ∀ c, c < 128 → vp_nar .char (nI c) = nI c := by decide
set_option maxRecDepth 100000 in
theorem charD : ∀ c, c < 128 → vp_nar .char (UInt32.toInt32 (Int32.toUInt32 (nI c) % 65536)) = nI c := by decide
theorem tk_len {l : List Nat} : (l.take 1000).length ≤ 1000 ∧ (l.take 1000).length ≤ l.length ∧ (l.length < 1000 → (l.take 1000).length = l.length) ∧ (1000 ≤ l.length → (l.take 1000).length = 1000) := by
  rw [List.length_take]
  omega
theorem x_wchar {μ : Mem} {o it dg ch : Nat} {l : List Nat} {post : Mem → Prop} (ho : kd μ o = 11) (h0 : fr μ 10 0 o = some it) (h : SB μ o it dg l) (hd : ¬ dg = it) (hch : ch < 128)
    (hp : ∀ μ', SB μ' o it dg (l ++ [ch]) → Off (fun a => a = o ∨ a = it) μ μ' → fr μ' = fr μ → post μ') : wp_X8_writeCharacter μ o (nI ch) post := by
  obtain ⟨g1, g2, g3, g4, g5, g6⟩ := id h
  obtain ⟨t1, t2, t3, t4⟩ := tk_len (l := l)
  refine ⟨ho, it, h0, Or.inl g2, ?_⟩
  rw [g1, g3]
  refine x_within (fun y0 y1 _ => nz1 ⟨it, h0, g2, ?_⟩) (fun y _ => nz0 ?_)
  · have lt : l.length < 1000 := by
      rcases Nat.lt_or_ge l.length 1000 with r | r
      · exact r
      · rw [t4 r] at y1
        exact absurd y1 (by decide)
    have e1 : l.take 1000 = l := List.take_of_length_le (by omega)
    have e2 : (l ++ [ch]).take 1000 = l ++ [ch] := List.take_of_length_le (by rw [List.length_append]; show l.length + 1 ≤ 1000; omega)
    rw [e1] at g1 g6
    refine ⟨by rw [g1, g3]; exact vp_in_nI lt (by decide), fun μ9 e9 μ13 e13 => ?_⟩
    rw [g1, nI_clamp (by omega), charN ch hch] at e9
    have f9 : fi μ9 10 1 o = nI l.length := by rw [e9]; exact g1
    rw [f9, nI_1] at e13
    refine hp μ13 ?_ ?_ ?_
    · unfold SB
      rw [e2]
      refine ⟨by rw [e13, fi_sfi_e, List.length_append]; rfl, by rw [e13, e9]; exact g2, by rw [e13, e9]; exact g3, by rw [e13, e9]; exact g4, by rw [e13, e9]; exact g5, fun i hi => ?_⟩
      rw [List.length_append] at hi
      have hi : i < l.length + 1 := hi
      rw [e13, e9]
      show ai (sai μ it l.length (nI ch)) it i = _
      rw [ai_sai]
      by_cases q : i = l.length
      · rw [if_pos ⟨rfl, q⟩, q, getD_r (Nat.le_refl _), Nat.sub_self]; rfl
      · rw [if_neg (fun z => q z.2), getD_l (by omega)]; exact g6 i (by omega)
    · rw [e13, e9]
      exact (Off_sai.sub (fun a _ q => Or.inr q)).tr (Off_sfi.sub (fun a _ q => Or.inl q))
    · rw [e13, e9]; rfl
  · have ge : 1000 ≤ l.length := by
      rcases Nat.lt_or_ge l.length 1000 with r | r
      · exact absurd ⟨nI_pos' (by omega), nI_lt (by have := t3 r; omega) (by decide)⟩ y
      · exact r
    exact hp μ (h.cg (List.take_append_of_le_length ge)) (Off.rf μ) rfl
theorem sb1 (x : Int32) : x - 1 = x + (-1) := Int32.sub_eq_add_neg x 1
/-- digits in their row are written, the last one first -/
theorem x_wdig {o it dg w : Nat} {post : Mem → Prop} (hd : ¬ dg = it) : ∀ j μ l, j ≤ 10 → kd μ o = 11 → fr μ 10 0 o = some it → fr μ 10 2 o = some dg → SB μ o it dg l → (∀ i, i < j → ai μ dg i = nI (48 + w / 10 ^ i % 10)) →
    (∀ μ', SB μ' o it dg (l ++ dgs w j) → Off (fun a => a = o ∨ a = it) μ μ' → fr μ' = fr μ → post μ') → wp_X8_writeNumber_77 o post (j + 1) μ (nI j + (-1)) := by
  intro j
  induction j with
  | zero =>
    intro μ l _ _ _ _ h _ hp
    rw [wp_X8_writeNumber_77]
    refine ⟨fun _ => hp μ (by rw [dgs, List.append_nil]; exact h) (Off.rf μ) rfl, fun q => absurd (by decide) q⟩
  | succ j ih =>
    intro μ l hj ho h0 h2 h hi hp
    obtain ⟨g1, g2, g3, g4, g5, g6⟩ := id h
    have e1 : nI (j + 1) + (-1) = nI j := by rw [← sb1, show (1 : Int32) = nI 1 from rfl, pk_sub (by omega)]; rfl
    rw [wp_X8_writeNumber_77, e1]
    refine ⟨fun q => absurd q (nI_pos (by omega)), fun _ => ⟨ho, dg, h2, g4, by rw [g5]; exact vp_in_nI (by omega) (by decide), ?_⟩⟩
    rw [nI_clamp (by omega), hi j (Nat.lt_succ_self j)]
    have hno : ¬ dg = o := fun e => by rw [e, ho] at g4; cases g4
    refine x_wchar ho h0 h hd (by omega) (fun μ1 h1 o1 f1 _ v13 e13 => ?_)
    rw [e13]
    obtain ⟨-, -, -, b4, -⟩ := o1.2.2 dg (by omega) (fun z => by rcases z with z | z; exact hno z; exact hd z)
    refine ih μ1 _ (by omega) (o1.kd ho) (by rw [f1]; exact h0) (by rw [f1]; exact h2) h1 (fun i q => by rw [b4]; exact hi i (by omega)) (fun μ' h' o' f' => hp μ' ?_ (o1.tr o') (f'.trans f1))
    rw [List.append_assoc] at h'
    exact h'
/-- the digits come into their row -/
theorem x_wnum {o it dg w : Nat} {l : List Nat} {post : Mem → Prop} (hd : ¬ dg = it) (hw : w < 10 ^ 10) : ∀ f k μ, k + f = 10 → k ≤ nd w → kd μ o = 11 → fr μ 10 0 o = some it → fr μ 10 2 o = some dg → SB μ o it dg l → (∀ i, i < k → ai μ dg i = nI (48 + w / 10 ^ i % 10)) →
    (∀ μ', SB μ' o it dg (l ++ dgs w (nd w)) → Off (fun a => a = o ∨ a = it ∨ a = dg) μ μ' → fr μ' = fr μ → post μ') → wp_X8_writeNumber_20 o post (f + 1) μ (lN (w / 10 ^ k)) (nI k) := by
  obtain ⟨n1, n2, n3⟩ := nd_sp hw
  have n4 : nd w ≤ 10 := nd_le 9 1
  have fin : ∀ k μ, k = nd w → kd μ o = 11 → fr μ 10 0 o = some it → fr μ 10 2 o = some dg → SB μ o it dg l → (∀ i, i < k → ai μ dg i = nI (48 + w / 10 ^ i % 10)) → (∀ μ', SB μ' o it dg (l ++ dgs w (nd w)) → Off (fun a => a = o ∨ a = it ∨ a = dg) μ μ' → fr μ' = fr μ → post μ') → ∀ v : Int32, v = (nI k - 1) → ∃ n, wp_X8_writeNumber_77 o post n μ v := by
    intro k μ ek ho h0 h2 h hi hp v ev
    rw [ev, sb1]
    refine ⟨k + 1, x_wdig hd k μ l (by omega) ho h0 h2 h hi (fun μ' h' o' f' => hp μ' (by rw [← ek]; exact h') (o'.sub (fun a _ q => ?_)) f')⟩
    rcases q with q | q
    · exact Or.inl q
    · exact Or.inr (Or.inl q)
  intro f
  induction f with
  | zero =>
    intro k μ hk hn ho h0 h2 h hi hp
    obtain ⟨g1, g2, g3, g4, g5, g6⟩ := id h
    rw [wp_X8_writeNumber_20]
    refine ⟨ho, dg, h2, Or.inl g4, ?_⟩
    rw [g5]
    exact ⟨fun _ => fin k μ (by omega) ho h0 h2 h hi hp, fun q => absurd (nI_le (a := 10) (by omega) (by omega)) q⟩
  | succ f ih =>
    intro k μ hk hn ho h0 h2 h hi hp
    obtain ⟨g1, g2, g3, g4, g5, g6⟩ := id h
    have hno : ¬ o = dg := fun e => by rw [← e, ho] at g4; cases g4
    have wk : w / 10 ^ k < 2 ^ 63 := Nat.lt_of_le_of_lt (Nat.div_le_self _ _) (Nat.lt_trans hw (by decide))
    have hp0 : 0 < 10 ^ k := Nat.pow_pos (by decide)
    rw [wp_X8_writeNumber_20, lg_cmp_le]
    refine ⟨ho, dg, h2, Or.inl g4, ?_⟩
    rw [g5]
    have more : k + 1 ≤ nd w → wp_X8_writeNumber_41 o post (fun s0 y0 y1 => wp_X8_writeNumber_20 o post (f + 1) s0 y0 y1) μ (lN (w / 10 ^ k)) (nI k) := by
      intro hk1
      refine ⟨ho, dg, h2, by decide, g4, by rw [g5]; exact vp_in_nI (by omega) (by decide), fun μ18 e18 => ⟨by decide, fun v22 e22 v23 e23 => ?_⟩⟩
      rw [show (10 : Int64) = lN 10 from rfl, pk_lRem wk (by decide) (by decide), show (48 : Int64) = lN 48 from rfl, lN_add, lN_i, charD _ (by omega), nI_clamp (by omega)] at e18
      rw [show (10 : Int64) = lN 10 from rfl, pk_lDiv wk (by decide) (by decide), Nat.div_div_eq_div_mul, ← Nat.pow_succ] at e22
      rw [e22, e23, nI_1]
      refine ih (k + 1) μ18 (by omega) hk1 (by rw [e18]; exact ho) (by rw [e18]; exact h0) (by rw [e18]; exact h2) ?_ (fun i hi1 => ?_) (fun μ' h' o' f' => hp μ' h' (Off.tr ?_ o') (f'.trans (by rw [e18]; rfl)))
      · rw [e18]
        exact ⟨g1, g2, g3, g4, g5, fun i hi1 => by rw [ai_sai, if_neg (fun z => hd z.1.symm)]; exact g6 i hi1⟩
      · rw [e18, ai_sai]
        by_cases q : i = k
        · rw [if_pos ⟨rfl, q⟩, q]
        · rw [if_neg (fun z => q z.2)]; exact hi i (by omega)
      · rw [e18]
        exact Off_sai.sub (fun a _ q => Or.inr (Or.inr q))
    refine ⟨fun q => absurd q (nI_ge (b := 10) (by omega) (by decide)), fun _ => ⟨fun q => ?_, fun q => ⟨fun z => ?_, fun z => ?_⟩⟩⟩
    · have k0 : k = 0 := (nI_eq (by omega) (by decide)).mp q
      exact more (by omega)
    · have k0 : ¬ k = 0 := fun r => q (by rw [r]; rfl)
      rw [show (0 : Int64) = lN 0 from rfl, pk_lLE wk (by decide)] at z
      refine fin k μ ?_ ho h0 h2 h hi hp
      rcases Nat.lt_or_ge k (nd w) with r | r
      · have : 10 ^ k ≤ w := Nat.le_trans (Nat.pow_le_pow_right (by decide) (by omega)) (n3 (by omega))
        have := Nat.div_pos this hp0
        omega
      · omega
    · rw [show (0 : Int64) = lN 0 from rfl, pk_lLE wk (by decide)] at z
      refine more ?_
      rcases Nat.lt_or_ge k (nd w) with r | r
      · exact r
      · have : w < 10 ^ k := Nat.lt_of_lt_of_le n2 (Nat.pow_le_pow_right (by decide) r)
        have := Nat.div_eq_of_lt this
        omega
theorem abs_num (x : Int32) : (if (0 : Int64) < x.toInt64 then x.toInt64 else -x.toInt64) = lN x.toInt.natAbs := by
  by_cases h : 0 ≤ x
  · by_cases q : (0 : Int64) < x.toInt64
    · rw [if_pos q]; exact num_abs' h
    · rw [if_neg q]
      have h1 := Int32.le_iff_toInt_le.mp h
      rw [Int64.lt_iff_toInt_lt, Int32.toInt_toInt64] at q
      have z : (0 : Int32).toInt = 0 := by decide
      have z' : (0 : Int64).toInt = 0 := by decide
      rw [z] at h1
      rw [z'] at q
      have e : x = 0 := Int32.toInt_inj.mp (by rw [z]; omega)
      subst e
      decide
  · have hx := Int32.lt_iff_toInt_lt.mp (Int32.not_le.mp h)
    have z : (0 : Int32).toInt = 0 := by decide
    have z' : (0 : Int64).toInt = 0 := by decide
    rw [z] at hx
    rw [if_neg (fun q => by rw [Int64.lt_iff_toInt_lt, Int32.toInt_toInt64, z'] at q; omega)]
    exact num_abs h
theorem x_number {μ : Mem} {o it dg : Nat} {x : Int32} {l : List Nat} {post : Mem → Prop} (ho : kd μ o = 11) (h0 : fr μ 10 0 o = some it) (h2 : fr μ 10 2 o = some dg) (h : SB μ o it dg l) (hd : ¬ dg = it)
    (hp : ∀ μ', SB μ' o it dg (l ++ dec x) → Off (fun a => a = o ∨ a = it ∨ a = dg) μ μ' → fr μ' = fr μ → post μ') : wp_X8_writeNumber μ o x.toInt64 post := by
  have hw : x.toInt.natAbs < 10 ^ 10 := by
    have a := Int32.toInt_lt x
    have b := Int32.le_toInt x
    omega
  have n0 : 0 ≤ nd x.toInt.natAbs := Nat.zero_le _
  have z0 : x.toInt.natAbs / 10 ^ 0 = x.toInt.natAbs := by rw [Nat.pow_zero, Nat.div_one]
  unfold wp_X8_writeNumber
  rw [lg_cmp_ge, num_neg]
  refine ⟨fun hx v e => ⟨11, ?_⟩, fun hx => ⟨ho, x_wchar (ch := 45) ho h0 h hd (by decide) (fun μ1 h1 o1 f1 _ v e => ⟨11, ?_⟩)⟩⟩
  · rw [dec, if_pos hx] at hp
    have := x_wnum hd hw 10 0 μ rfl n0 ho h0 h2 h (fun i hi => absurd hi (Nat.not_lt_zero i)) hp
    rw [z0, ← abs_num, ← e] at this
    exact this
  · rw [dec, if_neg hx] at hp
    have := x_wnum (post := post) hd hw 10 0 μ1 rfl n0 (o1.kd ho) (by rw [f1]; exact h0) (by rw [f1]; exact h2) h1 (fun i hi => absurd hi (Nat.not_lt_zero i)) (fun μ' h' o' f' => hp μ' (by rw [List.append_assoc] at h'; exact h') (Off.tr (o1.sub (fun a _ q => by rcases q with q | q; exact Or.inl q; exact Or.inr (Or.inl q))) o') (f'.trans f1))
    rw [z0, ← abs_num, ← e] at this
    exact this
