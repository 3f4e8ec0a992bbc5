/-! what always holds, behind each change -/
theorem WF.next {S : Sp} {m : Nat} (h : WF S) (hm : m ≤ 2000) : WF (u0 S 9 m) := by
  obtain ⟨P, C, B, T, V, N⟩ := h
  exact ⟨P, C, B, T, V, hm, N.2⟩
theorem WF.stop {S : Sp} {k : Nat} (h : WF S) (hk : 2 < k) : WF (u0 S 17 k) := by
  obtain ⟨P, C, ⟨B1, B2, B3, B4⟩, T, V, N⟩ := h
  refine ⟨P, C, ⟨B1, B2, fun q => absurd q ?_, B4⟩, T, V, N⟩
  rintro (q | q)
  · have : k = 1 := q
    omega
  · have : k = 2 := q
    omega
theorem WF.wrt {S : Sp} {k : Nat} {v : Int64} (h : WF S) (hv : okV (s0 S 3) v) : WF (uv S 0 k v) := by
  obtain ⟨P, C, B, T, V, N⟩ := h
  refine ⟨P, C, B, T, fun m hm => ?_, N⟩
  show okV (s0 S 3) (if 0 = 0 ∧ m = k then v else sv S 0 m)
  by_cases e : m = k
  · rw [if_pos ⟨rfl, e⟩]; exact hv
  · rw [if_neg (fun z => e z.2)]; exact V m hm
theorem WF.wrL {S : Sp} {f : Nat → Nat} {g : Nat → Sp → Int64} (h : WF S) : ∀ n, (∀ k, k < n → WF (wrL S f g k) → okV (s0 S 3) (g k (wrL S f g k))) → WF (wrL S f g n) := by
  intro n
  induction n with
  | zero => intro _; exact h
  | succ n ih =>
    intro hg
    have h1 := ih (fun k hk => hg k (by omega))
    refine h1.wrt ?_
    rw [(wrL_e n).1]
    exact hg n (by omega) h1
theorem WF.bl {S : Sp} (h : WB S) {i j : Nat} (hij : i ≤ j) (hj : j ≤ s0 S 6) : s1 S 11 i ≤ s1 S 11 j :=
  base_le (nf := j) (pr := s1 S 10) (sl := s1 S 1) (fun l hl => (h.2.2.2 l (by omega)).2.1) (j - i) i (by omega)
theorem WF.bg {S : Sp} (hP : WP S) (h : WB S) : ∀ j, j ≤ s0 S 6 → j ≤ s1 S 11 j := by
  intro j
  induction j with
  | zero => intro _; exact Nat.zero_le _
  | succ j ih =>
    intro hj
    have a := ih (by omega)
    obtain ⟨b1, b2, -⟩ := h.2.2.2 j (by omega)
    have c := (hP.2.2.1 _ b1).2.1
    omega
/-- a slot of a frame -/
theorem WF.sl {S : Sp} (h : WB S) {j a : Nat} (hj : j < s0 S 6) (ha : a < s1 S 1 (s1 S 10 j)) : s1 S 11 j + a < s1 S 11 (s0 S 6) := by
  have := (h.2.2.2 j hj).2.1
  have := WF.bl h (i := j + 1) (j := s0 S 6) (by omega) (Nat.le_refl _)
  omega
theorem WF.drop {S : Sp} {nf nr : Nat} (h : WF S) (h1 : nf ≤ s0 S 6) (h2 : nr ≤ s0 S 7) (h3 : ∀ i, i < nr → s1 S 15 i ≤ nf) (h4 : live S → s0 S 8 < nf) : WF (sp_drop S nf nr) := by
  obtain ⟨P, C, hB, ⟨T1, T2, T3⟩, V, N⟩ := h
  have hbl := WF.bl hB h1 (Nat.le_refl _)
  obtain ⟨B1, B2, B3, B4⟩ := hB
  refine ⟨P, C, ⟨B1, ?_, h4, fun j hj => B4 j (Nat.lt_of_lt_of_le hj h1)⟩, ⟨⟨fun i j a b => T1.1 i j a (Nat.lt_of_lt_of_le b h2), h3⟩, fun i j a b => T2 i j a (Nat.lt_of_lt_of_le b h2), fun i a => T3 i (Nat.lt_of_lt_of_le a h2)⟩, fun m hm => V m (Nat.lt_of_lt_of_le hm hbl), N⟩
  have e : szS S = s1 S 11 (s0 S 6) + 2 * s0 S 6 + 3 * s0 S 7 := rfl
  show s1 S 11 nf + 2 * nf + 3 * nr ≤ 20000
  omega
theorem keepF_le {S : Sp} (hT : TR (s0 S 6) (s0 S 7) (s1 S 15)) (hw : s0 S 8 < s0 S 6) : keepF S ≤ s0 S 6 ∧ s0 S 8 < keepF S ∧ ∀ i, i < s0 S 7 → s1 S 15 i ≤ keepF S := by
  unfold keepF
  rcases Nat.eq_zero_or_pos (s0 S 7) with z | z
  · rw [if_pos z]
    exact ⟨hw, Nat.lt_succ_self _, fun i hi => absurd hi (by omega)⟩
  · rw [if_neg (by omega)]
    have a := hT.2 (s0 S 7 - 1) (by omega)
    have b : ∀ i, i < s0 S 7 → s1 S 15 i ≤ s1 S 15 (s0 S 7 - 1) := fun i hi => by
      rcases Nat.lt_or_ge i (s0 S 7 - 1) with q | q
      · exact hT.1 i _ q (by omega)
      · rw [show i = s0 S 7 - 1 by omega]; exact Nat.le_refl _
    split
    · exact ⟨a, by omega, b⟩
    · exact ⟨hw, Nat.lt_succ_self _, fun i hi => by have := b i hi; omega⟩
theorem WF.redos {S : Sp} {n : Nat} (h : WF S) (hn : n ≤ s0 S 7) : WF (u0 S 7 n) := by
  have := h.drop (nf := s0 S 6) (nr := n) (Nat.le_refl _) hn (fun i hi => h.2.2.2.1.1.2 i (by omega)) h.2.2.1.2.2.1
  rw [sp_drop, u0_rf] at this
  exact this
theorem WF.cut {S : Sp} {n : Nat} (h : WF S) (hl : live S) : WF (sp_cutS S n) := by
  unfold sp_cutS
  generalize hm : (if n < s0 S 7 then n else s0 S 7) = m
  have hle : m ≤ s0 S 7 := by rw [← hm]; split <;> omega
  have h1 := h.redos hle
  obtain ⟨a, b, c⟩ := keepF_le h1.2.2.2.1.1 (h1.2.2.1.2.2.1 hl)
  exact h1.drop a (Nat.le_refl _) c (fun _ => b)
theorem WF.dead {S : Sp} {j : Nat} (h : WF S) : WF (u1 S 18 j 1) := by
  obtain ⟨P, C, B, ⟨T1, T2, T3⟩, V, N⟩ := h
  refine ⟨P, C, B, ⟨T1, T2, fun i hi => ?_⟩, V, N⟩
  obtain ⟨a1, a2, a3, a4⟩ := T3 i hi
  refine ⟨a1, a2, ?_, a4⟩
  show (if 18 = 18 ∧ i = j then 1 else s1 S 18 i) ≤ 1
  split
  · exact Nat.le_refl _
  · exact a3
theorem hpS_congr {S S' : Sp} : ∀ n, (∀ c, c < n → s1 S' 8 c = s1 S 8 c) → hpS S' n = hpS S n ∧ fsS S' n = fsS S n := by
  intro n
  induction n with
  | zero => intro _; exact ⟨rfl, rfl⟩
  | succ n ih =>
    intro h
    obtain ⟨a, b⟩ := ih (fun c hc => h c (by omega))
    have e := h n (by omega)
    constructor
    · show hpS S' n + (if s1 S' 8 n = 0 then 0 else s1 S' 8 n + 1) = hpS S n + (if s1 S 8 n = 0 then 0 else s1 S 8 n + 1)
      rw [a, e]
    · show fsS S' n + s1 S' 8 n = fsS S n + s1 S 8 n
      rw [b, e]
theorem WF.mk {S : Sp} {i : Nat} (h : WF S) (hs : s0 S 3 < s0 S 10) (hb : sa S 2 i < 32) (hn : s1 S 6 i ≤ 4) (hh : s0 S 5 + tkN (s1 S 6 i) ≤ s0 S 15) (hr : ∀ k, k < s1 S 6 i → okV (s0 S 3) (rdS S (s2 S 2 i k))) : WF (mkS S i) := by
  obtain ⟨P, ⟨C1, C2, C3, C4, C5⟩, B, ⟨T1, T2, T3⟩, V, N⟩ := h
  have e8 : ∀ c, c < s0 S 3 → s1 (mkS S i) 8 c = s1 S 8 c := fun c hc => by simp [s1, mkS, up2, show ¬ c = s0 S 3 by omega]
  have e8n : s1 (mkS S i) 8 (s0 S 3) = s1 S 6 i := by simp [s1, mkS, up2]
  have hc := fun n (hn : n ≤ s0 S 3) => hpS_congr (S := S) (S' := mkS S i) n (fun c hc => e8 c (by omega))
  refine ⟨P, ⟨by show s0 S 3 + 1 ≤ s0 S 10; omega, ?_, ?_, hh, fun c hcc => ?_⟩, B, ⟨T1, T2, fun j hj => ?_⟩, fun m hm => ?_, N⟩
  · show s0 S 4 + s1 S 6 i = fsS (mkS S i) (s0 S 3) + s1 (mkS S i) 8 (s0 S 3)
    rw [(hc _ (Nat.le_refl _)).2, e8n, C2]
  · show s0 S 5 + tkN (s1 S 6 i) = hpS (mkS S i) (s0 S 3) + (if s1 (mkS S i) 8 (s0 S 3) = 0 then 0 else s1 (mkS S i) 8 (s0 S 3) + 1)
    rw [(hc _ (Nat.le_refl _)).1, e8n, C3]; rfl
  · have hcc : c < s0 S 3 + 1 := hcc
    show (if 7 = 7 ∧ c = s0 S 3 then sa S 2 i else s1 S 7 c) < 32 ∧ (if 8 = 8 ∧ c = s0 S 3 then s1 S 6 i else s1 S 8 c) ≤ 4 ∧ (if 9 = 9 ∧ c = s0 S 3 then s0 S 4 else s1 S 9 c) = fsS (mkS S i) c ∧ ∀ k, k < (if 8 = 8 ∧ c = s0 S 3 then s1 S 6 i else s1 S 8 c) → okV c (if 1 = 1 ∧ s0 S 4 ≤ (if 9 = 9 ∧ c = s0 S 3 then s0 S 4 else s1 S 9 c) + k then rdS S (s2 S 2 i ((if 9 = 9 ∧ c = s0 S 3 then s0 S 4 else s1 S 9 c) + k - s0 S 4)) else sv S 1 ((if 9 = 9 ∧ c = s0 S 3 then s0 S 4 else s1 S 9 c) + k))
    by_cases e : c = s0 S 3
    · subst e
      simp only [and_self, if_true]
      refine ⟨hb, hn, by rw [(hc _ (Nat.le_refl _)).2]; exact C2, fun k hk => ?_⟩
      rw [if_pos ⟨trivial, Nat.le_add_right _ _⟩, show s0 S 4 + k - s0 S 4 = k by omega]
      exact hr k hk
    · simp only [e, and_false, if_false]
      obtain ⟨a1, a2, a3, a4⟩ := C5 c (by omega)
      refine ⟨a1, a2, by rw [(hc c (by omega)).2]; exact a3, fun k hk => ?_⟩
      have : s1 S 9 c + s1 S 8 c ≤ s0 S 4 := by
        rw [a3, C2]
        exact fsS_le (c := c + 1) (by omega)
      rw [if_neg (by omega)]
      exact a4 k hk
  · obtain ⟨a1, a2, a3, a4, a5, a6, a7⟩ := T3 j hj
    refine ⟨a1, a2, a3, ?_, Nat.le_succ_of_le a5, ?_, a7⟩
    · show s1 S 19 j = hpS (mkS S i) (s1 S 20 j)
      rw [(hc _ a5).1]; exact a4
    · show s1 S 21 j = fsS (mkS S i) (s1 S 20 j)
      rw [(hc _ a5).2]; exact a6
  · exact okV_le (Nat.le_succ _) (V m hm)
theorem WF.try' {S : Sp} {to : Nat} (h : WF S) (hl : live S) (hto : to < 2000) (hat : s0 S 9 < 2000) (hsz : szS S + 3 ≤ s0 S 14) : WF (sp_tryS S to) := by
  obtain ⟨P, C, ⟨B1, B2, B3, B4⟩, ⟨T1, T2, T3⟩, V, ⟨N1, N2, N3, N4, N5⟩⟩ := h
  have hw := B3 hl
  have o : ∀ k i, i < s0 S 7 → s1 (sp_tryS S to) k i = s1 S k i := fun k i hi => by
    have : ¬ i = s0 S 7 := by omega
    simp [s1, sp_tryS, up2, this]
  have n15 : s1 (sp_tryS S to) 15 (s0 S 7) = s0 S 6 := by simp [s1, sp_tryS, up2]
  have n16 : s1 (sp_tryS S to) 16 (s0 S 7) = s0 S 8 := by simp [s1, sp_tryS, up2]
  have n17 : s1 (sp_tryS S to) 17 (s0 S 7) = to := by simp [s1, sp_tryS, up2]
  have n18 : s1 (sp_tryS S to) 18 (s0 S 7) = 0 := by simp [s1, sp_tryS, up2]
  have n19 : s1 (sp_tryS S to) 19 (s0 S 7) = s0 S 5 := by simp [s1, sp_tryS, up2]
  have n20 : s1 (sp_tryS S to) 20 (s0 S 7) = s0 S 3 := by simp [s1, sp_tryS, up2]
  have n21 : s1 (sp_tryS S to) 21 (s0 S 7) = s0 S 4 := by simp [s1, sp_tryS, up2]
  have n7 : s0 (sp_tryS S to) 7 = s0 S 7 + 1 := rfl
  refine ⟨P, C, ⟨B1, ?_, fun _ => hw, B4⟩, ⟨⟨fun i j hij hj => ?_, fun i hi => ?_⟩, fun i j hij hj => ?_, fun i hi => ?_⟩, V, ⟨by show s0 S 9 + 1 ≤ 2000; omega, N2, N3, N4, N5⟩⟩
  · have e : szS S = s1 S 11 (s0 S 6) + 2 * s0 S 6 + 3 * s0 S 7 := rfl
    show s1 S 11 (s0 S 6) + 2 * s0 S 6 + 3 * (s0 S 7 + 1) ≤ 20000
    omega
  · rw [n7] at hj
    rcases Nat.lt_or_ge j (s0 S 7) with q | q
    · rw [o 15 i (by omega), o 15 j q]; exact T1.1 i j hij q
    · rw [show j = s0 S 7 by omega, n15, o 15 i (by omega)]; exact T1.2 i (by omega)
  · rw [n7] at hi
    show s1 (sp_tryS S to) 15 i ≤ s0 S 6
    rcases Nat.lt_or_ge i (s0 S 7) with q | q
    · rw [o 15 i q]; exact T1.2 i q
    · rw [show i = s0 S 7 by omega, n15]; exact Nat.le_refl _
  · rw [n7] at hj
    rcases Nat.lt_or_ge j (s0 S 7) with q | q
    · rw [o 20 i (by omega), o 20 j q]; exact T2 i j hij q
    · rw [show j = s0 S 7 by omega, n20, o 20 i (by omega)]; exact (T3 i (by omega)).2.2.2.2.1
  · rw [n7] at hi
    rcases Nat.lt_or_ge i (s0 S 7) with q | q
    · rw [o 15 i q, o 16 i q, o 17 i q, o 18 i q, o 19 i q, o 20 i q, o 21 i q]
      obtain ⟨a1, a2, a3, a4, a5, a6, a7⟩ := T3 i q
      refine ⟨a1, a2, a3, a4, a5, a6, fun k hk => ?_⟩
      have : sw (sp_tryS S to) 0 i k = sw S 0 i k := by simp [sw, sp_tryS, show ¬ i = s0 S 7 by omega]
      rw [this]; exact a7 k hk
    · have ei : i = s0 S 7 := by omega
      subst ei
      rw [n15, n16, n17, n18, n19, n20, n21]
      refine ⟨hw, hto, Nat.zero_le _, C.2.2.1, Nat.le_refl _, C.2.1, fun k hk => ?_⟩
      have : sw (sp_tryS S to) 0 (s0 S 7) k = sv S 0 k := by simp [sw, sp_tryS]
      rw [this]; exact V k hk
theorem WF.back {S : Sp} {n : Nat} (h : WF S) (hn : n < s0 S 7) : WF (sp_back (sp_drop S (s1 S 15 n) n) n) := by
  obtain ⟨P, ⟨C1, C2, C3, C4, C5⟩, hB, ⟨T1, T2, T3⟩, V, ⟨N1, N2, N3, N4, N5⟩⟩ := h
  obtain ⟨a1, a2, a3, a4, a5, a6, a7⟩ := T3 n hn
  have hf := T1.2 n hn
  have hbl := WF.bl hB hf (Nat.le_refl _)
  obtain ⟨B1, B2, B3, B4⟩ := hB
  refine ⟨P, ⟨Nat.le_trans a5 C1, a6, a4, ?_, fun c hc => C5 c (Nat.lt_of_lt_of_le hc a5)⟩, ⟨B1, ?_, fun _ => a1, fun j hj => B4 j (Nat.lt_of_lt_of_le hj hf)⟩, ⟨⟨fun i j p q => T1.1 i j p (Nat.lt_trans q hn), fun i p => T1.1 i n p hn⟩, fun i j p q => T2 i j p (Nat.lt_trans q hn), fun i p => ?_⟩, a7, ⟨by show s1 S 17 n ≤ 2000; omega, N2, N3, N4, N5⟩⟩
  · show s1 S 19 n ≤ s0 S 15
    rw [a4]
    have := hpS_le (S := S) a5
    omega
  · have e : szS S = s1 S 11 (s0 S 6) + 2 * s0 S 6 + 3 * s0 S 7 := rfl
    show s1 S 11 (s1 S 15 n) + 2 * s1 S 15 n + 3 * n ≤ 20000
    omega
  · obtain ⟨b1, b2, b3, b4, b5, b6, b7⟩ := T3 i (Nat.lt_trans p hn)
    exact ⟨b1, b2, b3, b4, T2 i n p hn, b6, b7⟩
/-- failing keeps it, also where the frame at work is gone -/
def WF0 (S : Sp) : Prop := WF (u0 S 17 3)
theorem WF.fail0 : ∀ n (S : Sp), s0 S 7 = n → WF0 S → WF (sp_failS n S) := by
  intro n
  induction n with
  | zero => intro S _ h; exact h
  | succ n ih =>
    intro S hn h
    have hb := WF.back (n := n) h (show n < s0 S 7 by omega)
    rw [sp_failS]
    split
    · obtain ⟨P, C, ⟨B1, B2, B3, B4⟩, T, V, N⟩ := hb
      refine ⟨P, C, ⟨B1, B2, fun _ => ?_, B4⟩, T, V, N⟩
      exact (h.2.2.2.1.2.2 n (show n < s0 S 7 by omega)).1
    · refine ih _ rfl ?_
      have T1 := h.2.2.2.1.1
      exact WF.drop (S := u0 S 17 3) h (T1.2 n (show n < s0 S 7 by omega)) (show n ≤ s0 S 7 by omega) (fun i hi => T1.1 i n hi (show n < s0 S 7 by omega)) (fun q => by rcases q with q | q <;> cases q)
theorem WF.fail {S : Sp} (h : WF S) : WF (sp_failS (s0 S 7) S) := WF.fail0 _ S rfl (h.stop (by decide))
