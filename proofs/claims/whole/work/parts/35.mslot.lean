/-! the reference reads and writes slots -/
theorem FK_ex {nf : Nat} {fb : Nat → Nat} (j : Nat) : ∀ nr, TR nf nr fb → ∃ k, FK nr fb j k := by
  intro nr
  induction nr with
  | zero => intro _; exact ⟨0, Nat.le_refl _, fun i h => absurd h (Nat.not_lt_zero i), fun i _ h => absurd h (Nat.not_lt_zero i)⟩
  | succ nr ih =>
    intro h
    obtain ⟨k, h1, h2, h3⟩ := ih ⟨fun i l a b => h.1 i l a (by omega), fun i a => h.2 i (by omega)⟩
    by_cases hk : k = nr
    · subst hk
      by_cases hj : fb k ≤ j
      · refine ⟨k + 1, Nat.le_refl _, fun i hi => ?_, fun i a b => absurd b (by omega)⟩
        rcases Nat.lt_or_ge i k with q | q
        · exact h2 i q
        · rw [show i = k by omega]; exact hj
      · refine ⟨k, by omega, h2, fun i a b => ?_⟩
        rw [show i = k by omega]; omega
    · refine ⟨k, by omega, h2, fun i a b => ?_⟩
      rcases Nat.lt_or_ge i nr with q | q
      · exact h3 i a q
      · have e : i = nr := by omega
        subst e
        have x := h3 k (Nat.le_refl k) (by omega)
        have y := h.1 k i (by omega) (by omega)
        omega
theorem FK_uq {nr : Nat} {fb : Nat → Nat} {j k k' : Nat} (a : FK nr fb j k) (b : FK nr fb j k') : k = k' := by
  rcases Nat.lt_trichotomy k k' with q | q | q
  · have x := b.2.1 k q
    have y := a.2.2 k (Nat.le_refl k) (by have := b.1; omega)
    omega
  · exact q
  · have x := a.2.1 k' q
    have y := b.2.2 k' (Nat.le_refl k') (by have := a.1; omega)
    omega
/-- where frame j's slot a lies, and that it is in range -/
theorem RM4.place {σ : MSt} {S : Sp} (h : RM4 σ S) {j a k : Nat} (hj : j < s0 S 6) (hk : FK (s0 S 7) (s1 S 15) j k) (ha : a < s1 S 1 (s1 S 10 j)) : j + k < 7000 ∧ ma σ 29 (j + k) = nI (s1 S 11 j) ∧ s1 S 11 j + a < s1 S 11 (s0 S 6) ∧ s1 S 11 (s0 S 6) ≤ 20000 := by
  obtain ⟨h1, h2, -⟩ := h
  have hb := h2.2.1 j hj
  have hl : s1 S 11 (j + 1) ≤ s1 S 11 (s0 S 6) := base_le (nf := s0 S 6) (pr := s1 S 10) (sl := s1 S 1) (fun i hi => (h2.2.1 i hi).2.2) (s0 S 6 - (j + 1)) (j + 1) (by omega)
  have hkn := hk.1
  have h7 := h1.2.1
  refine ⟨by omega, (h2.1 j k hj hk).2, by have := hb.2.2; omega, by have := h2.2.2; omega⟩
theorem m_get {σ : MSt} {S : Sp} {tb a : Nat} {post : Int64 → MSt → Prop} (h : RMb σ S tb) (hf : live S) (ha : a < s1 S 1 (s1 S 10 (s0 S 8))) (hp : post (sv S 0 (s1 S 11 (s0 S 8) + a)) σ) : wp_X11_get σ (nI a) post := by
  obtain ⟨-, -, -, h4, h5, -⟩ := h
  obtain ⟨hw, hwk⟩ := h4.2.2.2.2.2.2.2.1 hf
  obtain ⟨k, hk⟩ := FK_ex (s0 S 8) (s0 S 7) h4.1.2.2.1
  obtain ⟨q1, q2, q3, q4⟩ := h4.place hw hk ha
  unfold wp_X11_get
  rw [(hwk k hk).1, nI_clamp (by omega), q2, nI_add, nI_clamp (by omega), h5.1 _ q3]
  exact ⟨vp_in_nI q1 (by decide), vp_in_nI (by omega) (by decide), hp⟩
theorem undo_congr {q q' : Nat → Int32} {w w' : Nat → Int64} {n : Nat} : ∀ d (f : Nat → Int64), (∀ m, m < n + d → q' m = q m ∧ w' m = w m) → undo q' w' n d f = undo q w n d f := by
  intro d
  induction d with
  | zero => intro f _; rfl
  | succ d ih =>
    intro f h
    obtain ⟨h1, h2⟩ := h (n + d) (by omega)
    show undo q' w' n d (va_up f (q' (n + d)).toNatClampNeg (w' (n + d))) = undo q w n d (va_up f (q (n + d)).toNatClampNeg (w (n + d)))
    rw [h1, h2]
    exact ih _ (fun m hm => h m (by omega))
theorem va_up_back {f : Nat → Int64} {q : Nat} {v : Int64} : va_up (va_up f q v) q (f q) = f := by
  funext j
  by_cases h : j = q
  · simp [va_up, h]
  · simp [va_up, h]
theorem m_write {σ : MSt} {S : Sp} {tb a j k : Nat} {v : Int64} {post : MSt → Prop} (h : RMb σ S tb) (ht : tb < 200000) (hj : j < s0 S 6) (hk : FK (s0 S 7) (s1 S 15) j k) (ha : a < s1 S 1 (s1 S 10 j)) (hp : ∀ σ', RMb σ' (uv S 0 (s1 S 11 j + a) v) (tb + 1) → post σ') : wp_X11_write σ (nI (j + k)) (nI a) v post := by
  obtain ⟨h1, h2, h3, h4, h5, h6⟩ := h
  obtain ⟨q1, q2, q3, q4⟩ := h4.place hj hk ha
  obtain ⟨g0, tn, tt, g1, g2, g3, g4, g5⟩ := h5
  refine ⟨vp_in_nI q1 (by decide), fun v1 e1 => ?_⟩
  rw [nI_clamp (by omega), q2, nI_add] at e1
  subst e1
  rw [g1]
  refine ⟨vp_in_nI (by omega) (by decide), fun σ2 e2 => ⟨vp_in_nI (by omega) (by decide), ?_⟩⟩
  rw [nI_clamp (by omega)] at e2
  have i2 : mi σ2 41 = nI tn := by rw [e2]; exact g1
  rw [i2]
  refine ⟨vp_in_nI (by omega) (by decide), fun σ3 e3 σ4 e4 => ⟨vp_in_nI (by omega) (by decide), fun σ5 e5 => ?_⟩⟩
  rw [nI_clamp (by omega), nI_clamp (by omega)] at e3
  have i3 : mi σ3 41 = nI tn := by rw [e3]; exact i2
  rw [i3, nI_1] at e4
  rw [nI_clamp (by omega)] at e5
  refine hp σ5 ?_
  subst e5; subst e4; subst e3; subst e2
  generalize hq : s1 S 11 j + a = qq at q3 ⊢
  refine ⟨h1, h2, h3, h4, ⟨fun m hm => ?_, tn + 1, tt, rfl, by omega, fun m hm => ?_, g4, fun i hi => ?_⟩, h6⟩
  · show (if 39 = 39 ∧ m = qq then v else ml σ 39 m) = (if 0 = 0 ∧ m = qq then v else sv S 0 m)
    by_cases e : m = qq
    · simp [e]
    · simp [e]; exact g0 m hm
  · show ∃ q, q < 20000 ∧ (if 42 = 42 ∧ m = tn then nI qq else ma σ 42 m) = nI q
    by_cases e : m = tn
    · exact ⟨qq, by omega, by simp [e]⟩
    · simp [e]; exact g3 m (by omega)
  · obtain ⟨b1, b2, b3⟩ := g5 i hi
    refine ⟨by omega, b2, fun m hm => ?_⟩
    rw [show sw (uv S 0 qq v) 0 i m = sw S 0 i m from rfl, ← b3 m hm]
    have ed : tn + 1 - tt i = (tn - tt i) + 1 := by omega
    rw [ed]
    show undo (fun m => if 42 = 42 ∧ m = tn then nI qq else ma σ 42 m) (fun m => if 43 = 39 ∧ m = qq then v else if 43 = 43 ∧ m = tn then ml σ 39 qq else ml σ 43 m) (tt i) (tn - tt i) (va_up (fun m => if 39 = 39 ∧ m = qq then v else if 39 = 43 ∧ m = tn then ml σ 39 qq else ml σ 39 m) ((if 42 = 42 ∧ tt i + (tn - tt i) = tn then nI qq else ma σ 42 (tt i + (tn - tt i)))).toNatClampNeg (if 43 = 39 ∧ tt i + (tn - tt i) = qq then v else if 43 = 43 ∧ tt i + (tn - tt i) = tn then ml σ 39 qq else ml σ 43 (tt i + (tn - tt i)))) m = _
    have et : tt i + (tn - tt i) = tn := by omega
    simp only [et]
    simp only [show ¬ (43 : Nat) = 39 by decide, show ¬ (39 : Nat) = 43 by decide, false_and, if_false, and_self, if_true, true_and]
    rw [nI_clamp (show qq < 2 ^ 31 by omega)]
    have ef : va_up (fun m => if m = qq then v else ml σ 39 m) qq (ml σ 39 qq) = ml σ 39 := va_up_back (f := ml σ 39) (q := qq) (v := v)
    rw [ef]
    refine congrFun (undo_congr _ _ fun m hm => ?_) m
    have hne : ¬ m = tn := by omega
    simp [hne]
