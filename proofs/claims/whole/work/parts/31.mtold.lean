/-! the reference's told, isWithin, areSlots -/
def sp_told (S : Sp) (a : Int32) : Int32 := if a = 0 then nI (s0 S 17) - 1 else if a = 1 then nI (s0 S 10) else if a = 2 then nI (s1 S 11 (s0 S 6) + 2 * s0 S 6 + 3 * s0 S 7) else if a = 3 then nI (s0 S 11) else if a = 4 then nI (s0 S 5) else if a = 5 then nI (s0 S 12) else if a = 6 then nI (s0 S 13) else if a = 7 then nI (s0 S 7) else if a = 8 then nI (s0 S 6) else -1
theorem add_sub1 {x y : Int32} (h : x + 1 = y) : x = y - 1 := by rw [← h, Int32.add_sub_cancel]
theorem m_told {σ : MSt} {S : Sp} {a : Int32} {post : Int32 → MSt → Prop} (h : RM σ S) (hp : ∀ σ', RM σ' S → post (sp_told S a) σ') : wp_X11_told σ a post := by
  have h0 := h.thr (v := 0)
  intro σ1 e1
  rw [← e1] at h0
  obtain ⟨-, -, h3, h4, -, h6⟩ := id h0
  have hq := hp σ1 h0
  obtain ⟨g1, g2, g3, g4, g5, g6, g7, g8, g9, -⟩ := h6
  refine ⟨fun ha => ?_, fun ha => ?_, fun ha => ?_, fun ha => ?_, fun ha => ?_, fun ha => ?_, fun ha => ?_, fun ha => ?_, fun ha => ?_, fun n0 n1 n2 n3 n4 n5 n6 n7 n8 => ?_⟩
  · subst ha; rw [add_sub1 g1]; exact hq
  · subst ha; rw [g3]; exact hq
  · subst ha; rw [h4.2.2.1]; exact hq
  · subst ha; rw [g5]; exact hq
  · subst ha; rw [h3.2.2.2.2.1]; exact hq
  · subst ha; rw [g7]; exact hq
  · subst ha; rw [g9]; exact hq
  · subst ha; exact m_redos h4.1 hq
  · subst ha
    refine m_redos h4.1 ?_
    rw [h4.1.1, pk_sub (by omega), show s0 S 6 + s0 S 7 - s0 S 7 = s0 S 6 by omega]
    exact hq
  · rw [sp_told, if_neg n0, if_neg n1, if_neg n2, if_neg n3, if_neg n4, if_neg n5, if_neg n6, if_neg n7, if_neg n8] at hq
    exact hq
theorem m_isWithin {σ : MSt} {a b c : Int32} {post : Int32 → MSt → Prop} (hp : b ≤ a ∧ a ≤ c → post 1 σ) (hn : ¬ (b ≤ a ∧ a ≤ c) → post 0 σ) : wp_X11_isWithin σ a b c post := by
  refine ⟨fun h => hn fun q => absurd h (Int32.not_lt.mpr q.1), fun h => ⟨fun h2 => hn fun q => absurd h2 (Int32.not_lt.mpr q.2), fun h2 => hp ⟨Int32.not_lt.mp h, Int32.not_lt.mp h2⟩⟩⟩
theorem m_areSlots {σ : MSt} {n : Nat} {row : Nat → Int32} {s : Int32} {post : Int32 → MSt → Prop} (hn : n ≤ 10) (hr : ∀ i, i < n → ma σ 1 i = row i) (hp : (∀ i, i < n → 0 ≤ row i ∧ row i ≤ s - 1) → post 1 σ) (hq : ¬ (∀ i, i < n → 0 ≤ row i ∧ row i ≤ s - 1) → post 0 σ) : wp_X11_areSlots σ (nI n) s post := by
  have key : ∀ d t, t + d = n → (∀ i, i < t → 0 ≤ row i ∧ row i ≤ s - 1) → wp_X11_areSlots_2 post (d + 1) σ (nI n) s (nI t) := by
    intro d
    induction d with
    | zero =>
      intro t ht hi
      have e : t = n := by omega
      subst e
      rw [wp_X11_areSlots_2]
      exact ⟨fun _ => hp hi, fun h => absurd (nI_le (Nat.le_refl _) (by omega)) h⟩
    | succ d ih =>
      intro t ht hi
      rw [wp_X11_areSlots_2]
      refine ⟨fun h => absurd h (nI_ge (by omega) (by omega)), fun _ => ⟨vp_in_nI (by omega) (by omega), ?_⟩⟩
      rw [nI_clamp (by omega), hr t (by omega)]
      refine m_isWithin (fun hw => ⟨fun h => absurd h (by decide), fun _ v e => ?_⟩) (fun hw => ⟨fun _ => hq fun q => hw (q t (by omega)), fun h => absurd rfl h⟩)
      rw [e, nI_1]
      refine ih (t + 1) (by omega) fun i hlt => ?_
      rcases Nat.lt_or_ge i t with q | q
      · exact hi i q
      · have : i = t := by omega
        subst this; exact hw
  have := key n 0 (by omega) (fun i h => absurd h (Nat.not_lt_zero i))
  exact ⟨n + 1, this⟩
