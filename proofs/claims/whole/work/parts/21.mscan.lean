/-! the reference's scans over its things: frames and redo points in one row, told apart by their ranks -/
/-- nf frames, nr redo points; fb i frames lie below redo point i; it is thing fb i + i -/
def TR (nf nr : Nat) (fb : Nat → Nat) : Prop := (∀ i j, i < j → j < nr → fb i ≤ fb j) ∧ ∀ i, i < nr → fb i ≤ nf
def FL (σ : MSt) (nf nr : Nat) (fb : Nat → Nat) : Prop := mi σ 26 = nI (nf + nr) ∧ nf + nr < 7000 ∧ TR nf nr fb ∧ ∀ t, t < nf + nr → (ma σ 27 t = 0 ↔ ∃ i, i < nr ∧ t = fb i + i)
/-- k redo points lie below thing t -/
def RK (nr : Nat) (fb : Nat → Nat) (t k : Nat) : Prop := k ≤ nr ∧ (∀ i, i < k → fb i + i < t) ∧ ∀ i, k ≤ i → i < nr → t ≤ fb i + i
theorem RK.z {nr : Nat} {fb : Nat → Nat} : RK nr fb 0 0 := ⟨Nat.zero_le _, fun i h => absurd h (Nat.not_lt_zero i), fun _ _ _ => Nat.zero_le _⟩
theorem RK.top {nf nr : Nat} {fb : Nat → Nat} {k : Nat} (h : TR nf nr fb) (hk : RK nr fb (nf + nr) k) : k = nr := by
  obtain ⟨h1, h2, h3⟩ := hk
  rcases Nat.lt_or_ge k nr with q | q
  · have a := h3 k (Nat.le_refl k) q
    have b := h.2 k q
    omega
  · omega
theorem RK.redo {nf nr : Nat} {fb : Nat → Nat} {t k i : Nat} (h : TR nf nr fb) (hk : RK nr fb t k) (hi : i < nr) (ht : t = fb i + i) : i = k ∧ RK nr fb (t + 1) (k + 1) := by
  obtain ⟨h1, h2, h3⟩ := hk
  have e : i = k := by
    rcases Nat.lt_trichotomy i k with q | q | q
    · have := h2 i q; omega
    · exact q
    · have a := h3 k (Nat.le_refl k) (by omega)
      have b := h.1 k i q hi
      omega
  subst e
  refine ⟨rfl, hi, fun j hj => ?_, fun j hj hn => ?_⟩
  · rcases Nat.lt_or_ge j i with q | q
    · have := h2 j q; omega
    · have : j = i := by omega
      subst this; omega
  · have := h.1 i j (by omega) hn
    omega
theorem RK.frame {nf nr : Nat} {fb : Nat → Nat} {t k : Nat} (hk : RK nr fb t k) (hn : ¬ ∃ i, i < nr ∧ t = fb i + i) : RK nr fb (t + 1) k := by
  obtain ⟨h1, h2, h3⟩ := hk
  refine ⟨h1, fun i hi => by have := h2 i hi; omega, fun i hi hl => ?_⟩
  have a := h3 i hi hl
  rcases Nat.lt_or_ge t (fb i + i) with q | q
  · exact q
  · exact absurd ⟨i, hl, by omega⟩ hn
theorem m_redos {σ : MSt} {nf nr : Nat} {fb : Nat → Nat} {post : Int32 → MSt → Prop} (h : FL σ nf nr fb) (hp : post (nI nr) σ) : wp_X11_redos σ post := by
  obtain ⟨h1, h2, h3, h4⟩ := h
  have key : ∀ d t k, t + d = nf + nr → RK nr fb t k → wp_X11_redos_4 post (d + 1) σ (nI k) (nI t) := by
    intro d
    induction d with
    | zero =>
      intro t k ht hk
      have e : t = nf + nr := by omega
      subst e
      rw [wp_X11_redos_4, h1]
      refine ⟨fun _ => ?_, fun h => absurd (nI_le (Nat.le_refl _) (by omega)) h⟩
      rw [RK.top h3 hk]; exact hp
    | succ d ih =>
      intro t k ht hk
      rw [wp_X11_redos_4, h1]
      refine ⟨fun h => absurd h (nI_ge (by omega) (by omega)), fun _ => ⟨vp_in_nI (by omega) (by omega), ?_⟩⟩
      rw [nI_clamp (by omega)]
      refine ⟨fun hz v1 e1 v2 e2 => ?_, fun hz v3 e3 v4 e4 => ?_⟩
      · obtain ⟨i, hi, hti⟩ := (h4 t (by omega)).mp hz
        rw [e1, e2, nI_1, nI_1]
        exact ih (t + 1) (k + 1) (by omega) (RK.redo h3 hk hi hti).2
      · rw [e3, e4, nI_1, show nI k + 0 = nI k by simp]
        exact ih (t + 1) k (by omega) (RK.frame (nf := nf) hk (fun q => hz ((h4 t (by omega)).mpr q)))
  exact ⟨nf + nr + 1, key (nf + nr) 0 0 (by omega) RK.z⟩
theorem m_redoAt {σ : MSt} {nf nr : Nat} {fb : Nat → Nat} {a : Int32} {post : Int32 → MSt → Prop} (h : FL σ nf nr fb) (hp : ∀ j, j < nr → a = nI j → post (nI (fb j + j)) σ) (hn : (∀ j, j < nr → a ≠ nI j) → post (-1) σ) : wp_X11_redoAt σ a post := by
  obtain ⟨h1, h2, h3, h4⟩ := h
  have key : ∀ d t k, t + d = nf + nr → RK nr fb t k → (∀ j, j < k → a ≠ nI j) → wp_X11_redoAt_4 post (d + 1) σ a (nI k) (nI t) := by
    intro d
    induction d with
    | zero =>
      intro t k ht hk hne
      have e : t = nf + nr := by omega
      subst e
      rw [wp_X11_redoAt_4, h1]
      refine ⟨fun _ => hn ?_, fun h => absurd (nI_le (Nat.le_refl _) (by omega)) h⟩
      rw [← RK.top h3 hk]; exact hne
    | succ d ih =>
      intro t k ht hk hne
      rw [wp_X11_redoAt_4, h1]
      refine ⟨fun h => absurd h (nI_ge (by omega) (by omega)), fun _ => ⟨vp_in_nI (by omega) (by omega), ?_⟩⟩
      rw [nI_clamp (by omega)]
      refine ⟨fun hz => ?_, fun hz v3 e3 => ?_⟩
      · obtain ⟨i, hi, hti⟩ := (h4 t (by omega)).mp hz
        obtain ⟨eik, hk1⟩ := RK.redo h3 hk hi hti
        subst eik
        refine ⟨fun he => ?_, fun he v1 e1 v2 e2 => ?_⟩
        · rw [hti]; exact hp i hi he.symm
        · rw [e1, e2, nI_1, nI_1]
          refine ih (t + 1) (i + 1) (by omega) hk1 fun j hj => ?_
          rcases Nat.lt_or_ge j i with q | q
          · exact hne j q
          · have : j = i := by omega
            subst this
            exact fun q2 => he q2.symm
      · rw [e3, nI_1]
        exact ih (t + 1) k (by omega) (RK.frame (nf := nf) hk (fun q => hz ((h4 t (by omega)).mpr q))) hne
  exact ⟨nf + nr + 1, key (nf + nr) 0 0 (by omega) RK.z (fun j hj => absurd hj (Nat.not_lt_zero j))⟩
theorem m_lastRedo {σ : MSt} {nf nr : Nat} {fb : Nat → Nat} {post : Int32 → MSt → Prop} (h : FL σ nf nr fb) (h0 : nr = 0 → post (-1) σ) (hp : ∀ k, nr = k + 1 → post (nI (fb k + k)) σ) : wp_X11_lastRedo σ post := by
  obtain ⟨h1, h2, h3, h4⟩ := h
  intro v1 e1
  have key : ∀ t, t ≤ nf + nr → (∀ u, t ≤ u → u < nf + nr → ¬ ∃ i, i < nr ∧ u = fb i + i) → wp_X11_lastRedo_7 post (t + 1) σ (nI t - 1) := by
    intro t
    induction t with
    | zero =>
      intro _ hn
      rw [wp_X11_lastRedo_7, nI_0]
      refine ⟨fun _ => h0 ?_, fun h => absurd (by decide) h⟩
      rcases Nat.eq_zero_or_pos nr with q | q
      · exact q
      · have := h3.2 0 q
        exact absurd ⟨0, q, rfl⟩ (hn (fb 0 + 0) (Nat.zero_le _) (by omega))
    | succ t ih =>
      intro ht hn
      rw [wp_X11_lastRedo_7, nI_pred]
      refine ⟨fun h => absurd h (nI_pos (by omega)), fun _ => ⟨vp_in_nI (by omega) (by omega), ?_⟩⟩
      rw [nI_clamp (by omega)]
      refine ⟨fun hz => ?_, fun hz v2 e2 => ?_⟩
      · obtain ⟨i, hi, hti⟩ := (h4 t (by omega)).mp hz
        have e : nr = i + 1 := by
          rcases Nat.lt_or_ge (i + 1) nr with q | q
          · have a := h3.1 i (i + 1) (by omega) q
            have b := h3.2 (i + 1) q
            exact absurd ⟨i + 1, q, rfl⟩ (hn (fb (i + 1) + (i + 1)) (by omega) (by omega))
          · omega
        rw [hti]
        exact hp i e
      · rw [e2, show nI t + (-1) = nI t - 1 by rw [Int32.sub_eq_add_neg]]
        refine ih (by omega) fun u hu hl => ?_
        rcases Nat.lt_or_ge t u with q | q
        · exact hn u q hl
        · have : u = t := by omega
          subst this
          exact fun q2 => hz ((h4 u (by omega)).mpr q2)
  rw [h1] at e1
  rw [e1]
  exact ⟨nf + nr + 1, key (nf + nr) (Nat.le_refl _) (fun u h5 h6 => absurd h6 (by omega))⟩
