/-! the reference goes back along its trail -/
def ssl (σ : MSt) (tn : Nat) (g : Nat → Int64) : MSt := (va_up σ.1 41 (nI tn), σ.2.1, fun k i => if k = 39 then g i else σ.2.2 k i)
theorem ssl_rf {σ : MSt} {tn : Nat} (h : mi σ 41 = nI tn) : ssl σ tn (ml σ 39) = σ := by
  refine mst_ext (fun k => ?_) rfl ?_
  · show (if k = 41 then nI tn else mi σ k) = mi σ k
    by_cases e : k = 41
    · rw [if_pos e, e, h]
    · rw [if_neg e]
  · funext k i
    show (if k = 39 then ml σ 39 i else ml σ k i) = ml σ k i
    by_cases e : k = 39
    · rw [if_pos e, e]
    · rw [if_neg e]
theorem ssl_s {σ : MSt} {tn q : Nat} {g : Nat → Int64} {x : Int64} : sml (smi (ssl σ (tn + 1) g) 41 (nI tn)) 39 q x = ssl σ tn (va_up g q x) := by
  refine mst_ext (fun k => ?_) rfl ?_
  · show (if k = 41 then nI tn else if k = 41 then nI (tn + 1) else mi σ k) = (if k = 41 then nI tn else mi σ k)
    by_cases e : k = 41
    · simp [e]
    · simp [e]
  · funext k i
    show (if k = 39 ∧ i = q then x else if k = 39 then g i else ml σ k i) = (if k = 39 then (if i = q then x else g i) else ml σ k i)
    by_cases e : k = 39
    · simp [e]
    · simp [e]
theorem m_fail49 {σ : MSt} {t T0 tn w : Nat} {x4 : Int32} {post : MSt → Prop} (ht : t < 7000) (hw : w < 7000) (h38 : ma σ 38 t = nI T0) (h41 : mi σ 41 = nI tn) (hT : T0 ≤ tn) (htn : tn ≤ 200000) (hq : ∀ m, m < tn → ∃ q, q < 20000 ∧ ma σ 42 m = nI q)
    (hp : post (sma (smi (smi (smi (smi (ssl σ T0 (undo (ma σ 42) (ml σ 43) T0 (tn - T0) (ml σ 39))) 25 (ma σ 35 t)) 19 (ma σ 36 t)) 24 (ma σ 37 t)) 45 (nI w)) 30 w x4)) : ∃ n, wp_X11_fail_49 post n σ (nI t) (nI w) x4 := by
  have key : ∀ d g, T0 + d ≤ tn → post (sma (smi (smi (smi (smi (ssl σ T0 (undo (ma σ 42) (ml σ 43) T0 d g)) 25 (ma σ 35 t)) 19 (ma σ 36 t)) 24 (ma σ 37 t)) 45 (nI w)) 30 w x4) → wp_X11_fail_49 post (d + 1) (ssl σ (T0 + d) g) (nI t) (nI w) x4 := by
    intro d
    induction d with
    | zero =>
      intro g _ hp
      rw [wp_X11_fail_49, nI_clamp (show t < 2 ^ 31 by omega)]
      have a : mi (ssl σ (T0 + 0) g) 41 = nI T0 := rfl
      have b : ma (ssl σ (T0 + 0) g) 38 t = nI T0 := h38
      rw [a, b]
      refine ⟨vp_in_nI ht (by decide), fun _ => ?_, fun hz => absurd (nI_le (Nat.le_refl _) (by omega)) hz⟩
      refine ⟨vp_in_nI ht (by decide), fun σ7 e7 => ⟨vp_in_nI ht (by decide), fun σ8 e8 => ⟨vp_in_nI ht (by decide), fun σ9 e9 σ10 e10 => ⟨vp_in_nI hw (by decide), fun σ11 e11 => ?_⟩⟩⟩⟩
      rw [nI_clamp (by omega)] at e11
      rw [e11, e10, e9, e8, e7]
      exact hp
    | succ d ih =>
      intro g hle hp
      rw [wp_X11_fail_49, nI_clamp (show t < 2 ^ 31 by omega)]
      have a : mi (ssl σ (T0 + (d + 1)) g) 41 = nI (T0 + d + 1) := rfl
      have b : ma (ssl σ (T0 + (d + 1)) g) 38 t = nI T0 := h38
      rw [a, b, nI_pred]
      refine ⟨vp_in_nI ht (by decide), fun hz => absurd hz (nI_ge (by omega) (by omega)), fun _ σ12 e12 => ?_⟩
      have c : mi σ12 41 = nI (T0 + d) := by rw [e12]; rfl
      obtain ⟨q, hq1, hq2⟩ := hq (T0 + d) (by omega)
      have c2 : ma σ12 42 (T0 + d) = nI q := by rw [e12]; exact hq2
      have c3 : ml σ12 43 (T0 + d) = ml σ 43 (T0 + d) := by rw [e12]; rfl
      rw [c, nI_clamp (show T0 + d < 2 ^ 31 by omega), c2, nI_clamp (show q < 2 ^ 31 by omega), c3]
      refine ⟨vp_in_nI (by omega) (by decide), vp_in_nI (by omega) (by decide), vp_in_nI (by omega) (by decide), fun σ13 e13 => ?_⟩
      have e : σ13 = ssl σ (T0 + d) (va_up g q (ml σ 43 (T0 + d))) := by
        rw [e13, e12, show T0 + (d + 1) = T0 + d + 1 from rfl]; exact ssl_s
      rw [e]
      refine ih _ (by omega) ?_
      have hu : undo (ma σ 42) (ml σ 43) T0 (d + 1) g = undo (ma σ 42) (ml σ 43) T0 d (va_up g q (ml σ 43 (T0 + d))) := by
        show undo (ma σ 42) (ml σ 43) T0 d (va_up g (ma σ 42 (T0 + d)).toNatClampNeg (ml σ 43 (T0 + d))) = _
        rw [hq2, nI_clamp (by omega)]
      rw [hu] at hp
      exact hp
  have := key (tn - T0) (ml σ 39) (by omega) hp
  rw [show T0 + (tn - T0) = tn by omega, ssl_rf h41] at this
  exact ⟨_, this⟩
