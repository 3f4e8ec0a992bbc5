/-! the reference compares values -/
/-- m pairs may still be looked at; n wait, the last is next -/
def cmpA (S : Sp) : Nat → Nat → (Nat → Int64) → (Nat → Int64) → Nat
  | 0, n, _, _ => if n = 0 then 0 else 2
  | m + 1, n, f, g => if n = 0 then 0 else
    if f (n - 1) < 1099511627776 ∨ g (n - 1) < 1099511627776 then (if f (n - 1) = g (n - 1) then cmpA S m (n - 1) f g else 1) else
    if s1 S 7 (cix (f (n - 1))) = s1 S 7 (cix (g (n - 1))) ∧ s1 S 8 (cix (f (n - 1))) = s1 S 8 (cix (g (n - 1))) then
      cmpA S m (n - 1 + s1 S 8 (cix (f (n - 1))))
        (fun j => if n - 1 ≤ j then sv S 1 (s1 S 9 (cix (f (n - 1))) + (s1 S 8 (cix (f (n - 1))) - 1 - (j - (n - 1)))) else f j)
        (fun j => if n - 1 ≤ j then sv S 1 (s1 S 9 (cix (g (n - 1))) + (s1 S 8 (cix (f (n - 1))) - 1 - (j - (n - 1)))) else g j)
    else 1
theorem m_cmp150 {S : Sp} {tb c d : Nat} {post : Int32 → MSt → Prop} {K : MSt → Int32 → Int32 → Prop} {x6 : Int32} (hc : c < s0 S 3) (hd : d < s0 S 3) :
    ∀ r n0 σ, RMb σ S tb → n0 + r ≤ 20000 → r ≤ s1 S 8 c → r ≤ s1 S 8 d → (∀ σ', RMb σ' S tb → (∀ j, j < n0 → ml σ' 55 j = ml σ 55 j ∧ ml σ' 56 j = ml σ 56 j) → (∀ j, n0 ≤ j → j < n0 + r → ml σ' 55 j = sv S 1 (s1 S 9 c + (r - 1 - (j - n0))) ∧ ml σ' 56 j = sv S 1 (s1 S 9 d + (r - 1 - (j - n0)))) → K σ' (nI (n0 + r)) x6) → wp_X11_compare_150 post K (r + 1) σ (nI n0) x6 (nI c) (nI d) (nI r - 1) := by
  intro r
  induction r with
  | zero =>
    intro n0 σ h hb _ _ hp
    rw [wp_X11_compare_150]
    exact ⟨fun _ => hp σ h (fun _ _ => ⟨rfl, rfl⟩) (fun j a b => absurd b (by omega)), fun z => absurd (by decide) z⟩
  | succ r ih =>
    intro n0 σ h hb hrc hrd hp
    obtain ⟨h1, h2, h3, h4, h5, h6⟩ := id h
    have hnc : s0 S 3 ≤ 20000 := h3.2.1
    have hnf : s0 S 4 ≤ 20000 := h3.2.2.2.1
    obtain ⟨a1, a2, a3, a4, a5, a6⟩ := h3.2.2.2.2.2.2.1 c hc
    obtain ⟨b1, b2, b3, b4, b5, b6⟩ := h3.2.2.2.2.2.2.1 d hd
    have hfld := h3.2.2.2.2.2.2.2
    rw [wp_X11_compare_150, nI_pred]
    refine ⟨fun z => absurd z (nI_pos (by omega)), fun _ => ?_⟩
    rw [nI_clamp (show c < 2 ^ 31 by omega), a5, nI_add, nI_clamp (show s1 S 9 c + r < 2 ^ 31 by omega), nI_clamp (show n0 < 2 ^ 31 by omega), nI_clamp (show d < 2 ^ 31 by omega), hfld _ (by omega)]
    refine ⟨vp_in_nI (by omega) (by decide), vp_in_nI (by omega) (by decide), vp_in_nI (by omega) (by decide), fun σ14 e14 => ⟨vp_in_nI (by omega) (by decide), ?_⟩⟩
    have b5' : ma σ14 22 d = nI (s1 S 9 d) := by rw [e14]; exact b5
    rw [b5', nI_add, nI_clamp (show s1 S 9 d + r < 2 ^ 31 by omega)]
    have hf' : ml σ14 23 (s1 S 9 d + r) = sv S 1 (s1 S 9 d + r) := by rw [e14]; exact hfld _ (by omega)
    rw [hf']
    refine ⟨vp_in_nI (by omega) (by decide), vp_in_nI (by omega) (by decide), fun σ15 e15 v16 e16 v17 e17 => ?_⟩
    rw [e16, nI_1, e17, show nI r + (-1) = nI r - 1 by rw [Int32.sub_eq_add_neg]]
    have q55 : ∀ j, ml σ15 55 j = if j = n0 then sv S 1 (s1 S 9 c + r) else ml σ 55 j := fun j => by
      rw [e15, e14]
      show (if 55 = 55 ∧ j = n0 then sv S 1 (s1 S 9 c + r) else ml σ 55 j) = _
      simp
    have q56 : ∀ j, ml σ15 56 j = if j = n0 then sv S 1 (s1 S 9 d + r) else ml σ 56 j := fun j => by
      rw [e15, e14]
      show (if 56 = 56 ∧ j = n0 then sv S 1 (s1 S 9 d + r) else ml σ 56 j) = _
      simp
    refine ih (n0 + 1) σ15 (by rw [e15, e14]; exact h) (by omega) (by omega) (by omega) (fun σ' h' hlo hhi => ?_)
    rw [show n0 + 1 + r = n0 + (r + 1) by omega]
    refine hp σ' h' (fun j hj => ?_) (fun j hj1 hj2 => ?_)
    · obtain ⟨y1, y2⟩ := hlo j (by omega)
      rw [y1, y2, q55, q56, if_neg (by omega), if_neg (by omega)]
      exact ⟨rfl, rfl⟩
    · rcases Nat.lt_or_ge n0 j with q | q
      · obtain ⟨y1, y2⟩ := hhi j (by omega) (by omega)
        rw [y1, y2, show r - 1 - (j - (n0 + 1)) = r + 1 - 1 - (j - n0) by omega]
        exact ⟨rfl, rfl⟩
      · have ej : j = n0 := by omega
        subst ej
        obtain ⟨y1, y2⟩ := hlo j (by omega)
        rw [y1, y2, q55, q56, if_pos rfl, if_pos rfl, show r + 1 - 1 - (j - j) = r by omega]
        exact ⟨rfl, rfl⟩
theorem m_cmp20 {S : Sp} {tb : Nat} {post : Int32 → MSt → Prop} (hW : ∀ c, c < s0 S 3 → ∀ k, k < s1 S 8 c → okV (s0 S 3) (sv S 1 (s1 S 9 c + k))) : ∀ m n f g σ, m ≤ 5000 → RMb σ S tb → n + 3 * m ≤ 15001 → (∀ j, j < n → ml σ 55 j = f j ∧ ml σ 56 j = g j ∧ okV (s0 S 3) (f j) ∧ okV (s0 S 3) (g j)) → (∀ σ', RMb σ' S tb → post (nI (cmpA S m n f g)) σ') → wp_X11_compare_20 post (m + 1) σ (nI n) (nI (5000 - m)) := by
  intro m
  induction m with
  | zero =>
    intro n f g σ _ h hn hj hp
    rw [wp_X11_compare_20]
    refine ⟨fun hz => ?_, fun hz => ⟨fun _ => ?_, fun z => absurd rfl z⟩⟩
    · have e : n = 0 := by
        rcases Nat.eq_zero_or_pos n with q | q
        · exact q
        · exact absurd hz (nI_nle q (by omega))
      have := hp σ h
      rw [cmpA, if_pos e] at this; exact this
    · have e : ¬ n = 0 := fun q => hz (by rw [q]; decide)
      have := hp σ h
      rw [cmpA, if_neg e] at this; exact this
  | succ m ih =>
    intro n f g σ hm h hn hj hp
    rw [wp_X11_compare_20]
    refine ⟨fun hz => ?_, fun hz => ⟨fun z => absurd ((nI_eq (b := 5000) (by omega) (by decide)).mp z) (by omega), fun _ v3 e3 v4 e4 => ?_⟩⟩
    · have e : n = 0 := by
        rcases Nat.eq_zero_or_pos n with q | q
        · exact q
        · exact absurd hz (nI_nle q (by omega))
      have := hp σ h
      rw [cmpA, if_pos e] at this; exact this
    · have e : ¬ n = 0 := fun q => hz (by rw [q]; decide)
      obtain ⟨k, rfl⟩ : ∃ k, n = k + 1 := ⟨n - 1, by omega⟩
      rw [cmpA, if_neg e, show k + 1 - 1 = k by omega] at hp
      rw [pk_m1] at e4
      rw [nI_1, show 5000 - (m + 1) + 1 = 5000 - m by omega] at e3
      subst e3; subst e4
      obtain ⟨j1, j2, j3, j4⟩ := hj k (by omega)
      rw [nI_clamp (show k < 2 ^ 31 by omega), j1, j2]
      refine ⟨vp_in_nI (by omega) (by decide), fun v5 e5 => ⟨vp_in_nI (by omega) (by decide), fun v6 e6 => ?_⟩⟩
      subst e5; subst e6
      rw [lg_cmp_eq]
      have same : (f k < 1099511627776 ∨ g k < 1099511627776) → (f k = g k → wp_X11_compare_20 post (m + 1) σ (nI k) (nI (5000 - m))) ∧ (¬ f k = g k → post 1 σ) := by
        intro hs
        rw [if_pos hs] at hp
        refine ⟨fun he => ?_, fun he => ?_⟩
        · rw [if_pos he] at hp
          exact ih k f g σ (by omega) h (by omega) (fun j hjk => hj j (by omega)) hp
        · rw [if_neg he] at hp
          exact hp σ h
      refine m_isCell (fun hc1 => nz1 (m_isCell (fun hc2 => nz1 ?_) (fun hc2 => nz0 (same (Or.inr hc2))))) (fun hc1 => nz0 (same (Or.inl hc1)))
      rw [if_neg (by rintro (q | q); exact hc1 q; exact hc2 q)] at hp
      rcases j3 with ⟨x, hx⟩ | ⟨c, hcn, hx⟩
      · exact absurd (hx ▸ num_lt x) hc1
      rcases j4 with ⟨y, hy⟩ | ⟨d, hdn, hy⟩
      · exact absurd (hy ▸ num_lt y) hc2
      obtain ⟨h1, h2, h3, h4, h5, h6⟩ := id h
      have hnc : s0 S 3 ≤ 20000 := h3.2.1
      obtain ⟨a1, a2, a3, a4, a5, a6⟩ := h3.2.2.2.2.2.2.1 c hcn
      obtain ⟨b1, b2, b3, b4, b5, b6⟩ := h3.2.2.2.2.2.2.1 d hdn
      intro v11 e11 v12 e12
      rw [hx, cell_ix] at e11
      rw [hy, cell_ix] at e12
      subst e11; subst e12
      rw [hx, hy, cix_cell (show c < 2 ^ 31 by omega), cix_cell (show d < 2 ^ 31 by omega)] at hp
      rw [nI_clamp (show c < 2 ^ 31 by omega), nI_clamp (show d < 2 ^ 31 by omega), a1, b1, a3, b3]
      have vc := vp_in_nI (n := c) (N := 20100) (by omega) (by decide)
      have vd := vp_in_nI (n := d) (N := 20100) (by omega) (by decide)
      refine ⟨vc, vd, fun ht => ⟨vc, vd, fun hmm => ⟨vc, fun v13 e13 => ?_⟩, fun hmm => ?_⟩, fun ht => ?_⟩
      · have ht' : s1 S 7 c = s1 S 7 d := (nI_eq (by omega) (by omega)).mp ht
        have hm' : s1 S 8 c = s1 S 8 d := (nI_eq (by omega) (by omega)).mp hmm
        rw [if_pos ⟨ht', hm'⟩] at hp
        subst e13
        refine ⟨_, m_cmp150 hcn hdn (s1 S 8 c) k σ h (by omega) (Nat.le_refl _) (by omega) (fun σ' h' hlo hhi => ?_)⟩
        refine ih (k + s1 S 8 c) _ _ σ' (by omega) h' (by omega) (fun j hjj => ?_) hp
        rcases Nat.lt_or_ge j k with q | q
        · obtain ⟨y1, y2⟩ := hlo j q
          obtain ⟨z1, z2, z3, z4⟩ := hj j (by omega)
          rw [if_neg (by omega), if_neg (by omega), y1, y2]
          exact ⟨z1, z2, z3, z4⟩
        · obtain ⟨y1, y2⟩ := hhi j q hjj
          rw [if_pos q, if_pos q, y1, y2]
          exact ⟨rfl, rfl, hW c hcn _ (by omega), hW d hdn _ (by omega)⟩
      · have hm' : ¬ s1 S 8 c = s1 S 8 d := fun q => hmm (by rw [q])
        rw [if_neg (fun q => hm' q.2)] at hp
        exact hp σ h
      · have ht' : ¬ s1 S 7 c = s1 S 7 d := fun q => ht (by rw [q])
        rw [if_neg (fun q => ht' q.1)] at hp
        exact hp σ h
def sp_cmp (S : Sp) (x y : Int64) : Nat := cmpA S 5000 1 (fun _ => x) (fun _ => y)
theorem m_compare {σ : MSt} {S : Sp} {tb : Nat} {x y : Int64} {post : Int32 → MSt → Prop} (h : RMb σ S tb) (hW : ∀ c, c < s0 S 3 → ∀ k, k < s1 S 8 c → okV (s0 S 3) (sv S 1 (s1 S 9 c + k))) (hx : okV (s0 S 3) x) (hy : okV (s0 S 3) y) (hp : ∀ σ', RMb σ' S tb → post (nI (sp_cmp S x y)) σ') : wp_X11_compare σ x y post := by
  refine ⟨vp_in_nI (n := 0) (by decide) (by decide), fun σ1 e1 => ⟨vp_in_nI (n := 0) (by decide) (by decide), fun σ2 e2 => ?_⟩⟩
  have z : Int32.toNatClampNeg 0 = 0 := by decide
  rw [z] at e1 e2
  refine ⟨_, m_cmp20 hW 5000 1 (fun _ => x) (fun _ => y) σ2 (Nat.le_refl _) (by rw [e2, e1]; exact h) (by decide) (fun j hj => ?_) hp⟩
  have ej : j = 0 := by omega
  subst ej
  refine ⟨?_, ?_, hx, hy⟩
  · rw [e2, e1]
    rfl
  · rw [e2]
    rfl
