/-! the reference's pushFrame -/
def slz (σ : MSt) (b t : Nat) : MSt := (σ.1, σ.2.1, fun k i => if k = 39 ∧ b ≤ i ∧ i < b + t then 0 else σ.2.2 k i)
theorem slz_0 {σ : MSt} {b : Nat} : slz σ b 0 = σ := by
  refine mst_ext (fun _ => rfl) rfl ?_
  funext k i
  show (if k = 39 ∧ b ≤ i ∧ i < b + 0 then 0 else ml σ k i) = ml σ k i
  rw [if_neg (by omega)]
theorem slz_s {σ : MSt} {b t : Nat} : sml (slz σ b t) 39 (b + t) 0 = slz σ b (t + 1) := by
  refine mst_ext (fun _ => rfl) rfl ?_
  funext k i
  show (if k = 39 ∧ i = b + t then 0 else if k = 39 ∧ b ≤ i ∧ i < b + t then 0 else ml σ k i) = (if k = 39 ∧ b ≤ i ∧ i < b + (t + 1) then 0 else ml σ k i)
  by_cases h1 : k = 39 ∧ i = b + t
  · rw [if_pos h1, if_pos (by omega)]
  · rw [if_neg h1]
    by_cases h2 : k = 39 ∧ b ≤ i ∧ i < b + t
    · rw [if_pos h2, if_pos (by omega)]
    · rw [if_neg h2, if_neg (by omega)]
theorem m_push_loop {σ : MSt} {p n b T sz ms : Nat} {post : MSt → Prop} (hp : p < 60) (h5 : ma σ 5 p = nI n) (h40 : mi σ 40 = nI b) (h26 : mi σ 26 = nI T) (h47 : mi σ 47 = nI sz) (h48 : mi σ 48 = nI ms) (hb : b + n ≤ 20000) (hT : T < 2 ^ 30) (hsz : sz ≤ 20000) (hms : ms ≤ 20000)
    (hpost : post (smi (smi (smi (smi (slz σ b n) 40 (nI (b + n))) 26 (nI (T + 1))) 47 (nI (sz + (2 + n)))) 48 (nI (if ms < sz + (2 + n) then sz + (2 + n) else ms)))) : ∃ f, wp_X11_pushFrame_71 post f σ (nI p) 0 := by
  have key : ∀ d k, k + d = n → wp_X11_pushFrame_71 post (d + 1) (slz σ b k) (nI p) (nI k) := by
    intro d
    induction d with
    | zero =>
      intro k hk
      have e : k = n := by omega
      subst e
      rw [wp_X11_pushFrame_71, nI_clamp (show p < 2 ^ 31 by omega)]
      have a5 : ma (slz σ b k) 5 p = nI k := h5
      have a40 : mi (slz σ b k) 40 = nI b := h40
      rw [a5, a40]
      refine ⟨vp_in_nI hp (by decide), fun _ => ⟨vp_in_nI hp (by decide), fun σ11 e11 σ12 e12 => ⟨vp_in_nI hp (by decide), ?_⟩⟩, fun z => absurd (nI_le (Nat.le_refl _) (by omega)) z⟩
      rw [nI_add] at e11
      have b26 : mi σ11 26 = nI T := by rw [e11]; exact h26
      rw [b26, nI_1] at e12
      have b5 : ma σ12 5 p = nI k := by rw [e12, e11]; exact h5
      rw [b5, show (2 : Int32) = nI 2 from rfl, nI_add]
      refine m_grow (sz := sz) (ms := ms) (by rw [e12, e11]; exact h47) (by rw [e12, e11]; exact h48) (by omega) (by omega) ?_
      rw [e12, e11]; exact hpost
    | succ d ih =>
      intro k hk
      rw [wp_X11_pushFrame_71, nI_clamp (show p < 2 ^ 31 by omega)]
      have a5 : ma (slz σ b k) 5 p = nI n := h5
      have a40 : mi (slz σ b k) 40 = nI b := h40
      rw [a5, a40, nI_add b k, nI_clamp (show b + k < 2 ^ 31 by omega)]
      refine ⟨vp_in_nI hp (by decide), fun z => absurd z (nI_ge (by omega) (by omega)), fun _ => ⟨vp_in_nI (by omega) (by decide), fun σ14 e14 v15 e15 => ?_⟩⟩
      rw [e14, slz_s, e15, nI_1]
      exact ih (k + 1) (by omega)
  have := key n 0 (by omega)
  rw [slz_0] at this
  exact ⟨_, this⟩
def sp_pushS (S : Sp) (p up at' : Nat) : Sp :=
  (va_up (va_up (s0 S) 6 (s0 S 6 + 1)) 11 (if s0 S 11 < szS S + (2 + s1 S 1 p) then szS S + (2 + s1 S 1 p) else s0 S 11),
   up2 (up2 (up2 (up2 (up2 (s1 S) 10 (s0 S 6) p) 11 (s0 S 6 + 1) (s1 S 11 (s0 S 6) + s1 S 1 p)) 12 (s0 S 6) up) 13 (s0 S 6) at') 14 (s0 S 6) (s0 S 7),
   s2 S, si S, fun k j => if k = 0 ∧ s1 S 11 (s0 S 6) ≤ j then 0 else sv S k j, sw S)
theorem RM_bg {σ : MSt} {S : Sp} (h2 : RM2 σ S) (h4 : RM4c σ S) : ∀ j, j ≤ s0 S 6 → j ≤ s1 S 11 j := by
  obtain ⟨c1, c2, c3, c4, c5, c6, c7, c9⟩ := h4
  intro j
  induction j with
  | zero => intro _; exact Nat.zero_le _
  | succ j ih =>
    intro hj
    have a := ih (by omega)
    have b := (c2.2.1 j (by omega)).2.2
    have c := (h2.2.2.2.2.1 _ (c9 j (by omega))).2.2.2.1
    omega
theorem RM_bl {σ : MSt} {S : Sp} (h4 : RM4c σ S) {i j : Nat} (hij : i ≤ j) (hj : j ≤ s0 S 6) : s1 S 11 i ≤ s1 S 11 j := by
  obtain ⟨c1, c2, -⟩ := h4
  exact base_le (nf := j) (pr := s1 S 10) (sl := s1 S 1) (fun l hl => (c2.2.1 l (by omega)).2.2) (j - i) i (by omega)
theorem FK_nf {nf nr : Nat} {fb : Nat → Nat} (h : TR nf nr fb) {k : Nat} (hk : FK nr fb nf k) : k = nr := by
  rcases Nat.lt_or_ge k nr with q | q
  · have a := hk.2.2 k (Nat.le_refl _) q
    have b := h.2 k q
    omega
  · have := hk.1; omega
theorem m_pushFrame {σ : MSt} {S : Sp} {tb p up at' : Nat} {a2 a3 : Int32} {post : MSt → Prop} (h : RMc σ S tb) (hpp : p < s0 S 1) (hsz : szS S + (2 + s1 S 1 p) ≤ 20000)
    (hu0 : up = 0 → a2 = -1) (hu1 : ∀ u ku, up = u + 1 → FK (s0 S 7) (s1 S 15) u ku → u < s0 S 6 ∧ a2 = nI (u + ku)) (hu2 : up ≠ 0 → a3 = nI at')
    (hp : ∀ σ', RMc σ' (sp_pushS S p up at') tb → mi σ' 45 = mi σ 45 → ma σ' 30 (s0 S 6 + s0 S 7) = 0 → ma σ' 1 = ma σ 1 → post σ') : wp_X11_pushFrame σ (nI p) a2 a3 post := by
  obtain ⟨h1, h2, h3, h4, h5, h6⟩ := id h
  have hbg := RM_bg h2 h4
  have hbl := fun i j => RM_bl h4 (i := i) (j := j)
  obtain ⟨c1, c2, c3, c4, c5, c6, c7, c9⟩ := id h4
  obtain ⟨g1, g2, g3, g4, g5, g6, g7, g8, g9, g10, g11, g12, g13⟩ := id h6
  obtain ⟨d0, tn, tt, d1, d2, d3, d4, d5⟩ := id h5
  have hnp : s0 S 1 ≤ 60 := h2.2.1
  obtain ⟨-, -, f3, f4, -⟩ := h2.2.2.2.2.1 p hpp
  have hszd : szS S = s1 S 11 (s0 S 6) + 2 * s0 S 6 + 3 * s0 S 7 := rfl
  have hb0 := hbg (s0 S 6) (Nat.le_refl _)
  have ht7 : s0 S 6 + 1 + s0 S 7 < 7000 := by omega
  intro v1 e1
  rw [c1.1] at e1
  subst e1
  have vp := vp_in_nI (n := s0 S 6 + s0 S 7) (N := 7000) (by omega) (by decide)
  refine ⟨vp, fun σ2 e2 => ⟨vp, fun σ3 e3 => ⟨vp, fun σ4 e4 => ⟨vp, fun σ5 e5 => ⟨vp, fun σ6 e6 => ⟨vp, fun σ7 e7 => ?_⟩⟩⟩⟩⟩⟩
  rw [nI_clamp (by omega)] at e2 e3 e4 e5 e6 e7 ⊢
  have y40 : mi σ3 40 = nI (s1 S 11 (s0 S 6)) := by rw [e3, e2]; exact c4
  rw [y40] at e4
  have hFL7 : FL σ7 (s0 S 6) (s0 S 7) (s1 S 15) := by
    refine ⟨by rw [e7, e6, e5, e4, e3, e2]; exact c1.1, c1.2.1, c1.2.2.1, fun t ht => ?_⟩
    rw [e7, e6, e5, e4, e3, e2]
    show ((if 27 = 27 ∧ t = s0 S 6 + s0 S 7 then _ else ma σ 27 t) = 0 ↔ _)
    rw [if_neg (by omega)]
    exact c1.2.2.2 t ht
  refine m_redos hFL7 ⟨vp, fun σ10 e10 => ?_⟩
  subst e10
  refine m_push_loop (n := s1 S 1 p) (b := s1 S 11 (s0 S 6)) (T := s0 S 6 + s0 S 7) (sz := szS S) (ms := s0 S 11) (by omega) (by rw [e7, e6, e5, e4, e3, e2]; exact f3) (by rw [e7, e6, e5, e4, e3, e2]; exact c4) (by rw [e7, e6, e5, e4, e3, e2]; exact c1.1) (by rw [e7, e6, e5, e4, e3, e2]; exact c3) (by rw [e7, e6, e5, e4, e3, e2]; exact g5) (by omega) (by omega) (by omega) g6 ?_
  generalize hm : (if s0 S 11 < szS S + (2 + s1 S 1 p) then szS S + (2 + s1 S 1 p) else s0 S 11) = mm
  clear hFL7 y40
  refine hp _ ?_ (by rw [e7, e6, e5, e4, e3, e2]; rfl) ?_ (by rw [e7, e6, e5, e4, e3, e2]; rfl)
  rotate_left
  · rw [e7, e6, e5]
    show (if 30 = 30 ∧ s0 S 6 + s0 S 7 = s0 S 6 + s0 S 7 then (0 : Int32) else _) = 0
    simp
  subst e7; subst e6; subst e5; subst e4; subst e3; subst e2
  have x10 : ∀ j, j < s0 S 6 → s1 (sp_pushS S p up at') 10 j = s1 S 10 j := fun j hj => by simp [s1, sp_pushS, up2, show ¬ j = s0 S 6 by omega]
  have x11 : ∀ j, j ≤ s0 S 6 → s1 (sp_pushS S p up at') 11 j = s1 S 11 j := fun j hj => by simp [s1, sp_pushS, up2, show ¬ j = s0 S 6 + 1 by omega]
  have x12 : ∀ j, j < s0 S 6 → s1 (sp_pushS S p up at') 12 j = s1 S 12 j := fun j hj => by simp [s1, sp_pushS, up2, show ¬ j = s0 S 6 by omega]
  have x13 : ∀ j, j < s0 S 6 → s1 (sp_pushS S p up at') 13 j = s1 S 13 j := fun j hj => by simp [s1, sp_pushS, up2, show ¬ j = s0 S 6 by omega]
  have x14 : ∀ j, j < s0 S 6 → s1 (sp_pushS S p up at') 14 j = s1 S 14 j := fun j hj => by simp [s1, sp_pushS, up2, show ¬ j = s0 S 6 by omega]
  have y10 : s1 (sp_pushS S p up at') 10 (s0 S 6) = p := by simp [s1, sp_pushS, up2]
  have y11 : s1 (sp_pushS S p up at') 11 (s0 S 6 + 1) = s1 S 11 (s0 S 6) + s1 S 1 p := by simp [s1, sp_pushS, up2]
  have y12 : s1 (sp_pushS S p up at') 12 (s0 S 6) = up := by simp [s1, sp_pushS, up2]
  have y13 : s1 (sp_pushS S p up at') 13 (s0 S 6) = at' := by simp [s1, sp_pushS, up2]
  have y14 : s1 (sp_pushS S p up at') 14 (s0 S 6) = s0 S 7 := by simp [s1, sp_pushS, up2]
  have rk : ∀ i, i < s0 S 7 → ¬ s1 S 15 i + i = s0 S 6 + s0 S 7 := fun i hi => by have := c1.2.2.1.2 i hi; omega
  have nz : ∀ j k, j < s0 S 6 → FK (s0 S 7) (s1 S 15) j k → ¬ j + k = s0 S 6 + s0 S 7 := fun j k hj hk => by have := hk.1; omega
  refine ⟨h1, h2, h3, ⟨⟨?_, by show s0 S 6 + 1 + s0 S 7 < 7000; omega, ⟨c1.2.2.1.1, fun i hi => Nat.le_succ_of_le (c1.2.2.1.2 i hi)⟩, fun t ht => ?_⟩, ⟨fun j k hj hk => ?_, fun j hj => ?_, ?_⟩, ?_, ?_, ?_, fun j k hj hk => ?_, fun i ku hi hku => ?_, fun j hj => ?_⟩, ⟨fun k hk => ?_, tn, tt, d1, d2, d3, d4, fun i hi => ?_⟩, ⟨g1, g2, g3, g4, ?_, ?_, g7, g8, g9, g10, g11, g12, g13⟩⟩
  · show nI (s0 S 6 + s0 S 7 + 1) = nI (s0 S 6 + 1 + s0 S 7)
    congr 1; omega
  · have ht : t < s0 S 6 + 1 + s0 S 7 := ht
    show ((if 27 = 27 ∧ t = s0 S 6 + s0 S 7 then vp_nar .boolean 1 else ma σ 27 t) = 0 ↔ ∃ i, i < s0 S 7 ∧ t = s1 S 15 i + i)
    by_cases e : t = s0 S 6 + s0 S 7
    · rw [if_pos ⟨rfl, e⟩]
      exact ⟨fun z => absurd z (by decide), fun ⟨i, hi, z⟩ => absurd (z.symm.trans e) (rk i hi)⟩
    · rw [if_neg (fun q => e q.2)]; exact c1.2.2.2 t (by omega)
  · have hj : j < s0 S 6 + 1 := hj
    have hk : FK (s0 S 7) (s1 S 15) j k := hk
    show (if 28 = 28 ∧ j + k = s0 S 6 + s0 S 7 then nI p else ma σ 28 (j + k)) = _ ∧ (if 29 = 29 ∧ j + k = s0 S 6 + s0 S 7 then nI (s1 S 11 (s0 S 6)) else ma σ 29 (j + k)) = _
    rcases Nat.lt_or_ge j (s0 S 6) with q | q
    · rw [if_neg (fun z => nz j k q hk z.2), if_neg (fun z => nz j k q hk z.2), x10 j q, x11 j (by omega)]
      exact c2.1 j k q hk
    · have ej : j = s0 S 6 := by omega
      subst ej
      rw [FK_nf c1.2.2.1 hk, y10, x11 _ (Nat.le_refl _)]
      simp
  · have hj : j < s0 S 6 + 1 := hj
    rcases Nat.lt_or_ge j (s0 S 6) with q | q
    · rw [x10 j q, x11 j (by omega), x11 (j + 1) (by omega)]; exact c2.2.1 j q
    · have ej : j = s0 S 6 := by omega
      subst ej
      rw [y10, y11, x11 _ (Nat.le_refl _)]
      exact ⟨by omega, f3, rfl⟩
  · show s1 (sp_pushS S p up at') 11 (s0 S 6 + 1) + 2 * (s0 S 6 + 1) + 3 * s0 S 7 ≤ 20000
    rw [y11]; omega
  · show nI (szS S + (2 + s1 S 1 p)) = nI (s1 (sp_pushS S p up at') 11 (s0 S 6 + 1) + 2 * (s0 S 6 + 1) + 3 * s0 S 7)
    rw [y11]; congr 1; omega
  · show nI (s1 S 11 (s0 S 6) + s1 S 1 p) = nI (s1 (sp_pushS S p up at') 11 (s0 S 6 + 1))
    rw [y11]
  · rw [x11 0 (Nat.zero_le _)]; exact c5
  · have hj : j < s0 S 6 + 1 := hj
    have hk : FK (s0 S 7) (s1 S 15) j k := hk
    show (_ → (if 31 = 31 ∧ j + k = s0 S 6 + s0 S 7 then a2 else ma σ 31 (j + k)) = -1) ∧ (∀ u ku, _ → _ → u < j ∧ (if 31 = 31 ∧ j + k = s0 S 6 + s0 S 7 then a2 else ma σ 31 (j + k)) = nI (u + ku)) ∧ (_ → (if 32 = 32 ∧ j + k = s0 S 6 + s0 S 7 then a3 else ma σ 32 (j + k)) = _) ∧ (if 33 = 33 ∧ j + k = s0 S 6 + s0 S 7 then nI (s0 S 7) else ma σ 33 (j + k)) = _
    rcases Nat.lt_or_ge j (s0 S 6) with q | q
    · rw [if_neg (fun z => nz j k q hk z.2), if_neg (fun z => nz j k q hk z.2), if_neg (fun z => nz j k q hk z.2), x12 j q, x13 j q, x14 j q]
      exact c6 j k q hk
    · have ej : j = s0 S 6 := by omega
      subst ej
      rw [FK_nf c1.2.2.1 hk, y12, y13, y14, if_pos ⟨rfl, rfl⟩, if_pos ⟨rfl, rfl⟩, if_pos ⟨rfl, rfl⟩]
      exact ⟨hu0, hu1, hu2, rfl⟩
  · have hi : i < s0 S 7 := hi
    have hku : FK (s0 S 7) (s1 S 15) (s1 S 16 i) ku := hku
    obtain ⟨b1, b2, b3, b4, b5, b6, b7⟩ := c7 i ku hi hku
    refine ⟨b1, ?_, ?_, b4, b5, b6, b7⟩
    · show (if 31 = 31 ∧ s1 S 15 i + i = s0 S 6 + s0 S 7 then _ else ma σ 31 (s1 S 15 i + i)) = _
      exact Eq.trans (if_neg (fun z => rk i hi z.2)) b2
    · show (if 30 = 30 ∧ s1 S 15 i + i = s0 S 6 + s0 S 7 then _ else ma σ 30 (s1 S 15 i + i)) = _
      exact Eq.trans (if_neg (fun z => rk i hi z.2)) b3
  · have hj : j < s0 S 6 + 1 := hj
    rcases Nat.lt_or_ge j (s0 S 6) with q | q
    · rw [x10 j q]; exact c9 j q
    · have ej : j = s0 S 6 := by omega
      subst ej
      rw [y10]; exact hpp
  · have hk : k < s1 (sp_pushS S p up at') 11 (s0 S 6 + 1) := hk
    rw [y11] at hk
    show (if 39 = 39 ∧ s1 S 11 (s0 S 6) ≤ k ∧ k < s1 S 11 (s0 S 6) + s1 S 1 p then 0 else ml σ 39 k) = (if 0 = 0 ∧ s1 S 11 (s0 S 6) ≤ k then 0 else sv S 0 k)
    by_cases q : s1 S 11 (s0 S 6) ≤ k
    · rw [if_pos ⟨rfl, q, hk⟩, if_pos ⟨rfl, q⟩]
    · rw [if_neg (fun z => q z.2.1), if_neg (fun z => q z.2)]; exact d0 k (by omega)
  · have hi : i < s0 S 7 := hi
    obtain ⟨b1, b2, b3⟩ := d5 i hi
    have hfb := c1.2.2.1.2 i hi
    refine ⟨b1, b2, fun k hk => ?_⟩
    have hk : k < s1 (sp_pushS S p up at') 11 (s1 S 15 i) := hk
    rw [x11 _ hfb] at hk
    have hle := hbl (s1 S 15 i) (s0 S 6) hfb (Nat.le_refl _)
    rw [show sw (sp_pushS S p up at') 0 i k = sw S 0 i k from rfl, ← b3 k hk]
    refine undo_pt _ _ _ ?_
    show (if 39 = 39 ∧ s1 S 11 (s0 S 6) ≤ k ∧ k < s1 S 11 (s0 S 6) + s1 S 1 p then 0 else ml σ 39 k) = ml σ 39 k
    rw [if_neg (by omega)]
  · show nI mm = nI (if s0 S 11 < szS S + (2 + s1 S 1 p) then szS S + (2 + s1 S 1 p) else s0 S 11)
    rw [hm]
  · show (if s0 S 11 < szS S + (2 + s1 S 1 p) then szS S + (2 + s1 S 1 p) else s0 S 11) ≤ 20000
    split <;> omega
