/-! the end of the reference's cut -/
theorem RM1.tr {σ σ' : MSt} {S : Sp} (h : RM1 σ S) (a : mi σ' 2 = mi σ 2) (b : ma σ' 1 = ma σ 1) : RM1 σ' S := by
  unfold RM1; rw [a, b]; exact h
theorem RM2.tr {σ σ' : MSt} {S : Sp} (h : RM2 σ S) (a1 : mi σ' 3 = mi σ 3) (a2 : mi σ' 11 = mi σ 11) (b : ∀ a, a < 19 → ma σ' a = ma σ a) : RM2 σ' S := by
  unfold RM2
  rw [a1, a2, b 4 (by decide), b 5 (by decide), b 6 (by decide), b 7 (by decide), b 8 (by decide), b 9 (by decide), b 10 (by decide), b 12 (by decide), b 13 (by decide), b 14 (by decide), b 15 (by decide), b 16 (by decide), b 17 (by decide), b 18 (by decide)]
  exact h
theorem RM3.tr {σ σ' : MSt} {S : Sp} (h : RM3 σ S) (a1 : mi σ' 19 = mi σ 19) (a2 : mi σ' 24 = mi σ 24) (a3 : mi σ' 25 = mi σ 25) (b : ∀ a, 19 < a → a < 23 → ma σ' a = ma σ a) (c : ml σ' 23 = ml σ 23) : RM3 σ' S := by
  unfold RM3
  rw [a1, a2, a3, b 20 (by decide) (by decide), b 21 (by decide) (by decide), b 22 (by decide) (by decide), c]
  exact h
theorem RM6.tr {σ σ' : MSt} {S : Sp} (h : RM6 σ S) (a : ∀ m, m = 44 ∨ m = 46 ∨ 48 ≤ m ∧ m ≤ 54 → mi σ' m = mi σ m) (b : ma σ' 53 = ma σ 53) : RM6 σ' S := by
  unfold RM6
  rw [a 44 (by omega), a 46 (by omega), a 48 (by omega), a 49 (by omega), a 50 (by omega), a 51 (by omega), a 52 (by omega), a 54 (by omega), b]
  exact h
theorem CI_end {σ0 σ : MSt} {S : Sp} {tb n kw : Nat} {w' : Int32} (h : RMb σ0 S tb) (hn : n < s0 S 7) (hc : CI σ0 σ S n (s0 S 6 + s0 S 7) (s0 S 7))
    (hkw : FK (s0 S 7) (s1 S 15) (s0 S 8) kw) (hlive : live S) (hw' : ∀ k, FK n (s1 S 15) (s0 S 8) k → w' = nI (s0 S 8 + k)) : RMb (smi (smi σ 26 (nI (s0 S 6 + n))) 45 w') (u0 S 7 n) tb := by
  obtain ⟨h1, h2, h3, h4, h5, h6⟩ := h
  obtain ⟨c1, c2, c3, c4, c5, c6, c7, c8, c9⟩ := h4
  obtain ⟨d0, tn, tt, d1, d2, d3, d4, d5⟩ := h5
  obtain ⟨i1, i2, i3, i4, i5, i6⟩ := hc
  have h7 := c1.2.1
  have hTR := c1.2.2.1
  have hszd : szS S = s1 S 11 (s0 S 6) + 2 * s0 S 6 + 3 * s0 S 7 := rfl
  have lo : ∀ a x, a ≠ 57 → x < s1 S 15 n + n → ma σ a x = ma σ0 a x := fun a x ha hx => i5 a x ha (Or.inl hx)
  have hi : ∀ j kj, s1 S 15 n ≤ j → j < s0 S 6 → FK (s0 S 7) (s1 S 15) j kj → _ := fun j kj a b => i6 j kj a (by omega)
  have rlo : ∀ i, i < n → s1 S 15 i + i < s1 S 15 n + n := fun i hi => by have := hTR.1 i n hi hn; omega
  obtain ⟨hwl, hwk⟩ := c8 hlive
  refine ⟨h1.tr (i1 2 (by decide)) (i3 1 (by decide) (by decide)), h2.tr (i1 3 (by decide)) (i1 11 (by decide)) (fun a ha => i3 a (by omega) (by omega)), h3.tr (i1 19 (by decide)) (i1 24 (by decide)) (i1 25 (by decide)) (fun a _ hb => i3 a (by omega) (by omega)) (by show ml σ 23 = _; rw [i4]), ⟨⟨rfl, by show s0 S 6 + n < 7000; omega, ⟨fun i j a b => hTR.1 i j a (Nat.lt_trans b hn), fun i a => hTR.2 i (Nat.lt_trans a hn)⟩, fun t ht => ?_⟩, ⟨fun j k hj hk => ?_, fun j hj => ?_, ?_⟩, ?_, ?_, c5, fun j k hj hk => ?_, fun i ku hi hku => ?_, fun _ => ⟨hwl, fun k hk => ⟨hw' k hk, ?_⟩⟩, c9⟩, ⟨fun k hk => ?_, tn, tt, ?_, d2, fun m hm => ?_, fun i j a b => d4 i j a (Nat.lt_trans b hn), fun i hi => ?_⟩, h6.tr (fun m hm => ?_) (i3 53 (by decide) (by decide))⟩
  · have ht : t < s0 S 6 + n := ht
    show ma σ 27 t = 0 ↔ ∃ i, i < n ∧ t = s1 S 15 i + i
    rcases Nat.lt_or_ge t (s1 S 15 n + n) with q | q
    · rw [lo 27 t (by decide) q, c1.2.2.2 t (by omega)]
      constructor
      · rintro ⟨i, hi, e⟩
        refine ⟨i, ?_, e⟩
        rcases Nat.lt_or_ge i n with r | r
        · exact r
        · rcases Nat.lt_or_ge n i with z | z
          · have := hTR.1 n i z hi; omega
          · have : i = n := by omega
            subst this; omega
      · rintro ⟨i, hi, e⟩
        exact ⟨i, by omega, e⟩
    · obtain ⟨kj, hkj⟩ := FK_ex (t - n) (s0 S 7) hTR
      have := (hi (t - n) kj (by omega) (by omega) hkj).1
      rw [show t - n + n = t by omega] at this
      exact ⟨fun z => absurd z this, fun ⟨i, hi, e⟩ => absurd (rlo i hi) (by omega)⟩
  · have hj : j < s0 S 6 := hj
    have hk : FK n (s1 S 15) j k := hk
    show ma σ 28 (j + k) = _ ∧ ma σ 29 (j + k) = _
    rcases Nat.lt_or_ge j (s1 S 15 n) with q | q
    · have hk2 := (FK_lo hTR hn q).mp hk
      have := (FK_pl hTR hn hk2).mpr q
      rw [lo 28 _ (by decide) this, lo 29 _ (by decide) this]
      exact c2.1 j k hj hk2
    · rw [FK_hi hTR hn q hk]
      obtain ⟨kj, hkj⟩ := FK_ex j (s0 S 7) hTR
      have := (hi j kj q hj hkj).2.1
      rw [this 28 (by omega), this 29 (by omega)]
      exact c2.1 j kj hj hkj
  · have hj : j < s0 S 6 := hj
    show _ ∧ ma σ 5 (s1 S 10 j) = _ ∧ _
    rw [i3 5 (by decide) (by decide)]
    exact c2.2.1 j hj
  · have := c2.2.2
    show s1 S 11 (s0 S 6) + 2 * s0 S 6 + 3 * n ≤ 20000
    omega
  · show mi σ 47 = nI (s1 S 11 (s0 S 6) + 2 * s0 S 6 + 3 * n)
    rw [i2]; congr 1; omega
  · show mi σ 40 = _
    rw [i1 40 (by decide)]; exact c4
  · have hj : j < s0 S 6 := hj
    have hk : FK n (s1 S 15) j k := hk
    show (s1 S 12 j = 0 → ma σ 31 (j + k) = -1) ∧ (∀ u ku, s1 S 12 j = u + 1 → FK n (s1 S 15) u ku → u < j ∧ ma σ 31 (j + k) = nI (u + ku)) ∧ (s1 S 12 j ≠ 0 → ma σ 32 (j + k) = nI (s1 S 13 j)) ∧ ma σ 33 (j + k) = nI (s1 S 14 j)
    rcases Nat.lt_or_ge j (s1 S 15 n) with q | q
    · have hk2 := (FK_lo hTR hn q).mp hk
      have hp := (FK_pl hTR hn hk2).mpr q
      rw [lo 31 _ (by decide) hp, lo 32 _ (by decide) hp, lo 33 _ (by decide) hp]
      obtain ⟨a1, a2, a3, a4⟩ := c6 j k hj hk2
      refine ⟨a1, fun u ku hu hku => ?_, a3, a4⟩
      obtain ⟨k9, hk9⟩ := FK_ex u (s0 S 7) hTR
      have hlt := (a2 u k9 hu hk9).1
      exact a2 u ku hu ((FK_lo hTR hn (by omega)).mp hku)
    · rw [FK_hi hTR hn q hk]
      obtain ⟨kj, hkj⟩ := FK_ex j (s0 S 7) hTR
      obtain ⟨b1, b2, b3, b4, b5⟩ := hi j kj q hj hkj
      obtain ⟨a1, a2, a3, a4⟩ := c6 j kj hj hkj
      rw [b2 32 (by omega), b2 33 (by omega)]
      refine ⟨b3, fun u ku hu hku => ⟨?_, b4 u ku hu hku⟩, a3, a4⟩
      obtain ⟨k9, hk9⟩ := FK_ex u (s0 S 7) hTR
      exact (a2 u k9 hu hk9).1
  · have hi : i < n := hi
    have hku : FK n (s1 S 15) (s1 S 16 i) ku := hku
    obtain ⟨k9, hk9⟩ := FK_ex (s1 S 16 i) (s0 S 7) hTR
    have hlt := (c7 i k9 (by omega) hk9).1
    have hfi := hTR.1 i n hi hn
    obtain ⟨b1, b2, b3, b4, b5, b6, b7⟩ := c7 i ku (by omega) ((FK_lo hTR hn (by omega)).mp hku)
    have hp := rlo i hi
    show s1 S 16 i < s1 S 15 i ∧ ma σ 31 (s1 S 15 i + i) = nI (s1 S 16 i + ku) ∧ ma σ 30 (s1 S 15 i + i) = nI (s1 S 17 i) ∧ ma σ 34 (s1 S 15 i + i) = nI (s1 S 18 i) ∧ ma σ 35 (s1 S 15 i + i) = nI (s1 S 19 i) ∧ ma σ 36 (s1 S 15 i + i) = nI (s1 S 20 i) ∧ ma σ 37 (s1 S 15 i + i) = nI (s1 S 21 i)
    rw [lo 31 _ (by decide) hp, lo 30 _ (by decide) hp, lo 34 _ (by decide) hp, lo 35 _ (by decide) hp, lo 36 _ (by decide) hp, lo 37 _ (by decide) hp]
    exact ⟨b1, b2, b3, b4, b5, b6, b7⟩
  · have hk : FK n (s1 S 15) (s0 S 8) k := hk
    show ma σ 30 (s0 S 8 + k) = nI (s0 S 9)
    rcases Nat.lt_or_ge (s0 S 8) (s1 S 15 n) with q | q
    · have hk2 := (FK_lo hTR hn q).mp hk
      rw [lo 30 _ (by decide) ((FK_pl hTR hn hk2).mpr q)]
      exact (hwk k hk2).2
    · rw [FK_hi hTR hn q hk, (hi (s0 S 8) kw q hwl hkw).2.1 30 (by omega)]
      exact (hwk kw hkw).2
  · show ml σ 39 k = _
    rw [i4]; exact d0 k hk
  · show mi σ 41 = _
    rw [i1 41 (by decide)]; exact d1
  · show ∃ q, q < 20000 ∧ ma σ 42 m = nI q
    rw [i3 42 (by decide) (by decide)]; exact d3 m hm
  · have hi : i < n := hi
    obtain ⟨b1, b2, b3⟩ := d5 i (by omega)
    show _ ∧ ma σ 38 (s1 S 15 i + i) = _ ∧ ∀ k, _ → undo (ma σ 42) (ml σ 43) (tt i) (tn - tt i) (ml σ 39) k = _
    rw [i3 38 (by decide) (by decide), i3 42 (by decide) (by decide), i4]
    exact ⟨b1, b2, b3⟩
  · show (if m = 45 then _ else if m = 26 then _ else mi σ m) = _
    rw [if_neg (by omega), if_neg (by omega)]
    exact i1 m (by omega)
theorem u0_rf {S : Sp} {k : Nat} : u0 S k (s0 S k) = S := by
  refine Prod.ext (funext fun j => ?_) rfl
  show (if j = k then s0 S k else s0 S j) = s0 S j
  by_cases h : j = k
  · rw [if_pos h, h]
  · rw [if_neg h]
def sp_cutS (S : Sp) (n : Nat) : Sp := sp_drop (u0 S 7 (if n < s0 S 7 then n else s0 S 7)) (keepF (u0 S 7 (if n < s0 S 7 then n else s0 S 7))) (if n < s0 S 7 then n else s0 S 7)
theorem m_cut37 {σ : MSt} {S : Sp} {tb n : Nat} {post : MSt → Prop} (h : RMb σ S tb) (hn : n < s0 S 7) (hlive : live S) (h58 : mi σ 58 = nI (s1 S 15 n + n)) (hp : ∀ σ', RMb σ' (sp_cutS S n) tb → post σ') :
    ∀ d t k σ', t + d = s0 S 6 + s0 S 7 → s1 S 15 n + n ≤ t → (t = s1 S 15 n + n ∨ n < k) → RK (s0 S 7) (s1 S 15) t k → n ≤ k → k ≤ t → CI σ σ' S n t k → wp_X11_cut_37 post (d + 1) σ' (nI (s1 S 15 n + n)) (nI (t - k + n)) (nI t) := by
  obtain ⟨h1, h2, h3, h4, h5, h6⟩ := id h
  obtain ⟨c1, c2, c3, c4, c5, c6, c7, c8, c9⟩ := id h4
  obtain ⟨hwl, hwk⟩ := c8 hlive
  have hTR := c1.2.2.1
  have h7 := c1.2.1
  have hfn := hTR.2 n hn
  obtain ⟨kw, hkw⟩ := FK_ex (s0 S 8) (s0 S 7) hTR
  have hkwn := hkw.1
  have hszd : szS S = s1 S 11 (s0 S 6) + 2 * s0 S 6 + 3 * s0 S 7 := rfl
  intro d
  induction d with
  | zero =>
    intro t k σ' ht hft hor hk hnk hkt hc
    have e : t = s0 S 6 + s0 S 7 := by omega
    subst e
    have ek := RK.top hTR hk
    subst ek
    have i26 : mi σ' 26 = nI (s0 S 6 + s0 S 7) := (hc.1 26 (by decide)).trans c1.1
    rw [wp_X11_cut_37, i26]
    refine ⟨fun _ σ4 e4 => ?_, fun z => absurd (nI_le (Nat.le_refl _) (by omega)) z⟩
    rw [show s0 S 6 + s0 S 7 - s0 S 7 + n = s0 S 6 + n by omega] at e4
    have i45 : mi σ4 45 = nI (s0 S 8 + kw) := by rw [e4]; exact (hc.1 45 (by decide)).trans (hwk kw hkw).1
    have fin : ∀ σ5, (∃ w', σ5 = smi σ4 45 w' ∧ ∀ k, FK n (s1 S 15) (s0 S 8) k → w' = nI (s0 S 8 + k)) → wp_X11_dropAbove σ5 (fun σ6 => post σ6) := by
      rintro σ5 ⟨w', e5, hw'⟩
      have hR := CI_end h hn hc hkw hlive hw'
      rw [← e4, ← e5] at hR
      refine m_dropAbove hR hlive (fun σ6 h6 => hp σ6 ?_)
      rw [sp_cutS, if_pos hn]; exact h6
    rw [i45]
    refine ⟨fun hq => ⟨vp_in_nI (by omega) (by decide), fun σ5 e5 => fin σ5 ⟨_, e5, fun k hk => ?_⟩⟩, fun hq σ7 e7 => fin σ7 ⟨_, e7, fun k hk => ?_⟩⟩
    · have hle : s1 S 15 n + n ≤ s0 S 8 + kw := by
        rcases Nat.lt_or_ge (s0 S 8 + kw) (s1 S 15 n + n) with q | q
        · exact absurd hq (nI_ge q (by omega))
        · exact q
      have hF : s1 S 15 n ≤ s0 S 8 := by
        rcases Nat.lt_or_ge (s0 S 8) (s1 S 15 n) with q | q
        · have := (FK_pl hTR hn hkw).mpr q; omega
        · exact q
      rw [nI_clamp (by omega), FK_hi hTR hn hF hk, e4]
      exact (hc.2.2.2.2.2 (s0 S 8) kw hF (by omega) hkw).2.2.2.2
    · have hlt : s0 S 8 + kw < s1 S 15 n + n := by
        rcases Nat.lt_or_ge (s0 S 8 + kw) (s1 S 15 n + n) with q | q
        · exact q
        · exact absurd (nI_le q (by omega)) hq
      have hF := (FK_pl hTR hn hkw).mp hlt
      rw [FK_uq ((FK_lo hTR hn hF).mp hk) hkw]
  | succ d ih =>
    intro t k σ' ht hft hor hk hnk hkt hc
    have i26 : mi σ' 26 = nI (s0 S 6 + s0 S 7) := (hc.1 26 (by decide)).trans c1.1
    rw [wp_X11_cut_37, i26]
    have vt := vp_in_nI (n := t) (N := 7000) (by omega) (by decide)
    refine ⟨fun z => absurd z (nI_ge (by omega) (by omega)), fun _ => ⟨vt, fun σ9 e9 => ⟨vt, ?_⟩⟩⟩
    rw [nI_clamp (by omega)] at e9 ⊢
    have i27 : ma σ9 27 t = ma σ 27 t := by rw [e9]; exact hc.2.2.2.2.1 27 t (by decide) (Or.inr (Nat.le_refl _))
    rw [i27]
    refine ⟨fun hz σ13 e13 v14 e14 => ?_, fun hz => ?_⟩
    · obtain ⟨i, hi, hti⟩ := (c1.2.2.2 t (by omega)).mp hz
      obtain ⟨ei, hk1⟩ := RK.redo hTR hk hi hti
      subst ei
      have hc2 := CI_redo (v := nI (t - i + n)) hc hk hnk (by have := hk1.1; omega)
      rw [← e9, ← e13] at hc2
      have := ih (t + 1) (i + 1) σ13 (by omega) (by omega) (by omega) hk1 (by omega) (by omega) hc2
      rw [e14, nI_1]
      rw [show t + 1 - (i + 1) + n = t - i + n by omega] at this
      exact this
    · have hnr : ¬ ∃ i, i < s0 S 7 ∧ t = s1 S 15 i + i := fun q => hz ((c1.2.2.2 t (by omega)).mpr q)
      obtain ⟨-, hFK, hk1⟩ := RK_nx hTR hk hnr
      have hnk2 : n < k := by
        rcases hor with q | q
        · exact absurd ⟨n, hn, q⟩ hnr
        · exact q
      have hF : s1 S 15 n ≤ t - k := hFK.2.1 n hnk2
      have hjl : t - k < s0 S 6 := by
        have := hk.1
        rcases Nat.lt_or_ge k (s0 S 7) with q | q
        · have a := hFK.2.2 k (Nat.le_refl _) q
          have b := hTR.2 k q
          omega
        · omega
      obtain ⟨a1, a2, -, -⟩ := c6 (t - k) k hjl hFK
      rw [show t - k + k = t by omega] at a1 a2
      have i31 : ma σ9 31 t = ma σ 31 t := by rw [e9]; exact hc.2.2.2.2.1 31 t (by decide) (Or.inr (Nat.le_refl _))
      have i58 : mi σ9 58 = nI (s1 S 15 n + n) := by rw [e9]; exact (hc.1 58 (by decide)).trans h58
      have go : ∀ c, (s1 S 12 (t - k) = 0 → c = -1) → (∀ u ku, s1 S 12 (t - k) = u + 1 → FK n (s1 S 15) u ku → c = nI (u + ku)) → ∀ v11 : Int32, v11 = nI (t - k + n) + 1 → ∀ v12 : Int32, v12 = nI t + 1 → wp_X11_cut_37 post (d + 1) (fcp σ9 t (t - k + n) c) (nI (s1 S 15 n + n)) v11 v12 := by
        intro c hc0 hc1 v11 e11 v12 e12
        have hc2 := CI_frame hc hk hkt hFK hnk2 hk.1 hc0 hc1
        rw [← e9] at hc2
        have := ih (t + 1) k _ (by omega) (by omega) (Or.inr hnk2) hk1 hnk (by omega) hc2
        rw [e11, e12, nI_1, nI_1]
        rw [show t + 1 - k + n = t - k + n + 1 by omega] at this
        exact this
      have big : ∀ x, x < 7000 → ¬ nI x = (-1 : Int32) := fun x hx => nI_m1 (by omega)
      rcases Nat.eq_zero_or_pos (s1 S 12 (t - k)) with z0 | zp
      · have em := a1 z0
        refine m_copyFrame (by omega) (by omega) i58 (by omega) (fun _ => go _ (fun _ => rfl) (fun u ku hu _ => absurd hu (by omega))) (fun x hx e _ => ?_) (fun x hx e _ => ?_) (Or.inl (i31.trans em))
        · exact absurd (e.symm.trans (i31.trans em)) (big x (by omega))
        · exact absurd (e.symm.trans (i31.trans em)) (big x (by omega))
      · obtain ⟨u, hu⟩ : ∃ u, s1 S 12 (t - k) = u + 1 := ⟨s1 S 12 (t - k) - 1, by omega⟩
        obtain ⟨ku, hku⟩ := FK_ex u (s0 S 7) hTR
        obtain ⟨hult, hum⟩ := a2 u ku hu hku
        have hpl := RK_fr hk hult hku
        have e31 : ma σ9 31 t = nI (u + ku) := i31.trans hum
        have ux : ∀ x, x < t → ma σ9 31 t = nI x → x = u + ku := fun x hx e => (nI_eq (by omega) (by omega)).mp (e.symm.trans e31)
        refine m_copyFrame (by omega) (by omega) i58 (by omega) (fun e => absurd (e31.symm.trans e) (big _ (by omega))) (fun x hx e hxf => ?_) (fun x hx e hxf => ?_) (Or.inr ⟨u + ku, hpl.2, e31⟩)
        · have ex := ux x hx e
          subst ex
          have hF2 := (FK_pl hTR hn hku).mp hxf
          refine go _ (fun z => absurd z (by omega)) (fun u2 ku2 hu2 hk2 => ?_)
          have eu : u2 = u := by omega
          subst eu
          rw [FK_uq ((FK_lo hTR hn hF2).mp hk2) hku]
        · have ex := ux x hx e
          subst ex
          have hF2 : s1 S 15 n ≤ u := by
            rcases Nat.lt_or_ge u (s1 S 15 n) with q | q
            · have := (FK_pl hTR hn hku).mpr q; omega
            · exact q
          have e57 : ma σ9 57 (u + ku) = nI (u + n) := by
            rw [e9]
            show (if 57 = 57 ∧ u + ku = t then _ else ma σ' 57 (u + ku)) = _
            rw [if_neg (by omega)]
            exact (hc.2.2.2.2.2 u ku hF2 hult hku).2.2.2.2
          rw [e57]
          refine go _ (fun z => absurd z (by omega)) (fun u2 ku2 hu2 hk2 => ?_)
          have eu : u2 = u := by omega
          subst eu
          rw [FK_hi hTR hn hF2 hk2]
theorem RMb.f58 {σ : MSt} {S : Sp} {tb : Nat} {v : Int32} (h : RMb σ S tb) : RMb (smi σ 58 v) S tb := h
theorem m_cut {σ : MSt} {S : Sp} {tb : Nat} {a : Int32} {post : MSt → Prop} (h : RMb σ S tb) (hlive : live S) (hp : ∀ σ', RMb σ' (sp_cutS S a.toNatClampNeg) tb → post σ') : wp_X11_cut σ a post := by
  obtain ⟨h1, h2, h3, h4, h5, h6⟩ := id h
  obtain ⟨c1, c2, c3, c4, c5, c6, c7, c8, c9⟩ := id h4
  have hTR := c1.2.2.1
  have h7 := c1.2.1
  have key : ∀ b : Int32, 0 ≤ b → b.toNatClampNeg = a.toNatClampNeg → wp_X11_cut_9 post σ b := by
    intro b hb hab
    refine m_redoAt c1 (fun j hj e => ⟨fun z => absurd z (nI_m1 (by have := hTR.2 j hj; omega)), fun _ σ3 e3 => ?_⟩) (fun hno => ⟨fun _ => ?_, fun z => absurd rfl z⟩)
    · have ea : a.toNatClampNeg = j := by rw [← hab, e, nI_clamp (by omega)]
      rw [ea] at hp
      have hR : RMb σ3 S tb := by rw [e3]; exact h.f58
      have h58 : mi σ3 58 = nI (s1 S 15 j + j) := by rw [e3]; rfl
      have hk := RK_at hTR hj
      have hfj := hTR.2 j hj
      have hszd : szS S = s1 S 11 (s0 S 6) + 2 * s0 S 6 + 3 * s0 S 7 := rfl
      have := m_cut37 hR hj hlive h58 hp (s0 S 6 + s0 S 7 - (s1 S 15 j + j)) (s1 S 15 j + j) j σ3 (by omega) (Nat.le_refl _) (Or.inl rfl) hk (Nat.le_refl _) (by omega) ⟨fun _ _ => rfl, by rw [hR.2.2.2.1.2.2.1]; congr 1; omega, fun _ _ _ => rfl, rfl, fun _ _ _ _ => rfl, fun j' kj ha hb hc => absurd hb (by omega)⟩
      rw [show s1 S 15 j + j - j + j = s1 S 15 j + j by omega] at this
      exact ⟨_, this⟩
    · have hge : ¬ a.toNatClampNeg < s0 S 7 := fun q => by
        rcases pk_ix b (n := s0 S 7) (by omega) with z | z | ⟨j, hj, ej⟩
        · exact absurd z (Int32.not_lt.mpr hb)
        · rw [← hab] at q
          have e2 : b = nI b.toNatClampNeg := by
            rcases pk_ix b (n := 2 ^ 31 - 1) (by decide) with y | y | ⟨j, hj, ej⟩
            · exact absurd y (Int32.not_lt.mpr hb)
            · have y1 := Int32.le_iff_toInt_le.mp y
              have y2 := Int32.toInt_lt b
              rw [nI_toInt (by decide)] at y1
              have y3 : b = nI (2 ^ 31 - 1) := by
                refine Int32.toInt_inj.mp ?_
                rw [nI_toInt (by decide)]; omega
              rw [y3, nI_clamp (by decide)]
            · rw [ej, nI_clamp (by omega)]
          exact absurd (e2 ▸ z) (nI_ge q (by omega))
        · exact hno j hj ej
      rw [sp_cutS, if_neg hge, u0_rf] at hp
      exact m_dropAbove h hlive hp
  refine ⟨fun hz => key a hz rfl, fun hz => key 0 (by decide) ?_⟩
  have hlt := Int32.lt_iff_toInt_lt.mp (Int32.not_le.mp hz)
  have z : (0 : Int32).toInt = 0 := by decide
  rw [z] at hlt
  show (0 : Int32).toInt.toNat = a.toInt.toNat
  omega
