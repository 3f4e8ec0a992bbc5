/-! the reference cuts: redo points go out of the middle, frames move down -/
def fcp (σ : MSt) (t to : Nat) (c : Int32) : MSt := (σ.1, fun a x => if x = to then (if a = 31 then c else if a = 33 then ma σ 33 t else if a = 32 then ma σ 32 t else if a = 30 then ma σ 30 t else if a = 29 then ma σ 29 t else if a = 28 then ma σ 28 t else if a = 27 then vp_nar .boolean 1 else ma σ a x) else ma σ a x, σ.2.2)
theorem fcp_e {σ : MSt} {t to : Nat} {c : Int32} : sma (sma (sma (sma (sma (sma (sma σ 27 to (vp_nar .boolean 1)) 28 to (ma σ 28 t)) 29 to (ma σ 29 t)) 30 to (ma σ 30 t)) 32 to (ma σ 32 t)) 33 to (ma σ 33 t)) 31 to c = fcp σ t to c := by
  refine mst_ext (fun _ => rfl) ?_ rfl
  funext a x
  show (if a = 31 ∧ x = to then c else if a = 33 ∧ x = to then ma σ 33 t else if a = 32 ∧ x = to then ma σ 32 t else if a = 30 ∧ x = to then ma σ 30 t else if a = 29 ∧ x = to then ma σ 29 t else if a = 28 ∧ x = to then ma σ 28 t else if a = 27 ∧ x = to then vp_nar .boolean 1 else ma σ a x) = (if x = to then (if a = 31 then c else if a = 33 then ma σ 33 t else if a = 32 then ma σ 32 t else if a = 30 then ma σ 30 t else if a = 29 then ma σ 29 t else if a = 28 then ma σ 28 t else if a = 27 then vp_nar .boolean 1 else ma σ a x) else ma σ a x)
  by_cases hx : x = to
  · simp only [hx, and_true, if_true]
  · simp only [hx, and_false, if_false]
theorem m_copyFrame {σ : MSt} {t to first : Nat} {post : MSt → Prop} (ht : t < 7000) (hto : to < 7000) (h58 : mi σ 58 = nI first) (hf : first < 7000)
    (h0 : ma σ 31 t = -1 → post (fcp σ t to (-1)))
    (h1 : ∀ x, x < t → ma σ 31 t = nI x → x < first → post (fcp σ t to (nI x)))
    (h2 : ∀ x, x < t → ma σ 31 t = nI x → first ≤ x → post (fcp σ t to (ma σ 57 x)))
    (hx : ma σ 31 t = -1 ∨ ∃ x, x < t ∧ ma σ 31 t = nI x) : wp_X11_copyFrame σ (nI t) (nI to) post := by
  unfold wp_X11_copyFrame
  rw [nI_clamp (show t < 2 ^ 31 by omega), nI_clamp (show to < 2 ^ 31 by omega)]
  have vt := vp_in_nI (n := t) (N := 7000) ht (by decide)
  have vo := vp_in_nI (n := to) (N := 7000) hto (by decide)
  refine ⟨vo, fun σ1 e1 => ⟨vt, vo, fun σ2 e2 => ⟨vt, vo, fun σ3 e3 => ⟨vt, vo, fun σ4 e4 => ⟨vt, vo, fun σ5 e5 => ⟨vt, vo, fun σ6 e6 => ⟨vt, fun v7 e7 => ?_⟩⟩⟩⟩⟩⟩⟩
  have a2 : ma σ1 28 t = ma σ 28 t := by rw [e1]; rfl
  rw [a2] at e2
  have a3 : ma σ2 29 t = ma σ 29 t := by rw [e2, e1]; rfl
  rw [a3] at e3
  have a4 : ma σ3 30 t = ma σ 30 t := by rw [e3, e2, e1]; rfl
  rw [a4] at e4
  have a5 : ma σ4 32 t = ma σ 32 t := by rw [e4, e3, e2, e1]; rfl
  rw [a5] at e5
  have a6 : ma σ5 33 t = ma σ 33 t := by rw [e5, e4, e3, e2, e1]; rfl
  rw [a6] at e6
  have a7 : ma σ6 31 t = ma σ 31 t := by rw [e6, e5, e4, e3, e2, e1]; rfl
  rw [a7] at e7
  have ee : ∀ c, sma σ6 31 to c = fcp σ t to c := fun c => by rw [e6, e5, e4, e3, e2, e1]; exact fcp_e
  have b58 : mi σ6 58 = nI first := by rw [e6, e5, e4, e3, e2, e1]; exact h58
  have b57 : ∀ x, ma σ6 57 x = ma σ 57 x := fun x => by rw [e6, e5, e4, e3, e2, e1]; rfl
  refine ⟨fun hz => ⟨vo, fun σ8 e8 => ?_⟩, fun hz => ?_⟩
  · rw [e8, ee, hz]; exact h0 (by rw [← e7]; exact hz)
  · rcases hx with q | ⟨x, hxt, q⟩
    · exact absurd (e7.trans q) hz
    · have ev : v7 = nI x := e7.trans q
      subst ev
      show (nI x < mi σ6 58 → _) ∧ _
      rw [b58]
      refine ⟨fun hl => nz0 ⟨vo, fun σ11 e11 => ?_⟩, fun hl => ⟨fun hg => absurd hg (nI_ge hxt (by omega)), fun _ => nz1 ⟨vp_in_nI (by omega) (by decide), vo, fun σ12 e12 => ?_⟩⟩⟩
      · rw [e11, ee]
        refine h1 x hxt q ?_
        rcases Nat.lt_or_ge x first with r | r
        · exact r
        · exact absurd hl (nI_nlt r (by omega))
      · rw [nI_clamp (by omega), b57] at e12
        rw [e12, ee]
        refine h2 x hxt q ?_
        rcases Nat.lt_or_ge x first with r | r
        · exact absurd (nI_lt r (by omega)) hl
        · exact r
/-- frames below thing t -/
theorem RK_fr {nr : Nat} {fb : Nat → Nat} {t k j kj : Nat} (h : RK nr fb t k) (hj : j < t - k) (hf : FK nr fb j kj) : kj ≤ k ∧ j + kj < t := by
  have a : kj ≤ k := by
    rcases Nat.lt_or_ge k kj with q | q
    · have x := hf.2.1 k q
      have y := h.2.2 k (Nat.le_refl _) (by have := hf.1; omega)
      omega
    · exact q
  exact ⟨a, by omega⟩
theorem RK_nx {nf nr : Nat} {fb : Nat → Nat} {t k : Nat} (h : TR nf nr fb) (hk : RK nr fb t k) (hn : ¬ ∃ i, i < nr ∧ t = fb i + i) : k ≤ t ∧ FK nr fb (t - k) k ∧ RK nr fb (t + 1) k := by
  have h1 := RK.frame (nf := nf) hk hn
  rcases RK.back h h1 with ⟨k0, a, b, c, -⟩ | ⟨-, -, b, c⟩
  · exact absurd ⟨k0, b, c⟩ hn
  · exact ⟨b, c, h1⟩
/-- where the cut stands at thing t, k redo points below it -/
def CI (σ0 σ : MSt) (S : Sp) (n t k : Nat) : Prop :=
  (∀ m, m ≠ 47 → mi σ m = mi σ0 m) ∧ mi σ 47 = nI (szS S - 3 * (k - n)) ∧ (∀ a, a < 27 ∨ 33 < a → a ≠ 57 → ma σ a = ma σ0 a) ∧ ml σ = ml σ0 ∧
  (∀ a x, a ≠ 57 → x < s1 S 15 n + n ∨ t ≤ x → ma σ a x = ma σ0 a x) ∧
  ∀ j kj, s1 S 15 n ≤ j → j < t - k → FK (s0 S 7) (s1 S 15) j kj → ¬ ma σ 27 (j + n) = 0 ∧ (∀ a, a = 28 ∨ a = 29 ∨ a = 30 ∨ a = 32 ∨ a = 33 → ma σ a (j + n) = ma σ0 a (j + kj)) ∧ (s1 S 12 j = 0 → ma σ 31 (j + n) = -1) ∧ (∀ u ku, s1 S 12 j = u + 1 → FK n (s1 S 15) u ku → ma σ 31 (j + n) = nI (u + ku)) ∧ ma σ 57 (j + kj) = nI (j + n)
theorem CI_redo {σ0 σ : MSt} {S : Sp} {n t k : Nat} {v : Int32} (h : CI σ0 σ S n t k) (hk : RK (s0 S 7) (s1 S 15) t k) (hnk : n ≤ k) (hsz : 3 * (k + 1 - n) ≤ szS S) : CI σ0 (smi (sma σ 57 t v) 47 (mi (sma σ 57 t v) 47 - 3)) S n (t + 1) (k + 1) := by
  obtain ⟨i1, i2, i3, i4, i5, i6⟩ := h
  refine ⟨fun m hm => ?_, ?_, fun a ha hb => ?_, i4, fun a x ha hx => ?_, fun j kj hj hl hf => ?_⟩
  · show (if m = 47 then _ else mi σ m) = mi σ0 m
    rw [if_neg hm]; exact i1 m hm
  · show mi σ 47 - 3 = _
    rw [i2, show (3 : Int32) = nI 3 from rfl, pk_sub (by omega)]; congr 1; omega
  · rw [← i3 a ha hb]
    funext x
    show (if a = 57 ∧ x = t then v else ma σ a x) = ma σ a x
    rw [if_neg (fun z => hb z.1)]
  · show (if a = 57 ∧ x = t then v else ma σ a x) = ma σ0 a x
    rw [if_neg (fun z => ha z.1)]
    exact i5 a x ha (by omega)
  · have hl2 : j < t - k := by omega
    have hfr := RK_fr hk hl2 hf
    obtain ⟨b1, b2, b3, b4, b5⟩ := i6 j kj hj hl2 hf
    refine ⟨b1, fun a ha => ?_, b3, b4, ?_⟩
    · show (if a = 57 ∧ j + n = t then v else ma σ a (j + n)) = _
      rw [if_neg (by omega)]; exact b2 a ha
    · show (if 57 = 57 ∧ j + kj = t then v else ma σ 57 (j + kj)) = _
      rw [if_neg (by omega)]; exact b5
theorem CI_frame {σ0 σ : MSt} {S : Sp} {n t k : Nat} {c : Int32} (h : CI σ0 σ S n t k) (hk : RK (s0 S 7) (s1 S 15) t k) (hkt : k ≤ t) (hFK : FK (s0 S 7) (s1 S 15) (t - k) k) (hnk : n < k) (hn : k ≤ s0 S 7)
    (hc0 : s1 S 12 (t - k) = 0 → c = -1) (hc1 : ∀ u ku, s1 S 12 (t - k) = u + 1 → FK n (s1 S 15) u ku → c = nI (u + ku)) : CI σ0 (fcp (sma σ 57 t (nI (t - k + n))) t (t - k + n) c) S n (t + 1) k := by
  obtain ⟨i1, i2, i3, i4, i5, i6⟩ := h
  have hF : s1 S 15 n ≤ t - k := hFK.2.1 n hnk
  have e57 : ∀ a x, a ≠ 57 → ma (sma σ 57 t (nI (t - k + n))) a x = ma σ a x := fun a x ha => by
    show (if a = 57 ∧ x = t then _ else ma σ a x) = _
    rw [if_neg (fun z => ha z.1)]
  have eo : ∀ a x, x ≠ t - k + n → ma (fcp (sma σ 57 t (nI (t - k + n))) t (t - k + n) c) a x = ma (sma σ 57 t (nI (t - k + n))) a x := fun a x hx => if_neg hx
  refine ⟨i1, i2, fun a ha hb => ?_, i4, fun a x ha hx => ?_, fun j kj hj hl hf => ?_⟩
  · rw [← i3 a ha hb]
    funext x
    by_cases hx : x = t - k + n
    · show (if x = t - k + n then (if a = 31 then c else if a = 33 then _ else if a = 32 then _ else if a = 30 then _ else if a = 29 then _ else if a = 28 then _ else if a = 27 then _ else ma (sma σ 57 t (nI (t - k + n))) a x) else _) = ma σ a x
      rw [if_pos hx, if_neg (by omega), if_neg (by omega), if_neg (by omega), if_neg (by omega), if_neg (by omega), if_neg (by omega), if_neg (by omega)]
      exact e57 a x hb
    · rw [eo a x hx]; exact e57 a x hb
  · rw [eo a x (by omega), e57 a x ha]; exact i5 a x ha (by omega)
  · rcases Nat.lt_or_ge j (t - k) with q | q
    · have hfr := RK_fr hk q hf
      obtain ⟨b1, b2, b3, b4, b5⟩ := i6 j kj hj q hf
      have nj : j + n ≠ t - k + n := by omega
      refine ⟨?_, fun a ha => ?_, fun z => ?_, fun u ku hu hku => ?_, ?_⟩
      · rw [eo 27 _ nj, e57 27 _ (by decide)]; exact b1
      · rw [eo a _ nj, e57 a _ (by omega)]; exact b2 a ha
      · rw [eo 31 _ nj, e57 31 _ (by decide)]; exact b3 z
      · rw [eo 31 _ nj, e57 31 _ (by decide)]; exact b4 u ku hu hku
      · have e1 : ma (fcp (sma σ 57 t (nI (t - k + n))) t (t - k + n) c) 57 (j + kj) = ma (sma σ 57 t (nI (t - k + n))) 57 (j + kj) := by
          by_cases hx : j + kj = t - k + n
          · show (if j + kj = t - k + n then _ else _) = _
            rw [if_pos hx]; rfl
          · exact eo _ _ hx
        rw [e1]
        show (if 57 = 57 ∧ j + kj = t then _ else ma σ 57 (j + kj)) = _
        rw [if_neg (by omega)]; exact b5
    · have ej : j = t - k := by omega
      subst ej
      have ekj : kj = k := FK_uq hf hFK
      subst ekj
      have tt : t - kj + kj = t := by omega
      rw [tt]
      have et : ∀ a, a ≠ 57 → ma (sma σ 57 t (nI (t - kj + n))) a t = ma σ0 a t := fun a ha => by rw [e57 a t ha]; exact i5 a t ha (Or.inr (Nat.le_refl _))
      have ep : ∀ a, ma (fcp (sma σ 57 t (nI (t - kj + n))) t (t - kj + n) c) a (t - kj + n) = (if a = 31 then c else if a = 33 then ma (sma σ 57 t (nI (t - kj + n))) 33 t else if a = 32 then ma (sma σ 57 t (nI (t - kj + n))) 32 t else if a = 30 then ma (sma σ 57 t (nI (t - kj + n))) 30 t else if a = 29 then ma (sma σ 57 t (nI (t - kj + n))) 29 t else if a = 28 then ma (sma σ 57 t (nI (t - kj + n))) 28 t else if a = 27 then vp_nar .boolean 1 else ma (sma σ 57 t (nI (t - kj + n))) a (t - kj + n)) := fun a => if_pos rfl
      refine ⟨?_, fun a ha => ?_, fun z => ?_, fun u ku hu hku => ?_, ?_⟩
      · rw [ep 27]
        show ¬ vp_nar .boolean 1 = 0
        decide
      · rw [ep a]
        rcases ha with r | r | r | r | r
        all_goals subst r
        · exact et 28 (by decide)
        · exact et 29 (by decide)
        · exact et 30 (by decide)
        · exact et 32 (by decide)
        · exact et 33 (by decide)
      · rw [ep 31]; exact hc0 z
      · rw [ep 31]; exact hc1 u ku hu hku
      · have e1 : ma (fcp (sma σ 57 t (nI (t - kj + n))) t (t - kj + n) c) 57 t = ma (sma σ 57 t (nI (t - kj + n))) 57 t := by
          by_cases hx : t = t - kj + n
          · show (if t = t - kj + n then _ else _) = _
            rw [if_pos hx]; rfl
          · exact eo _ _ hx
        rw [e1]
        show (if 57 = 57 ∧ t = t then nI (t - kj + n) else _) = _
        simp
/-- a redo point's number in the things that are left -/
theorem FK_lo {nf nr n : Nat} {fb : Nat → Nat} (h : TR nf nr fb) (hn : n < nr) {u ku : Nat} (hu : u < fb n) : FK n fb u ku ↔ FK nr fb u ku := by
  constructor
  · intro hk
    refine ⟨by have := hk.1; omega, hk.2.1, fun i a b => ?_⟩
    rcases Nat.lt_or_ge i n with q | q
    · exact hk.2.2 i a q
    · rcases Nat.lt_or_ge n i with r | r
      · have := h.1 n i r b; omega
      · have : i = n := by omega
        subst this; exact hu
  · intro hk
    refine ⟨?_, hk.2.1, fun i a b => hk.2.2 i a (by omega)⟩
    rcases Nat.lt_or_ge n ku with q | q
    · have := hk.2.1 n q; omega
    · exact q
theorem FK_hi {nf nr n : Nat} {fb : Nat → Nat} (h : TR nf nr fb) (hn : n < nr) {u ku : Nat} (hu : fb n ≤ u) (hk : FK n fb u ku) : ku = n := by
  rcases Nat.lt_or_ge ku n with q | q
  · have a := hk.2.2 ku (Nat.le_refl _) q
    have b := h.1 ku n q hn
    omega
  · have := hk.1; omega
theorem FK_pl {nf nr n : Nat} {fb : Nat → Nat} (h : TR nf nr fb) (hn : n < nr) {u ku : Nat} (hk : FK nr fb u ku) : (u + ku < fb n + n ↔ u < fb n) := by
  constructor
  · intro q
    rcases Nat.lt_or_ge u (fb n) with r | r
    · exact r
    · have : n < ku := by
        rcases Nat.lt_or_ge n ku with z | z
        · exact z
        · have := hk.2.2 n z hn; omega
      omega
  · intro q
    have := ((FK_lo h hn q).mpr hk).1
    omega
