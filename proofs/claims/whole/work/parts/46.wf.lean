/-! what always holds of the state -/
/-- words of the heap, and fields, before cell c -/
def hpF (f : Nat → Nat) : Nat → Nat
  | 0 => 0
  | c + 1 => hpF f c + (if f c = 0 then 0 else f c + 1)
def fsF (f : Nat → Nat) : Nat → Nat
  | 0 => 0
  | c + 1 => fsF f c + f c
def hpS (S : Sp) (c : Nat) : Nat := hpF (s1 S 8) c
def fsS (S : Sp) (c : Nat) : Nat := fsF (s1 S 8) c
/-- instruction k (of all) is one of procedure p -/
def okIn (S : Sp) (p k : Nat) : Prop := okI S p (nI (s1 S 5 k)) (si S 1 k) (si S 2 k) (si S 3 k) (si S 4 k) (s1 S 6 k) (fun j => nI (s2 S 2 k j))
def WP (S : Sp) : Prop := s0 S 1 ≤ 60 ∧ s0 S 2 ≤ 2000 ∧
  (∀ p, p < s0 S 1 → s1 S 0 p ≤ 1 ∧ 1 ≤ s1 S 1 p ∧ s1 S 1 p ≤ 40 ∧ s1 S 2 p ≤ s1 S 1 p ∧ s1 S 3 p ≤ 8 ∧ s1 S 2 p + s1 S 3 p ≤ 10 ∧ s1 S 4 p ≤ s0 S 2 ∧ (∀ k, k < s1 S 3 p → s2 S 0 p k < s1 S 1 p) ∧ ∀ m, m < s1 S 4 p → s2 S 1 p m < s0 S 2 ∧ okIn S p (s2 S 1 p m)) ∧
  ∀ k, k < s0 S 2 → s1 S 5 k ≤ 15 ∧ s1 S 6 k ≤ 10 ∧ ((s1 S 5 k = 2 ∨ s1 S 5 k = 3 ∨ s1 S 5 k = 10) → ∀ j, j < s1 S 6 k → s2 S 2 k j < 40)
def WC (S : Sp) : Prop := s0 S 3 ≤ s0 S 10 ∧ s0 S 4 = fsS S (s0 S 3) ∧ s0 S 5 = hpS S (s0 S 3) ∧ s0 S 5 ≤ s0 S 15 ∧ ∀ c, c < s0 S 3 → s1 S 7 c < 32 ∧ s1 S 8 c ≤ 4 ∧ s1 S 9 c = fsS S c ∧ ∀ k, k < s1 S 8 c → okV c (sv S 1 (s1 S 9 c + k))
def WB (S : Sp) : Prop := s1 S 11 0 = 0 ∧ szS S ≤ 20000 ∧ (live S → s0 S 8 < s0 S 6) ∧ (∀ j, j < s0 S 6 → s1 S 10 j < s0 S 1 ∧ s1 S 11 (j + 1) = s1 S 11 j + s1 S 1 (s1 S 10 j) ∧ (s1 S 12 j = 0 ↔ j = 0) ∧ s1 S 14 j ≤ 7000 ∧
  ∀ u, s1 S 12 j = u + 1 → u < j ∧ s1 S 13 j < s1 S 4 (s1 S 10 u) ∧ s1 S 5 (s2 S 1 (s1 S 10 u) (s1 S 13 j)) = 10 ∧ si S 1 (s2 S 1 (s1 S 10 u) (s1 S 13 j)) = nI (s1 S 10 j))
def WT (S : Sp) : Prop := TR (s0 S 6) (s0 S 7) (s1 S 15) ∧ (∀ i j, i < j → j < s0 S 7 → s1 S 20 i ≤ s1 S 20 j) ∧ ∀ i, i < s0 S 7 → s1 S 16 i < s1 S 15 i ∧ s1 S 17 i < 2000 ∧ s1 S 18 i ≤ 1 ∧ s1 S 19 i = hpS S (s1 S 20 i) ∧ s1 S 20 i ≤ s0 S 3 ∧ s1 S 21 i = fsS S (s1 S 20 i) ∧ ∀ k, k < s1 S 11 (s1 S 15 i) → okV (s1 S 20 i) (sw S 0 i k)
def WV (S : Sp) : Prop := ∀ m, m < s1 S 11 (s0 S 6) → okV (s0 S 3) (sv S 0 m)
def WN (S : Sp) : Prop := s0 S 9 ≤ 2000 ∧ s0 S 13 ≤ s0 S 10 ∧ s0 S 10 ≤ 20000 ∧ s0 S 14 ≤ 20000 ∧ s0 S 15 ≤ 20000
def WF (S : Sp) : Prop := WP S ∧ WC S ∧ WB S ∧ WT S ∧ WV S ∧ WN S
theorem hpS_mono {S : Sp} {c : Nat} : ∀ d, hpS S c ≤ hpS S (c + d) := by
  intro d
  induction d with
  | zero => exact Nat.le_refl _
  | succ d ih => exact Nat.le_trans ih (Nat.le_add_right _ _)
theorem fsS_mono {S : Sp} {c : Nat} : ∀ d, fsS S c ≤ fsS S (c + d) := by
  intro d
  induction d with
  | zero => exact Nat.le_refl _
  | succ d ih => exact Nat.le_trans ih (Nat.le_add_right _ _)
theorem hpS_le {S : Sp} {c e : Nat} (h : c ≤ e) : hpS S c ≤ hpS S e := by
  have := hpS_mono (S := S) (c := c) (e - c)
  rwa [show c + (e - c) = e by omega] at this
theorem fsS_le {S : Sp} {c e : Nat} (h : c ≤ e) : fsS S c ≤ fsS S e := by
  have := fsS_mono (S := S) (c := c) (e - c)
  rwa [show c + (e - c) = e by omega] at this
theorem okV_le {c e : Nat} {v : Int64} (h : c ≤ e) (hv : okV c v) : okV e v := by
  rcases hv with q | ⟨x, hx, q⟩
  · exact Or.inl q
  · exact Or.inr ⟨x, by omega, q⟩
theorem okV_num {e : Nat} (x : Int32) : okV e x.toInt64 := Or.inl ⟨x, rfl⟩
theorem WF.wr {S : Sp} (h : WF S) : WR S := by
  obtain ⟨-, ⟨-, hc4, hc5, -, hc⟩, -, ⟨-, -, ht⟩, -⟩ := h
  intro i hi
  obtain ⟨-, -, a1, a2, a3, a4, -⟩ := ht i hi
  refine ⟨a1, by rw [a2, hc5]; exact hpS_le a3, a3, by rw [a4, hc4]; exact fsS_le a3, fun c hcc => ?_⟩
  rw [(hc c (by omega)).2.2.1, a4]
  exact fsS_le (c := c + 1) (by omega)
/-- slot numbers of an instruction -/
def sa (S : Sp) (k i : Nat) : Nat := (si S k i).toNatClampNeg
theorem isSl_sa {S : Sp} {p k i : Nat} (h1 : 1 ≤ s1 S 1 p) (h2 : s1 S 1 p ≤ 40) (h : isSl S p (si S k i)) : si S k i = nI (sa S k i) ∧ sa S k i < s1 S 1 p := by
  have h' : 0 ≤ si S k i ∧ si S k i ≤ nI (s1 S 1 p) - 1 := h
  rw [show nI (s1 S 1 p) - 1 = nI (s1 S 1 p - 1) by rw [show (1 : Int32) = nI 1 from rfl, pk_sub h1]] at h'
  obtain ⟨a, -, ha, ea⟩ := i32_rng (lo := 0) (hi := s1 S 1 p - 1) (by decide) (by omega) h'.1 h'.2
  have : sa S k i = a := by rw [sa, ea, nI_clamp (by omega)]
  rw [this]
  exact ⟨ea, by omega⟩
theorem inR_sa {S : Sp} {k i m : Nat} (hm : m < 2 ^ 31) (h : inR (si S k i) (nI m)) : si S k i = nI (sa S k i) ∧ sa S k i ≤ m := by
  obtain ⟨a, -, ha, ea⟩ := i32_rng (lo := 0) (hi := m) (by decide) hm h.1 h.2
  have : sa S k i = a := by rw [sa, ea, nI_clamp (by omega)]
  rw [this]
  exact ⟨ea, ha⟩
theorem row_sl {S : Sp} {p n i j : Nat} (h1 : 1 ≤ s1 S 1 p) (h2 : s1 S 1 p ≤ 40) (hb : s2 S 2 i j < 2 ^ 31) (h : allSl S p n (fun j => nI (s2 S 2 i j))) (hj : j < n) : s2 S 2 i j < s1 S 1 p := by
  have h' := h j hj
  have h' := h'.2
  rw [show nI (s1 S 1 p) - 1 = nI (s1 S 1 p - 1) by rw [show (1 : Int32) = nI 1 from rfl, pk_sub h1]] at h'
  rcases Nat.lt_or_ge (s2 S 2 i j) (s1 S 1 p) with q | q
  · exact q
  · exact absurd h' (nI_ge (by omega) hb)
/-- slots of the frame at work -/
def rdS (S : Sp) (a : Nat) : Int64 := sv S 0 (s1 S 11 (s0 S 8) + a)
def wrS (S : Sp) (a : Nat) (v : Int64) : Sp := uv S 0 (s1 S 11 (s0 S 8) + a) v
def nxS (S : Sp) : Sp := u0 S 9 (s0 S 9 + 1)
def wrL (S : Sp) (f : Nat → Nat) (g : Nat → Sp → Int64) : Nat → Sp
  | 0 => S
  | k + 1 => uv (wrL S f g k) 0 (f k) (g k (wrL S f g k))
theorem wrL_e {S : Sp} {f : Nat → Nat} {g : Nat → Sp → Int64} : ∀ k, s0 (wrL S f g k) = s0 S ∧ s1 (wrL S f g k) = s1 S ∧ s2 (wrL S f g k) = s2 S ∧ si (wrL S f g k) = si S ∧ sw (wrL S f g k) = sw S ∧ sv (wrL S f g k) 1 = sv S 1 := by
  intro k
  induction k with
  | zero => exact ⟨rfl, rfl, rfl, rfl, rfl, rfl⟩
  | succ k ih => exact ih
/-- the reference's next instruction -/
theorem RM_next {σ : MSt} {S : Sp} {tb : Nat} (h : RMb σ S tb) (hl : live S) : ∃ w, mi σ 45 = nI w ∧ w < 7000 ∧ ma σ 30 w = nI (s0 S 9) ∧ ∀ m, RMb (sma σ 30 w (nI m)) (u0 S 9 m) tb := by
  obtain ⟨h1, h2, h3, h4, h5, h6⟩ := h
  obtain ⟨c1, c2, c3, c4, c5, c6, c7, c8, c9⟩ := h4
  obtain ⟨hw, hwk⟩ := c8 hl
  obtain ⟨k, hk⟩ := FK_ex (s0 S 8) (s0 S 7) c1.2.2.1
  have h7 := c1.2.1
  have hkn := hk.1
  obtain ⟨a1, a2⟩ := hwk k hk
  refine ⟨s0 S 8 + k, a1, by omega, a2, fun m => ⟨h1, h2, h3, ⟨c1, c2, c3, c4, c5, c6, fun i ku hi hku => ?_, fun _ => ⟨hw, fun k' hk' => ?_⟩, c9⟩, h5, h6⟩⟩
  · have hi : i < s0 S 7 := hi
    obtain ⟨b1, b2, b3, b4⟩ := c7 i ku hi hku
    refine ⟨b1, b2, ?_, b4⟩
    have n2 : ¬ s1 S 15 i + i = s0 S 8 + k := by
      rcases Nat.lt_or_ge i k with r | r
      · have := hk.2.1 i r; omega
      · have := hk.2.2 i r hi; omega
    show (if 30 = 30 ∧ s1 S 15 i + i = s0 S 8 + k then _ else ma σ 30 (s1 S 15 i + i)) = _
    exact Eq.trans (if_neg (fun z => n2 z.2)) b3
  · have e : k' = k := FK_uq hk' hk
    subst e
    refine ⟨a1, ?_⟩
    show (if 30 = 30 ∧ s0 S 8 + k' = s0 S 8 + k' then nI m else _) = nI m
    simp
theorem m_nx {σ : MSt} {S : Sp} {tb : Nat} {post : MSt → Prop} (h : RMb σ S tb) (hl : live S) (hp : ∀ σ', RMb σ' (nxS S) tb → post σ') : vp_in (mi σ 45) 7000 ∧ vp_in (mi σ 45) 7000 ∧ ∀ σ' : MSt, σ' = sma σ 30 (Int32.toNatClampNeg (mi σ 45)) ((ma σ 30 (Int32.toNatClampNeg (mi σ 45))) + 1) → post σ' := by
  obtain ⟨w, e1, e2, e3, e4⟩ := RM_next h hl
  rw [e1, nI_clamp (by omega), e3, nI_1]
  refine ⟨vp_in_nI e2 (by decide), vp_in_nI e2 (by decide), fun σ' e => hp σ' ?_⟩
  rw [e]; exact e4 (s0 S 9 + 1)
theorem m_set {σ : MSt} {S : Sp} {tb a : Nat} {v : Int64} {post : MSt → Prop} (h : RMb σ S tb) (hl : live S) (ht : tb < 200000) (ha : a < s1 S 1 (s1 S 10 (s0 S 8))) (hp : ∀ σ', RMb σ' (wrS S a v) (tb + 1) → post σ') : wp_X11_set σ (nI a) v post := by
  obtain ⟨hw, hwk⟩ := h.work hl
  obtain ⟨k, hk⟩ := FK_ex (s0 S 8) (s0 S 7) h.2.2.2.1.1.2.2.1
  unfold wp_X11_set
  rw [(hwk k hk).1]
  exact m_write h ht hw hk ha hp
theorem m_get' {σ : MSt} {S : Sp} {a : Nat} {post : Int64 → MSt → Prop} (h4 : RM4 σ S) (h5 : ∀ k, k < s1 S 11 (s0 S 6) → ml σ 39 k = sv S 0 k) (hf : live S) (ha : a < s1 S 1 (s1 S 10 (s0 S 8))) (hp : post (rdS S a) σ) : wp_X11_get σ (nI a) post := by
  obtain ⟨hw, hwk⟩ := h4.2.2.2.2.2.2.2.1 hf
  obtain ⟨k, hk⟩ := FK_ex (s0 S 8) (s0 S 7) h4.1.2.2.1
  obtain ⟨q1, q2, q3, q4⟩ := h4.place hw hk ha
  unfold wp_X11_get
  rw [(hwk k hk).1, nI_clamp (by omega), q2, nI_add, nI_clamp (by omega), h5 _ q3]
  exact ⟨vp_in_nI q1 (by decide), vp_in_nI (by omega) (by decide), hp⟩
