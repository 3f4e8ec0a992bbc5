/-! the reference makes a cell, takes one apart -/
theorem RMb.le {σ : MSt} {S : Sp} {tb tb' : Nat} (h : RMb σ S tb) (hl : tb ≤ tb') : RMb σ S tb' := by
  obtain ⟨h1, h2, h3, h4, ⟨d0, tn, tt, d1, d2, d3⟩, h6⟩ := h
  exact ⟨h1, h2, h3, h4, ⟨d0, tn, tt, d1, Nat.le_trans d2 hl, d3⟩, h6⟩
theorem cellV_i {c : Nat} (h : c < 2 ^ 31) : (1099511627776 : Int64) + (nI c).toInt64 = cellV c := by
  rw [nI_l h, cellV, ← lN_add]; rfl
def tkN (n : Nat) : Nat := if n = 0 then 0 else n + 1
def mkS (S : Sp) (i : Nat) : Sp :=
  (va_up (va_up (va_up (va_up (s0 S) 3 (s0 S 3 + 1)) 4 (s0 S 4 + s1 S 6 i)) 5 (s0 S 5 + tkN (s1 S 6 i))) 12 (if s0 S 12 < s0 S 5 + tkN (s1 S 6 i) then s0 S 5 + tkN (s1 S 6 i) else s0 S 12),
   up2 (up2 (up2 (s1 S) 7 (s0 S 3) (sa S 2 i)) 8 (s0 S 3) (s1 S 6 i)) 9 (s0 S 3) (s0 S 4),
   s2 S, si S, fun k j => if k = 1 ∧ s0 S 4 ≤ j then rdS S (s2 S 2 i (j - s0 S 4)) else sv S k j, sw S)
def sp_makeS (S : Sp) (i : Nat) : Sp := if s0 S 5 + tkN (s1 S 6 i) ≤ s0 S 15 then wrS (mkS S i) (sa S 1 i) (cellV (s0 S 3)) else u0 S 17 6
def sfl (σ : MSt) (b t : Nat) (r : Nat → Int64) : MSt := (σ.1, σ.2.1, fun k i => if k = 23 ∧ b ≤ i ∧ i < b + t then r (i - b) else σ.2.2 k i)
theorem sfl_0 {σ : MSt} {b : Nat} {r : Nat → Int64} : sfl σ b 0 r = σ := by
  refine mst_ext (fun _ => rfl) rfl ?_
  funext k i
  show (if k = 23 ∧ b ≤ i ∧ i < b + 0 then _ else ml σ k i) = ml σ k i
  rw [if_neg (by omega)]
theorem sfl_s {σ : MSt} {b t : Nat} {r : Nat → Int64} : sml (sfl σ b t r) 23 (b + t) (r t) = sfl σ b (t + 1) r := by
  refine mst_ext (fun _ => rfl) rfl ?_
  funext k i
  show (if k = 23 ∧ i = b + t then r t else if k = 23 ∧ b ≤ i ∧ i < b + t then r (i - b) else ml σ k i) = (if k = 23 ∧ b ≤ i ∧ i < b + (t + 1) then r (i - b) else ml σ k i)
  by_cases h1 : k = 23 ∧ i = b + t
  · rw [if_pos h1, if_pos (by omega), show i - b = t by omega]
  · rw [if_neg h1]
    by_cases h2 : k = 23 ∧ b ≤ i ∧ i < b + t
    · rw [if_pos h2, if_pos (by omega)]
    · rw [if_neg h2, if_neg (by omega)]
theorem nI_10 {i k : Nat} : ((10 : Int32) * nI i) + nI k = nI (10 * i + k) := by
  rw [show (10 : Int32) = nI 10 from rfl, pk_mul, nI_add]
theorem m_make_loop {σ : MSt} {S : Sp} {i n fs : Nat} {x3 x4 : Int32} {post : MSt → Prop} (hi : i < 2000) (hn : n ≤ 4) (h4 : RM4 σ S) (h5 : ∀ k, k < s1 S 11 (s0 S 6) → ml σ 39 k = sv S 0 k) (hf : live S)
    (hr : ∀ j, j < n → ma σ 18 (10 * i + j) = nI (s2 S 2 i j) ∧ s2 S 2 i j < s1 S 1 (s1 S 10 (s0 S 8))) (h24 : mi σ 24 = nI fs) (hfs : fs + n ≤ 20000)
    (hp : ∀ σ', σ' = sfl σ fs n (fun j => rdS S (s2 S 2 i j)) → wp_X11_makeCell_89 post 1 σ' (nI i) (nI n) x3 x4 (nI n)) : ∃ f, wp_X11_makeCell_89 post f σ (nI i) (nI n) x3 x4 0 := by
  have key : ∀ d k, k + d = n → wp_X11_makeCell_89 post (d + 1) (sfl σ fs k (fun j => rdS S (s2 S 2 i j))) (nI i) (nI n) x3 x4 (nI k) := by
    intro d
    induction d with
    | zero =>
      intro k hk
      have e : k = n := by omega
      subst e
      exact hp _ rfl
    | succ d ih =>
      intro k hk
      rw [wp_X11_makeCell_89]
      refine ⟨fun z => absurd z (nI_ge (by omega) (by omega)), fun _ => ?_⟩
      obtain ⟨r1, r2⟩ := hr k (by omega)
      have a18 : ma (sfl σ fs k (fun j => rdS S (s2 S 2 i j))) 18 (10 * i + k) = nI (s2 S 2 i k) := r1
      have a24 : mi (sfl σ fs k (fun j => rdS S (s2 S 2 i j))) 24 = nI fs := h24
      rw [nI_10, nI_clamp (show 10 * i + k < 2 ^ 31 by omega), a18, a24, nI_add, nI_clamp (show fs + k < 2 ^ 31 by omega)]
      refine ⟨vp_in_nI (by omega) (by decide), m_get' (S := S) h4 h5 hf r2 ⟨vp_in_nI (by omega) (by decide), fun σ15 e15 v16 e16 => ?_⟩⟩
      rw [e15, e16, nI_1, sfl_s (r := fun j => rdS S (s2 S 2 i j))]
      exact ih (k + 1) (by omega)
  have := key n 0 (by omega)
  rw [sfl_0] at this
  exact ⟨_, this⟩
theorem m_makeCell {σ : MSt} {S : Sp} {tb i : Nat} {post : MSt → Prop} (h : RMb σ S tb) (hl : live S) (htb : tb < 200000) (hi : i < s0 S 2) (hk : s1 S 5 i = 2) (hb : si S 2 i = nI (sa S 2 i)) (hb2 : sa S 2 i < 32) (ha : si S 1 i = nI (sa S 1 i)) (ha2 : sa S 1 i < s1 S 1 (s1 S 10 (s0 S 8))) (hn : s1 S 6 i ≤ 4) (hr : ∀ j, j < s1 S 6 i → s2 S 2 i j < s1 S 1 (s1 S 10 (s0 S 8))) (hnc : s0 S 3 < 20000) (hfh : s0 S 4 ≤ s0 S 5)
    (hp : ∀ σ', RMb σ' (sp_makeS S i) (tb + 1) → post σ') : wp_X11_makeCell σ (nI i) post := by
  obtain ⟨h1, h2, h3, h4, h5, h6⟩ := id h
  obtain ⟨g1, g2, g3, g4, g5, g6, g7, g8, g9, g10, g11, g12, g13, g14, g15⟩ := id h6
  have hni : s0 S 2 ≤ 2000 := h2.2.2.2.1
  obtain ⟨q1, q2, q3, q4, q5, q6, q7, q8, q9⟩ := h2.2.2.2.2.2 i hi
  have hro := q9 (Or.inl hk)
  have vi := vp_in_nI (n := i) (N := 2000) (by omega) (by decide)
  have t19 : mi σ 19 = nI (s0 S 3) := h3.1
  have t24 : mi σ 24 = nI (s0 S 4) := h3.2.2.1
  have t25 : mi σ 25 = nI (s0 S 5) := h3.2.2.2.2.1
  have b5 : s0 S 5 ≤ 20000 := h3.2.2.2.2.2.1
  have key : wp_X11_makeCell_18 post σ (nI i) (nI (s1 S 6 i)) (nI (tkN (s1 S 6 i))) := by
    unfold wp_X11_makeCell_18
    rw [t25, nI_add, g13]
    have tk2 : s1 S 6 i ≤ tkN (s1 S 6 i) ∧ tkN (s1 S 6 i) ≤ 5 := by unfold tkN; split <;> omega
    refine ⟨fun hq => ?_, fun hq σ18 e18 => ?_⟩
    · have hle : s0 S 5 + tkN (s1 S 6 i) ≤ s0 S 15 := by
        rcases Nat.lt_or_ge (s0 S 15) (s0 S 5 + tkN (s1 S 6 i)) with q | q
        · exact absurd hq (nI_ge q (by omega))
        · exact q
      rw [sp_makeS, if_pos hle] at hp
      intro v2 e2 σ3 e3
      rw [t19] at e2 e3
      subst e2
      have vc := vp_in_nI (n := s0 S 3) (N := 20100) (by omega) (by decide)
      refine ⟨vi, vc, fun σ4 e4 => ⟨vc, fun σ5 e5 => ⟨vc, fun σ6 e6 => ?_⟩⟩⟩
      rw [nI_clamp (by omega)] at e4 e5 e6
      rw [nI_clamp (by omega)] at e4
      have y14 : ma σ3 14 i = nI (sa S 2 i) := by rw [e3]; exact q4.trans hb
      rw [y14] at e4
      have y24 : mi σ5 24 = nI (s0 S 4) := by rw [e5, e4, e3]; exact t24
      rw [y24] at e6
      rw [nI_1] at e3
      have b24 : mi σ6 24 = nI (s0 S 4) := by rw [e6, e5, e4, e3]; exact t24
      refine m_make_loop (S := S) (fs := s0 S 4) (by omega) hn (by rw [e6, e5, e4, e3]; exact h4) (by rw [e6, e5, e4, e3]; exact h5.1) hl (fun j hj => ⟨by rw [e6, e5, e4, e3]; exact (hro j hj).1, hr j hj⟩) b24 (by omega) (fun σ' e' => ?_)
      rw [wp_X11_makeCell_89]
      refine ⟨fun _ σ7 e7 σ8 e8 => ?_, fun z => absurd (nI_le (Nat.le_refl _) (by omega)) z⟩
      have z24 : mi σ' 24 = nI (s0 S 4) := by rw [e']; exact b24
      rw [z24, nI_add] at e7
      have z25 : mi σ7 25 = nI (s0 S 5) := by rw [e7, e', e6, e5, e4, e3]; exact t25
      rw [z25, nI_add] at e8
      have w25 : mi σ8 25 = nI (s0 S 5 + tkN (s1 S 6 i)) := by rw [e8]; rfl
      have w49 : mi σ8 49 = nI (s0 S 12) := by rw [e8, e7, e', e6, e5, e4, e3]; exact g7
      rw [w25, w49, cellV_i (by omega)]
      have fin : ∀ σ9 m, σ9 = smi σ8 49 (nI m) → m = (if s0 S 12 < s0 S 5 + tkN (s1 S 6 i) then s0 S 5 + tkN (s1 S 6 i) else s0 S 12) → vp_in (nI i) 2000 ∧ wp_X11_set σ9 (ma σ9 13 (Int32.toNatClampNeg (nI i))) (cellV (s0 S 3)) (fun σ10 => post σ10) := by
        intro σ9 m e9 em
        refine ⟨vi, ?_⟩
        rw [nI_clamp (show i < 2 ^ 31 by omega)]
        have y13 : ma σ9 13 i = nI (sa S 1 i) := by rw [e9, e8, e7, e', e6, e5, e4, e3]; exact q3.trans ha
        rw [y13]
        refine m_set (S := mkS S i) ?_ hl htb ha2 hp
        have b12 : m ≤ 20000 := by rw [em]; split <;> omega
        subst e9; subst e8; subst e7; subst e'; subst e6; subst e5; subst e4; subst e3
        refine ⟨h1, h2, ⟨rfl, by show s0 S 3 + 1 ≤ 20000; omega, rfl, by show s0 S 4 + s1 S 6 i ≤ 20000; omega, rfl, by show s0 S 5 + tkN (s1 S 6 i) ≤ 20000; omega, fun c hc => ?_, fun f hf => ?_⟩, h4, h5, ⟨g1, g2, g3, g4, g5, g6, by rw [show s0 (mkS S i) 12 = m from em.symm]; rfl, by rw [show s0 (mkS S i) 12 = m from em.symm]; exact b12, g9, g10, g11, g12, g13, g14, g15⟩⟩
        · have hc : c < s0 S 3 + 1 := hc
          show (if 20 = 20 ∧ c = s0 S 3 then nI (sa S 2 i) else ma σ 20 c) = nI (if 7 = 7 ∧ c = s0 S 3 then sa S 2 i else s1 S 7 c) ∧ (if 7 = 7 ∧ c = s0 S 3 then sa S 2 i else s1 S 7 c) < 32 ∧ (if 21 = 21 ∧ c = s0 S 3 then nI (s1 S 6 i) else ma σ 21 c) = nI (if 8 = 8 ∧ c = s0 S 3 then s1 S 6 i else s1 S 8 c) ∧ (if 8 = 8 ∧ c = s0 S 3 then s1 S 6 i else s1 S 8 c) ≤ 4 ∧ (if 22 = 22 ∧ c = s0 S 3 then nI (s0 S 4) else ma σ 22 c) = nI (if 9 = 9 ∧ c = s0 S 3 then s0 S 4 else s1 S 9 c) ∧ (if 9 = 9 ∧ c = s0 S 3 then s0 S 4 else s1 S 9 c) + (if 8 = 8 ∧ c = s0 S 3 then s1 S 6 i else s1 S 8 c) ≤ s0 S 4 + s1 S 6 i
          by_cases e : c = s0 S 3
          · simp only [e, and_self, if_true]
            exact ⟨trivial, hb2, trivial, hn, trivial, Nat.le_refl _⟩
          · simp only [e, and_false, if_false]
            obtain ⟨a1, a2, a3, a4, a5, a6⟩ := h3.2.2.2.2.2.2.1 c (by omega)
            exact ⟨a1, a2, a3, a4, a5, by omega⟩
        · have hf : f < s0 S 4 + s1 S 6 i := hf
          show (if 23 = 23 ∧ s0 S 4 ≤ f ∧ f < s0 S 4 + s1 S 6 i then rdS S (s2 S 2 i (f - s0 S 4)) else ml σ 23 f) = (if 1 = 1 ∧ s0 S 4 ≤ f then rdS S (s2 S 2 i (f - s0 S 4)) else sv S 1 f)
          by_cases e : s0 S 4 ≤ f
          · rw [if_pos ⟨rfl, e, hf⟩, if_pos ⟨rfl, e⟩]
          · rw [if_neg (fun z => e z.2.1), if_neg (fun z => e z.2)]
            exact h3.2.2.2.2.2.2.2 f (by omega)
      refine ⟨fun hm σ9 e9 => fin σ9 (s0 S 12) e9 ?_, fun hm σ11 e11 => fin σ11 _ e11 ?_⟩
      · rw [if_neg]
        intro q; exact absurd hm (nI_ge q (by omega))
      · rw [if_pos]
        rcases Nat.lt_or_ge (s0 S 12) (s0 S 5 + tkN (s1 S 6 i)) with q | q
        · exact q
        · exact absurd (nI_le q (by omega)) hm
    · have hle : ¬ s0 S 5 + tkN (s1 S 6 i) ≤ s0 S 15 := fun q => hq (nI_le q (by omega))
      rw [sp_makeS, if_neg hle] at hp
      refine hp σ18 (RMb.le (tb := tb) ?_ (by omega))
      obtain ⟨c1, c2, c3, c4, c5, c6, c7, c8, c9⟩ := id h4
      rw [e18]
      exact ⟨h1, h2, h3, ⟨c1, c2, c3, c4, c5, c6, c7, fun q => absurd q (by rintro (q | q) <;> cases q), c9⟩, h5, rfl, by show 6 ≤ 7; omega, h6.2.2⟩
  unfold wp_X11_makeCell
  rw [nI_clamp (show i < 2 ^ 31 by omega)]
  refine ⟨vi, fun v1 e1 => ?_⟩
  rw [q7] at e1
  subst e1
  refine ⟨fun hz => ?_, fun hz => ?_⟩
  · have e : s1 S 6 i = 0 := (nI_eq (by omega) (by decide)).mp hz
    have := key
    rw [tkN, if_pos e] at this
    exact this
  · have e : ¬ s1 S 6 i = 0 := fun q => hz (by rw [q]; rfl)
    have := key
    rw [tkN, if_neg e] at this
    rw [nI_1]; exact this
/-- taking a cell apart -/
def tkS (S : Sp) (i c : Nat) : Nat → Sp := wrL S (fun k => s1 S 11 (s0 S 8) + s2 S 2 i k) (fun k _ => sv S 1 (s1 S 9 c + k))
theorem m_take_loop {S : Sp} {i c : Nat} {post : MSt → Prop} {tb : Nat} (hi : i < s0 S 2) (hk : s1 S 5 i = 3) (hl : live S) (htb : tb + 4 < 200000) (hc : c < s0 S 3) (hn : s1 S 6 i ≤ 4) (hm : s1 S 8 c = s1 S 6 i) (hr : ∀ j, j < s1 S 6 i → s2 S 2 i j < s1 S 1 (s1 S 10 (s0 S 8)))
    (hp : ∀ σ', RMb σ' (tkS S i c (s1 S 6 i)) (tb + s1 S 6 i) → post σ') : ∀ d k σ, k + d = s1 S 6 i → RMb σ (tkS S i c k) (tb + k) → wp_X11_takeCell_47 post (d + 1) σ (nI i) (nI c) (nI k) := by
  have we := fun k => wrL_e (S := S) (f := fun k => s1 S 11 (s0 S 8) + s2 S 2 i k) (g := fun k _ => sv S 1 (s1 S 9 c + k)) k
  have pre : ∀ k σ, RMb σ (tkS S i c k) (tb + k) → i < 2000 ∧ c < 20000 ∧ ma σ 17 i = nI (s1 S 6 i) ∧ (∀ j, j < s1 S 6 i → ma σ 18 (10 * i + j) = nI (s2 S 2 i j)) ∧ ma σ 22 c = nI (s1 S 9 c) ∧ s1 S 9 c + s1 S 8 c ≤ 20000 ∧ ∀ f, f < s1 S 9 c + s1 S 8 c → ml σ 23 f = sv S 1 f := by
    intro k σ h
    obtain ⟨e0, e1, e2, e3, e4, e5⟩ := we k
    obtain ⟨h1, h2, h3, h4, h5, h6⟩ := h
    have e0 : s0 (tkS S i c k) = s0 S := e0
    have e1 : s1 (tkS S i c k) = s1 S := e1
    have e2 : s2 (tkS S i c k) = s2 S := e2
    have e5 : sv (tkS S i c k) 1 = sv S 1 := e5
    unfold RM2 at h2
    unfold RM3 at h3
    rw [e0, e1, e2] at h2
    rw [e0, e1, e5] at h3
    obtain ⟨q1, q2, q3, q4, q5, q6, q7, q8, q9⟩ := h2.2.2.2.2.2 i hi
    obtain ⟨a1, a2, a3, a4, a5, a6⟩ := h3.2.2.2.2.2.2.1 c hc
    have b1 := h3.2.1
    have b2 := h3.2.2.2.1
    have b3 := h2.2.2.2.1
    exact ⟨by omega, by omega, q7, fun j hj => (q9 (Or.inr (Or.inl hk)) j hj).1, a5, by omega, fun f hf => h3.2.2.2.2.2.2.2 f (by omega)⟩
  intro d
  induction d with
  | zero =>
    intro k σ hk h
    have e : k = s1 S 6 i := by omega
    subst e
    obtain ⟨p1, p2, p3, -⟩ := pre _ σ h
    rw [wp_X11_takeCell_47, nI_clamp (show i < 2 ^ 31 by omega), p3]
    exact ⟨vp_in_nI p1 (by decide), fun _ => hp σ h, fun z => absurd (nI_le (Nat.le_refl _) (by omega)) z⟩
  | succ d ih =>
    intro k σ hk h
    obtain ⟨p1, p2, p3, p4, p5, p6, p7⟩ := pre _ σ h
    rw [wp_X11_takeCell_47, nI_clamp (show i < 2 ^ 31 by omega), p3]
    refine ⟨vp_in_nI p1 (by decide), fun z => absurd z (nI_ge (by omega) (by omega)), fun _ => ?_⟩
    rw [nI_10, nI_clamp (show 10 * i + k < 2 ^ 31 by omega), p4 k (by omega), nI_clamp (show c < 2 ^ 31 by omega), p5, nI_add, nI_clamp (show s1 S 9 c + k < 2 ^ 31 by omega), p7 _ (by omega)]
    refine ⟨vp_in_nI (by omega) (by decide), vp_in_nI (by omega) (by decide), vp_in_nI (by omega) (by decide), ?_⟩
    obtain ⟨e0, e1, -⟩ := we k
    have e0 : s0 (tkS S i c k) = s0 S := e0
    have e1 : s1 (tkS S i c k) = s1 S := e1
    refine m_set h (by unfold live; rw [e0]; exact hl) (by omega) (by rw [e1, e0]; exact hr k (by omega)) (fun σ6 h6 v7 e7 => ?_)
    rw [e7, nI_1]
    refine ih (k + 1) σ6 (by omega) ?_
    have : wrS (tkS S i c k) (s2 S 2 i k) (sv S 1 (s1 S 9 c + k)) = tkS S i c (k + 1) := by
      unfold wrS
      rw [e0, e1]; rfl
    rw [← this]; exact h6
