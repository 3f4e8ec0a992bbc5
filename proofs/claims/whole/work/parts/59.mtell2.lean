/-! the reference tells -/
theorem sayL_same {l : List Nat} : ∀ {S : Sp}, (∀ k, k ≠ 16 → s0 (sayL S l) k = s0 S k) ∧ (∀ k, k ≠ 22 → s1 (sayL S l) k = s1 S k) ∧ s2 (sayL S l) = s2 S ∧ si (sayL S l) = si S ∧ sv (sayL S l) = sv S ∧ sw (sayL S l) = sw S := by
  induction l with
  | nil => intro S; exact ⟨fun _ _ => rfl, fun _ _ => rfl, rfl, rfl, rfl, rfl⟩
  | cons c l ih =>
    intro S
    obtain ⟨a1, a2, a3, a4, a5, a6⟩ := ih (S := sp_say S c)
    have b : (∀ k, k ≠ 16 → s0 (sp_say S c) k = s0 S k) ∧ (∀ k, k ≠ 22 → s1 (sp_say S c) k = s1 S k) ∧ s2 (sp_say S c) = s2 S ∧ si (sp_say S c) = si S ∧ sv (sp_say S c) = sv S ∧ sw (sp_say S c) = sw S := by
      unfold sp_say
      split
      · exact ⟨fun _ _ => rfl, fun _ _ => rfl, rfl, rfl, rfl, rfl⟩
      · refine ⟨fun k hk => if_neg hk, fun k hk => funext fun i => if_neg (fun z => hk z.1), rfl, rfl, rfl, rfl⟩
    obtain ⟨b1, b2, b3, b4, b5, b6⟩ := b
    exact ⟨fun k hk => (a1 k hk).trans (b1 k hk), fun k hk => (a2 k hk).trans (b2 k hk), a3.trans b3, a4.trans b4, a5.trans b5, a6.trans b6⟩
theorem sayL_cnt {l : List Nat} : ∀ {S : Sp}, s0 S 16 ≤ 1000 → s0 (sayL S l) 16 ≤ 1000 ∧ (s0 (sayL S l) 16 = 1000 ∨ s0 (sayL S l) 16 = s0 S 16 + l.length) := by
  induction l with
  | nil => intro S h; exact ⟨h, Or.inr rfl⟩
  | cons c l ih =>
    intro S h
    show s0 (sayL (sp_say S c) l) 16 ≤ 1000 ∧ (s0 (sayL (sp_say S c) l) 16 = 1000 ∨ s0 (sayL (sp_say S c) l) 16 = s0 S 16 + (l.length + 1))
    by_cases e : s0 S 16 = 1000
    · rw [sp_say, if_pos e, sayL_full e]
      exact ⟨h, Or.inl e⟩
    · have e1 : s0 (sp_say S c) 16 = s0 S 16 + 1 := by rw [sp_say, if_neg e]; rfl
      obtain ⟨a, b⟩ := ih (S := sp_say S c) (by omega)
      refine ⟨a, ?_⟩
      rcases b with b | b
      · exact Or.inl b
      · exact Or.inr (by omega)
def itm (S : Sp) (v : Int64) : List Nat := if v = 4398046511104 then [44] else if v = 4398046511105 then [41] else txt S v
def ptx (S : Sp) (f : Nat → Int64) : Nat → List Nat
  | 0 => []
  | n + 1 => itm S (f n) ++ ptx S f n
theorem ptx_congr {S : Sp} {f g : Nat → Int64} : ∀ n, (∀ j, j < n → g j = f j) → ptx S g n = ptx S f n := by
  intro n
  induction n with
  | zero => intro _; rfl
  | succ n ih =>
    intro h
    rw [ptx, ptx, h n (by omega), ih (fun j hj => h j (by omega))]
theorem itm_ok {S : Sp} {n : Nat} {v : Int64} (hn : n ≤ 20000) (hv : okV n v) : itm S v = txt S v := by
  have h1 : ¬ v = 4398046511104 ∧ ¬ v = 4398046511105 := by
    rcases hv with ⟨x, rfl⟩ | ⟨c, hc, rfl⟩
    · have := num_lt x
      exact ⟨fun q => by rw [q] at this; exact absurd this (by decide), fun q => by rw [q] at this; exact absurd this (by decide)⟩
    · constructor
      · intro q
        rw [cellV, show (4398046511104 : Int64) = lN 4398046511104 from rfl, pk_lEQ (by omega) (by decide)] at q; omega
      · intro q
        rw [cellV, show (4398046511105 : Int64) = lN 4398046511105 from rfl, pk_lEQ (by omega) (by decide)] at q; omega
  rw [itm, if_neg h1.1, if_neg h1.2]
theorem sxR_snoc {g : Nat → List Nat} : ∀ r k, sxR g k (r + 1) = sxR g k r ++ ((if k + r = 0 then [] else [44]) ++ g (k + r)) := by
  intro r
  induction r with
  | zero => intro k; simp [sxR]
  | succ r ih =>
    intro k
    rw [sxR, ih (k + 1), sxR]
    simp only [List.append_assoc]
    rw [show k + 1 + r = k + (r + 1) by omega]
def okJ (n : Nat) (v : Int64) : Prop := v = 4398046511104 ∨ v = 4398046511105 ∨ okV n v
theorem m_sayC58 {S S0 : Sp} {tb c : Nat} {post : Int32 → MSt → Prop} (hC3 : s0 S0 3 ≤ 20000) (hc : c < s0 S 3) (h1 : ∀ k, k ≠ 22 → s1 S k = s1 S0 k) (hv : sv S = sv S0) (hf : ∀ k, k < s1 S 8 c → okV (s0 S0 3) (sv S 1 (s1 S 9 c + k))) :
    ∀ r n0 σ, RMb σ S tb → n0 + 2 * r ≤ 20000 → r ≤ s1 S 8 c → (∀ j, j < n0 → okJ (s0 S0 3) (ml σ 55 j)) → (∀ σ' n', RMb σ' S tb → mi σ' 0 = mi σ 0 → n' ≤ n0 + 2 * r → (∀ j, j < n' → okJ (s0 S0 3) (ml σ' 55 j)) → ptx S0 (ml σ' 55) n' = sxR (fun k => txt S0 (sv S0 1 (s1 S0 9 c + k))) 0 r ++ ptx S0 (ml σ 55) n0 → post (nI n') σ') → wp_X11_sayCell_58 post (r + 1) σ (nI c) (nI n0) (nI r - 1) := by
  intro r
  induction r with
  | zero =>
    intro n0 σ h hb _ hJ hp
    rw [wp_X11_sayCell_58]
    exact ⟨fun _ => hp σ n0 h rfl (by omega) hJ rfl, fun z => absurd (by decide) z⟩
  | succ r ih =>
    intro n0 σ h hb hr hJ hp
    obtain ⟨g1, g2, g3, g4, g5, g6⟩ := id h
    have hnc : s0 S 3 ≤ 20000 := g3.2.1
    have hnf : s0 S 4 ≤ 20000 := g3.2.2.2.1
    obtain ⟨a1, a2, a3, a4, a5, a6⟩ := g3.2.2.2.2.2.2.1 c hc
    have hfld := g3.2.2.2.2.2.2.2
    have e9 : s1 S0 9 c = s1 S 9 c := congrFun (h1 9 (by decide)).symm c
    rw [wp_X11_sayCell_58, nI_pred]
    refine ⟨fun z => absurd z (nI_pos (by omega)), fun _ => ?_⟩
    rw [nI_clamp (show c < 2 ^ 31 by omega), a5, nI_add, nI_clamp (show s1 S 9 c + r < 2 ^ 31 by omega), nI_clamp (show n0 < 2 ^ 31 by omega), hfld _ (by omega)]
    refine ⟨vp_in_nI (by omega) (by decide), vp_in_nI (by omega) (by decide), vp_in_nI (by omega) (by decide), fun σ8 e8 v9 e9' => ?_⟩
    rw [nI_1] at e9'
    subst e9'
    have q8 : ∀ j, ml σ8 55 j = if j = n0 then sv S 1 (s1 S 9 c + r) else ml σ 55 j := fun j => by
      rw [e8]
      show (if 55 = 55 ∧ j = n0 then sv S 1 (s1 S 9 c + r) else ml σ 55 j) = _
      simp
    have h8 : RMb σ8 S tb := by rw [e8]; exact h
    have t8 : mi σ8 0 = mi σ 0 := by rw [e8]; rfl
    have J8 : ∀ j, j < n0 + 1 → okJ (s0 S0 3) (ml σ8 55 j) := fun j hj => by
      rw [q8 j]
      by_cases e : j = n0
      · rw [if_pos e]; exact Or.inr (Or.inr (hf r (by omega)))
      · rw [if_neg e]; exact hJ j (by omega)
    have p8 : ptx S0 (ml σ8 55) (n0 + 1) = txt S0 (sv S0 1 (s1 S0 9 c + r)) ++ ptx S0 (ml σ 55) n0 := by
      rw [ptx, q8 n0, if_pos rfl, itm_ok hC3 (hf r (by omega)), hv, ← e9, ptx_congr (f := ml σ 55) n0 (fun j hj => by rw [q8 j, if_neg (by omega)])]
    refine ⟨fun hz v10 e10 => ?_, fun hz => ⟨vp_in_nI (by omega) (by decide), fun σ11 e11 v12 e12 v13 e13 => ?_⟩⟩
    · have er : r = 0 := by
        rcases Nat.eq_zero_or_pos r with q | q
        · exact q
        · exact absurd hz (nI_nle q (by omega))
      subst er
      rw [e10, show nI 0 + (-1) = nI 0 - 1 by rw [Int32.sub_eq_add_neg]]
      refine ih (n0 + 1) σ8 h8 (by omega) (by omega) J8 (fun σ' n' h' t' hn' J' hp' => hp σ' n' h' (t'.trans t8) (by omega) J' ?_)
      rw [hp', p8, sxR_snoc]
      simp [sxR]
    · have er : 0 < r := by
        rcases Nat.eq_zero_or_pos r with q | q
        · subst q; exact absurd (by decide) hz
        · exact q
      rw [nI_1] at e12
      rw [nI_clamp (show n0 + 1 < 2 ^ 31 by omega)] at e11
      rw [e12, e13, show nI r + (-1) = nI r - 1 by rw [Int32.sub_eq_add_neg]]
      have q11 : ∀ j, ml σ11 55 j = if j = n0 + 1 then 4398046511104 else ml σ8 55 j := fun j => by
        rw [e11]
        show (if 55 = 55 ∧ j = n0 + 1 then (4398046511104 : Int64) else ml σ8 55 j) = _
        simp
      refine ih (n0 + 1 + 1) σ11 (by rw [e11]; exact h8) (by omega) (by omega) (fun j hj => by
        rw [q11 j]
        by_cases e : j = n0 + 1
        · rw [if_pos e]; exact Or.inl rfl
        · rw [if_neg e]; exact J8 j (by omega)) (fun σ' n' h' t' hn' J' hp' => hp σ' n' h' (t'.trans (by rw [e11]; exact t8)) (by omega) J' ?_)
      rw [hp', sxR_snoc, ptx, q11 (n0 + 1), if_pos rfl, ptx_congr (f := ml σ8 55) (n0 + 1) (fun j hj => by rw [q11 j, if_neg (by omega)]), p8]
      rw [show itm S0 4398046511104 = [44] from if_pos rfl, if_neg (by omega)]
      simp
theorem m_sayCell {σ : MSt} {S S0 : Sp} {tb c n0 : Nat} {post : Int32 → MSt → Prop} (h : RMb σ S tb) (hC3 : s0 S0 3 ≤ 20000) (h0 : ∀ k, k ≠ 16 → s0 S k = s0 S0 k) (h1 : ∀ k, k ≠ 22 → s1 S k = s1 S0 k) (hv : sv S = sv S0) (hC : ∀ c, c < s0 S0 3 → ∀ k, k < s1 S0 8 c → okV c (sv S0 1 (s1 S0 9 c + k))) (hc : c < s0 S0 3) (hn : n0 ≤ 10000) (hJ : ∀ j, j < n0 → okJ (s0 S0 3) (ml σ 55 j))
    (hp : ∀ σ' n' l, RMb σ' (sayL S (99 :: l)) tb → mi σ' 0 = mi σ 0 → n' ≤ n0 + 9 → (∀ j, j < n' → okJ (s0 S0 3) (ml σ' 55 j)) → 99 :: l ++ ptx S0 (ml σ' 55) n' = txt S0 (cellV c) ++ ptx S0 (ml σ 55) n0 → post (nI n') σ') : wp_X11_sayCell σ (nI c) (nI n0) post := by
  refine m_say (c := 99) h (fun σ1 h1' e1 => ?_)
  have sm := fun l => sayL_same (l := l) (S := S)
  have c20 : ma σ1 20 c = nI (s1 S0 7 c) := by
    have h1s : RMb σ1 (sayL S [99]) tb := h1'
    have := (h1s.2.2.1.2.2.2.2.2.2.1 c (by rw [(sm [99]).1 3 (by decide), h0 3 (by decide)]; exact hc)).1
    rw [(sm [99]).2.1 7 (by decide), h1 7 (by decide)] at this
    exact this
  rw [nI_clamp (show c < 2 ^ 31 by omega), c20]
  refine ⟨vp_in_nI (by omega) (by decide), m_sayNumber h1' (fun σ2 h2 e2 => ⟨vp_in_nI (by omega) (by decide), fun v3 e3 => ?_⟩)⟩
  have h2 : RMb σ2 (sayL S (99 :: dec (nI (s1 S0 7 c)))) tb := h2
  have hcc := h2.2.2.1.2.2.2.2.2.2.1 c (by rw [(sm _).1 3 (by decide), h0 3 (by decide)]; exact hc)
  have c21 : ma σ2 21 c = nI (s1 S0 8 c) ∧ s1 S0 8 c ≤ 4 := by
    have a := hcc.2.2.1
    have b := hcc.2.2.2.1
    rw [(sm _).2.1 8 (by decide), h1 8 (by decide)] at a b
    exact ⟨a, b⟩
  rw [c21.1] at e3
  subst e3
  have tc := txt_cell hC (by omega) hc
  have e55 := (e1.trans e2).1
  have t2 := (e1.trans e2).2
  refine ⟨fun hz => ?_, fun hz => ?_⟩
  · have z : s1 S0 8 c = 0 := (nI_eq (by omega) (by decide)).mp hz
    rw [if_pos z] at tc
    refine hp σ2 n0 _ h2 t2 (by omega) (by rw [e55]; exact hJ) ?_
    rw [tc, e55]
    simp
  · have z : ¬ s1 S0 8 c = 0 := fun q => hz (by rw [q]; rfl)
    rw [if_neg z] at tc
    refine m_say (c := 40) h2 (fun σ4 h4 e4 => ⟨vp_in_nI (by omega) (by decide), fun σ5 e5 v6 e6 v7 e7 => ?_⟩)
    have h4 : RMb σ4 (sayL S (99 :: (dec (nI (s1 S0 7 c)) ++ [40]))) tb := by
      have : sayL S (99 :: (dec (nI (s1 S0 7 c)) ++ [40])) = sp_say (sayL S (99 :: dec (nI (s1 S0 7 c)))) 40 := by
        rw [show 99 :: (dec (nI (s1 S0 7 c)) ++ [40]) = (99 :: dec (nI (s1 S0 7 c))) ++ [40] from rfl, sayL_app]; rfl
      rw [this]; exact h4
    rw [nI_clamp (show n0 < 2 ^ 31 by omega)] at e5
    rw [nI_1] at e6
    subst e6; subst e7
    have q5 : ∀ j, ml σ5 55 j = if j = n0 then 4398046511105 else ml σ4 55 j := fun j => by
      rw [e5]
      show (if 55 = 55 ∧ j = n0 then (4398046511105 : Int64) else ml σ4 55 j) = _
      simp
    have hst := sm (99 :: (dec (nI (s1 S0 7 c)) ++ [40]))
    refine ⟨_, m_sayC58 (S := sayL S (99 :: (dec (nI (s1 S0 7 c)) ++ [40]))) (S0 := S0) (tb := tb) hC3 (by rw [hst.1 3 (by decide), h0 3 (by decide)]; exact hc) (fun k hk => (hst.2.1 k hk).trans (h1 k hk)) (hst.2.2.2.2.1.trans hv) (fun k hk => ?_) (s1 S0 8 c) (n0 + 1) σ5 (by rw [e5]; exact h4) (by omega) (by rw [hst.2.1 8 (by decide), h1 8 (by decide)]; exact Nat.le_refl _) (fun j hj => by
        rw [q5 j]
        by_cases e : j = n0
        · rw [if_pos e]; exact Or.inr (Or.inl rfl)
        · rw [if_neg e, e4.1, e55]; exact hJ j (by omega)) (fun σ' n' h' t' hn' J' hp' => ?_)⟩
    · rw [hst.2.1 8 (by decide), h1 8 (by decide)] at hk
      rw [hst.2.2.2.2.1, hv, hst.2.1 9 (by decide), h1 9 (by decide)]
      exact okV_le (by omega) (hC c hc k hk)
    · refine hp σ' n' _ h' (t'.trans (by rw [e5]; exact e4.2.trans t2)) (by omega) J' ?_
      rw [hp', tc, ptx, q5 n0, if_pos rfl, show itm S0 4398046511105 = [41] from by rw [itm, if_neg (by decide), if_pos rfl], ptx_congr (f := ml σ 55) n0 (fun j hj => by rw [q5 j, if_neg (by omega), e4.1, e55])]
      simp
def okTel (S : Sp) (k : Int32) : Prop := s0 S 17 = 2 ∧ 0 ≤ k ∧ k < nI (s1 S 3 (s1 S 10 0))
def sp_telS (S : Sp) (k : Nat) : Sp := sayL (u0 S 16 0) (txt S (sv S 0 (s2 S 0 (s1 S 10 0) k)))
theorem m_tell82 {S0 T : Sp} {tb : Nat} {post : Int32 → MSt → Prop} (hC3 : s0 S0 3 ≤ 20000) (hC : ∀ c, c < s0 S0 3 → ∀ k, k < s1 S0 8 c → okV c (sv S0 1 (s1 S0 9 c + k))) (hp : ∀ σ', RMb σ' T tb → mi σ' 0 = 0 → post (nI (s0 T 16)) σ') :
    ∀ m n σ S, 1000 ≤ s0 S 16 + m → s0 S 16 ≤ 1000 → RMb σ S tb → mi σ 0 = 0 → (∀ k, k ≠ 16 → s0 S k = s0 S0 k) → (∀ k, k ≠ 22 → s1 S k = s1 S0 k) → sv S = sv S0 → n ≤ 1 + 9 * s0 S 16 → (∀ j, j < n → okJ (s0 S0 3) (ml σ 55 j)) → sayL S (ptx S0 (ml σ 55) n) = T → wp_X11_tell_82 post (m + 1) σ (nI n) := by
  intro m
  induction m with
  | zero =>
    intro n σ S hm hm2 h h0 e0 e1 ev hn hj hT
    have e : s0 S 16 = 1000 := by omega
    have g15 : mi σ 54 = nI (s0 S 16) := h.2.2.2.2.2.2.2.2.2.2.2.2.2.2.2.2.2.2.2.1
    rw [sayL_full e] at hT
    subst hT
    rw [wp_X11_tell_82, g15]
    exact ⟨fun _ => hp σ h h0, fun _ => ⟨fun _ => hp σ h h0, fun z => absurd (by rw [e]; decide) z⟩⟩
  | succ m ih =>
    intro n σ S hm hm2 h h0 e0 e1 ev hn hj hT
    have g15 : mi σ 54 = nI (s0 S 16) := h.2.2.2.2.2.2.2.2.2.2.2.2.2.2.2.2.2.2.2.1
    rw [wp_X11_tell_82, g15]
    refine ⟨fun hz => ?_, fun hz => ⟨fun hq => ?_, fun hq v6 e6 => ?_⟩⟩
    · have en : n = 0 := by
        rcases Nat.eq_zero_or_pos n with q | q
        · exact q
        · exact absurd hz (nI_nle q (by omega))
      subst en
      have hT : S = T := hT
      subst hT
      exact hp σ h h0
    · have e : s0 S 16 = 1000 := by
        rcases Nat.lt_or_ge (s0 S 16) 1000 with q | q
        · exact absurd hq (nI_ge (b := 1000) q (by decide))
        · omega
      rw [sayL_full e] at hT
      subst hT
      exact hp σ h h0
    · have e : s0 S 16 < 1000 := by
        rcases Nat.lt_or_ge (s0 S 16) 1000 with q | q
        · exact q
        · exact absurd (nI_le (a := 1000) q (by omega)) hq
      obtain ⟨k, rfl⟩ : ∃ k, n = k + 1 := ⟨n - 1, by
        rcases Nat.eq_zero_or_pos n with q | q
        · subst q; exact absurd (by decide) hz
        · omega⟩
      rw [pk_m1] at e6
      subst e6
      rw [nI_clamp (show k < 2 ^ 31 by omega)]
      refine ⟨vp_in_nI (by omega) (by decide), fun v7 e7 => ?_⟩
      have go : ∀ σ' l, l ≠ [] → RMb σ' (sayL S l) tb → K55 σ σ' → sayL S (l ++ ptx S0 (ml σ 55) k) = T → wp_X11_tell_82 post (m + 1) σ' (nI k) := by
        intro σ' l hl h' k' hT'
        have sm := sayL_same (l := l) (S := S)
        obtain ⟨x1, x2⟩ := sayL_cnt (l := l) (S := S) hm2
        have hll : 0 < l.length := by
          cases l with
          | nil => exact absurd rfl hl
          | cons a b => show 0 < b.length + 1; omega
        refine ih k σ' (sayL S l) (by omega) x1 h' (k'.2.trans h0) (fun q hq => (sm.1 q hq).trans (e0 q hq)) (fun q hq => (sm.2.1 q hq).trans (e1 q hq)) (sm.2.2.2.2.1.trans ev) (by omega) (fun j hj' => by rw [k'.1]; exact hj j (by omega)) ?_
        rw [k'.1, ← sayL_app]; exact hT'
      have hpt : ptx S0 (ml σ 55) (k + 1) = itm S0 v7 ++ ptx S0 (ml σ 55) k := by rw [ptx, e7]
      rw [hpt] at hT
      rw [lg_cmp_eq, lg_cmp_eq]
      refine ⟨fun hz1 => ?_, fun hz1 => ⟨fun hz2 => ?_, fun hz2 => ?_⟩⟩
      · rw [itm, if_pos hz1] at hT
        exact m_say (c := 44) h (fun σ14 h14 k14 => go σ14 [44] (by simp) h14 k14 hT)
      · rw [itm, if_neg hz1, if_pos hz2] at hT
        exact m_say (c := 41) h (fun σ13 h13 k13 => go σ13 [41] (by simp) h13 k13 hT)
      · rw [itm, if_neg hz1, if_neg hz2] at hT
        have hv : okV (s0 S0 3) v7 := by
          rcases hj k (by omega) with q | q | q
          · exact absurd (e7.trans q) hz1
          · exact absurd (e7.trans q) hz2
          · rw [e7]; exact q
        rcases hv with ⟨x, hx⟩ | ⟨c, hc, hx⟩
        · rw [hx] at hT ⊢
          rw [txt_num] at hT
          refine m_isCell (fun hcc => absurd (num_lt x) hcc) (fun _ => nz0 (m_sayNumber h (fun σ12 h12 k12 => go σ12 (dec x) ?_ h12 k12 hT)))
          obtain ⟨a, b, hd⟩ := dec_ne (x := x)
          rw [hd]; simp
        · rw [hx] at hT ⊢
          rw [cell_ix]
          refine m_isCell (fun _ => nz1 (m_sayCell h hC3 e0 e1 ev hC hc (by omega) (fun j hj' => hj j (by omega)) (fun σ' n' l h' t' hn' J' hp' => ?_))) (fun hcc => absurd hcc (cell_ge (by omega)))
          have sm := sayL_same (l := 99 :: l) (S := S)
          obtain ⟨x1, x2⟩ := sayL_cnt (l := 99 :: l) (S := S) hm2
          have hll : (99 :: l).length = l.length + 1 := rfl
          refine ih n' σ' _ (by omega) x1 h' (t'.trans h0) (fun q hq => (sm.1 q hq).trans (e0 q hq)) (fun q hq => (sm.2.1 q hq).trans (e1 q hq)) (sm.2.2.2.2.1.trans ev) (by omega) J' ?_
          rw [← sayL_app, hp']; exact hT
theorem RMb.thr {σ : MSt} {S : Sp} {tb : Nat} {v : Int32} (h : RMb σ S tb) : RMb (smi σ 0 v) S tb := h
theorem m_tell {σ : MSt} {S : Sp} {k : Int32} {post : Int32 → MSt → Prop} (h : RM σ S) (hW : WF S) (hy : okTel S k → ∀ σ', RM σ' (sp_telS S k.toNatClampNeg) → mi σ' 0 = 0 → post (nI (s0 (sp_telS S k.toNatClampNeg) 16)) σ') (hn : ¬ okTel S k → ∀ σ', RM σ' S → mi σ' 0 = 1 → post 0 σ') : wp_X11_tell σ k post := by
  have h0 := h.thr (v := 0)
  intro σ1 e1
  rw [← e1] at h0
  have z1 : mi σ1 0 = 0 := by rw [e1]; rfl
  have q2 := st_eq h0.2.2.2.2.2 (m := 1) (by omega)
  have z0 : Int32.toNatClampNeg 0 = 0 := by decide
  refine ⟨fun hz => ?_, fun hz => ⟨fun z => absurd z hz, fun _ σ2 e2 => ?_⟩⟩
  rotate_left
  · exact hn (fun q => hz (q2.mpr q.1)) σ2 (by rw [e2]; exact h0) (by rw [e2]; rfl)
  have hst := q2.mp hz
  have hl : live S := Or.inr hst
  have hnf : 0 < s0 S 6 := by have := hW.2.2.1.2.2.1 hl; omega
  have h4 := h0.2.2.2.1
  have hb0 := hW.2.2.1.1
  obtain ⟨b1, b2, -⟩ := hW.2.2.1.2.2.2 0 hnf
  have hnp := hW.1.1
  obtain ⟨-, sl1, sl2, -, p5, -, -, p8, -⟩ := hW.1.2.2.1 _ b1
  obtain ⟨-, -, -, -, -, -, -, f8, -, -, -, -, f13, -⟩ := h0.2.1.2.2.2.2.1 _ b1
  have hfk : FK (s0 S 7) (s1 S 15) 0 0 := ⟨Nat.zero_le _, fun i hi => absurd hi (Nat.not_lt_zero i), fun i _ hi => by have := (hW.2.2.2.1.2.2 i hi).1; omega⟩
  have e28 : ma σ1 28 0 = nI (s1 S 10 0) := (h4.2.1.1 0 0 hnf hfk).1
  rw [z0, e28]
  refine ⟨vp_in_nI (n := 0) (by decide) (by decide), fun _ => ⟨fun hk => ?_, fun hk => ⟨vp_in_nI (by omega) (by decide), ?_⟩⟩, fun z => absurd hz z⟩
  · intro σ3 e3
    exact hn (fun q => absurd hk (Int32.not_lt.mpr q.2.1)) σ3 (by rw [e3]; exact h0) (by rw [e3]; rfl)
  rw [nI_clamp (show s1 S 10 0 < 2 ^ 31 by omega), f8]
  refine ⟨fun hlt => ?_, fun hlt σ16 e16 => hn (fun q => hlt q.2.2) σ16 (by rw [e16]; exact h0) (by rw [e16]; rfl)⟩
  obtain ⟨j, hj, ej⟩ := nI_of hk
  subst ej
  have hjl : j < s1 S 3 (s1 S 10 0) := by
    rcases Nat.lt_or_ge j (s1 S 3 (s1 S 10 0)) with q | q
    · exact q
    · exact absurd hlt (nI_nlt q hj)
  have hy := hy ⟨hst, Int32.not_lt.mp hk, hlt⟩
  rw [nI_clamp hj] at hy
  intro σ4 e4
  have i8 : ((8 : Int32) * nI (s1 S 10 0)) + nI j = nI (8 * s1 S 10 0 + j) := by rw [show (8 : Int32) = nI 8 from rfl, pk_mul, nI_add]
  have o8 : ma σ4 8 (8 * s1 S 10 0 + j) = nI (s2 S 0 (s1 S 10 0) j) := by rw [e4]; exact (f13 j hjl).1
  have hsl := p8 j hjl
  rw [i8, nI_clamp (show 8 * s1 S 10 0 + j < 2 ^ 31 by omega), o8, nI_clamp (show s2 S 0 (s1 S 10 0) j < 2 ^ 31 by omega), z0]
  have hbl := WF.bl hW.2.2.1 (i := 1) (j := s0 S 6) hnf (Nat.le_refl _)
  have hplace : s2 S 0 (s1 S 10 0) j < s1 S 11 (s0 S 6) := by
    have : s1 S 11 1 = s1 S 11 0 + s1 S 1 (s1 S 10 0) := b2
    omega
  have v39 : ml σ4 39 (s2 S 0 (s1 S 10 0) j) = sv S 0 (s2 S 0 (s1 S 10 0) j) := by rw [e4]; exact h0.2.2.2.2.1.1 _ hplace
  rw [v39]
  refine ⟨vp_in_nI (by omega) (by decide), vp_in_nI (by omega) (by decide), vp_in_nI (n := 0) (by decide) (by decide), fun σ5 e5 => ?_⟩
  have hnc : s0 S 3 ≤ 20000 := h0.2.2.1.2.1
  have hS4 : RMb σ4 (u0 S 16 0) (8 * s0 S 10) := by
    obtain ⟨g1, g2, g3, g4, g5, x1, x2, x3, x4, x5, x6, x7, x8, x9, x10, x11, x12, x13, x14, x15, x16, x17⟩ := h0
    rw [e4]
    exact ⟨g1, g2, g3, g4, g5, x1, x2, x3, x4, x5, x6, x7, x8, x9, x10, x11, x12, x13, x14, rfl, Nat.zero_le _, fun i hi => absurd hi (Nat.not_lt_zero i)⟩
  have q5 : ml σ5 55 0 = sv S 0 (s2 S 0 (s1 S 10 0) j) := by rw [e5]; rfl
  have hv := hW.2.2.2.2.1 _ hplace
  refine ⟨_, m_tell82 (S0 := S) (T := sp_telS S j) (tb := 8 * s0 S 10) hnc (fun c hc k hk => (hW.2.1.2.2.2.2 c hc).2.2.2 k hk) (fun σ' h' t' => hy σ' ?_ t') 1000 1 σ5 (u0 S 16 0) (by show 1000 ≤ 0 + 1000; omega) (Nat.zero_le _) (by rw [e5]; exact hS4) (by rw [e5, e4]; exact z1) (fun q hq => if_neg hq) (fun _ _ => rfl) rfl (by show 1 ≤ 1 + 9 * 0; omega) (fun i hi => ?_) ?_⟩
  · show RMb σ' (sp_telS S j) (8 * s0 (sp_telS S j) 10)
    rw [show s0 (sp_telS S j) 10 = s0 S 10 from (sayL_same.1 10 (by decide)).trans rfl]
    exact h'
  · rw [show i = 0 by omega, q5]; exact Or.inr (Or.inr hv)
  · rw [ptx, q5, itm_ok hnc hv, ptx, List.append_nil]; rfl
theorem WF.tell {S : Sp} {k : Nat} (h : WF S) : WF (sp_telS S k) := by
  unfold sp_telS
  generalize txt S (sv S 0 (s2 S 0 (s1 S 10 0) k)) = l
  have h1 : WF (u0 S 16 0) := h
  generalize u0 S 16 0 = T at h1
  have key : ∀ (l : List Nat) (T : Sp), WF T → WF (sayL T l) := by
    intro l
    induction l with
    | nil => intro T hT; exact hT
    | cons c l ih =>
      intro T hT
      refine ih _ ?_
      unfold sp_say
      split
      · exact hT
      · exact hT
  exact key l T h1
