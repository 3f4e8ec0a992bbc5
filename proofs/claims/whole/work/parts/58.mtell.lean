/-! the reference tells: texts -/
def sp_say (S : Sp) (c : Nat) : Sp := if s0 S 16 = 1000 then S else u0 (u1 S 22 (s0 S 16) c) 16 (s0 S 16 + 1)
def sayL (S : Sp) : List Nat → Sp
  | [] => S
  | c :: l => sayL (sp_say S c) l
theorem sayL_app {l l' : List Nat} : ∀ {S : Sp}, sayL S (l ++ l') = sayL (sayL S l) l' := by
  induction l with
  | nil => intro S; rfl
  | cons c l ih => intro S; exact ih
theorem sayL_full {l : List Nat} : ∀ {S : Sp}, s0 S 16 = 1000 → sayL S l = S := by
  induction l with
  | nil => intro S _; rfl
  | cons c l ih =>
    intro S h
    show sayL (sp_say S c) l = S
    rw [sp_say, if_pos h]
    exact ih h
/-- how many digits -/
def ndA (w : Nat) : Nat → Nat → Nat
  | 0, s => s
  | f + 1, s => if w < 10 ^ s then s else ndA w f (s + 1)
def nd (w : Nat) : Nat := ndA w 9 1
theorem ndA_sp {w : Nat} : ∀ f s, w < 10 ^ (s + f) → (1 < s → 10 ^ (s - 1) ≤ w) → s ≤ ndA w f s ∧ w < 10 ^ ndA w f s ∧ (1 < ndA w f s → 10 ^ (ndA w f s - 1) ≤ w) := by
  intro f
  induction f with
  | zero => intro s h h1; exact ⟨Nat.le_refl _, h, h1⟩
  | succ f ih =>
    intro s h h1
    rw [ndA]
    split
    · rename_i q
      exact ⟨Nat.le_refl _, q, h1⟩
    · rename_i q
      have := ih (s + 1) (by rw [show s + 1 + f = s + (f + 1) by omega]; exact h) (fun _ => by rw [show s + 1 - 1 = s by omega]; omega)
      exact ⟨by omega, this.2⟩
theorem nd_sp {w : Nat} (h : w < 10 ^ 10) : 1 ≤ nd w ∧ w < 10 ^ nd w ∧ (1 < nd w → 10 ^ (nd w - 1) ≤ w) := ndA_sp 9 1 h (fun z => absurd z (by omega))
theorem nd_le {w : Nat} : ∀ f s, ndA w f s ≤ s + f := by
  intro f
  induction f with
  | zero => intro s; exact Nat.le_refl _
  | succ f ih =>
    intro s
    rw [ndA]
    split
    · omega
    · have := ih (s + 1); omega
/-- the digits from the one of 10^(k-1) down -/
def dgs (w : Nat) : Nat → List Nat
  | 0 => []
  | k + 1 => (48 + w / 10 ^ k % 10) :: dgs w k
def dec (x : Int32) : List Nat := if 0 ≤ x then dgs x.toInt.natAbs (nd x.toInt.natAbs) else 45 :: dgs x.toInt.natAbs (nd x.toInt.natAbs)
def sxR (g : Nat → List Nat) : Nat → Nat → List Nat
  | _, 0 => []
  | k, r + 1 => (if k = 0 then [] else [44]) ++ (g k ++ sxR g (k + 1) r)
/-- the text of a value -/
def txtF (S : Sp) : Nat → Int64 → List Nat
  | 0, _ => []
  | f + 1, v => if v < 1099511627776 then dec v.toInt32 else 99 :: (dec (nI (s1 S 7 (cix v))) ++ (if s1 S 8 (cix v) = 0 then [] else 40 :: (sxR (fun k => txtF S f (sv S 1 (s1 S 9 (cix v) + k))) 0 (s1 S 8 (cix v)) ++ [41])))
theorem sxR_congr {g g' : Nat → List Nat} {n : Nat} : ∀ r k, k + r = n → (∀ j, j < n → g' j = g j) → sxR g' k r = sxR g k r := by
  intro r
  induction r with
  | zero => intro k _ _; rfl
  | succ r ih =>
    intro k hk h
    rw [sxR, sxR, h k (by omega), ih (k + 1) (by omega) h]
theorem txtF_irr {S : Sp} (hC : ∀ c, c < s0 S 3 → ∀ k, k < s1 S 8 c → okV c (sv S 1 (s1 S 9 c + k))) (hb : s0 S 3 < 2 ^ 31) : ∀ f f' v n, n ≤ s0 S 3 → okV n v → n < f → n < f' → txtF S f v = txtF S f' v := by
  intro f
  induction f with
  | zero => intro f' v n _ _ h; omega
  | succ f ih =>
    intro f' v n hn hv h1 h2
    obtain ⟨f', rfl⟩ : ∃ m, f' = m + 1 := ⟨f' - 1, by omega⟩
    rw [txtF, txtF]
    rcases hv with ⟨x, rfl⟩ | ⟨c, hc, rfl⟩
    · rw [if_pos (num_lt x), if_pos (num_lt x)]
    · rw [if_neg (cell_ge (by omega)), if_neg (cell_ge (by omega)), cix_cell (by omega)]
      rw [sxR_congr (g := fun k => txtF S f' (sv S 1 (s1 S 9 c + k))) (n := s1 S 8 c) (s1 S 8 c) 0 (by omega) (fun j hj => ih f' _ c (by omega) (hC c (by omega) j hj) (by omega) (by omega))]
def txt (S : Sp) (v : Int64) : List Nat := txtF S (s0 S 3 + 1) v
theorem txt_num {S : Sp} (x : Int32) : txt S x.toInt64 = dec x := by
  rw [txt, txtF, if_pos (num_lt x), num_i]
theorem txt_cell {S : Sp} (hC : ∀ c, c < s0 S 3 → ∀ k, k < s1 S 8 c → okV c (sv S 1 (s1 S 9 c + k))) (hb : s0 S 3 < 2 ^ 31) {c : Nat} (hc : c < s0 S 3) : txt S (cellV c) = 99 :: (dec (nI (s1 S 7 c)) ++ (if s1 S 8 c = 0 then [] else 40 :: (sxR (fun k => txt S (sv S 1 (s1 S 9 c + k))) 0 (s1 S 8 c) ++ [41]))) := by
  rw [txt, txtF, if_neg (cell_ge (by omega)), cix_cell (by omega)]
  rw [sxR_congr (g' := fun k => txtF S (s0 S 3) (sv S 1 (s1 S 9 c + k))) (g := fun k => txt S (sv S 1 (s1 S 9 c + k))) (n := s1 S 8 c) (s1 S 8 c) 0 (by omega) (fun j hj => txtF_irr hC hb _ _ _ c (by omega) (hC c hc j hj) (by omega) (by omega))]
theorem dec_ne {x : Int32} : ∃ c l, dec x = c :: l := by
  have h : ∃ c l, dgs x.toInt.natAbs (nd x.toInt.natAbs) = c :: l := by
    have hb : x.toInt.natAbs < 10 ^ 10 := by
      have a := Int32.toInt_lt x
      have b := Int32.le_toInt x
      omega
    obtain ⟨k, hk⟩ : ∃ k, nd x.toInt.natAbs = k + 1 := ⟨nd x.toInt.natAbs - 1, by have := (nd_sp hb).1; omega⟩
    rw [hk]
    exact ⟨_, _, rfl⟩
  unfold dec
  split
  · exact h
  · exact ⟨_, _, rfl⟩
/-- what saying leaves -/
def K55 (σ σ' : MSt) : Prop := ml σ' 55 = ml σ 55 ∧ mi σ' 0 = mi σ 0
theorem K55.trans {a b c : MSt} (h : K55 a b) (h' : K55 b c) : K55 a c := ⟨h'.1.trans h.1, h'.2.trans h.2⟩
theorem m_say {σ : MSt} {S : Sp} {tb c : Nat} {post : MSt → Prop} (h : RMb σ S tb) (hp : ∀ σ', RMb σ' (sp_say S c) tb → K55 σ σ' → post σ') : wp_X11_say σ (nI c) post := by
  obtain ⟨h1, h2, h3, h4, h5, g1, g2, g3, g4, g5, g6, g7, g8, g9, g10, g11, g12, g13, g14, g15, g16, g17⟩ := id h
  unfold wp_X11_say
  rw [g15]
  refine ⟨fun hq => ?_, fun hq => ?_⟩
  · have e : s0 S 16 = 1000 := (nI_eq (by omega) (by decide)).mp hq
    have := hp σ
    rw [sp_say, if_pos e] at this
    exact this h ⟨rfl, rfl⟩
  · have e : ¬ s0 S 16 = 1000 := fun q => hq (by rw [q]; rfl)
    refine ⟨vp_in_nI (by omega) (by decide), fun σ1 e1 σ2 e2 => ?_⟩
    rw [nI_clamp (by omega)] at e1
    have b : mi σ1 54 = nI (s0 S 16) := by rw [e1]; exact g15
    rw [b, nI_1] at e2
    have := hp σ2
    rw [sp_say, if_neg e] at this
    refine this ?_ (by rw [e2, e1]; exact ⟨rfl, rfl⟩)
    rw [e2, e1]
    refine ⟨h1, h2, h3, h4, h5, g1, g2, g3, g4, g5, g6, g7, g8, g9, g10, g11, g12, g13, g14, rfl, by show s0 S 16 + 1 ≤ 1000; omega, fun i hi => ?_⟩
    have hi : i < s0 S 16 + 1 := hi
    show (if 53 = 53 ∧ i = s0 S 16 then nI c else ma σ 53 i) = nI (if 22 = 22 ∧ i = s0 S 16 then c else s1 S 22 i)
    by_cases q : i = s0 S 16
    · simp [q]
    · simp [q]; exact g17 i (by omega)
theorem p10 {k : Nat} (h : k ≤ 9) : 10 ^ k < 2 ^ 31 := by
  have : 10 ^ k ≤ 10 ^ 9 := Nat.pow_le_pow_right (by decide) h
  omega
theorem m_digits {tb w : Nat} {post : MSt → Prop} (hw : w < 2 ^ 32) : ∀ k σ S, k ≤ 9 → RMb σ S tb → (∀ σ', RMb σ' (sayL S (dgs w (k + 1))) tb → K55 σ σ' → post σ') → wp_X11_sayNumber_50 post (k + 2) σ (lN w) (lN (10 ^ k)) := by
  intro k
  induction k with
  | zero =>
    intro σ S hk h hp
    rw [wp_X11_sayNumber_50, lg_cmp_le]
    refine ⟨fun z => absurd z (by decide), fun _ => ⟨by decide, by decide, ?_⟩⟩
    rw [pk_lDiv (by omega) (by decide) (by decide), show (10 : Int64) = lN 10 from rfl, pk_lRem (Nat.lt_of_le_of_lt (Nat.div_le_self _ _) (by omega)) (by decide) (by decide), lN_i, show (48 : Int32) = nI 48 from rfl, nI_add]
    refine m_say h (fun σ1 h1 e1 => ⟨by decide, fun v2 e2 => ?_⟩)
    rw [e2, wp_X11_sayNumber_50, lg_cmp_le]
    exact ⟨fun _ => hp σ1 h1 e1, fun z => absurd (by decide) z⟩
  | succ k ih =>
    intro σ S hk h hp
    have hp0 : 0 < 10 ^ (k + 1) := Nat.pow_pos (by decide)
    have hp1 := p10 (k := k + 1) hk
    rw [wp_X11_sayNumber_50, lg_cmp_le]
    refine ⟨fun z => absurd z ?_, fun _ => ⟨?_, by decide, ?_⟩⟩
    · rw [show (0 : Int64) = lN 0 from rfl, pk_lLE (by omega) (by decide)]; omega
    · intro q
      rw [show (0 : Int64) = lN 0 from rfl, pk_lEQ (by omega) (by decide)] at q; omega
    · rw [pk_lDiv (by omega) hp0 (by omega), show (10 : Int64) = lN 10 from rfl, pk_lRem (Nat.lt_of_le_of_lt (Nat.div_le_self _ _) (by omega)) (by decide) (by decide), lN_i, show (48 : Int32) = nI 48 from rfl, nI_add]
      refine m_say h (fun σ1 h1 e1 => ⟨by decide, fun v2 e2 => ?_⟩)
      rw [pk_lDiv (by omega) (by decide) (by decide), show 10 ^ (k + 1) / 10 = 10 ^ k by rw [Nat.pow_succ, Nat.mul_div_cancel _ (by decide)]] at e2
      rw [e2]
      exact ih σ1 _ (by omega) h1 (fun σ' h' e' => hp σ' h' (e1.trans e'))
theorem m_sayN28 {σ : MSt} {S : Sp} {tb w : Nat} {post : MSt → Prop} (hw : w < 2 ^ 32) (h : RMb σ S tb) (hp : ∀ σ', RMb σ' (sayL S (dgs w (nd w))) tb → K55 σ σ' → post σ') : ∃ n, wp_X11_sayNumber_28 post n σ (lN w) 1 := by
  obtain ⟨n1, n2, n3⟩ := nd_sp (w := w) (by omega)
  have n4 : nd w ≤ 10 := nd_le 9 1
  have key : ∀ d k, k + d + 1 = nd w → wp_X11_sayNumber_28 post (d + 1) σ (lN w) (lN (10 ^ k)) := by
    intro d
    induction d with
    | zero =>
      intro k hk
      have hp0 : 0 < 10 ^ k := Nat.pow_pos (by decide)
      have hp1 := p10 (k := k) (by omega)
      rw [wp_X11_sayNumber_28, lg_cmp_le, pk_lDiv (by omega) hp0 (by omega)]
      refine ⟨?_, fun _ => ?_, fun z => absurd ?_ z⟩
      · intro q
        rw [show (0 : Int64) = lN 0 from rfl, pk_lEQ (by omega) (by decide)] at q; omega
      · rw [show nd w = k + 1 by omega] at hp
        exact ⟨_, m_digits hw k σ S (by omega) h hp⟩
      · rw [show (9 : Int64) = lN 9 from rfl, pk_lLE (Nat.lt_of_le_of_lt (Nat.div_le_self _ _) (by omega)) (by decide)]
        rw [show nd w = k + 1 by omega, Nat.pow_succ] at n2
        have := (Nat.div_lt_iff_lt_mul hp0).mpr (show w < 10 * 10 ^ k by omega)
        omega
    | succ d ih =>
      intro k hk
      have hp0 : 0 < 10 ^ k := Nat.pow_pos (by decide)
      have hp1 := p10 (k := k) (by omega)
      have hge : 10 ^ (k + 1) ≤ w := Nat.le_trans (Nat.pow_le_pow_right (by decide) (by omega)) (n3 (by omega))
      rw [wp_X11_sayNumber_28, lg_cmp_le, pk_lDiv (by omega) hp0 (by omega)]
      refine ⟨?_, fun z => absurd z ?_, fun _ v4 e4 => ?_⟩
      · intro q
        rw [show (0 : Int64) = lN 0 from rfl, pk_lEQ (by omega) (by decide)] at q; omega
      · rw [show (9 : Int64) = lN 9 from rfl, pk_lLE (Nat.lt_of_le_of_lt (Nat.div_le_self _ _) (by omega)) (by decide)]
        have := (Nat.le_div_iff_mul_le hp0).mpr (show 10 * 10 ^ k ≤ w by rw [Nat.pow_succ] at hge; omega)
        omega
      · rw [e4, show (10 : Int64) = lN 10 from rfl, lN_mul, show 10 * 10 ^ k = 10 ^ (k + 1) by rw [Nat.pow_succ, Nat.mul_comm]]
        exact ih (k + 1) (by omega)
  have := key (nd w - 1) 0 (by omega)
  exact ⟨_, this⟩
theorem num_abs {x : Int32} (h : ¬ 0 ≤ x) : -x.toInt64 = lN x.toInt.natAbs := by
  have a := Int32.le_toInt x
  have hx := Int32.lt_iff_toInt_lt.mp (Int32.not_le.mp h)
  have z : (0 : Int32).toInt = 0 := by decide
  rw [z] at hx
  apply Int64.toInt_inj.mp
  rw [pk_lT (by omega), Int64.toInt_neg, Int32.toInt_toInt64, Int.bmod_eq_of_le (by omega) (by omega)]
  omega
theorem num_abs' {x : Int32} (h : 0 ≤ x) : x.toInt64 = lN x.toInt.natAbs := by
  have a := Int32.toInt_lt x
  have hx := Int32.le_iff_toInt_le.mp h
  have z : (0 : Int32).toInt = 0 := by decide
  rw [z] at hx
  apply Int64.toInt_inj.mp
  rw [pk_lT (by omega), Int32.toInt_toInt64]
  omega
theorem m_sayNumber {σ : MSt} {S : Sp} {tb : Nat} {x : Int32} {post : MSt → Prop} (h : RMb σ S tb) (hp : ∀ σ', RMb σ' (sayL S (dec x)) tb → K55 σ σ' → post σ') : wp_X11_sayNumber σ x.toInt64 post := by
  have hw : x.toInt.natAbs < 2 ^ 32 := by
    have a := Int32.toInt_lt x
    have b := Int32.le_toInt x
    omega
  unfold wp_X11_sayNumber
  rw [lg_cmp_ge, num_neg]
  by_cases hx : 0 ≤ x
  · rw [dec, if_pos hx] at hp
    refine ⟨fun _ => ⟨fun _ => ?_, fun z => absurd hx z⟩, fun z => absurd hx z⟩
    rw [num_abs' hx]
    exact m_sayN28 hw h hp
  · rw [dec, if_neg hx] at hp
    refine ⟨fun z => absurd z hx, fun _ => m_say (c := 45) h (fun σ8 h8 e8 => ⟨fun z => absurd z hx, fun _ v10 e10 => ?_⟩)⟩
    rw [e10, num_abs hx]
    exact m_sayN28 hw h8 (fun σ' h' e' => hp σ' h' (e8.trans e'))
