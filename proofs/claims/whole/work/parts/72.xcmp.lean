/-! the class compares values -/
def ePr (E : Nat → Nat) (n : Nat) : Nat → (Nat → Nat)
  | 0 => E
  | k + 1 => ePr (eRow (eRow E 3 (2 * n)) 3 (2 * n + 1)) (n + 1) k
theorem ePr_U : ∀ k n (E : Nat → Nat), UC E ≤ UC (ePr E n k) ∧ UZ E ≤ UZ (ePr E n k) ∧ ePr E n k 5 = E 5 ∧ ePr E n k 7 = E 7 := by
  intro k
  induction k with
  | zero => intro n E; exact ⟨Nat.le_refl _, Nat.le_refl _, rfl, rfl⟩
  | succ k ih =>
    intro n E
    obtain ⟨a, b, c, d⟩ := ih (n + 1) (eRow (eRow E 3 (2 * n)) 3 (2 * n + 1))
    obtain ⟨x1, x2, -⟩ := eRow_U (E := E) (r := 3) (n := 2 * n) (by decide)
    obtain ⟨y1, y2, -⟩ := eRow_U (E := eRow E 3 (2 * n)) (r := 3) (n := 2 * n + 1) (by decide)
    exact ⟨Nat.le_trans x1 (Nat.le_trans y1 a), Nat.le_trans x2 (Nat.le_trans y2 b), c, d⟩
def eCmp (S : Sp) : Nat → Nat → (Nat → Int64) → (Nat → Int64) → (Nat → Nat) → (Nat → Nat)
  | 0, _, _, _, E => E
  | m + 1, n, f, g, E => if n = 0 then E else
    if f (n - 1) < 1099511627776 ∨ g (n - 1) < 1099511627776 then (if f (n - 1) = g (n - 1) then eCmp S m (n - 1) f g E else E) else
    if s1 S 7 (cix (f (n - 1))) = s1 S 7 (cix (g (n - 1))) ∧ s1 S 8 (cix (f (n - 1))) = s1 S 8 (cix (g (n - 1))) then
      eCmp S m (n - 1 + s1 S 8 (cix (f (n - 1))))
        (fun j => if n - 1 ≤ j then sv S 1 (s1 S 9 (cix (f (n - 1))) + (s1 S 8 (cix (f (n - 1))) - 1 - (j - (n - 1)))) else f j)
        (fun j => if n - 1 ≤ j then sv S 1 (s1 S 9 (cix (g (n - 1))) + (s1 S 8 (cix (f (n - 1))) - 1 - (j - (n - 1)))) else g j)
        (ePr E (n - 1) (s1 S 8 (cix (f (n - 1)))))
    else E
theorem eCmp_U {S : Sp} : ∀ m n f g (E : Nat → Nat), UC E ≤ UC (eCmp S m n f g E) ∧ UZ E ≤ UZ (eCmp S m n f g E) ∧ eCmp S m n f g E 5 = E 5 ∧ eCmp S m n f g E 7 = E 7 := by
  intro m
  induction m with
  | zero => intro n f g E; exact ⟨Nat.le_refl _, Nat.le_refl _, rfl, rfl⟩
  | succ m ih =>
    intro n f g E
    rw [eCmp]
    split
    · exact ⟨Nat.le_refl _, Nat.le_refl _, rfl, rfl⟩
    · split
      · split
        · exact ih _ _ _ _
        · exact ⟨Nat.le_refl _, Nat.le_refl _, rfl, rfl⟩
      · split
        · obtain ⟨a, b, c, d⟩ := ePr_U (s1 S 8 (cix (f (n - 1)))) (n - 1) E
          have := ih (n - 1 + s1 S 8 (cix (f (n - 1)))) (fun j => if n - 1 ≤ j then sv S 1 (s1 S 9 (cix (f (n - 1))) + (s1 S 8 (cix (f (n - 1))) - 1 - (j - (n - 1)))) else f j) (fun j => if n - 1 ≤ j then sv S 1 (s1 S 9 (cix (g (n - 1))) + (s1 S 8 (cix (f (n - 1))) - 1 - (j - (n - 1)))) else g j) (ePr E (n - 1) (s1 S 8 (cix (f (n - 1)))))
          exact ⟨Nat.le_trans a this.1, Nat.le_trans b this.2.1, this.2.2.1.trans c, this.2.2.2.trans d⟩
        · exact ⟨Nat.le_refl _, Nat.le_refl _, rfl, rfl⟩
theorem x_await_loop {S : Sp} {g m c d : Nat} {w : Nat → Int64} {post : Mem → Prop} (hW : HW S w) (hC : WC S) (hb : s0 S 15 ≤ 20000) (hm : m = s0 S 5) (hc : c < s0 S 3) (hd : d < s0 S 3) :
    ∀ r n0 E μ A nm u cc zz, r ≤ s1 S 8 c → r ≤ s1 S 8 d → 2 * (n0 + r) < 262144 → RN nm A S E → LV μ A S E → XHm μ A S E g m w (2 * n0) u → UC (ePr E n0 r) ≤ UC E + cc → UZ (ePr E n0 r) ≤ UZ E + zz →
      (∀ μ' A' nm' u', RN nm' A' S (ePr E n0 r) → LV μ' A' S (ePr E n0 r) → XHm μ' A' S (ePr E n0 r) g m w (2 * (n0 + r)) u' → (∀ i, i < 2 * n0 → u' i = u i) → (∀ j, n0 ≤ j → j < n0 + r → u' (2 * j) = conv S (sv S 1 (s1 S 9 c + (r - 1 - (j - n0)))) ∧ u' (2 * j + 1) = conv S (sv S 1 (s1 S 9 d + (r - 1 - (j - n0))))) → St gH E μ A nm μ' A' nm' → post μ') →
      wp_X2_awaitFields_16 (A 0 3) post (r + 1) cc zz μ (cellX S c) (cellX S d) (nI r - 1) := by
  intro r
  induction r with
  | zero =>
    intro n0 E μ A nm u cc zz _ _ _ hN hL h _ _ hp
    rw [wp_X2_awaitFields_16]
    exact ⟨fun _ => hp μ A nm u hN hL h (fun _ _ => rfl) (fun j a b => absurd b (by omega)) St.rf, fun q => absurd (by decide) q⟩
  | succ r ih =>
    intro n0 E μ A nm u cc zz hrc hrd hlim hN hL h hcc hzz hp
    obtain ⟨x1, x2, -⟩ := eRow_U (E := E) (r := 3) (n := 2 * n0) (by decide)
    obtain ⟨y1, y2, -⟩ := eRow_U (E := eRow E 3 (2 * n0)) (r := 3) (n := 2 * n0 + 1) (by decide)
    obtain ⟨w1, w2, -⟩ := ePr_U r (n0 + 1) (eRow (eRow E 3 (2 * n0)) 3 (2 * n0 + 1))
    have eP : ePr E n0 (r + 1) = ePr (eRow (eRow E 3 (2 * n0)) 3 (2 * n0 + 1)) (n0 + 1) r := rfl
    rw [eP] at hcc hzz hp
    rw [wp_X2_awaitFields_16, nI_pred]
    refine ⟨fun q => absurd q (nI_pos (by omega)), fun _ => ⟨h.1, A 0 10, h.2.2.1, x_field h hW hC hb hm hc (by omega) fun _ => ⟨h.2.2.2.2.2.2.2.2.2.2.1, UC (eRow E 3 (2 * n0)) - UC E, UZ (eRow E 3 (2 * n0)) - UZ E, by omega, by omega, ?_⟩⟩⟩
    refine x_pushP hN hL h (by omega) (by omega) (by omega) (fun μ1 A1 nm1 hN1 hL1 h1 st1 _ => ?_)
    have a3 : A1 0 3 = A 0 3 := st1.2.2.2.2.1 3 (by decide)
    have a10 : A1 0 10 = A 0 10 := st1.2.2.2.2.1 10 (by decide)
    refine ⟨A1 0 10, by rw [← a3]; exact h1.2.2.1, ?_⟩
    rw [← a3]
    refine x_field h1 hW hC hb hm hd (by omega) fun _ => ⟨h1.2.2.2.2.2.2.2.2.2.2.1, UC (eRow (eRow E 3 (2 * n0)) 3 (2 * n0 + 1)) - UC (eRow E 3 (2 * n0)), UZ (eRow (eRow E 3 (2 * n0)) 3 (2 * n0 + 1)) - UZ (eRow E 3 (2 * n0)), by omega, by omega, ?_⟩
    refine x_pushP hN1 hL1 h1 (by omega) (by omega) (by omega) (fun μ2 A2 nm2 hN2 hL2 h2 st2 _ v33 e33 => ?_)
    rw [e33, show nI r + (-1) = nI r - 1 by rw [Int32.sub_eq_add_neg]]
    have a3' : A2 0 3 = A1 0 3 := st2.2.2.2.2.1 3 (by decide)
    rw [← a3']
    refine ih (n0 + 1) _ μ2 A2 nm2 _ _ _ (by omega) (by omega) (by omega) hN2 hL2 (by rw [show 2 * (n0 + 1) = 2 * n0 + 1 + 1 by omega]; exact h2) (by omega) (by omega) (fun μ' A' nm' u' x1' x2' x3' lo hi st3 => ?_)
    refine hp μ' A' nm' u' x1' x2' (by rw [show n0 + (r + 1) = n0 + 1 + r by omega]; exact x3') (fun i hi' => ?_) (fun j hj1 hj2 => ?_) ((st1.tr st2 (Nat.le_refl _) (Nat.le_refl _)).tr st3 (Nat.le_refl _) (Nat.le_refl _))
    · rw [lo i (by omega)]
      show (if i = 2 * n0 + 1 then _ else if i = 2 * n0 then _ else u i) = u i
      rw [if_neg (by omega), if_neg (by omega)]
    · rcases Nat.lt_or_ge n0 j with q | q
      · obtain ⟨z1, z2⟩ := hi j (by omega) (by omega)
        rw [z1, z2, show r - 1 - (j - (n0 + 1)) = r + 1 - 1 - (j - n0) by omega]
        exact ⟨rfl, rfl⟩
      · have ej : j = n0 := by omega
        subst ej
        rw [lo _ (by omega), lo _ (by omega), show r + 1 - 1 - (j - j) = r by omega]
        constructor
        · show (if 2 * j = 2 * j + 1 then _ else if 2 * j = 2 * j then _ else _) = _
          rw [if_neg (by omega), if_pos rfl]
        · show (if 2 * j + 1 = 2 * j + 1 then _ else _) = _
          rw [if_pos rfl]
theorem x_differ {μ : Mem} {S : Sp} {x y : Int64} {post : Int32 → Mem → Prop} (hC : WC S) (hb : s0 S 15 ≤ 20000) (hn : s0 S 3 ≤ 20000) (hx : okV (s0 S 3) x) (hy : okV (s0 S 3) y)
    (h1 : (x < 1099511627776 ∨ y < 1099511627776) → x = y → post 0 μ) (h2 : (x < 1099511627776 ∨ y < 1099511627776) → ¬ x = y → post 1 μ)
    (h3 : ¬ (x < 1099511627776 ∨ y < 1099511627776) → (s1 S 7 (cix x) = s1 S 7 (cix y) ∧ s1 S 8 (cix x) = s1 S 8 (cix y)) → post 0 μ) (h4 : ¬ (x < 1099511627776 ∨ y < 1099511627776) → ¬ (s1 S 7 (cix x) = s1 S 7 (cix y) ∧ s1 S 8 (cix x) = s1 S 8 (cix y)) → post 1 μ) : wp_X9_differ μ (conv S x) (conv S y) post := by
  have lx := conv_lt hC hb hn hx
  have ly := conv_lt hC hb hn hy
  have eqv : (x < 1099511627776 ∨ y < 1099511627776) → (conv S x = conv S y ↔ x = y) := by
    intro hor
    constructor
    · intro e
      have both : x < 1099511627776 ∧ y < 1099511627776 := by
        rcases hor with q | q
        · exact ⟨q, ly.mp (by rw [← e]; exact lx.mpr q)⟩
        · exact ⟨lx.mp (by rw [e]; exact ly.mpr q), q⟩
      rw [conv, conv, if_pos both.1, if_pos both.2] at e
      exact e
    · intro e; rw [e]
  have same : (x < 1099511627776 ∨ y < 1099511627776) → ((lg_cmp (conv S x) (conv S y)) = 0 → post 0 μ) ∧ (¬ (lg_cmp (conv S x) (conv S y)) = 0 → post 1 μ) := fun hor => by
    rw [lg_cmp_eq, eqv hor]
    exact ⟨h1 hor, h2 hor⟩
  refine x_isCell (fun c1 _ => nz1 (x_isCell (fun c2 _ => nz1 ?_) (fun c2 _ => nz0 (same (Or.inr (ly.mp c2)))))) (fun c1 _ => nz0 (same (Or.inl (lx.mp c1))))
  have hno : ¬ (x < 1099511627776 ∨ y < 1099511627776) := by
    rintro (q | q)
    · exact c1 (lx.mpr q)
    · exact c2 (ly.mpr q)
  rcases hx with ⟨a, rfl⟩ | ⟨c, hc, rfl⟩
  · exact absurd (Or.inl (num_lt a)) hno
  rcases hy with ⟨b, rfl⟩ | ⟨d, hd, rfl⟩
  · exact absurd (Or.inr (num_lt b)) hno
  obtain ⟨p1, p2, p3⟩ := hC.pb hb hc
  obtain ⟨q1, q2, q3⟩ := hC.pb hb hd
  rw [cix_cell (show c < 2 ^ 31 by omega), cix_cell (show d < 2 ^ 31 by omega)] at h3 h4
  rw [conv_cell (show c < 2 ^ 31 by omega), conv_cell (show d < 2 ^ 31 by omega), cellX_mk, cellX_mk, mkX_shape p1 p2 p3, mkX_shape q1 q2 q3, lg_cmp_eq, pk_lEQ (by omega) (by omega)]
  refine ⟨fun e => h3 hno ⟨by omega, by omega⟩, fun e => h4 hno fun z => e ?_⟩
  rw [z.1, z.2]
def cmpAns (r : Nat) : Int32 := if r = 0 then 0 else if r = 1 then 7 else 6
theorem x_cmp27 {S : Sp} {g m : Nat} {w : Nat → Int64} {post : Int32 → Mem → Prop} (hW : HW S w) (hC : WC S) (hb : s0 S 15 ≤ 20000) (hn3 : s0 S 3 ≤ 20000) (hm : m = s0 S 5) :
    ∀ k n f gg E μ A nm u c z, k ≤ 5000 → n + 3 * k ≤ 15001 → RN nm A S E → LV μ A S E → XHm μ A S E g m w (2 * n) u → (∀ j, j < n → u (2 * j) = conv S (f j) ∧ u (2 * j + 1) = conv S (gg j) ∧ okV (s0 S 3) (f j) ∧ okV (s0 S 3) (gg j)) → UC (eCmp S k n f gg E) ≤ UC E + c → UZ (eCmp S k n f gg E) ≤ UZ E + z →
      (∀ μ' A' nm' n' u', RN nm' A' S (eCmp S k n f gg E) → LV μ' A' S (eCmp S k n f gg E) → XHm μ' A' S (eCmp S k n f gg E) g m w n' u' → St gH E μ A nm μ' A' nm' → post (cmpAns (cmpA S k n f gg)) μ') → wp_X2_compare_27 (A 0 3) post (k + 1) c z μ (nI (5000 - k)) := by
  intro k
  induction k with
  | zero =>
    intro n f gg E μ A nm u c z hk hn hN hL h hj hc hz hp
    have l3 := h.2.2.2.2.2.2.2.2.2.2
    rw [wp_X2_compare_27]
    refine ⟨fun _ => ⟨h.1, A 0 10, h.2.2.1, l3.1, s_size l3 fun _ => ⟨fun q => ?_, fun q => ?_⟩⟩, fun q => absurd (by decide) q⟩
    · have e : n = 0 := by
        rcases Nat.eq_zero_or_pos n with r | r
        · exact r
        · exact absurd q (nI_nle (by omega) (by omega))
      have := hp μ A nm _ u hN hL h St.rf
      rw [cmpA, if_pos e] at this; exact this
    · have e : ¬ n = 0 := fun r => q (by rw [r]; decide)
      have := hp μ A nm _ u hN hL h St.rf
      rw [cmpA, if_neg e] at this; exact this
  | succ k ih =>
    intro n f gg E μ A nm u c z hk hn hN hL h hj hc hz hp
    have l3 := h.2.2.2.2.2.2.2.2.2.2
    rw [wp_X2_compare_27]
    refine ⟨fun q => absurd q (nI_ge (b := 5000) (by omega) (by decide)), fun _ => ⟨h.1, A 0 10, h.2.2.1, l3.1, s_size l3 fun _ => ⟨fun q => ?_, fun q => ?_⟩⟩⟩
    · have e : n = 0 := by
        rcases Nat.eq_zero_or_pos n with r | r
        · exact r
        · exact absurd q (nI_nle (by omega) (by omega))
      have := hp μ A nm _ u (by rw [eCmp, if_pos e]; exact hN) (by rw [eCmp, if_pos e]; exact hL) (by rw [eCmp, if_pos e]; exact h) St.rf
      rw [cmpA, if_pos e] at this
      exact ⟨A 0 10, h.2.2.1, l3.1, s_size l3 fun _ => ⟨fun _ => this, fun r => absurd q r⟩⟩
    · have e : ¬ n = 0 := fun r => q (by rw [r]; decide)
      obtain ⟨i, rfl⟩ : ∃ i, n = i + 1 := ⟨n - 1, by omega⟩
      rw [cmpA, if_neg e, show i + 1 - 1 = i by omega] at hp
      rw [eCmp, if_neg e, show i + 1 - 1 = i by omega] at hp hc hz
      obtain ⟨j1, j2, j3, j4⟩ := hj i (by omega)
      have ne : ∀ a b, a < 24 → b < 24 → a ≠ b → ¬ A 0 a = A 0 b := fun a b ha hb hd => hN.ne (Us0 ha) (Us0 hb) (fun z => hd z.2)
      have pop : ∀ (μ1 : Mem) (m1 : Nat), XHm μ1 A S E g m w (m1 + 1) u → Off (fun a => gH (nm a)) μ μ1 → ∀ μ2, LR μ2 (A 0 10) (A 0 20) m1 u → Off (fun a => a = A 0 10) μ1 μ2 → al μ2 (A 0 20) = al μ1 (A 0 20) → XHm μ2 A S E g m w m1 u ∧ Off (fun a => gH (nm a)) μ μ2 := by
        intro μ1 m1 h1 ho1 μ2 hl2 ho2 ha2
        obtain ⟨g1, g2, g3, g4, g5, g6, g7, g8, g9, l1, l3⟩ := id h1
        obtain ⟨q1, q2, -⟩ := ho2.2.2 (A 0 3) (by omega) (ne 3 10 (by decide) (by decide) (by decide))
        exact ⟨⟨ho2.kd g1, by rw [q2]; exact g2, by rw [q2]; exact g3, by rw [q1]; exact g4, by rw [q1]; exact g5, by rw [(ho2.2.2 _ (by have := l1.2.2.1; omega) (ne 19 10 (by decide) (by decide) (by decide))).2.2.1]; exact g6, ha2.trans g7, g8, g9, l1.off ho2 (ne 9 10 (by decide) (by decide) (by decide)) (ne 19 10 (by decide) (by decide) (by decide)), hl2⟩, ho1.tr (ho2.sub (fun a _ hb => gH_of hN (by omega) hb))⟩
      have hh : XHm μ A S E g m w (2 * i + 1 + 1) u := h
      refine ⟨A 0 10, h.2.2.1, l3.1, x_pop (n := 2 * i + 1) hh.2.2.2.2.2.2.2.2.2.2 (fun μ1 hl1 ho1 ha1 _ => ?_)⟩
      obtain ⟨h1, O1⟩ := pop μ (2 * i + 1) hh (Off.rf μ) μ1 hl1 ho1 ha1
      refine ⟨A 0 10, h1.2.2.1, h1.2.2.2.2.2.2.2.2.2.2.1, x_pop (n := 2 * i) h1.2.2.2.2.2.2.2.2.2.2 (fun μ2 hl2 ho2 ha2 _ => ?_)⟩
      obtain ⟨h2, O2⟩ := pop μ1 (2 * i) h1 O1 μ2 hl2 ho2 ha2
      rw [j1, j2]
      have hL2 := hL.km O2.1
      have st2 : St gH E μ A nm μ2 A nm := St.of O2
      refine x_differ hC hb hn3 j3 j4 (fun hor he _ => nz0 ?_) (fun hor he _ => nz1 ?_) (fun hno hs _ => nz0 ?_) (fun hno hs _ => nz1 ?_)
      · rw [if_pos hor, if_pos he] at hc hz
        rw [if_pos hor, if_pos hor, if_pos he, if_pos he] at hp
        refine ⟨0, 0, Nat.zero_le _, Nat.zero_le _, ?_⟩
        have nc : conv S (f i) < 1099511627776 := by
          have : f i < 1099511627776 := by rcases hor with r | r; exact r; rw [he]; exact r
          exact (conv_lt hC hb hn3 j3).mpr this
        refine x_isCell (fun q => absurd nc q) (fun _ _ => nz0 fun _ v70 e70 => ?_)
        rw [e70, nI_1, show 5000 - (k + 1) + 1 = 5000 - k by omega]
        refine ih i f gg E μ2 A nm u _ _ (by omega) (by omega) hN hL2 h2 (fun j hjj => hj j (by omega)) (by omega) (by omega) (fun μ' A' nm' n' u' y1 y2 y3 y4 => hp μ' A' nm' n' u' y1 y2 y3 (st2.tr y4 (Nat.le_refl _) (Nat.le_refl _)))
      · rw [if_pos hor, if_neg he] at hc hz
        rw [if_pos hor, if_pos hor, if_neg he, if_neg he] at hp
        exact hp μ2 A nm _ u hN hL2 h2 st2
      · rw [if_neg hno, if_pos hs] at hc hz
        rw [if_neg hno, if_neg hno, if_pos hs, if_pos hs] at hp
        rcases j3 with ⟨a, ea⟩ | ⟨cc, hcc, ea⟩
        · exact absurd (Or.inl (by rw [ea]; exact num_lt a)) hno
        rcases j4 with ⟨b, eb⟩ | ⟨dd, hdd, eb⟩
        · exact absurd (Or.inr (by rw [eb]; exact num_lt b)) hno
        rw [ea, eb, cix_cell (show cc < 2 ^ 31 by omega), cix_cell (show dd < 2 ^ 31 by omega)] at hp hc hz hs
        obtain ⟨p1, p2, p3⟩ := hC.pb hb hcc
        obtain ⟨q1, q2, q3⟩ := hC.pb hb hdd
        obtain ⟨w1, w2, w3, w4⟩ := ePr_U (s1 S 8 cc) i E
        obtain ⟨v1, v2, v3, v4⟩ := eCmp_U (S := S) k (i + s1 S 8 cc) (fun j => if i ≤ j then sv S 1 (s1 S 9 cc + (s1 S 8 cc - 1 - (j - i))) else f j) (fun j => if i ≤ j then sv S 1 (s1 S 9 dd + (s1 S 8 cc - 1 - (j - i))) else gg j) (ePr E i (s1 S 8 cc))
        refine ⟨UC (ePr E i (s1 S 8 cc)) - UC E, UZ (ePr E i (s1 S 8 cc)) - UZ E, by omega, by omega, ?_⟩
        rw [ea, eb, conv_cell (show cc < 2 ^ 31 by omega), conv_cell (show dd < 2 ^ 31 by omega)]
        refine x_isCell (fun _ _ => nz1 ?_) (fun q => absurd q (mkX_ge p1 p2 p3))
        intro _ v7 e7
        rw [cellX_mk, mkX_fields p1 p2 p3] at e7
        subst e7
        have h84 := (hC.2.2.2.2 cc hcc).2.1
        refine ⟨_, x_await_loop hW hC hb hm hcc hdd (s1 S 8 cc) i E μ2 A nm u _ _ (Nat.le_refl _) (by omega) (by omega) hN hL2 h2 (by omega) (by omega) (fun μ3 A3 nm3 u3 y1 y2 y3 lo hi st3 _ v70 e70 => ?_)⟩
        rw [e70, nI_1, show 5000 - (k + 1) + 1 = 5000 - k by omega]
        have := ih (i + s1 S 8 cc) _ _ _ μ3 A3 nm3 u3 (c - (UC (ePr E i (s1 S 8 cc)) - UC E)) (z - (UZ (ePr E i (s1 S 8 cc)) - UZ E)) (by omega) (by omega) y1 y2 y3 (fun j hjj => ?_) (by omega) (by omega) (fun μ' A' nm' n' u' x1 x2 x3 x4 => hp μ' A' nm' n' u' x1 x2 x3 ((st2.tr st3 (Nat.le_refl _) (Nat.le_refl _)).tr x4 (by rw [w3]; exact Nat.le_refl _) (by rw [w4]; exact Nat.le_refl _)))
        · rw [st3.2.2.2.2.1 3 (by decide)] at this
          exact this
        · rcases Nat.lt_or_ge j i with r | r
          · obtain ⟨x1, x2, x3, x4⟩ := hj j (by omega)
            rw [if_neg (by omega), if_neg (by omega), lo _ (by omega), lo _ (by omega)]
            exact ⟨x1, x2, x3, x4⟩
          · obtain ⟨x1, x2⟩ := hi j r hjj
            rw [if_pos r, if_pos r]
            exact ⟨x1, x2, okV_le (by omega) ((hC.2.2.2.2 cc hcc).2.2.2 _ (by omega)), okV_le (by omega) ((hC.2.2.2.2 dd hdd).2.2.2 _ (by omega))⟩
      · rw [if_neg hno, if_neg hs] at hc hz
        rw [if_neg hno, if_neg hno, if_neg hs, if_neg hs] at hp
        exact hp μ2 A nm _ u hN hL2 h2 st2
