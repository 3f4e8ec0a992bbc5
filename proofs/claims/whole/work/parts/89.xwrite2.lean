/-! the class writes a text -/
abbrev TSt : Type := List Nat × Nat × (Nat → Nat × Nat) × (Nat → Nat)
def tHead (S : Sp) (v : Int64) (l : List Nat) (n : Nat) (K : Nat → Nat × Nat) (E : Nat → Nat) : TSt :=
  if v < 1099511627776 then (l ++ dec v.toInt32, n, K, eSb E (l.length + (dec v.toInt32).length)) else
  if s1 S 8 (cix v) = 0 then ((l ++ [99]) ++ dec (nI (s1 S 7 (cix v))), n, K, eSb (eSb E (l.length + 1)) ((l ++ [99]).length + (dec (nI (s1 S 7 (cix v)))).length)) else
  (((l ++ [99]) ++ dec (nI (s1 S 7 (cix v)))) ++ [40], n + 1, va_up K n (cix v, 0), eRow (eRow (eSb (eSb (eSb E (l.length + 1)) ((l ++ [99]).length + (dec (nI (s1 S 7 (cix v)))).length)) (((l ++ [99]) ++ dec (nI (s1 S 7 (cix v)))).length + 1)) 4 (2 * n)) 4 (2 * n + 1))
def TK (S : Sp) (u : Nat → Int64) (K : Nat → Nat × Nat) (n : Nat) : Prop := ∀ j, j < n → u (2 * j) = cellX S (K j).1 ∧ u (2 * j + 1) = (nI (K j).2).toInt64 ∧ (K j).1 < s0 S 3 ∧ (K j).2 ≤ s1 S 8 (K j).1
theorem TK.push {S : Sp} {u : Nat → Int64} {K : Nat → Nat × Nat} {n d w : Nat} (hT : TK S u K n) (hd : d < s0 S 3) (hw : w ≤ s1 S 8 d) : TK S (va_up (va_up u (2 * n) (cellX S d)) (2 * n + 1) (nI w).toInt64) (va_up K n (d, w)) (n + 1) := by
  intro j hj
  rcases Nat.lt_or_ge j n with y | y
  · have e1 : va_up (va_up u (2 * n) (cellX S d)) (2 * n + 1) (nI w).toInt64 (2 * j) = u (2 * j) := (if_neg (by omega)).trans (if_neg (by omega))
    have e2 : va_up (va_up u (2 * n) (cellX S d)) (2 * n + 1) (nI w).toInt64 (2 * j + 1) = u (2 * j + 1) := (if_neg (by omega)).trans (if_neg (by omega))
    have eK : va_up K n (d, w) j = K j := if_neg (by omega)
    rw [e1, e2, eK]
    exact hT j y
  · have ej : j = n := by omega
    subst ej
    have e1 : va_up (va_up u (2 * j) (cellX S d)) (2 * j + 1) (nI w).toInt64 (2 * j) = cellX S d := (if_neg (by omega)).trans (if_pos rfl)
    have e2 : va_up (va_up u (2 * j) (cellX S d)) (2 * j + 1) (nI w).toInt64 (2 * j + 1) = (nI w).toInt64 := if_pos rfl
    have eK : va_up K j (d, w) j = (d, w) := if_pos rfl
    rw [e1, e2, eK]
    exact ⟨rfl, rfl, hd, hw⟩
theorem eSb_em {E : Nat → Nat} {m : Nat} : EM E (eSb E m) := EM.rf
theorem eSb_ok {E : Nat → Nat} {m : Nat} (h : EBd E) (_hm : m ≤ 2000) : EOK E (eSb E m) 0 := EOK.rf h
theorem tHead_em {S : Sp} {v : Int64} {l : List Nat} {n : Nat} {K : Nat → Nat × Nat} {E : Nat → Nat} : EM E (tHead S v l n K E).2.2.2 := by
  unfold tHead
  split
  · exact EM.rf
  · split
    · exact EM.rf
    · exact EM.tr eRow_em eRow_em
theorem x_head {nm : Nat → Nat × Nat} {μ : Mem} {A : Ad} {S : Sp} {E : Nat → Nat} {n c z : Nat} {v : Int64} {l : List Nat} {u : Nat → Int64} {K : Nat → Nat × Nat} {post : Mem → Prop} (h : RXT μ A nm S E l (2 * n) u) (hT : TK S u K n) (hW : WF S) (hv : okV (s0 S 3) v) (hl : l.length ≤ 1500) (hn : n ≤ 1500) (hB : EBd E)
    (hc : UC (tHead S v l n K E).2.2.2 ≤ UC E + c) (hz : UZ (tHead S v l n K E).2.2.2 ≤ UZ E + z)
    (hp : ∀ μ' A' nm' u', RXT μ' A' nm' S (tHead S v l n K E).2.2.2 (tHead S v l n K E).1 (2 * (tHead S v l n K E).2.1) u' → TK S u' (tHead S v l n K E).2.2.1 (tHead S v l n K E).2.1 → St gT E μ A nm μ' A' nm' → post μ') : wp_X8_writeHead c z μ (A 0 4) (conv S v) post := by
  obtain ⟨hN, hL, g1, g2, g3, g4, g5, g6, g7⟩ := id h
  have hc3 := hW.c3
  rcases hv with ⟨x, e⟩ | ⟨d, hd, e⟩
  · subst e
    rw [tHead, if_pos (num_lt x)] at hp hc hz
    rw [conv_num]
    rw [num_i] at hp hc hz
    exact x_isCell (fun q => absurd (num_lt x) q) (fun _ _ => nz0 ⟨g1, x_tint h rfl (fun μ1 A1 nm1 r1 st1 _ => hp μ1 A1 nm1 u r1 hT st1)⟩)
  · subst e
    obtain ⟨p1, p2, p3⟩ := hW.2.1.pb hW.2.2.2.2.2.2.2.2.2 hd
    rw [tHead, if_neg (cell_ge (by omega)), cix_cell (by omega)] at hp hc hz
    rw [conv_cell (by omega)]
    have dl := dec_len (x := nI (s1 S 7 d))
    have l1 : (l ++ [99]).length = l.length + 1 := by rw [List.length_append]; rfl
    have l2 : ((l ++ [99]) ++ dec (nI (s1 S 7 d))).length = l.length + 1 + (dec (nI (s1 S 7 d))).length := by rw [List.length_append, l1]
    have o1 := eSb_ok (m := l.length + 1) hB (by omega)
    have o2 := eSb_ok (m := (l ++ [99]).length + (dec (nI (s1 S 7 d))).length) o1.2.1 (by omega)
    have o3 := eSb_ok (m := ((l ++ [99]) ++ dec (nI (s1 S 7 d))).length + 1) o2.2.1 (by omega)
    have m1 := o1.1.U
    have m2 := o2.1.U
    have m3 := o3.1.U
    generalize hE1 : eSb E (l.length + 1) = E1 at *
    generalize hE2 : eSb E1 ((l ++ [99]).length + (dec (nI (s1 S 7 d))).length) = E2 at *
    generalize hE3 : eSb E2 (((l ++ [99]) ++ dec (nI (s1 S 7 d))).length + 1) = E3 at *
    have q15 : E1 5 = E 5 ∧ E1 7 = E 7 := by rw [← hE1]; exact ⟨rfl, rfl⟩
    have q25 : E2 5 = E1 5 ∧ E2 7 = E1 7 := by rw [← hE2]; exact ⟨rfl, rfl⟩
    have q35 : E3 5 = E2 5 ∧ E3 7 = E2 7 := by rw [← hE3]; exact ⟨rfl, rfl⟩
    have emf : UC E2 ≤ UC (if s1 S 8 d = 0 then ((l ++ [99]) ++ dec (nI (s1 S 7 d)), n, K, E2) else (((l ++ [99]) ++ dec (nI (s1 S 7 d))) ++ [40], n + 1, va_up K n (d, 0), eRow (eRow E3 4 (2 * n)) 4 (2 * n + 1)) : TSt).2.2.2 ∧ UZ E2 ≤ UZ (if s1 S 8 d = 0 then ((l ++ [99]) ++ dec (nI (s1 S 7 d)), n, K, E2) else (((l ++ [99]) ++ dec (nI (s1 S 7 d))) ++ [40], n + 1, va_up K n (d, 0), eRow (eRow E3 4 (2 * n)) 4 (2 * n + 1)) : TSt).2.2.2 := by
      split
      · exact ⟨Nat.le_refl _, Nat.le_refl _⟩
      · exact (EM.tr o3.1 (EM.tr eRow_em eRow_em)).U
    refine x_isCell (fun _ _ => nz1 ⟨g1, ?_⟩) (fun q => absurd q (by rw [cellX_mk]; exact mkX_ge p1 p2 p3))
    refine x_tchar (ch := 99) h rfl (by decide) (fun μ1 A1 nm1 r1 st1 _ => ?_)
    rw [hE1] at r1
    have a4 : A1 0 4 = A 0 4 := st1.2.2.2.2.1 4 (by decide)
    have a11 : A1 0 11 = A 0 11 := st1.2.2.2.2.1 11 (by decide)
    refine fun _ => ?_
    rw [cellX_mk, mkX_tag p1 p2 p3]
    refine x_tint r1 a4 (fun μ2 A2 nm2 r2 st2 _ _ => ?_)
    rw [hE2] at r2
    have b4 : A2 0 4 = A 0 4 := (st2.2.2.2.2.1 4 (by decide)).trans a4
    have st12 : St gT E μ A nm μ2 A2 nm2 := st1.tr st2 (by omega) (by omega)
    rw [mkX_fields p1 p2 p3]
    refine ⟨fun q => ?_, fun q => ?_⟩
    · have e0 : s1 S 8 d = 0 := by
        rcases Nat.eq_zero_or_pos (s1 S 8 d) with r | r
        · exact r
        · exact absurd q (nI_nle (by omega) (by omega))
      rw [if_pos e0] at hp
      exact hp μ2 A2 nm2 u r2 hT st12
    · have e0 : ¬ s1 S 8 d = 0 := fun r => q (by rw [r]; decide)
      rw [if_neg e0] at hp hc hz
      have w1 := (eRow_em (E := E3) (r := 4) (n := 2 * n)).U
      have w2 := (eRow_em (E := eRow E3 4 (2 * n)) (r := 4) (n := 2 * n + 1)).U
      have hc : UC (eRow (eRow E3 4 (2 * n)) 4 (2 * n + 1)) ≤ UC E + c := hc
      have hz : UZ (eRow (eRow E3 4 (2 * n)) 4 (2 * n + 1)) ≤ UZ E + z := hz
      refine x_tchar (ch := 40) r2 b4 (by decide) (fun μ3 A3 nm3 r3 st3 _ => ?_)
      rw [hE3] at r3
      have c4 : A3 0 4 = A 0 4 := (st3.2.2.2.2.1 4 (by decide)).trans b4
      refine ⟨A3 0 11, by rw [← c4]; exact r3.2.2.2.2.1, r3.2.2.2.2.2.2.1.1, UC (eRow E3 4 (2 * n)) - UC E3, UZ (eRow E3 4 (2 * n)) - UZ E3, by omega, by omega, ?_⟩
      refine x_tpush r3 (by omega) (by omega) (by omega) (fun μ4 A4 nm4 r4 st4 _ => ?_)
      have d4 : A4 0 4 = A 0 4 := (st4.2.2.2.2.1 4 (by decide)).trans c4
      refine ⟨A4 0 11, by rw [← d4]; exact r4.2.2.2.2.1, r4.2.2.2.2.2.2.1.1, UC (eRow (eRow E3 4 (2 * n)) 4 (2 * n + 1)) - UC (eRow E3 4 (2 * n)), UZ (eRow (eRow E3 4 (2 * n)) 4 (2 * n + 1)) - UZ (eRow E3 4 (2 * n)), by omega, by omega, ?_⟩
      refine x_tpush r4 (by omega) (by omega) (by omega) (fun μ5 A5 nm5 r5 st5 _ => ?_)
      exact hp μ5 A5 nm5 (va_up (va_up u (2 * n) (cellX S d)) (2 * n + 1) 0) r5 (TK.push hT hd (Nat.zero_le _)) (((st12.tr st3 (by omega) (by omega)).tr (E1 := E3) st4 (by omega) (by omega)).tr (E1 := eRow E3 4 (2 * n)) st5 (by show E 5 ≤ E3 5; omega) (by show E 7 ≤ E3 7; omega))
def tMore (S : Sp) (l : List Nat) (n : Nat) (K : Nat → Nat × Nat) (E : Nat → Nat) : TSt :=
  if s1 S 8 (K (n - 1)).1 ≤ (K (n - 1)).2 then (l ++ [41], n - 1, K, eSb E (l.length + 1)) else
  tHead S (sv S 1 (s1 S 9 (K (n - 1)).1 + (K (n - 1)).2)) (if (K (n - 1)).2 = 0 then l else l ++ [44]) n (va_up K (n - 1) ((K (n - 1)).1, (K (n - 1)).2 + 1)) (eRow (eRow (if (K (n - 1)).2 = 0 then E else eSb E (l.length + 1)) 4 (2 * (n - 1))) 4 (2 * (n - 1) + 1))
theorem tMore_em {S : Sp} {l : List Nat} {n : Nat} {K : Nat → Nat × Nat} {E : Nat → Nat} : EM E (tMore S l n K E).2.2.2 := by
  unfold tMore
  split
  · exact EM.rf
  · refine EM.tr (EM.tr (EM.tr ?_ eRow_em) eRow_em) tHead_em
    split
    · exact EM.rf
    · exact EM.rf
/-- the heap and the text -/
def TX (μ : Mem) (A : Ad) (nm : Nat → Nat × Nat) (S : Sp) (E : Nat → Nat) (l : List Nat) (n : Nat) (K : Nat → Nat × Nat) : Prop := XHt μ A S E ∧ ∃ u, RXT μ A nm S E l (2 * n) u ∧ TK S u K n
theorem gT_n {j : Nat} (h : ¬ (j = 4 ∨ j = 11 ∨ j = 12 ∨ j = 21 ∨ j = 22)) : ¬ gT (0, j) := fun q => h q.2
theorem XHt.stt {nm nm' : Nat → Nat × Nat} {μ μ' : Mem} {A A' : Ad} {S : Sp} {E E' : Nat → Nat} (h : XHt μ A S E) (hN : RN nm A S E) (hs : St gT E μ A nm μ' A' nm') (e2 : E' 2 = E 2) (e3 : E' 3 = E 3) : XHt μ' A' S E' := by
  obtain ⟨h0, w, n, u, h1, h2⟩ := h
  have h3 := h1.off hs.1 (fun j hj => by rw [hN 0 j (Us0 (by omega))]; exact gT_n (by omega))
  have a : ∀ j, j = 3 ∨ j = 9 ∨ j = 10 ∨ j = 19 ∨ j = 20 → A' 0 j = A 0 j := fun j hj => hs.2.1 0 j (gT_n (by omega))
  refine ⟨h0, w, n, u, ?_, h2⟩
  unfold XHm at h3 ⊢
  rw [a 3 (by omega), a 9 (by omega), a 10 (by omega), a 19 (by omega), a 20 (by omega), e2, e3]
  exact h3
theorem tHead_23 {S : Sp} {v : Int64} {l : List Nat} {n : Nat} {K : Nat → Nat × Nat} {E : Nat → Nat} {r : Nat} (h4 : ¬ r = 4) (h10 : ¬ r = 10) : (tHead S v l n K E).2.2.2 r = E r := by
  unfold tHead
  split
  · exact rfl
  · split
    · exact rfl
    · exact (if_neg h4).trans (if_neg h4)
theorem x_more {nm : Nat → Nat × Nat} {μ : Mem} {A : Ad} {S : Sp} {E : Nat → Nat} {n c z : Nat} {l : List Nat} {K : Nat → Nat × Nat} {post : Mem → Prop} (h : TX μ A nm S E l (n + 1) K) (hW : WF S) (hl : l.length ≤ 1400) (hn : n ≤ 1000) (hB : EBd E)
    (hc : UC (tMore S l (n + 1) K E).2.2.2 ≤ UC E + c) (hz : UZ (tMore S l (n + 1) K E).2.2.2 ≤ UZ E + z)
    (hp : ∀ μ' A' nm', TX μ' A' nm' S (tMore S l (n + 1) K E).2.2.2 (tMore S l (n + 1) K E).1 (tMore S l (n + 1) K E).2.1 (tMore S l (n + 1) K E).2.2.1 → St gT E μ A nm μ' A' nm' → post μ') : wp_X8_writeMore c z μ (A 0 4) (A 0 3) post := by
  obtain ⟨hH, u, hR, hT⟩ := h
  obtain ⟨hN, hL, g1, g2, g3, g4, g5, g6, g7⟩ := id hR
  obtain ⟨t1, t2, t3, t4⟩ := hT n (by omega)
  have hc3 := hW.c3
  obtain ⟨p1, p2, p3⟩ := hW.2.1.pb hW.2.2.2.2.2.2.2.2.2 t3
  have h84 := (hW.2.1.2.2.2.2 _ t3).2.1
  rw [tMore, show n + 1 - 1 = n by omega] at hp hc hz
  refine ⟨g1, A 0 11, g3, g5.1, x_tpop (m := 2 * n + 1) hR (fun μ1 r1 st1 _ v9 e9 => ?_)⟩
  rw [t2, num_i] at e9
  subst e9
  refine ⟨A 0 11, r1.2.2.2.2.1, r1.2.2.2.2.2.2.1.1, x_tpop (m := 2 * n) r1 (fun μ2 r2 st2 _ _ => ?_)⟩
  have st12 := st1.tr st2 (Nat.le_refl _) (Nat.le_refl _)
  have hT2 : TK S u K n := fun j hj => hT j (by omega)
  rw [t1, cellX_mk, mkX_fields p1 p2 p3]
  refine ⟨fun q => ?_, fun q => ?_⟩
  · have lt : (K n).2 < s1 S 8 (K n).1 := by
      rcases Nat.lt_or_ge (K n).2 (s1 S 8 (K n).1) with r | r
      · exact r
      · exact absurd q (nI_nlt r (by omega))
    rw [if_neg (by omega)] at hp hc hz
    -- behind the comma
    have rest : ∀ μ3 A3 nm3 E1 l1 c1 z1, RXT μ3 A3 nm3 S E1 l1 (2 * n) u → XHt μ3 A3 S E1 → St gT E μ A nm μ3 A3 nm3 → E 5 ≤ E1 5 → E 7 ≤ E1 7 → l1.length ≤ 1500 → EBd E1 → UC (tHead S (sv S 1 (s1 S 9 (K n).1 + (K n).2)) l1 (n + 1) (va_up K n ((K n).1, (K n).2 + 1)) (eRow (eRow E1 4 (2 * n)) 4 (2 * n + 1))).2.2.2 ≤ UC E1 + c1 → UZ (tHead S (sv S 1 (s1 S 9 (K n).1 + (K n).2)) l1 (n + 1) (va_up K n ((K n).1, (K n).2 + 1)) (eRow (eRow E1 4 (2 * n)) 4 (2 * n + 1))).2.2.2 ≤ UZ E1 + z1 →
        (∀ μ' A' nm', TX μ' A' nm' S (tHead S (sv S 1 (s1 S 9 (K n).1 + (K n).2)) l1 (n + 1) (va_up K n ((K n).1, (K n).2 + 1)) (eRow (eRow E1 4 (2 * n)) 4 (2 * n + 1))).2.2.2 (tHead S (sv S 1 (s1 S 9 (K n).1 + (K n).2)) l1 (n + 1) (va_up K n ((K n).1, (K n).2 + 1)) (eRow (eRow E1 4 (2 * n)) 4 (2 * n + 1))).1 (tHead S (sv S 1 (s1 S 9 (K n).1 + (K n).2)) l1 (n + 1) (va_up K n ((K n).1, (K n).2 + 1)) (eRow (eRow E1 4 (2 * n)) 4 (2 * n + 1))).2.1 (tHead S (sv S 1 (s1 S 9 (K n).1 + (K n).2)) l1 (n + 1) (va_up K n ((K n).1, (K n).2 + 1)) (eRow (eRow E1 4 (2 * n)) 4 (2 * n + 1))).2.2.1 → St gT E μ A nm μ' A' nm' → post μ') →
        wp_X8_writeMore_42 (A 0 4) post c1 z1 μ3 (A 0 3) (nI (K n).2) (mkX (plc S (K n).1) (s1 S 8 (K n).1) (s1 S 7 (K n).1)) := by
      intro μ3 A3 nm3 E1 l1 c1 z1 r3 H3 st3 b5 b7 hl1 hB1 hc1 hz1 hp1
      have a4 : A3 0 4 = A 0 4 := st3.2.2.2.2.1 4 (by decide)
      have a3 : A3 0 3 = A 0 3 := st3.2.2.2.2.1 3 (by decide)
      have w1 := (eRow_em (E := E1) (r := 4) (n := 2 * n)).U
      have w2 := (eRow_em (E := eRow E1 4 (2 * n)) (r := 4) (n := 2 * n + 1)).U
      have w3 := (tHead_em (S := S) (v := sv S 1 (s1 S 9 (K n).1 + (K n).2)) (l := l1) (n := n + 1) (K := va_up K n ((K n).1, (K n).2 + 1)) (E := eRow (eRow E1 4 (2 * n)) 4 (2 * n + 1))).U
      have k1 := eRow_ok (r := 4) (n := 2 * n) (by decide) hB1 (by show 2 * (2 * n) ≤ 4020; omega)
      have k2 := eRow_ok (r := 4) (n := 2 * n + 1) (by decide) k1.2.1 (by show 2 * (2 * n + 1) ≤ 4020; omega)
      refine ⟨by rw [← a4]; exact r3.2.2.1, A3 0 11, by rw [← a4]; exact r3.2.2.2.2.1, r3.2.2.2.2.2.2.1.1, UC (eRow E1 4 (2 * n)) - UC E1, UZ (eRow E1 4 (2 * n)) - UZ E1, by omega, by omega, ?_⟩
      refine x_tpush r3 (by omega) (by omega) (by omega) (fun μ4 A4 nm4 r4 st4 _ => ?_)
      have b4 : A4 0 4 = A 0 4 := (st4.2.2.2.2.1 4 (by decide)).trans a4
      refine ⟨A4 0 11, by rw [← b4]; exact r4.2.2.2.2.1, r4.2.2.2.2.2.2.1.1, UC (eRow (eRow E1 4 (2 * n)) 4 (2 * n + 1)) - UC (eRow E1 4 (2 * n)), UZ (eRow (eRow E1 4 (2 * n)) 4 (2 * n + 1)) - UZ (eRow E1 4 (2 * n)), by omega, by omega, ?_⟩
      rw [nI_1]
      refine x_tpush r4 (by omega) (by omega) (by omega) (fun μ5 A5 nm5 r5 st5 _ => ?_)
      have hT5 := hT2.push (w := (K n).2 + 1) t3 lt
      have H4 := H3.stt (E' := eRow E1 4 (2 * n)) r3.1 st4 rfl rfl
      have H5 := H4.stt (E' := eRow (eRow E1 4 (2 * n)) 4 (2 * n + 1)) r4.1 st5 rfl rfl
      have c3 : A5 0 3 = A 0 3 := (st5.2.2.2.2.1 3 (by decide)).trans ((st4.2.2.2.2.1 3 (by decide)).trans a3)
      have c4 : A5 0 4 = A 0 4 := (st5.2.2.2.2.1 4 (by decide)).trans b4
      have st5' : St gT E μ A nm μ5 A5 nm5 := (st3.tr (E1 := E1) st4 b5 b7).tr (E1 := eRow E1 4 (2 * n)) st5 (by show E 5 ≤ E1 5; exact b5) (by show E 7 ≤ E1 7; exact b7)
      obtain ⟨x0, w, m', u', x1, x2⟩ := id H5
      rw [← c3]
      refine ⟨x1.1, x_field x1 x2 hW.2.1 hW.2.2.2.2.2.2.2.2.2 rfl t3 lt fun _ => ⟨UC (tHead S (sv S 1 (s1 S 9 (K n).1 + (K n).2)) l1 (n + 1) (va_up K n ((K n).1, (K n).2 + 1)) (eRow (eRow E1 4 (2 * n)) 4 (2 * n + 1))).2.2.2 - UC (eRow (eRow E1 4 (2 * n)) 4 (2 * n + 1)), UZ (tHead S (sv S 1 (s1 S 9 (K n).1 + (K n).2)) l1 (n + 1) (va_up K n ((K n).1, (K n).2 + 1)) (eRow (eRow E1 4 (2 * n)) 4 (2 * n + 1))).2.2.2 - UZ (eRow (eRow E1 4 (2 * n)) 4 (2 * n + 1)), by omega, by omega, ?_⟩⟩
      rw [← c4]
      refine x_head (n := n + 1) r5 hT5 hW (okV_le (by omega) ((hW.2.1.2.2.2.2 _ t3).2.2.2 _ lt)) hl1 (by omega) k2.2.1 (by omega) (by omega) (fun μ6 A6 nm6 u6 r6 hT6 st6 _ => hp1 μ6 A6 nm6 ⟨H5.stt r5.1 st6 (tHead_23 (by decide) (by decide)) (tHead_23 (by decide) (by decide)), u6, r6, hT6⟩ (st5'.tr st6 (by show E 5 ≤ E1 5; exact b5) (by show E 7 ≤ E1 7; exact b7)))
    have H2 := hH.stt (E' := E) hN st12 rfl rfl
    refine ⟨fun z => ?_, fun z => ?_⟩
    · have e0 : (K n).2 = 0 := by
        rcases Nat.eq_zero_or_pos (K n).2 with r | r
        · exact r
        · exact absurd z (nI_nle (by omega) (by omega))
      rw [if_pos e0, if_pos e0] at hp
      rw [if_pos e0, if_pos e0] at hc hz
      exact rest μ2 A nm E l c _ r2 H2 st12 (Nat.le_refl _) (Nat.le_refl _) (by omega) hB hc hz hp
    · have e0 : ¬ (K n).2 = 0 := fun r => z (by rw [r]; decide)
      rw [if_neg e0, if_neg e0] at hp
      rw [if_neg e0, if_neg e0] at hc hz
      have o1 := eSb_ok (m := l.length + 1) hB (by omega)
      have w1 := o1.1.U
      have w3 := (tHead_em (S := S) (v := sv S 1 (s1 S 9 (K n).1 + (K n).2)) (l := l ++ [44]) (n := n + 1) (K := va_up K n ((K n).1, (K n).2 + 1)) (E := eRow (eRow (eSb E (l.length + 1)) 4 (2 * n)) 4 (2 * n + 1))).U
      have w4 := (EM.tr (eRow_em (E := eSb E (l.length + 1)) (r := 4) (n := 2 * n)) (eRow_em (r := 4) (n := 2 * n + 1))).U
      refine x_tchar (ch := 44) r2 rfl (by decide) (fun μ3 A3 nm3 r3 st3 _ => ?_)
      exact rest μ3 A3 nm3 (eSb E (l.length + 1)) (l ++ [44]) _ _ r3 (H2.stt (E' := eSb E (l.length + 1)) hN st3 rfl rfl) (st12.tr st3 (Nat.le_refl _) (Nat.le_refl _)) (Nat.le_refl _) (Nat.le_refl _) (by rw [List.length_append]; show l.length + 1 ≤ 1500; omega) o1.2.1 (by omega) (by omega) hp
  · have ge : s1 S 8 (K n).1 ≤ (K n).2 := by
      rcases Nat.lt_or_ge (K n).2 (s1 S 8 (K n).1) with r | r
      · exact absurd (nI_lt r (by omega)) q
      · exact r
    rw [if_pos ge] at hp hc hz
    have H2 := hH.stt (E' := E) hN st12 rfl rfl
    exact x_tchar (ch := 41) r2 rfl (by decide) (fun μ3 A3 nm3 r3 st3 _ => hp μ3 A3 nm3 ⟨H2.stt (E' := eSb E (l.length + 1)) hN st3 rfl rfl, u, r3, hT2⟩ (st12.tr st3 (Nat.le_refl _) (Nat.le_refl _)))
