/-! the class writes a text: all of it -/
def pendT (S : Sp) (K : Nat → Nat × Nat) : Nat → List Nat
  | 0 => []
  | n + 1 => sxR (fun k => txt S (sv S 1 (s1 S 9 (K n).1 + k))) (K n).2 (s1 S 8 (K n).1 - (K n).2) ++ (41 :: pendT S K n)
theorem pendT_cg {S : Sp} {K K' : Nat → Nat × Nat} : ∀ n, (∀ j, j < n → K' j = K j) → pendT S K' n = pendT S K n := by
  intro n
  induction n with
  | zero => intro _; rfl
  | succ n ih =>
    intro h
    rw [pendT, pendT, h n (by omega), ih (fun j hj => h j (by omega))]
theorem WF.tc {S : Sp} (h : WF S) : ∀ c, c < s0 S 3 → ∀ k, k < s1 S 8 c → okV c (sv S 1 (s1 S 9 c + k)) := fun c hc => (h.2.1.2.2.2.2 c hc).2.2.2
theorem tHead_txt {S : Sp} {v : Int64} {l : List Nat} {n : Nat} {K : Nat → Nat × Nat} {E : Nat → Nat} (hW : WF S) (hv : okV (s0 S 3) v) : (tHead S v l n K E).1 ++ pendT S (tHead S v l n K E).2.2.1 (tHead S v l n K E).2.1 = l ++ (txt S v ++ pendT S K n) := by
  have hc3 := hW.c3
  rcases hv with ⟨x, e⟩ | ⟨d, hd, e⟩
  · subst e
    rw [tHead, if_pos (num_lt x), num_i, txt_num]
    exact List.append_assoc _ _ _
  · subst e
    rw [tHead, if_neg (cell_ge (by omega)), cix_cell (by omega), txt_cell hW.tc (by omega) hd]
    by_cases h0 : s1 S 8 d = 0
    · rw [if_pos h0, if_pos h0]
      simp [List.append_assoc]
    · rw [if_neg h0, if_neg h0]
      have e1 : pendT S (va_up K n (d, 0)) (n + 1) = sxR (fun k => txt S (sv S 1 (s1 S 9 d + k))) 0 (s1 S 8 d) ++ (41 :: pendT S K n) := by
        have eK : va_up K n (d, 0) n = (d, 0) := if_pos rfl
        rw [pendT, eK, pendT_cg (K := K) (K' := va_up K n (d, 0)) n (fun j hj => if_neg (show ¬ j = n by omega))]
        rfl
      show (((l ++ [99]) ++ dec (nI (s1 S 7 d))) ++ [40]) ++ pendT S (va_up K n (d, 0)) (n + 1) = _
      rw [e1]
      simp [List.append_assoc]
theorem tMore_txt {S : Sp} {l : List Nat} {n : Nat} {K : Nat → Nat × Nat} {E : Nat → Nat} (hW : WF S) (h3 : (K n).1 < s0 S 3) (h4 : (K n).2 ≤ s1 S 8 (K n).1) : (tMore S l (n + 1) K E).1 ++ pendT S (tMore S l (n + 1) K E).2.2.1 (tMore S l (n + 1) K E).2.1 = l ++ pendT S K (n + 1) := by
  rw [tMore, show n + 1 - 1 = n by omega, pendT]
  by_cases h0 : s1 S 8 (K n).1 ≤ (K n).2
  · rw [if_pos h0, show s1 S 8 (K n).1 - (K n).2 = 0 by omega, sxR]
    simp [List.append_assoc]
  · rw [if_neg h0, tHead_txt hW (okV_le (by omega) (hW.tc _ h3 _ (by omega)))]
    obtain ⟨r, hr⟩ : ∃ r, s1 S 8 (K n).1 - (K n).2 = r + 1 := ⟨s1 S 8 (K n).1 - (K n).2 - 1, by omega⟩
    have eK : va_up K n ((K n).1, (K n).2 + 1) n = ((K n).1, (K n).2 + 1) := if_pos rfl
    rw [hr, sxR, pendT, eK, pendT_cg (K := K) (K' := va_up K n ((K n).1, (K n).2 + 1)) n (fun j hj => if_neg (show ¬ j = n by omega))]
    show (if (K n).2 = 0 then l else l ++ [44]) ++ (txt S (sv S 1 (s1 S 9 (K n).1 + (K n).2)) ++ (sxR (fun k => txt S (sv S 1 (s1 S 9 (K n).1 + k))) ((K n).2 + 1) (s1 S 8 (K n).1 - ((K n).2 + 1)) ++ 41 :: pendT S K n)) = _
    rw [show s1 S 8 (K n).1 - ((K n).2 + 1) = r by omega]
    by_cases h1 : (K n).2 = 0
    · rw [if_pos h1, if_pos h1]
      simp [List.append_assoc]
    · rw [if_neg h1, if_neg h1]
      simp [List.append_assoc]
theorem tHead_b {S : Sp} {v : Int64} {l : List Nat} {n : Nat} {K : Nat → Nat × Nat} {E : Nat → Nat} : (tHead S v l n K E).1.length ≤ l.length + 13 ∧ l.length + 1 ≤ (tHead S v l n K E).1.length ∧ (tHead S v l n K E).2.1 + l.length ≤ n + (tHead S v l n K E).1.length := by
  unfold tHead
  have d1 := dec_len (x := v.toInt32)
  have d2 := dec_len (x := nI (s1 S 7 (cix v)))
  obtain ⟨x1, y1, e1⟩ := dec_ne (x := v.toInt32)
  have g1 : 1 ≤ (dec v.toInt32).length := by rw [e1, List.length_cons]; omega
  split
  · show (l ++ dec v.toInt32).length ≤ _ ∧ _ ≤ (l ++ dec v.toInt32).length ∧ n + l.length ≤ n + (l ++ dec v.toInt32).length
    rw [List.length_append]
    omega
  · split
    · show ((l ++ [99]) ++ dec (nI (s1 S 7 (cix v)))).length ≤ _ ∧ _ ≤ ((l ++ [99]) ++ dec (nI (s1 S 7 (cix v)))).length ∧ n + l.length ≤ n + ((l ++ [99]) ++ dec (nI (s1 S 7 (cix v)))).length
      rw [List.length_append, List.length_append, show [99].length = 1 from rfl]
      omega
    · show (((l ++ [99]) ++ dec (nI (s1 S 7 (cix v)))) ++ [40]).length ≤ _ ∧ _ ≤ (((l ++ [99]) ++ dec (nI (s1 S 7 (cix v)))) ++ [40]).length ∧ n + 1 + l.length ≤ n + (((l ++ [99]) ++ dec (nI (s1 S 7 (cix v)))) ++ [40]).length
      rw [List.length_append, List.length_append, List.length_append, show [99].length = 1 from rfl, show [40].length = 1 from rfl]
      omega
theorem tHead_ok {S : Sp} {v : Int64} {l : List Nat} {n : Nat} {K : Nat → Nat × Nat} {E : Nat → Nat} (h : EBd E) (hl : l.length ≤ 1500) (hn : n ≤ 1000) : EOK E (tHead S v l n K E).2.2.2 0 := by
  unfold tHead
  have d1 := dec_len (x := v.toInt32)
  have d2 := dec_len (x := nI (s1 S 7 (cix v)))
  have l1 : (l ++ [99]).length = l.length + 1 := by rw [List.length_append]; rfl
  have l2 : ((l ++ [99]) ++ dec (nI (s1 S 7 (cix v)))).length = l.length + 1 + (dec (nI (s1 S 7 (cix v)))).length := by rw [List.length_append, l1]
  split
  · exact EOK.rf h
  · have o1 := eSb_ok (m := l.length + 1) h (by omega)
    have o2 := eSb_ok (m := (l ++ [99]).length + (dec (nI (s1 S 7 (cix v)))).length) o1.2.1 (by omega)
    split
    · exact o1.tr o2
    · have o3 := eSb_ok (m := ((l ++ [99]) ++ dec (nI (s1 S 7 (cix v)))).length + 1) o2.2.1 (by omega)
      have o4 := eRow_ok (r := 4) (n := 2 * n) (by decide) o3.2.1 (by show 2 * (2 * n) ≤ 4020; omega)
      have o5 := eRow_ok (r := 4) (n := 2 * n + 1) (by decide) o4.2.1 (by show 2 * (2 * n + 1) ≤ 4020; omega)
      exact (((o1.tr o2).tr o3).tr o4).tr o5
theorem tMore_b {S : Sp} {l : List Nat} {n : Nat} {K : Nat → Nat × Nat} {E : Nat → Nat} : (tMore S l (n + 1) K E).1.length ≤ l.length + 14 ∧ l.length + 1 ≤ (tMore S l (n + 1) K E).1.length ∧ (tMore S l (n + 1) K E).2.1 + l.length ≤ n + 1 + (tMore S l (n + 1) K E).1.length := by
  rw [tMore, show n + 1 - 1 = n by omega]
  split
  · show (l ++ [41]).length ≤ _ ∧ _ ≤ (l ++ [41]).length ∧ n + l.length ≤ n + 1 + (l ++ [41]).length
    rw [List.length_append, show [41].length = 1 from rfl]
    omega
  · have := tHead_b (S := S) (v := sv S 1 (s1 S 9 (K n).1 + (K n).2)) (l := if (K n).2 = 0 then l else l ++ [44]) (n := n + 1) (K := va_up K n ((K n).1, (K n).2 + 1)) (E := eRow (eRow (if (K n).2 = 0 then E else eSb E (l.length + 1)) 4 (2 * n)) 4 (2 * n + 1))
    have hl : l.length ≤ (if (K n).2 = 0 then l else l ++ [44]).length ∧ (if (K n).2 = 0 then l else l ++ [44]).length ≤ l.length + 1 := by
      split
      · omega
      · rw [List.length_append, show [44].length = 1 from rfl]; omega
    omega
theorem tMore_ok {S : Sp} {l : List Nat} {n : Nat} {K : Nat → Nat × Nat} {E : Nat → Nat} (h : EBd E) (hl : l.length ≤ 1400) (hn : n ≤ 999) : EOK E (tMore S l (n + 1) K E).2.2.2 0 := by
  rw [tMore, show n + 1 - 1 = n by omega]
  split
  · exact EOK.rf h
  · have o1 : EOK E (if (K n).2 = 0 then E else eSb E (l.length + 1)) 0 := by
      split
      · exact EOK.rf h
      · exact eSb_ok h (by omega)
    have hl : (if (K n).2 = 0 then l else l ++ [44]).length ≤ l.length + 1 := by
      split
      · omega
      · rw [List.length_append, show [44].length = 1 from rfl]; omega
    generalize (if (K n).2 = 0 then E else eSb E (l.length + 1)) = E1 at *
    have o4 := eRow_ok (r := 4) (n := 2 * n) (by decide) o1.2.1 (by show 2 * (2 * n) ≤ 4020; omega)
    have o5 := eRow_ok (r := 4) (n := 2 * n + 1) (by decide) o4.2.1 (by show 2 * (2 * n + 1) ≤ 4020; omega)
    exact ((o1.tr o4).tr o5).tr (tHead_ok o5.2.1 (by omega) (by omega))
def tLoop (S : Sp) : Nat → TSt → TSt
  | 0, t => t
  | f + 1, t => if t.2.1 = 0 ∨ ¬ t.1.length < 1000 then t else tLoop S f (tMore S t.1 t.2.1 t.2.2.1 t.2.2.2)
theorem tLoop_em {S : Sp} : ∀ f (t : TSt), EM t.2.2.2 (tLoop S f t).2.2.2 := by
  intro f
  induction f with
  | zero => intro t; exact EM.rf
  | succ f ih =>
    intro t
    rw [tLoop]
    split
    · exact EM.rf
    · exact tMore_em.tr (ih _)
theorem x_wend {nm : Nat → Nat × Nat} {μ : Mem} {A : Ad} {S : Sp} {E : Nat → Nat} {n a4 : Nat} {l T : List Nat} {K : Nat → Nat × Nat} {post : Int32 → Mem → Prop} (h : TX μ A nm S E l n K) (e4 : A 0 4 = a4) (hT : l.take 1000 = T)
    (hp : TX μ A nm S E T n K → St gT E μ A nm μ A nm → post (nI T.length) μ) : post (fi μ 10 1 a4) μ := by
  obtain ⟨hH, u, ⟨hN, hL, g1, g2, g3, g4, g5⟩, hK⟩ := h
  have e := g4.1
  rw [hT, e4] at e
  rw [e]
  exact hp ⟨hH, u, ⟨hN, hL, g1, g2, g3, g4.cg (by rw [← hT, List.take_take, Nat.min_self]), g5⟩, hK⟩ St.rf
theorem x_tloop {S : Sp} {T : List Nat} {a4 a3 : Nat} {post : Int32 → Mem → Prop} (hW : WF S) : ∀ f i μ A nm (t : TSt) c z, i + f = 1000 → 1000 ≤ t.1.length + f → TX μ A nm S t.2.2.2 t.1 t.2.1 t.2.2.1 → t.1.length ≤ 1100 → t.2.1 ≤ t.1.length → EBd t.2.2.2 → t.1 ++ pendT S t.2.2.1 t.2.1 = T → A 0 4 = a4 → A 0 3 = a3 → (UC (tLoop S f t).2.2.2 ≤ UC t.2.2.2 + c ∨ 537396 ≤ UC t.2.2.2 + c) → (UZ (tLoop S f t).2.2.2 ≤ UZ t.2.2.2 + z ∨ 1181512 ≤ UZ t.2.2.2 + z) →
    (∀ μ' A' nm', TX μ' A' nm' S (tLoop S f t).2.2.2 (T.take 1000) (tLoop S f t).2.1 (tLoop S f t).2.2.1 → St gT t.2.2.2 μ A nm μ' A' nm' → EBd (tLoop S f t).2.2.2 → post (nI (T.take 1000).length) μ') → wp_X8_write_21 a4 post (f + 1) c z μ a3 (nI i) := by
  intro f
  induction f with
  | zero =>
    intro i μ A nm t c z hi hlen h hl hn hB hT e4 e3 hc hz hp
    rw [wp_X8_write_21]
    refine ⟨fun _ => ⟨?_, ?_⟩, fun q => absurd (nI_le (a := 1000) (by omega) (by omega)) q⟩
    · rw [← e4]; exact h.2.elim fun _ r => r.1.2.2.1
    · exact x_wend h e4 (by rw [← hT, List.take_append_of_le_length (by omega)]) (fun h1 st1 => hp μ A nm h1 st1 hB)
  | succ f ih =>
    intro i μ A nm t c z hi hlen h hl hn hB hT e4 e3 hc hz hp
    rw [wp_X8_write_21]
    obtain ⟨hH, u, hR, hK⟩ := id h
    obtain ⟨hN, hL, g1, g2, g3, g4, g5, g6, g7⟩ := id hR
    obtain ⟨tk1, tk2, tk3, tk4⟩ := tk_len (l := t.1)
    have f4 : fi μ 10 1 a4 = nI (t.1.take 1000).length := by rw [← e4]; exact g4.1
    refine ⟨fun q => absurd q (nI_ge (b := 1000) (by omega) (by decide)), fun _ => ⟨by rw [← e4]; exact g1, fun y => ?_, fun y => ?_⟩⟩
    · have ge : ¬ t.1.length < 1000 := fun r => by
        rw [f4, tk3 r] at y
        exact absurd y (nI_ge (b := 1000) r (by decide))
      rw [tLoop, if_pos (Or.inr ge)] at hp
      exact x_wend h e4 (by rw [← hT, List.take_append_of_le_length (by omega)]) (fun h1 st1 => hp μ A nm h1 st1 hB)
    · have lt : t.1.length < 1000 := by
        rcases Nat.lt_or_ge t.1.length 1000 with r | r
        · exact r
        · exact absurd (by rw [f4, tk4 r]; decide) y
      refine ⟨A 0 11, by rw [← e4]; exact g3, g5.1, s_size g5 fun _ => ⟨fun q => ?_, fun q => ?_⟩⟩
      · have e0 : t.2.1 = 0 := by
          rcases Nat.eq_zero_or_pos t.2.1 with r | r
          · exact r
          · exact absurd q (nI_nle (by omega) (by omega))
        rw [tLoop, if_pos (Or.inl e0)] at hp
        rw [e0, pendT, List.append_nil] at hT
        exact x_wend h e4 (by rw [hT]) (fun h1 st1 => hp μ A nm h1 st1 hB)
      · have e0 : ¬ t.2.1 = 0 := fun r => q (by rw [r]; decide)
        have hno : ¬ (t.2.1 = 0 ∨ ¬ t.1.length < 1000) := by omega
        obtain ⟨l, m, K, E⟩ := t
        obtain ⟨n, rfl⟩ : ∃ n, m = n + 1 := ⟨m - 1, by have e0 : ¬ m = 0 := e0; omega⟩
        rw [tLoop, if_neg hno] at hp hc hz
        have h : TX μ A nm S E l (n + 1) K := h
        have hB : EBd E := hB
        have hT : l ++ pendT S K (n + 1) = T := hT
        have hK : TK S u K (n + 1) := hK
        have hn : n + 1 ≤ l.length := hn
        have hl : l.length ≤ 1100 := hl
        have lt : l.length < 1000 := lt
        have hlen : 1000 ≤ l.length + (f + 1) := hlen
        have hc : UC (tLoop S f (tMore S l (n + 1) K E)).2.2.2 ≤ UC E + c ∨ 537396 ≤ UC E + c := hc
        have hz : UZ (tLoop S f (tMore S l (n + 1) K E)).2.2.2 ≤ UZ E + z ∨ 1181512 ≤ UZ E + z := hz
        have k1 := (tMore_em (S := S) (l := l) (n := n + 1) (K := K) (E := E)).U
        have k2 := (tLoop_em (S := S) f (tMore S l (n + 1) K E)).U
        obtain ⟨b1, b2, b3⟩ := tMore_b (S := S) (l := l) (n := n) (K := K) (E := E)
        have ok := tMore_ok (S := S) (l := l) (n := n) (K := K) (E := E) hB (by omega) (by omega)
        have k3 := ok.2.1.U
        obtain ⟨-, -, t3, t4⟩ := hK n (Nat.lt_succ_self n)
        refine ⟨UC (tMore S l (n + 1) K E).2.2.2 - UC E, UZ (tMore S l (n + 1) K E).2.2.2 - UZ E, by omega, by omega, ?_⟩
        rw [← e3, ← e4]
        refine x_more h hW (by omega) (by omega) hB (by omega) (by omega) (fun μ1 A1 nm1 h1 st1 _ v71 e71 => ?_)
        rw [e71, nI_1, e4, e3]
        exact ih (i + 1) μ1 A1 nm1 (tMore S l (n + 1) K E) _ _ (by omega) (by omega) h1 (by omega) (by omega) ok.2.1 (by rw [tMore_txt hW t3 t4]; exact hT) ((st1.2.2.2.2.1 4 (by decide)).trans e4) ((st1.2.2.2.2.1 3 (by decide)).trans e3) (by omega) (by omega) (fun μ' A' nm' x1 x2 x3 => hp μ' A' nm' x1 (st1.tr x2 (ok.1 5 (by decide)) (ok.1 7 (by decide))) x3)
def tAll (S : Sp) (v : Int64) (E : Nat → Nat) : TSt := tLoop S 1000 (tHead S v [] 0 (fun _ => (0, 0)) E)
theorem tAll_em {S : Sp} {v : Int64} {E : Nat → Nat} : EM E (tAll S v E).2.2.2 := EM.tr tHead_em (tLoop_em _ _)
theorem x_textwrite {nm : Nat → Nat × Nat} {μ : Mem} {A : Ad} {S : Sp} {E : Nat → Nat} {m c z : Nat} {v : Int64} {l : List Nat} {u : Nat → Int64} {post : Int32 → Mem → Prop} (h : RXT μ A nm S E l m u) (hH : XHt μ A S E) (hW : WF S) (hv : okV (s0 S 3) v) (hB : EBd E)
    (hc : UC (tAll S v E).2.2.2 ≤ UC E + c ∨ 537396 ≤ UC E + c) (hz : UZ (tAll S v E).2.2.2 ≤ UZ E + z ∨ 1181512 ≤ UZ E + z)
    (hp : ∀ μ' A' nm' m' u', RXT μ' A' nm' S (tAll S v E).2.2.2 ((txt S v).take 1000) m' u' → St gT E μ A nm μ' A' nm' → EBd (tAll S v E).2.2.2 → post (nI ((txt S v).take 1000).length) μ') : wp_X8_write c z μ (A 0 4) (conv S v) (A 0 3) post := by
  obtain ⟨hN, hL, g1, g2, g3, g4, g5, g6, g7⟩ := id h
  have ne : ∀ i k, i < 24 → k < 24 → i ≠ k → ¬ A 0 i = A 0 k := fun i k hi hk hd => hN.ne (Us0 hi) (Us0 hk) (fun z => hd z.2)
  have k12 : ¬ A 0 12 = A 0 22 := ne 12 22 (by decide) (by decide) (by decide)
  refine ⟨g1, fun μ1 e1 => ?_⟩
  have o1 : Off (fun a => a = A 0 4) μ μ1 := by rw [e1]; exact Off_sfi
  have f1 : fr μ1 = fr μ := by rw [e1]; rfl
  have h1 : SB μ1 (A 0 4) (A 0 22) (A 0 12) [] := by
    rw [e1]
    exact ⟨by rw [fi_sfi_e]; rfl, g4.2.1, g4.2.2.1, g4.2.2.2.1, g4.2.2.2.2.1, fun i hi => absurd hi (Nat.not_lt_zero i)⟩
  have l1 := g5.off o1 (ne 11 4 (by decide) (by decide) (by decide)) (ne 21 4 (by decide) (by decide) (by decide))
  have a1 : al μ1 (A 0 21) = E 4 := (o1.2.2 (A 0 21) (hL 0 21 (Us0 (by decide))) (ne 21 4 (by decide) (by decide) (by decide))).2.2.1.trans g6
  refine ⟨A 0 11, by rw [f1]; exact g3, l1.1, x_shrink (k := 0) l1 (Nat.zero_le _) (fun μ2 l2 o2 al2 _ => ?_)⟩
  obtain ⟨y1, y2, -⟩ := o2.2.2 (A 0 4) (by rw [o1.kd g1]; decide) (ne 4 11 (by decide) (by decide) (by decide))
  have st : St gT E μ A nm μ2 A nm := (St.of (E := E) (o1.sub (fun a _ q => gT_of hN (j := 4) (by omega) q))).tr (St.of (E := E) (o2.sub (fun a _ q => gT_of hN (j := 11) (by omega) q))) (Nat.le_refl _) (Nat.le_refl _)
  have r2 : RXT μ2 A nm S E [] (2 * 0) u := ⟨hN, hL.km st.km, o2.kd (o1.kd g1), by rw [y2, y2, f1]; exact g2, by rw [y2, f1]; exact g3, h1.off o2 (by rw [o1.kd g1]; decide) (ne 4 11 (by decide) (by decide) (by decide)) (ne 22 11 (by decide) (by decide) (by decide)) (ne 12 11 (by decide) (by decide) (by decide)), l2, al2.trans a1, g7⟩
  have H2 := hH.stt (E' := E) hN st rfl rfl
  have k1 := (tHead_em (S := S) (v := v) (l := []) (n := 0) (K := fun _ => (0, 0)) (E := E)).U
  have k2 := (tLoop_em (S := S) 1000 (tHead S v [] 0 (fun _ => (0, 0)) E)).U
  obtain ⟨b1, b2, b3⟩ := tHead_b (S := S) (v := v) (l := []) (n := 0) (K := fun _ => (0, 0)) (E := E)
  have ok := tHead_ok (S := S) (v := v) (l := []) (n := 0) (K := fun _ => (0, 0)) (E := E) hB (by decide) (by decide)
  have hc : UC (tLoop S 1000 (tHead S v [] 0 (fun _ => (0, 0)) E)).2.2.2 ≤ UC E + c ∨ 537396 ≤ UC E + c := hc
  have hz : UZ (tLoop S 1000 (tHead S v [] 0 (fun _ => (0, 0)) E)).2.2.2 ≤ UZ E + z ∨ 1181512 ≤ UZ E + z := hz
  have k3 := ok.2.1.U
  have z0 : ([] : List Nat).length = 0 := rfl
  refine ⟨UC (tHead S v [] 0 (fun _ => (0, 0)) E).2.2.2 - UC E, UZ (tHead S v [] 0 (fun _ => (0, 0)) E).2.2.2 - UZ E, by omega, by omega, ?_⟩
  refine x_head (K := fun _ => (0, 0)) r2 (fun j hj => absurd hj (Nat.not_lt_zero j)) hW hv (by decide) (by decide) hB (by omega) (by omega) (fun μ3 A3 nm3 u3 r3 t3 st3 _ => ⟨1000 + 1, ?_⟩)
  have htx := tHead_txt (S := S) (v := v) (l := []) (n := 0) (K := fun _ => (0, 0)) (E := E) hW hv
  rw [pendT, List.append_nil, List.nil_append] at htx
  exact x_tloop hW 1000 0 μ3 A3 nm3 (tHead S v [] 0 (fun _ => (0, 0)) E) _ _ rfl (by omega) ⟨H2.stt hN st3 (tHead_23 (by decide) (by decide)) (tHead_23 (by decide) (by decide)), u3, r3, t3⟩ (by omega) (by omega) ok.2.1 htx (st3.2.2.2.2.1 4 (by decide)) (st3.2.2.2.2.1 3 (by decide)) (by omega) (by omega) (fun μ' A' nm' x1 x2 x3 => by
    obtain ⟨-, u', y1, -⟩ := x1
    exact hp μ' A' nm' _ u' y1 ((st.tr st3 (Nat.le_refl _) (Nat.le_refl _)).tr x2 (ok.1 5 (by decide)) (ok.1 7 (by decide))) x3)
