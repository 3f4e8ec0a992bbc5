/-! how much room the class takes -/
def EM (E E' : Nat → Nat) : Prop := ∀ r, ¬ r = 9 → E r ≤ E' r
theorem EM.U {E E' : Nat → Nat} (h : EM E E') : UC E ≤ UC E' ∧ UZ E ≤ UZ E' := by
  have h0 := h 0 (by decide)
  have h1 := h 1 (by decide)
  have h2 := h 2 (by decide)
  have h3 := h 3 (by decide)
  have h4 := h 4 (by decide)
  have h5 := h 5 (by decide)
  have h6 := h 6 (by decide)
  have h7 := h 7 (by decide)
  have h8 := h 8 (by decide)
  have h10 := h 10 (by decide)
  unfold UC UZ
  omega
def Mx (r : Nat) : Nat := if r = 0 then 40000 else if r = 1 then 320000 else if r = 2 then 40000 else if r = 3 then 60020 else if r = 4 then 4020 else if r = 5 then 6668 else if r = 6 then 10010 else if r = 7 then 6668 else if r = 8 then 10010 else 4002
def EBd (E : Nat → Nat) : Prop := (∀ r, r ≤ 10 → ¬ r = 9 → E r ≤ Mx r) ∧ E 5 ≤ E 6 ∧ E 7 ≤ E 8 ∧ (E 6 = 0 ∨ 10 ≤ E 6) ∧ (E 8 = 0 ∨ 10 ≤ E 8)
theorem EBd.U {E : Nat → Nat} (h : EBd E) : UC E ≤ 537396 ∧ UZ E ≤ 1181512 := by
  have h0 := h.1 0 (by decide) (by decide)
  have h1 := h.1 1 (by decide) (by decide)
  have h2 := h.1 2 (by decide) (by decide)
  have h3 := h.1 3 (by decide) (by decide)
  have h4 := h.1 4 (by decide) (by decide)
  have h5 := h.1 5 (by decide) (by decide)
  have h6 := h.1 6 (by decide) (by decide)
  have h7 := h.1 7 (by decide) (by decide)
  have h8 := h.1 8 (by decide) (by decide)
  have h10 := h.1 10 (by decide) (by decide)
  have h0 : E 0 ≤ 40000 := h0
  have h1 : E 1 ≤ 320000 := h1
  have h2 : E 2 ≤ 40000 := h2
  have h3 : E 3 ≤ 60020 := h3
  have h4 : E 4 ≤ 4020 := h4
  have h5 : E 5 ≤ 6668 := h5
  have h6 : E 6 ≤ 10010 := h6
  have h7 : E 7 ≤ 6668 := h7
  have h8 : E 8 ≤ 10010 := h8
  have h10 : E 10 ≤ 4002 := h10
  unfold UC UZ
  omega
/-- room that grows within its bounds -/
def EOK (E E' : Nat → Nat) (d : Nat) : Prop := EM E E' ∧ EBd E' ∧ E' 9 ≤ E 9 + d
theorem EOK.rf {E : Nat → Nat} {d : Nat} (h : EBd E) : EOK E E d := ⟨fun _ _ => Nat.le_refl _, h, by omega⟩
theorem EOK.tr {E E1 E2 : Nat → Nat} {d d' : Nat} (h : EOK E E1 d) (h' : EOK E1 E2 d') : EOK E E2 (d + d') := ⟨fun r hr => Nat.le_trans (h.1 r hr) (h'.1 r hr), h'.2.1, by have := h.2.2; have := h'.2.2; omega⟩
theorem EOK.le {E E' : Nat → Nat} {d d' : Nat} (h : EOK E E' d) (hd : d ≤ d') : EOK E E' d' := ⟨h.1, h.2.1, by have := h.2.2; omega⟩
theorem EOK.nine {E : Nat → Nat} {v d : Nat} (h : EBd E) (hv : v ≤ E 9 + d) : EOK E (va_up E 9 v) d :=
  ⟨fun r hr => by rw [va_up, if_neg hr]; exact Nat.le_refl _, ⟨fun r a b => by rw [va_up, if_neg b]; exact h.1 r a b, h.2.1, h.2.2⟩, hv⟩
theorem eRow_ok {E : Nat → Nat} {r n : Nat} (hr : r < 5) (h : EBd E) (hn : 2 * n ≤ Mx r) : EOK E (eRow E r n) 0 := by
  have e : ∀ k, ¬ k = r → eRow E r n k = E k := fun k hk => if_neg hk
  have e' : eRow E r n r = if n < E r then E r else 2 * E r := if_pos rfl
  refine ⟨fun k hk => ?_, ⟨fun k hk1 hk2 => ?_, ?_, ?_, ?_, ?_⟩, ?_⟩
  · by_cases q : k = r
    · rw [q, e']; split <;> omega
    · rw [e k q]; exact Nat.le_refl _
  · by_cases q : k = r
    · have := h.1 r (by omega) (by omega)
      rw [q, e']; split <;> omega
    · rw [e k q]; exact h.1 k hk1 hk2
  · rw [e 5 (by omega), e 6 (by omega)]; exact h.2.1
  · rw [e 7 (by omega), e 8 (by omega)]; exact h.2.2.1
  · rw [e 6 (by omega)]; exact h.2.2.2.1
  · rw [e 8 (by omega)]; exact h.2.2.2.2
  · rw [e 9 (by omega)]; omega
theorem eWr_ok {S : Sp} {E : Nat → Nat} {q : Nat} (h : EBd E) (h9 : E 9 ≤ 160000) : EOK E (eWr S E q) 1 := by
  unfold eWr
  split
  · have o := eRow_ok (r := 1) (n := E 9) (by decide) h (by show 2 * E 9 ≤ 320000; omega)
    exact (o.tr (EOK.nine (d := 1) (v := E 9 + 1) o.2.1 (Nat.le_of_eq rfl))).le (by omega)
  · exact EOK.rf h
theorem eWL_ok {S : Sp} {E : Nat → Nat} {f : Nat → Nat} (h : EBd E) : ∀ k, E 9 + k ≤ 160000 → EOK E (eWL S E f k) k := by
  intro k
  induction k with
  | zero => intro _; exact EOK.rf h
  | succ k ih =>
    intro h9
    have o := ih (by omega)
    exact o.tr (eWr_ok o.2.1 (by have := o.2.2; omega))
theorem eW_ok {E : Nat → Nat} {n : Nat} (h : EBd E) : ∀ k, n + k ≤ 20001 → EOK E (eW E n k) 0 := by
  intro k
  induction k with
  | zero => intro _; exact EOK.rf h
  | succ k ih =>
    intro h9
    have o := ih (by omega)
    exact o.tr (eRow_ok (r := 2) (by decide) o.2.1 (by show 2 * (n + k) ≤ 40000; omega))
theorem eMk_ok {S : Sp} {E : Nat → Nat} {n : Nat} (h : EBd E) (hn : s0 S 5 + tkN n ≤ 20000) : EOK E (eMk S E n) 0 := by
  unfold eMk
  split
  · exact EOK.rf h
  · rename_i q
    rw [tkN, if_neg q] at hn
    exact eW_ok h _ (by omega)
theorem eZ_ok {E : Nat → Nat} {n : Nat} (h : EBd E) : ∀ k, n + k ≤ 20001 → EOK E (eZ E n k) 0 := by
  intro k
  induction k with
  | zero => intro _; exact EOK.rf h
  | succ k ih =>
    intro h9
    have o := ih (by omega)
    exact o.tr (eRow_ok (r := 0) (by decide) o.2.1 (by show 2 * (n + k) ≤ 40000; omega))
theorem ePr_ok : ∀ k n (E : Nat → Nat), EBd E → n + k ≤ 15004 → EOK E (ePr E n k) 0 := by
  intro k
  induction k with
  | zero => intro n E h _; exact EOK.rf h
  | succ k ih =>
    intro n E h hn
    have o1 := eRow_ok (r := 3) (n := 2 * n) (by decide) h (by show 2 * (2 * n) ≤ 60020; omega)
    have o2 := eRow_ok (r := 3) (n := 2 * n + 1) (by decide) o1.2.1 (by show 2 * (2 * n + 1) ≤ 60020; omega)
    exact (o1.tr o2).tr (ih (n + 1) _ o2.2.1 (by omega))
theorem eCmp_ok {S : Sp} (hC : WC S) (hn3 : s0 S 3 ≤ 20000) : ∀ m n f g (E : Nat → Nat), EBd E → n + 3 * m ≤ 15001 → (∀ j, j < n → okV (s0 S 3) (f j) ∧ okV (s0 S 3) (g j)) → EOK E (eCmp S m n f g E) 0 := by
  intro m
  induction m with
  | zero => intro n f g E h _ _; exact EOK.rf h
  | succ m ih =>
    intro n f g E h hn hj
    rw [eCmp]
    split
    · exact EOK.rf h
    · rename_i n0
      obtain ⟨i, rfl⟩ : ∃ i, n = i + 1 := ⟨n - 1, by omega⟩
      rw [show i + 1 - 1 = i by omega]
      split
      · split
        · exact ih i f g E h (by omega) (fun j hjj => hj j (by omega))
        · exact EOK.rf h
      · rename_i hno
        split
        · rename_i hs
          obtain ⟨j3, j4⟩ := hj i (by omega)
          rcases j3 with ⟨a, ea⟩ | ⟨cc, hcc, ea⟩
          · exact absurd (Or.inl (by rw [ea]; exact num_lt a)) hno
          rcases j4 with ⟨b, eb⟩ | ⟨dd, hdd, eb⟩
          · exact absurd (Or.inr (by rw [eb]; exact num_lt b)) hno
          rw [ea, eb, cix_cell (show cc < 2 ^ 31 by omega), cix_cell (show dd < 2 ^ 31 by omega)] at hs ⊢
          have h84 := (hC.2.2.2.2 cc hcc).2.1
          have o := ePr_ok (s1 S 8 cc) i E h (by omega)
          refine o.tr (ih _ _ _ _ o.2.1 (by omega) (fun j hjj => ?_))
          rcases Nat.lt_or_ge j i with r | r
          · rw [if_neg (by omega), if_neg (by omega)]
            exact hj j (by omega)
          · rw [if_pos r, if_pos r]
            exact ⟨okV_le (by omega) ((hC.2.2.2.2 cc hcc).2.2.2 _ (by omega)), okV_le (by omega) ((hC.2.2.2.2 dd hdd).2.2.2 _ (by omega))⟩
        · exact EOK.rf h
theorem e4_ok {S : Sp} {E : Nat → Nat} {i : Nat} (hW : WF S) (h : EBd E) (ha : okV (s0 S 3) (rdS S (sa S 1 i))) (hb : okV (s0 S 3) (rdS S (sa S 2 i))) : EOK E (e4 S E i) 0 := by
  have o1 := eRow_ok (r := 3) (n := 0) (by decide) h (by decide)
  have o2 := eRow_ok (r := 3) (n := 1) (by decide) o1.2.1 (by decide)
  exact (o1.tr o2).tr (eCmp_ok hW.2.1 hW.c3 5000 1 _ _ _ o2.2.1 (by omega) (fun _ _ => ⟨ha, hb⟩))
theorem gcap_ok {n cap : Nat} (h : n ≤ cap) (hc : cap = 0 ∨ 10 ≤ cap) (hn : n ≤ 6666) (hb : cap ≤ 10010) : n + 1 ≤ gcap n cap ∧ cap ≤ gcap n cap ∧ gcap n cap ≤ 10010 ∧ (gcap n cap = 0 ∨ 10 ≤ gcap n cap) := by
  unfold gcap
  by_cases e : n = cap
  · rw [if_pos e]
    by_cases q : cap = 0
    · rw [if_pos q]; omega
    · rw [if_neg q]; omega
  · rw [if_neg e]; omega
theorem eRd_ok {S : Sp} {E : Nat → Nat} (h : EBd E) (hn : s0 S 7 ≤ 6666) : EOK E (eRd S E) 0 := by
  unfold eRd
  split
  · exact EOK.rf h
  · obtain ⟨h1, h2, h3, h4, h5⟩ := id h
    have e8 : E 8 ≤ 10010 := h1 8 (by decide) (by decide)
    obtain ⟨g1, g2, g3, g4⟩ := gcap_ok h3 h5 (by omega) e8
    refine ⟨fun k hk => ?_, ⟨fun k a b => ?_, h2, g1, h4, g4⟩, Nat.le_refl _⟩
    · rw [va_up]
      split
      · rename_i q; rw [q]; exact g2
      · rw [va_up]
        split
        · rename_i q; rw [q]; omega
        · exact Nat.le_refl _
    · rw [va_up]
      split
      · rename_i q; rw [q]; exact g3
      · rw [va_up]
        split
        · rename_i q; rw [q]; show E 7 + 1 ≤ 6668; omega
        · exact h1 k a b
theorem eFr_ok {S : Sp} {E : Nat → Nat} (h : EBd E) (hn : s0 S 6 ≤ 6666) : EOK E (eFr S E) 0 := by
  unfold eFr
  split
  · exact EOK.rf h
  · obtain ⟨h1, h2, h3, h4, h5⟩ := id h
    have e8 : E 6 ≤ 10010 := h1 6 (by decide) (by decide)
    obtain ⟨g1, g2, g3, g4⟩ := gcap_ok h2 h4 (by omega) e8
    refine ⟨fun k hk => ?_, ⟨fun k a b => ?_, g1, h3, g4, h5⟩, Nat.le_refl _⟩
    · rw [va_up]
      split
      · rename_i q; rw [q]; exact g2
      · rw [va_up]
        split
        · rename_i q; rw [q]; omega
        · exact Nat.le_refl _
    · rw [va_up]
      split
      · rename_i q; rw [q]; exact g3
      · rw [va_up]
        split
        · rename_i q; rw [q]; show E 5 + 1 ≤ 6668; omega
        · exact h1 k a b
theorem ePf_ok {S : Sp} {E : Nat → Nat} {p : Nat} (hW : WF S) (h : EBd E) (hp1 : 1 ≤ s1 S 1 p) (hsz : szS S + (2 + s1 S 1 p) ≤ 20000) : EOK E (ePf S E p) 0 := by
  have hb := WF.bg hW.1 hW.2.2.1 (s0 S 6) (Nat.le_refl _)
  have hszd : szS S = s1 S 11 (s0 S 6) + 2 * s0 S 6 + 3 * s0 S 7 := rfl
  have o := eFr_ok (S := S) h (by omega)
  exact o.tr (eZ_ok o.2.1 _ (by omega))
theorem eFail_ok {tt : Nat → Nat} : ∀ n (S : Sp) (E : Nat → Nat), (∀ i, i < n → tt i ≤ E 9) → EBd E → EOK E (eFail tt n S E) 0 := by
  intro n
  induction n with
  | zero => intro S E _ h; exact EOK.rf h
  | succ n ih =>
    intro S E ht h
    rw [eFail]
    split
    · exact EOK.nine h (ht n (by omega))
    · exact ih _ _ (fun i hi => ht i (by omega)) h
theorem eCut_ok {S : Sp} {E : Nat → Nat} (h : EBd E) : EOK E (eCut S E) 0 := by
  unfold eCut
  split
  · exact EOK.nine h (Nat.zero_le _)
  · exact EOK.rf h
theorem exE_ok {S : Sp} {E : Nat → Nat} (hW : WF S) (hw : s0 S 8 < s0 S 6) (h : EBd E) (h9 : E 9 + 8 ≤ 160000) : EOK E (exE S E) 8 := by
  have ec : EOK E (if s1 S 0 (s1 S 10 (s0 S 8)) = 0 then eCut (sp_cutS S (s1 S 14 (s0 S 8))) E else E) 0 := by
    split
    · exact eCut_ok h
    · exact EOK.rf h
  obtain ⟨bp, -⟩ := hW.2.2.1.2.2.2 (s0 S 8) hw
  obtain ⟨-, -, -, -, p3, -⟩ := hW.1.2.2.1 _ bp
  unfold exE
  generalize (if s1 S 0 (s1 S 10 (s0 S 8)) = 0 then eCut (sp_cutS S (s1 S 14 (s0 S 8))) E else E) = E1 at ec ⊢
  refine (ec.tr (d' := 8) ?_).le (by omega)
  unfold eEx
  split
  · exact EOK.rf ec.2.1
  · have e8 := exS_s0 (S := S) (k := 8) (by decide) (by decide)
    rw [exS_s1, e8]
    exact (eWL_ok ec.2.1 _ (by have := ec.2.2; omega)).le p3
theorem eStep_ok {S : Sp} {E tt : Nat → Nat} (hW : WF S) (h17 : s0 S 17 = 1) (h : EBd E) (h9 : E 9 + 8 ≤ 160000) (ht : ∀ i, i < s0 S 7 → tt i ≤ E 9) : EOK E (eStep S E tt) 8 := by
  have ef : EOK E (eFail tt (s0 S 7) S E) 8 := (eFail_ok _ S E ht h).le (by omega)
  unfold eStep
  by_cases hat : s0 S 9 < s1 S 4 (s1 S 10 (s0 S 8))
  rotate_left
  · rw [if_neg hat]; exact ef
  rw [if_pos hat]
  obtain ⟨⟨P1, P2, P3, P4⟩, hC, ⟨B1, B2, B3, B4⟩, hT, hV, ⟨N1, N2, N3, N4, N5⟩⟩ := id hW
  have hw := B3 (Or.inl h17)
  obtain ⟨hpw, -⟩ := B4 (s0 S 8) hw
  obtain ⟨-, sl1, sl2, -, -, -, sl7, -, sl9⟩ := P3 _ hpw
  obtain ⟨hi, hok⟩ := sl9 _ hat
  have eat : s2 S 1 (s1 S 10 (s0 S 8)) (s0 S 9) = atS S := rfl
  rw [eat] at hi hok
  generalize atS S = i at *
  have hn6 := (P4 i hi).2.1
  have hvw : ∀ a, a < s1 S 1 (s1 S 10 (s0 S 8)) → okV (s0 S 3) (rdS S a) := fun a ha => hV _ (WF.sl ⟨B1, B2, B3, B4⟩ hw ha)
  have isl : ∀ k, isSl S (s1 S 10 (s0 S 8)) (si S k i) → sa S k i < s1 S 1 (s1 S 10 (s0 S 8)) := fun k hk => (isSl_sa sl1 sl2 hk).2
  have hszd : szS S = s1 S 11 (s0 S 6) + 2 * s0 S 6 + 3 * s0 S 7 := rfl
  unfold eDo
  by_cases k0 : s1 S 5 i = 0 ∨ s1 S 5 i = 1 ∨ s1 S 5 i = 11
  · rw [if_pos k0]; exact (eWr_ok h (by omega)).le (by omega)
  rw [if_neg k0]
  by_cases k2 : s1 S 5 i = 2
  · rw [if_pos k2]
    split
    · have o := eMk_ok (S := S) (n := s1 S 6 i) h (by omega)
      exact (o.tr (eWr_ok o.2.1 (by have := o.2.2; omega))).le (by omega)
    · exact EOK.rf h
  rw [if_neg k2]
  by_cases k3 : s1 S 5 i = 3
  · rw [if_pos k3]
    have q : isSl S (s1 S 10 (s0 S 8)) (si S 1 i) ∧ inR (si S 2 i) 31 ∧ ¬ 5 ≤ nI (s1 S 6 i) ∧ allSl S (s1 S 10 (s0 S 8)) (s1 S 6 i) (fun j => nI (s2 S 2 i j)) := okIn_c hok k3
    have hn4 := n_le4 hn6 q.2.2.1
    unfold ifHas
    split
    · exact (eWL_ok h _ (by omega)).le (by omega)
    · exact ef
  rw [if_neg k3]
  by_cases k4 : s1 S 5 i = 4
  · rw [if_pos k4]
    have q : isSl S (s1 S 10 (s0 S 8)) (si S 1 i) ∧ isSl S (s1 S 10 (s0 S 8)) (si S 2 i) := okIn_c hok k4
    have o := e4_ok (i := i) hW h (hvw _ (isl 1 q.1)) (hvw _ (isl 2 q.2))
    obtain ⟨-, -, o9⟩ := e4_o S E i
    split
    · exact (o.tr (eFail_ok _ S _ (fun j hj => by rw [o9]; exact ht j hj) o.2.1)).le (by omega)
    · exact o.le (by omega)
  rw [if_neg k4]
  by_cases k5 : s1 S 5 i = 5
  · rw [if_pos k5]
    split
    · split
      · exact ef
      · exact (eWr_ok h (by omega)).le (by omega)
    · exact EOK.rf h
  rw [if_neg k5]
  by_cases k6 : s1 S 5 i = 6
  · rw [if_pos k6]
    split
    · split
      · exact EOK.rf h
      · exact ef
    · exact EOK.rf h
  rw [if_neg k6]
  by_cases k9 : s1 S 5 i = 9
  · rw [if_pos k9]
    split
    · exact (eRd_ok h (by omega)).le (by omega)
    · exact EOK.rf h
  rw [if_neg k9]
  by_cases k10 : s1 S 5 i = 10
  · rw [if_pos k10]
    have q : inR (si S 1 i) (nI (s0 S 1) - 1) ∧ nI (s1 S 6 i) = nI (s1 S 2 (sa S 1 i)) + nI (s1 S 3 (sa S 1 i)) ∧ allSl S (s1 S 10 (s0 S 8)) (s1 S 6 i) (fun j => nI (s2 S 2 i j)) := okIn_c hok k10
    have hnp : 1 ≤ s0 S 1 := by omega
    rw [show nI (s0 S 1) - 1 = nI (s0 S 1 - 1) by rw [show (1 : Int32) = nI 1 from rfl, pk_sub hnp]] at q
    obtain ⟨a1, a2⟩ := inR_sa (by omega) q.1
    obtain ⟨-, w1, -⟩ := P3 (sa S 1 i) (by omega)
    split
    · exact (ePf_ok hW h w1 (by omega)).le (by omega)
    · exact EOK.rf h
  rw [if_neg k10]
  by_cases k12 : s1 S 5 i = 12
  · rw [if_pos k12]
    split
    · exact (eCut_ok h).le (by omega)
    · exact EOK.rf h
  rw [if_neg k12]
  by_cases k14 : s1 S 5 i = 14
  · rw [if_pos k14]; exact exE_ok hW hw h h9
  rw [if_neg k14]
  split
  · exact EOK.rf h
  · exact ef
