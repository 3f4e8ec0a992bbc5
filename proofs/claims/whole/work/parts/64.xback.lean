/-! the class goes back to a redo point -/
theorem x_popRedo {nm : Nat → Nat × Nat} {μ : Mem} {A : Ad} {S : Sp} {E tt tp : Nat → Nat} {tv tq : Nat → Int64} {n : Nat} {post : Option Nat → Mem → Prop} (h : XKx μ A S E tt tp tv tq) (hN : RN nm A S E) (hB : s1 S 11 (s1 S 15 n) ≤ s1 S 11 (s0 S 6)) (hT : TR (s0 S 6) (s0 S 7) (s1 S 15)) (hn : s0 S 7 = n + 1) (hb : n < 20000)
    (hp : ∀ μ', XKx μ' A (sp_drop S (s1 S 15 n) n) E tt tp tv tq → Off (fun a => a = A 0 2 ∨ a = A 0 7) μ μ' → post (some (A 2 n)) μ') : wp_X7_popRedo μ (A 0 2) post := by
  refine ⟨h.1.1, x_latest h (by omega) (fun j hj _ => ⟨fun z => absurd z (by simp), fun x6 e6 μ7 e7 => ?_⟩) (fun hz _ => absurd hz (by omega))⟩
  have ej : j = n := by omega
  subst ej
  cases e6
  have g7 : fi μ 9 3 (A 0 2) = nI (s0 S 7) := h.1.2.2.2.2.2.2.1
  rw [g7, hn, nI_pred] at e7
  have h7 := h.redos (n := j) hN (by omega)
  rw [← e7] at h7
  have hE : s0 S 7 ≤ E 7 := h.2.1.2.2.2.2.2
  refine ⟨h7.2.2.2.1.1 j (by omega), ?_⟩
  have e83 : fi μ7 8 3 (A 2 j) = nI (s1 S 15 j) := by
    rw [e7, fi_sfi, if_neg (fun z => absurd z.1 (by decide))]
    exact (h.2.2.2.1.2 j (by omega)).2.2.2.1
  rw [e83]
  refine x_keepFrames h7 hN (hT.2 j (by omega)) hB (fun μ' h' ho _ => hp μ' h' ?_)
  have ho2 : Off (fun a => a = A 0 2 ∨ a = A 0 7) μ μ7 := by rw [e7]; exact Off_sfi.sub (fun a _ ha => Or.inl ha)
  exact ho2.tr ho
theorem undoX_split {tp : Nat → Nat} {tv : Nat → Int64} {n d1 : Nat} : ∀ d2 (f : Nat → Int64), undoX tp tv n (d1 + d2) f = undoX tp tv n d1 (undoX tp tv (n + d1) d2 f) := by
  intro d2
  induction d2 with
  | zero => intro f; rfl
  | succ d ih =>
    intro f
    show undoX tp tv n (d1 + d) (va_up f (tp (n + (d1 + d))) (tv (n + (d1 + d)))) = undoX tp tv n d1 (undoX tp tv (n + d1) d (va_up f (tp (n + d1 + d)) (tv (n + d1 + d))))
    rw [ih, Nat.add_assoc]
theorem undoX_pt {tp : Nat → Nat} {tv : Nat → Int64} {n k : Nat} : ∀ d (f g : Nat → Int64), f k = g k → undoX tp tv n d f k = undoX tp tv n d g k := by
  intro d
  induction d with
  | zero => intro f g h; exact h
  | succ d ih =>
    intro f g h
    refine ih _ _ ?_
    show (if k = _ then _ else f k) = (if k = _ then _ else g k)
    rw [h]
theorem undoX_congr {tp tp' : Nat → Nat} {tv tv' : Nat → Int64} {n : Nat} : ∀ d (f : Nat → Int64), (∀ m, m < n + d → tp' m = tp m ∧ tv' m = tv m) → undoX tp' tv' n d f = undoX tp tv n d f := by
  intro d
  induction d with
  | zero => intro f _; rfl
  | succ d ih =>
    intro f h
    obtain ⟨h1, h2⟩ := h (n + d) (by omega)
    show undoX tp' tv' n d (va_up f (tp' (n + d)) (tv' (n + d))) = undoX tp tv n d (va_up f (tp (n + d)) (tv (n + d)))
    rw [h1, h2]
    exact ih _ (fun m hm => h m (by omega))
theorem x_back_loop {nm : Nat → Nat × Nat} {A : Ad} {S : Sp} {E tp : Nat → Nat} {tv tq : Nat → Int64} {n T0 sz : Nat} {post : Mem → Prop} (hN : RN nm A S E) (hn : n < E 7) (hsz : sz < 2 ^ 31) (hE9 : E 9 < 262144) (hd : ∀ m, m < E 9 → decT (tq m) (tp m) (tv m)) (goal : Nat → Int64) :
    ∀ d μ f, T0 + d ≤ E 9 → kd μ (A 0 2) = 10 → fr μ 9 4 (A 0 2) = some (A 0 7) → fr μ 9 5 (A 0 2) = some (A 0 8) → kd μ (A 2 n) = 9 → fi μ 8 5 (A 2 n) = nI T0 → LR μ (A 0 7) (A 0 17) sz f → LR μ (A 0 8) (A 0 18) (T0 + d) tq → (∀ k, k < sz → undoX tp tv T0 d f k = goal k) → (∀ μ', Off (fun a => a = A 0 8 ∨ a = A 0 17) μ μ' → al μ' (A 0 17) = al μ (A 0 17) → al μ' (A 0 18) = al μ (A 0 18) → LR μ' (A 0 7) (A 0 17) sz goal → LR μ' (A 0 8) (A 0 18) T0 tq → post μ') → wp_X7_goBackTo_8 (A 0 2) post (d + 1) μ (A 2 n) (nI (T0 + d)) := by
  have ne : ∀ i j, i < 24 → j < 24 → i ≠ j → ¬ A 0 i = A 0 j := fun i j hi hj hd => hN.ne (Us0 hi) (Us0 hj) (fun z => hd z.2)
  intro d
  induction d with
  | zero =>
    intro μ f hle k2 r4 r5 k9 f5 hv ht hu hpp
    rw [wp_X7_goBackTo_8, f5]
    exact ⟨k9, fun _ => hpp μ (Off.rf μ) rfl rfl (hv.congr (fun i hi => (hu i hi).symm)) ht, fun z => absurd (nI_le (Nat.le_refl _) (by omega)) z⟩
  | succ d ih =>
    intro μ f hle k2 r4 r5 k9 f5 hv ht hu hpp
    rw [wp_X7_goBackTo_8, f5]
    refine ⟨k9, fun z => absurd z (nI_ge (by omega) (by omega)), fun _ => ⟨k2, A 0 8, r5, ht.1, x_pop (n := T0 + d) ht (fun μ1 ht1 ho1 ha1 _ => ?_)⟩⟩
    have n1 : ∀ j, j < 24 → j ≠ 8 → ¬ A 0 j = A 0 8 := fun j hj hd => ne j 8 hj (by decide) hd
    have hv1 := hv.off ho1 (n1 7 (by decide) (by decide)) (n1 17 (by decide) (by decide))
    obtain ⟨b1, b2, -⟩ := ho1.2.2 (A 0 2) (by omega) (n1 2 (by decide) (by decide))
    obtain ⟨c1, -⟩ := ho1.2.2 (A 2 n) (by omega) (hN.ne (Us2 hn) (Us0 (by decide)) (fun z => absurd z.1 (by decide)))
    have al17 : al μ1 (A 0 17) = al μ (A 0 17) := (ho1.2.2 _ (by have := hv.2.2.1; omega) (n1 17 (by decide) (by decide))).2.2.1
    refine ⟨A 0 7, by rw [b2]; exact r4, hv1.1, ?_⟩
    obtain ⟨p1, p2, p3⟩ := hd (T0 + d) (by omega)
    rw [p2, p3]
    have fin : ∀ μ2 f2, LR μ2 (A 0 7) (A 0 17) sz f2 → Off (fun a => a = A 0 17) μ1 μ2 → al μ2 (A 0 17) = al μ1 (A 0 17) → (∀ k, k < sz → f2 k = va_up f (tp (T0 + d)) (tv (T0 + d)) k) → ∀ v26 : Int32, v26 = nI (T0 + (d + 1)) + (-1) → wp_X7_goBackTo_8 (A 0 2) post (d + 1) μ2 (A 2 n) v26 := by
      intro μ2 f2 hv2 ho2 ha2 hf2 v26 e26
      rw [show T0 + (d + 1) = T0 + d + 1 from rfl, pk_m1] at e26
      rw [e26]
      have n2 : ∀ j, j < 24 → j ≠ 17 → ¬ A 0 j = A 0 17 := fun j hj hd => ne j 17 hj (by decide) hd
      obtain ⟨d1, d2, -⟩ := ho2.2.2 (A 0 2) (by rw [ho1.1 _ (by omega)]; omega) (n2 2 (by decide) (by decide))
      obtain ⟨q1, -⟩ := ho2.2.2 (A 2 n) (by rw [ho1.1 _ (by omega)]; omega) (hN.ne (Us2 hn) (Us0 (by decide)) (fun z => absurd z.1 (by decide)))
      refine ih μ2 f2 (by omega) (ho2.kd (ho1.kd k2)) (by rw [d2, b2]; exact r4) (by rw [d2, b2]; exact r5) (ho2.kd (ho1.kd k9)) (by rw [q1, c1]; exact f5) hv2 (ht1.off ho2 (n2 8 (by decide) (by decide)) (n2 18 (by decide) (by decide))) (fun k hk => ?_) (fun μ' ho' ha' ha8' hl' ht' => hpp μ' (((ho1.sub (fun a _ ha => Or.inl ha)).tr (ho2.sub (fun a _ ha => Or.inr ha))).tr ho') (by rw [ha', ha2, al17]) ?_ hl' ht')
      · rw [← hu k hk]
        exact undoX_pt d _ _ (hf2 k hk)
      · rw [ha8', (ho2.2.2 _ (by have := ht1.2.2.1; omega) (n2 18 (by decide) (by decide))).2.2.1, ha1]
    rcases Nat.lt_or_ge (tp (T0 + d)) sz with q | q
    · exact x_set hv1 q (fun μ2 hv2 ho2 ha2 _ => fin μ2 _ hv2 ho2 ha2 (fun k _ => rfl))
    · refine s_set_out hv1 q (by omega) (fun _ => fin μ1 f hv1 (Off.rf μ1) rfl (fun k hk => ?_))
      show f k = if k = tp (T0 + d) then _ else f k
      rw [if_neg (by omega)]
theorem x_goBack {nm : Nat → Nat × Nat} {μ : Mem} {A : Ad} {S : Sp} {E tt tp : Nat → Nat} {tv tq : Nat → Int64} {n : Nat} {post : Mem → Prop} (h : XKx μ A (sp_drop S (s1 S 15 n) n) E tt tp tv tq) (hN : RN nm A S E) (hn : n < E 7) (hsz : s1 S 11 (s1 S 15 n) < 2 ^ 31) (hE9 : E 9 < 262144) (hk9 : kd μ (A 2 n) = 9) (h85 : fi μ 8 5 (A 2 n) = nI (tt n)) (ht : tt n ≤ E 9) (hmono : ∀ i, i < n → tt i ≤ tt n) (hbl : ∀ i, i < n → s1 S 11 (s1 S 15 i) ≤ s1 S 11 (s1 S 15 n))
    (hu : ∀ k, k < s1 S 11 (s1 S 15 n) → undoX tp tv (tt n) (E 9 - tt n) (fun k => conv S (sv S 0 k)) k = conv S (sw S 0 n k))
    (hp : ∀ μ', XKx μ' A (sp_back (sp_drop S (s1 S 15 n) n) n) (va_up E 9 (tt n)) tt tp tv tq → Off (DK2 A) μ μ' → post μ') : wp_X7_goBackTo μ (A 0 2) (A 2 n) post := by
  obtain ⟨h1, h2, h3, h4, ⟨t1, t2, t3, t4, t5, t6, t7, t8, t9⟩⟩ := id h
  have g4 := h1.2.2.2.1
  have g5 := h1.2.2.2.2.1
  have ne : ∀ i j, i < 24 → j < 24 → i ≠ j → ¬ A 0 i = A 0 j := fun i j hi hj hd => hN.ne (Us0 hi) (Us0 hj) (fun z => hd z.2)
  refine ⟨h1.1, A 0 8, g5, t2.1, s_size t2 fun _ => ?_⟩
  have hwe : tt n + (E 9 - tt n) = E 9 := by omega
  have := x_back_loop (S := S) (sz := s1 S 11 (s1 S 15 n)) (T0 := tt n) (post := post) hN hn hsz hE9 t7 (fun k => conv S (sw S 0 n k)) (E 9 - tt n) μ (fun k => conv S (sv S 0 k)) (by omega) h1.1 g4 g5 hk9 h85 t1 (by rw [hwe]; exact t2) hu (fun μ' ho ha7 ha8 hl1 hl2 => ?_)
  · rw [hwe] at this
    exact ⟨_, this⟩
  · have n1 : ∀ j, j < E 5 → ¬ (A 1 j = A 0 8 ∨ A 1 j = A 0 17) := fun j hj z => by
      rcases z with z | z
      · exact hN.ne (Us1 hj) (Us0 (by decide)) (fun z => absurd z.1 (by decide)) z
      · exact hN.ne (Us1 hj) (Us0 (by decide)) (fun z => absurd z.1 (by decide)) z
    have n2 : ∀ j, j < E 7 → ¬ (A 2 j = A 0 8 ∨ A 2 j = A 0 17) := fun j hj z => by
      rcases z with z | z
      · exact hN.ne (Us2 hj) (Us0 (by decide)) (fun z => absurd z.1 (by decide)) z
      · exact hN.ne (Us2 hj) (Us0 (by decide)) (fun z => absurd z.1 (by decide)) z
    have n0 : ∀ j, j < 24 → j ≠ 8 → j ≠ 17 → ¬ (A 0 j = A 0 8 ∨ A 0 j = A 0 17) := fun j hj a b z => by
      rcases z with z | z
      · exact ne j 8 hj (by decide) a z
      · exact ne j 17 hj (by decide) b z
    refine hp μ' ⟨XK1.off (S := sp_drop S (s1 S 15 n) n) h1 ho (n0 2 (by decide) (by decide) (by decide)), XK2.off (S := sp_drop S (s1 S 15 n) n) (E := E) h2 ho (n0 5 (by decide) (by decide) (by decide)) (n0 6 (by decide) (by decide) (by decide)) (n0 15 (by decide) (by decide) (by decide)) (n0 16 (by decide) (by decide) (by decide)), XK3.off (S := sp_drop S (s1 S 15 n) n) (E := E) h3 ho h2.2.2.2.2.1 n1, XK4.off (S := sp_drop S (s1 S 15 n) n) (E := E) h4 ho h2.2.2.2.2.2 n2, ⟨hl1, hl2, ha7.trans t3, ha8.trans t4, t5, t6, fun m hm => t7 m (Nat.lt_of_lt_of_le hm ht), t8, fun i hi => ⟨hmono i hi, fun k hk => ?_⟩⟩⟩ (ho.sub (fun a _ ha => by rcases ha with q | q; exact Or.inr (Or.inr (Or.inl q)); exact Or.inr (Or.inr (Or.inr q))))
    have hi : i < n := hi
    have hk : k < s1 S 11 (s1 S 15 i) := hk
    have hti := hmono i hi
    have e9 := (t9 i hi).2 k hk
    have es := undoX_split (tp := tp) (tv := tv) (n := tt i) (d1 := tt n - tt i) (E 9 - tt n) (fun k => conv S (sv S 0 k))
    rw [show tt n - tt i + (E 9 - tt n) = E 9 - tt i by omega, show tt i + (tt n - tt i) = tt n by omega] at es
    have e9' : undoX tp tv (tt i) (E 9 - tt i) (fun k => conv S (sv S 0 k)) k = conv S (sw S 0 i k) := e9
    rw [es] at e9'
    show undoX tp tv (tt i) (tt n - tt i) (fun k => conv S (sw S 0 n k)) k = conv S (sw S 0 i k)
    rw [← e9']
    exact undoX_pt _ _ _ (hu k (Nat.lt_of_lt_of_le hk (hbl i hi))).symm
