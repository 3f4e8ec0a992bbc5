/-! the class writes slots, leaves redo points -/
def eRow (E : Nat → Nat) (r n : Nat) : Nat → Nat := va_up E r (if n < E r then E r else 2 * E r)
/-- writing a slot: whether it goes onto the trail -/
def onT (S : Sp) (q : Nat) : Bool := decide (s0 S 7 ≠ 0 ∧ q < s1 S 11 (s1 S 15 (s0 S 7 - 1)))
def eWr (S : Sp) (E : Nat → Nat) (q : Nat) : Nat → Nat := if onT S q = true then va_up (eRow E 1 (E 9)) 9 (E 9 + 1) else E
theorem eRow_U {E : Nat → Nat} {r n : Nat} (hr : r < 5) : UC E ≤ UC (eRow E r n) ∧ UZ E ≤ UZ (eRow E r n) ∧ (¬ n < E r → UC (eRow E r n) = UC E + E r ∧ UZ (eRow E r n) = UZ E + 2 * E r) ∧ (n < E r → eRow E r n = E) := by
  have h5 : ∀ k, ¬ k = r → eRow E r n k = E k := fun k hk => if_neg hk
  have hr' : eRow E r n r = if n < E r then E r else 2 * E r := if_pos rfl
  have e : n < E r → eRow E r n = E := fun q => by
    funext k
    by_cases hk : k = r
    · subst hk; rw [hr', if_pos q]
    · exact h5 k hk
  by_cases q : n < E r
  · rw [e q]
    exact ⟨Nat.le_refl _, Nat.le_refl _, fun z => absurd q z, fun _ => rfl⟩
  · rw [if_neg q] at hr'
    unfold UC UZ
    rcases (by omega : r = 0 ∨ r = 1 ∨ r = 2 ∨ r = 3 ∨ r = 4) with z | z | z | z | z <;> subst z
    · rw [hr', h5 1 (by decide), h5 2 (by decide), h5 3 (by decide), h5 4 (by decide), h5 5 (by decide), h5 6 (by decide), h5 7 (by decide), h5 8 (by decide), h5 10 (by decide)]
      exact ⟨by omega, by omega, fun _ => ⟨by omega, by omega⟩, fun z => absurd z q⟩
    · rw [hr', h5 0 (by decide), h5 2 (by decide), h5 3 (by decide), h5 4 (by decide), h5 5 (by decide), h5 6 (by decide), h5 7 (by decide), h5 8 (by decide), h5 10 (by decide)]
      exact ⟨by omega, by omega, fun _ => ⟨by omega, by omega⟩, fun z => absurd z q⟩
    · rw [hr', h5 0 (by decide), h5 1 (by decide), h5 3 (by decide), h5 4 (by decide), h5 5 (by decide), h5 6 (by decide), h5 7 (by decide), h5 8 (by decide), h5 10 (by decide)]
      exact ⟨by omega, by omega, fun _ => ⟨by omega, by omega⟩, fun z => absurd z q⟩
    · rw [hr', h5 0 (by decide), h5 1 (by decide), h5 2 (by decide), h5 4 (by decide), h5 5 (by decide), h5 6 (by decide), h5 7 (by decide), h5 8 (by decide), h5 10 (by decide)]
      exact ⟨by omega, by omega, fun _ => ⟨by omega, by omega⟩, fun z => absurd z q⟩
    · rw [hr', h5 0 (by decide), h5 1 (by decide), h5 2 (by decide), h5 3 (by decide), h5 5 (by decide), h5 6 (by decide), h5 7 (by decide), h5 8 (by decide), h5 10 (by decide)]
      exact ⟨by omega, by omega, fun _ => ⟨by omega, by omega⟩, fun z => absurd z q⟩
theorem U_9 {E : Nat → Nat} {n : Nat} : UC (va_up E 9 n) = UC E ∧ UZ (va_up E 9 n) = UZ E := ⟨rfl, rfl⟩
/-- one role gets another address -/
def upA (A : Ad) (k j q : Nat) : Ad := fun k' j' => if k' = k ∧ j' = j then q else A k' j'
def upN (nm : Nat → Nat × Nat) (q : Nat) (r : Nat × Nat) : Nat → Nat × Nat := fun a => if a = q then r else nm a
theorem upA_o {A : Ad} {k j q k' j' : Nat} (h : ¬ (k' = k ∧ j' = j)) : upA A k j q k' j' = A k' j' := if_neg h
theorem upA_n {A : Ad} {k j q : Nat} : upA A k j q k j = q := if_pos ⟨rfl, rfl⟩
def LV (μ : Mem) (A : Ad) (S : Sp) (E : Nat → Nat) : Prop := ∀ k j, Us S E k j → kd μ (A k j) ≠ 0
theorem LV.km {μ μ' : Mem} {A : Ad} {S : Sp} {E : Nat → Nat} (h : LV μ A S E) (hk : KM μ μ') : LV μ' A S E := fun k j hu => by rw [hk _ (h k j hu)]; exact h k j hu
/-- what a change of one group leaves -/
def St (G : Nat × Nat → Prop) (E : Nat → Nat) (μ : Mem) (A : Ad) (nm : Nat → Nat × Nat) (μ' : Mem) (A' : Ad) (nm' : Nat → Nat × Nat) : Prop :=
  Off (fun a => G (nm a)) μ μ' ∧ (∀ k j, ¬ G (k, j) → A' k j = A k j) ∧ (∀ j, j < E 5 → A' 1 j = A 1 j) ∧ (∀ j, j < E 7 → A' 2 j = A 2 j) ∧ (∀ j, j < 15 → A' 0 j = A 0 j) ∧ ∀ a, kd μ a ≠ 0 → nm' a = nm a
theorem St.rf {G : Nat × Nat → Prop} {E : Nat → Nat} {μ : Mem} {A : Ad} {nm : Nat → Nat × Nat} : St G E μ A nm μ A nm := ⟨Off.rf μ, fun _ _ _ => rfl, fun _ _ => rfl, fun _ _ => rfl, fun _ _ => rfl, fun _ _ => rfl⟩
theorem St.of {G : Nat × Nat → Prop} {E : Nat → Nat} {μ μ' : Mem} {A : Ad} {nm : Nat → Nat × Nat} (h : Off (fun a => G (nm a)) μ μ') : St G E μ A nm μ' A nm := ⟨h, fun _ _ _ => rfl, fun _ _ => rfl, fun _ _ => rfl, fun _ _ => rfl, fun _ _ => rfl⟩
theorem St.tr {G : Nat × Nat → Prop} {E E1 : Nat → Nat} {μ μ1 μ2 : Mem} {A A1 A2 : Ad} {nm nm1 nm2 : Nat → Nat × Nat} (h : St G E μ A nm μ1 A1 nm1) (h' : St G E1 μ1 A1 nm1 μ2 A2 nm2) (e5 : E 5 ≤ E1 5) (e7 : E 7 ≤ E1 7) : St G E μ A nm μ2 A2 nm2 := by
  obtain ⟨a1, a2, a3, a4, a5, a6⟩ := h
  obtain ⟨b1, b2, b3, b4, b5, b6⟩ := h'
  have kk : ∀ a, kd μ a ≠ 0 → kd μ1 a ≠ 0 := fun a ha => by rw [a1.1 a ha]; exact ha
  refine ⟨⟨a1.1.tr b1.1, fun a ha => ⟨(a1.2.1 a (b1.2.1 a ha).1).1, (b1.2.1 a ha).2.trans (a1.2.1 a (b1.2.1 a ha).1).2⟩, fun a ha hd => ?_⟩, fun k j hg => (b2 k j hg).trans (a2 k j hg), fun j hj => (b3 j (by omega)).trans (a3 j hj), fun j hj => (b4 j (by omega)).trans (a4 j hj), fun j hj => (b5 j hj).trans (a5 j hj), fun a ha => (b6 a (kk a ha)).trans (a6 a ha)⟩
  obtain ⟨x1, x2, x3, x4, x5, x6⟩ := a1.2.2 a ha hd
  obtain ⟨y1, y2, y3, y4, y5, y6⟩ := b1.2.2 a (kk a ha) (by show ¬ G (nm1 a); rw [a6 a ha]; exact hd)
  exact ⟨fun c k => (y1 c k).trans (x1 c k), fun c k => (y2 c k).trans (x2 c k), y3.trans x3, fun i => (y4 i).trans (x4 i), fun i => (y5 i).trans (x5 i), fun i => (y6 i).trans (x6 i)⟩
/-- a row's array moves -/
theorem RN.mv {nm : Nat → Nat × Nat} {A : Ad} {S : Sp} {E : Nat → Nat} {μ μ' : Mem} {j q : Nat} (hN : RN nm A S E) (hL : LV μ A S E) (hq : kd μ q = 0) (hq' : kd μ' q ≠ 0) (hk : KM μ μ') : RN (upN nm q (0, j)) (upA A 0 j q) S E ∧ LV μ' (upA A 0 j q) S E := by
  constructor
  · intro k i hu
    by_cases e : k = 0 ∧ i = j
    · obtain ⟨x, y⟩ := e
      subst x; subst y
      rw [upA_n]; exact if_pos rfl
    · rw [upA_o e]
      have : ¬ A k i = q := fun z => hL k i hu (by rw [z]; exact hq)
      exact (if_neg this).trans (hN k i hu)
  · intro k i hu
    by_cases e : k = 0 ∧ i = j
    · obtain ⟨x, y⟩ := e
      subst x; subst y
      rw [upA_n]; exact hq'
    · rw [upA_o e, hk _ (hL k i hu)]
      exact hL k i hu
/-- the stack, all of it -/
def XKt (μ : Mem) (A : Ad) (S : Sp) (E tt : Nat → Nat) : Prop := XK1 μ A S ∧ XK2 μ A S E ∧ XK3 μ A S E ∧ ∃ tp tv tq, XK4 μ A S E tt ∧ XK5 μ A S E tt tp tv tq
theorem XKx.ext {μ : Mem} {A : Ad} {S : Sp} {E tt tp : Nat → Nat} {tv tq : Nat → Int64} (h : XKx μ A S E tt tp tv tq) : XKt μ A S E tt := ⟨h.1, h.2.1, h.2.2.1, tp, tv, tq, h.2.2.2⟩
/-- tt: the trail's length at each redo point -/
def RXK (μ : Mem) (A : Ad) (nm : Nat → Nat × Nat) (S : Sp) (E tt : Nat → Nat) : Prop := RN nm A S E ∧ LV μ A S E ∧ XKt μ A S E tt
theorem K_of2 {nm : Nat → Nat × Nat} {A : Ad} {S : Sp} {E : Nat → Nat} (hN : RN nm A S E) {μ : Mem} : ∀ a, kd μ a ≠ 0 → (a = A 0 2 ∨ a = A 0 7 ∨ a = A 0 8 ∨ a = A 0 17 ∨ a = A 0 18) → gK (nm a) := by
  intro a _ h
  rcases h with h | h | h | h | h
  · rw [h, hN 0 2 (Us0 (by decide))]; exact Or.inl ⟨rfl, by omega⟩
  · rw [h, hN 0 7 (Us0 (by decide))]; exact Or.inl ⟨rfl, by omega⟩
  · rw [h, hN 0 8 (Us0 (by decide))]; exact Or.inl ⟨rfl, by omega⟩
  · rw [h, hN 0 17 (Us0 (by decide))]; exact Or.inl ⟨rfl, by omega⟩
  · rw [h, hN 0 18 (Us0 (by decide))]; exact Or.inl ⟨rfl, by omega⟩
theorem x_write {nm : Nat → Nat × Nat} {μ : Mem} {A : Ad} {S : Sp} {E tt : Nat → Nat} {j a c z : Nat} {v : Int64} {post : Mem → Prop} (h : RXK μ A nm S E tt) (hj : j < s0 S 6) (ha : s1 S 11 j + a < s1 S 11 (s0 S 6)) (hsz : s1 S 11 (s0 S 6) ≤ 20000) (hr7 : s0 S 7 ≤ 7000) (hbl : ∀ i, i < s0 S 7 → s1 S 11 (s1 S 15 i) ≤ s1 S 11 (s0 S 6)) (hmo : ∀ i, i < s0 S 7 → s1 S 11 (s1 S 15 i) ≤ s1 S 11 (s1 S 15 (s0 S 7 - 1))) (h9 : E 9 < 262143)
    (hrng : -(2 ^ 31) ≤ (conv S (sv S 0 (s1 S 11 j + a))).toInt ∧ (conv S (sv S 0 (s1 S 11 j + a))).toInt < 2 ^ 42)
    (hc : UC (eWr S E (s1 S 11 j + a)) ≤ UC E + c) (hz : UZ (eWr S E (s1 S 11 j + a)) ≤ UZ E + z)
    (hp : ∀ μ' A' nm', RXK μ' A' nm' (uv S 0 (s1 S 11 j + a) v) (eWr S E (s1 S 11 j + a)) tt → St gK E μ A nm μ' A' nm' → post μ') : wp_X7_write c z μ (A 0 2) (A 1 j) (nI a) (conv S v) post := by
  obtain ⟨hN, hL, h1, h2, h3, tp, tv, tq, h4, h5⟩ := h
  have hX : XKx μ A S E tt tp tv tq := ⟨h1, h2, h3, h4, h5⟩
  have e5 : s0 S 6 ≤ E 5 := h2.2.2.2.2.1
  have e7 : s0 S 7 ≤ E 7 := h2.2.2.2.2.2
  obtain ⟨t1, t2, t3, t4, t5, t6, t7, t8, t9⟩ := id h5
  have ne : ∀ i k, i < 24 → k < 24 → i ≠ k → ¬ A 0 i = A 0 k := fun i k hi hk hd => hN.ne (Us0 hi) (Us0 hk) (fun z => hd z.2)
  have n1 : ∀ i k, i < E 5 → k < 24 → ¬ A 1 i = A 0 k := fun i k hi hk => hN.ne (Us1 hi) (Us0 hk) (fun z => absurd z.1 (by decide))
  have n2 : ∀ i k, i < E 7 → k < 24 → ¬ A 2 i = A 0 k := fun i k hi hk => hN.ne (Us2 hi) (Us0 hk) (fun z => absurd z.1 (by decide))
  have g4 := h1.2.2.2.1
  have g5 := h1.2.2.2.2.1
  refine ⟨(h3.1 j (by omega)).1, fun v2 ev2 => ⟨h1.1, ?_⟩⟩
  rw [(h3.2 j hj).2.1, nI_add] at ev2
  subst ev2
  generalize hq : s1 S 11 j + a = q at ha hrng hc hz hp
  have fin : onT S q = false → wp_X4_set μ (A 0 7) (nI q) (conv S v) (fun μ11 => KM μ μ11 → post μ11) := by
    intro ho
    unfold eWr at hp
    rw [if_neg (by rw [ho]; decide)] at hp
    have hno : ∀ i, i < s0 S 7 → ∀ k, k < s1 S 11 (s1 S 15 i) → ¬ k = q := fun i hi k hk e => by
      have : ¬ (s0 S 7 ≠ 0 ∧ q < s1 S 11 (s1 S 15 (s0 S 7 - 1))) := of_decide_eq_false ho
      have := hmo i hi
      omega
    refine x_set t1 ha (fun μ1 hl1 ho1 ha1 _ => hp μ1 A nm ⟨hN, hL.km ho1.1, h1.off ho1 (ne 2 17 (by decide) (by decide) (by decide)), h2.off ho1 (ne 5 17 (by decide) (by decide) (by decide)) (ne 6 17 (by decide) (by decide) (by decide)) (ne 15 17 (by decide) (by decide) (by decide)) (ne 16 17 (by decide) (by decide) (by decide)), h3.off ho1 e5 (fun i hi => n1 i 17 hi (by decide)), tp, tv, tq, h4.off ho1 e7 (fun i hi => n2 i 17 hi (by decide)), ⟨LR.congr hl1 (fun i hi => ?_), t2.off ho1 (ne 8 17 (by decide) (by decide) (by decide)) (ne 18 17 (by decide) (by decide) (by decide)), ha1.trans t3, ?_, t5, t6, t7, t8, fun i hi => ⟨(t9 i hi).1, fun k hk => ?_⟩⟩⟩ (St.of (ho1.sub (fun b hb hb2 => K_of2 hN b hb (by omega)))))
    · show conv S (if 0 = 0 ∧ i = q then v else sv S 0 i) = va_up (fun k => conv S (sv S 0 k)) q (conv S v) i
      by_cases e : i = q
      · simp [va_up, e]
      · simp [va_up, e]
    · rw [(ho1.2.2 _ (by have := t2.2.2.1; omega) (ne 18 17 (by decide) (by decide) (by decide))).2.2.1]; exact t4
    · have hi : i < s0 S 7 := hi
      have hk : k < s1 S 11 (s1 S 15 i) := hk
      have := (t9 i hi).2 k hk
      show undoX tp tv (tt i) (E 9 - tt i) (fun k => conv S (if 0 = 0 ∧ k = q then v else sv S 0 k)) k = conv S (sw S 0 i k)
      rw [← this]
      refine undoX_pt _ _ _ ?_
      show conv S (if 0 = 0 ∧ k = q then v else sv S 0 k) = conv S (sv S 0 k)
      rw [if_neg (fun z => hno i hi k hk z.2)]
  refine x_latest hX (by omega) (fun i hi _ => ⟨fun z => absurd z (by simp), fun x9 e9 => ?_⟩) (fun hz0 _ => ⟨fun _ => ⟨A 0 7, g4, t1.1, fin ?_⟩, fun x9 e9 => absurd e9 (by simp)⟩)
  rotate_left
  · exact decide_eq_false (fun z => z.1 hz0)
  cases e9
  have hrd := h4.2 i (by omega)
  have hbi := hbl i (by omega)
  refine ⟨h4.1 i (by omega), ?_⟩
  rw [hrd.2.2.2.2.1]
  have ei : s0 S 7 - 1 = i := by omega
  refine ⟨fun hle => ⟨A 0 7, g4, t1.1, fin (decide_eq_false (fun z => ?_))⟩, fun hle => ⟨A 0 8, g5, A 0 7, g4, t1.1, s_at t1 ha fun _ => ⟨t2.1, c, z, Nat.le_refl _, Nat.le_refl _, ?_⟩⟩⟩
  · rw [ei] at z
    exact absurd hle (nI_ge z.2 (by omega))
  have hlt : q < s1 S 11 (s1 S 15 i) := by
    rcases Nat.lt_or_ge q (s1 S 11 (s1 S 15 i)) with r | r
    · exact r
    · exact absurd (nI_le r (by omega)) hle
  have hon : onT S q = true := decide_eq_true ⟨by omega, by rw [ei]; exact hlt⟩
  unfold eWr at hp hc hz
  rw [if_pos hon] at hp hc hz
  obtain ⟨u1, u2, u3, u4⟩ := eRow_U (E := E) (r := 1) (n := E 9) (by decide)
  have hc : UC (eRow E 1 (E 9)) ≤ UC E + c := hc
  have hz : UZ (eRow E 1 (E 9)) ≤ UZ E + z := hz
  refine x_push t2 (by omega) ?_ (by omega) (fun μ1 it' hl1 ho1 hit ha1 _ => ?_)
  · rw [t4]
    by_cases r : E 9 < E 1
    · exact Or.inl r
    · obtain ⟨y1, y2⟩ := u3 r
      exact Or.inr ⟨by omega, by omega⟩
  -- the trail has one more
  have kit : kd μ1 it' = 103 := hl1.2.2.1
  have km1 := ho1.1
  obtain ⟨A', nm', hA', hN', hL', hA0, hAn⟩ : ∃ A' nm', A' 0 18 = it' ∧ RN nm' A' S E ∧ LV μ1 A' S E ∧ (∀ k l, ¬ (k = 0 ∧ l = 18) → A' k l = A k l) ∧ ∀ b, kd μ b ≠ 0 → nm' b = nm b := by
    rcases hit with r | r
    · exact ⟨A, nm, r.symm, hN, hL.km km1, fun _ _ _ => rfl, fun _ _ => rfl⟩
    · obtain ⟨x1, x2⟩ := RN.mv (j := 18) hN hL r (by omega) km1
      exact ⟨upA A 0 18 it', upN nm it' (0, 18), upA_n, x1, x2, fun k l hk => upA_o hk, fun b hb => if_neg (show ¬ b = it' from fun e => hb (by rw [e]; exact r))⟩
  have a0 : ∀ l, l ≠ 18 → A' 0 l = A 0 l := fun l hl => hA0 0 l (fun z => hl z.2)
  have a1' : ∀ l, A' 1 l = A 1 l := fun l => hA0 1 l (fun z => absurd z.1 (by decide))
  have a2' : ∀ l, A' 2 l = A 2 l := fun l => hA0 2 l (fun z => absurd z.1 (by decide))
  have a3' : ∀ l, A' 3 l = A 3 l := fun l => hA0 3 l (fun z => absurd z.1 (by decide))
  have a4' : ∀ l, A' 4 l = A 4 l := fun l => hA0 4 l (fun z => absurd z.1 (by decide))
  have no : ∀ l, l < 24 → l ≠ 8 → l ≠ 18 → ¬ (A 0 l = A 0 8 ∨ A 0 l = A 0 18) := fun l hl x y z => by
    rcases z with z | z
    · exact ne l 8 hl (by decide) x z
    · exact ne l 18 hl (by decide) y z
  have x1 := h1.off ho1 (no 2 (by decide) (by decide) (by decide))
  have x2 := h2.off ho1 (no 5 (by decide) (by decide) (by decide)) (no 6 (by decide) (by decide) (by decide)) (no 15 (by decide) (by decide) (by decide)) (no 16 (by decide) (by decide) (by decide))
  have x3 := h3.off ho1 e5 (fun l hl z => by rcases z with z | z; exact n1 l 8 hl (by decide) z; exact n1 l 18 hl (by decide) z)
  have x4 := h4.off ho1 e7 (fun l hl z => by rcases z with z | z; exact n2 l 8 hl (by decide) z; exact n2 l 18 hl (by decide) z)
  have xv := t1.off ho1 (no 7 (by decide) (by decide) (by decide)) (no 17 (by decide) (by decide) (by decide))
  have al17 : al μ1 (A 0 17) = E 0 := by rw [(ho1.2.2 _ (by have := t1.2.2.1; omega) (no 17 (by decide) (by decide) (by decide))).2.2.1]; exact t3
  refine ⟨A 0 7, x1.2.2.2.1, xv.1, x_set xv ha (fun μ2 hl2 ho2 ha2 _ => ?_)⟩
  have n17 : ∀ l, l < 24 → l ≠ 17 → ¬ A 0 l = A 0 17 := fun l hl x => ne l 17 hl (by decide) x
  have y1 := x1.off ho2 (n17 2 (by decide) (by decide))
  have y2 := x2.off ho2 (n17 5 (by decide) (by decide)) (n17 6 (by decide) (by decide)) (n17 15 (by decide) (by decide)) (n17 16 (by decide) (by decide))
  have y3 := x3.off ho2 e5 (fun l hl => n1 l 17 hl (by decide))
  have y4 := x4.off ho2 e7 (fun l hl => n2 l 17 hl (by decide))
  have it17 : ¬ it' = A 0 17 := by
    rcases hit with r | r
    · rw [r]; exact n17 18 (by decide) (by decide)
    · intro e; rw [e] at r; have := t1.2.2.1; omega
  have yt := hl1.off ho2 (n17 8 (by decide) (by decide)) it17
  refine hp μ2 A' nm' ⟨hN', hL'.km ho2.1, ?_, ?_, ⟨fun l hl => ?_, fun l hl => ?_⟩, va_up tp (E 9) q, va_up tv (E 9) (conv S (sv S 0 q)), va_up tq (E 9) ((conv S (sv S 0 q) <<< (Int32.toInt64 16 &&& 63)) ||| (nI q).toInt64), ⟨fun l hl => ?_, fun l hl => ?_⟩, ⟨?_, ?_, ?_, ?_, t5, ?_, fun m hm => ?_, t8, fun l hl => ?_⟩⟩ ⟨?_, fun k l hg => ?_, fun l _ => a1' l, fun l _ => a2' l, fun l hl => a0 l (by omega), hAn⟩
  · unfold XK1 at y1 ⊢
    rw [a0 2 (by decide), a0 5 (by decide), a0 6 (by decide), a0 7 (by decide), a0 8 (by decide)]
    exact y1
  · unfold XK2 at y2 ⊢
    rw [a0 5 (by decide), a0 15 (by decide), a0 6 (by decide), a0 16 (by decide), show A' 1 = A 1 from funext a1', show A' 2 = A 2 from funext a2']
    exact y2
  · rw [a1' l]; exact y3.1 l hl
  · have := y3.2 l hl
    unfold XF at this ⊢
    rw [a1' l, a3']
    refine ⟨this.1, this.2.1, this.2.2.1, this.2.2.2.1, fun u hu => ?_⟩
    rw [a1' u, a4']
    exact this.2.2.2.2 u hu
  · rw [a2' l]; exact y4.1 l hl
  · have := y4.2 l hl
    unfold XR at this ⊢
    rw [a2' l, a1']
    exact this
  · rw [a0 7 (by decide), a0 17 (by decide)]
    refine hl2.congr (fun i hi => ?_)
    show conv S (if 0 = 0 ∧ i = q then v else sv S 0 i) = va_up (fun k => conv S (sv S 0 k)) q (conv S v) i
    by_cases e : i = q
    · simp [va_up, e]
    · simp [va_up, e]
  · rw [a0 8 (by decide), hA']
    exact yt
  · rw [a0 17 (by decide)]
    show al μ2 (A 0 17) = E 0
    rw [ha2]; exact al17
  · rw [hA']
    show al μ2 it' = (if E 9 < E 1 then E 1 else 2 * E 1)
    rw [(ho2.2.2 it' (by omega) it17).2.2.1, ha1, t4]
  · show 32 ≤ (if E 9 < E 1 then E 1 else 2 * E 1)
    split <;> omega
  · have hm : m < E 9 + 1 := hm
    by_cases e : m = E 9
    · subst e
      show decT (if E 9 = E 9 then _ else tq (E 9)) (if E 9 = E 9 then q else _) (if E 9 = E 9 then _ else _)
      rw [if_pos rfl, if_pos rfl, if_pos rfl]
      exact decT_enc hrng.1 hrng.2 (by omega)
    · show decT (if m = E 9 then _ else tq m) (if m = E 9 then q else tp m) (if m = E 9 then _ else tv m)
      rw [if_neg e, if_neg e, if_neg e]
      exact t7 m (by omega)
  · have hl : l < s0 S 7 := hl
    obtain ⟨b1, b2⟩ := t9 l hl
    refine ⟨by show tt l ≤ E 9 + 1; omega, fun k hk => ?_⟩
    have hk : k < s1 S 11 (s1 S 15 l) := hk
    rw [show sw (uv S 0 q v) 0 l k = sw S 0 l k from rfl, show conv (uv S 0 q v) (sw S 0 l k) = conv S (sw S 0 l k) from rfl, ← b2 k hk]
    show undoX (va_up tp (E 9) q) (va_up tv (E 9) (conv S (sv S 0 q))) (tt l) (E 9 + 1 - tt l) (fun k => conv S (if 0 = 0 ∧ k = q then v else sv S 0 k)) k = _
    rw [show E 9 + 1 - tt l = (E 9 - tt l) + 1 by omega]
    show undoX (va_up tp (E 9) q) (va_up tv (E 9) (conv S (sv S 0 q))) (tt l) (E 9 - tt l) (va_up (fun k => conv S (if 0 = 0 ∧ k = q then v else sv S 0 k)) (va_up tp (E 9) q (tt l + (E 9 - tt l))) (va_up tv (E 9) (conv S (sv S 0 q)) (tt l + (E 9 - tt l)))) k = _
    rw [show tt l + (E 9 - tt l) = E 9 by omega, show va_up tp (E 9) q (E 9) = q from if_pos rfl, show va_up tv (E 9) (conv S (sv S 0 q)) (E 9) = conv S (sv S 0 q) from if_pos rfl]
    rw [undoX_congr (tp' := va_up tp (E 9) q) (tv' := va_up tv (E 9) (conv S (sv S 0 q))) (tp := tp) (tv := tv) (n := tt l) (E 9 - tt l) _ (fun m hm => ⟨if_neg (show ¬ m = E 9 by omega), if_neg (show ¬ m = E 9 by omega)⟩)]
    refine undoX_pt _ _ _ ?_
    show (if k = q then conv S (sv S 0 q) else conv S (if 0 = 0 ∧ k = q then v else sv S 0 k)) = conv S (sv S 0 k)
    by_cases e : k = q
    · rw [if_pos e, e]
    · rw [if_neg e, if_neg (fun z => e z.2)]
  · refine (ho1.sub (fun b hb hb2 => ?_)).tr (ho2.sub (fun b hb hb2 => ?_))
    · exact K_of2 hN b hb (by rcases hb2 with r | r; exact Or.inr (Or.inr (Or.inl r)); exact Or.inr (Or.inr (Or.inr (Or.inr r))))
    · exact K_of2 (μ := μ) hN b (by rw [hb2]; have := t1.2.2.1; omega) (by omega)
  · exact hA0 k l (fun z => hg (by rw [z.1, z.2]; exact Or.inl ⟨rfl, by show 18 = 2 ∨ _; omega⟩))
