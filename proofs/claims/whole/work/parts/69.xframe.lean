/-! the class pushes a frame -/
/-- the stack, while its row of values has m -/
def XKm (μ : Mem) (A : Ad) (S : Sp) (E tt tp : Nat → Nat) (tv tq : Nat → Int64) (m : Nat) : Prop := XK1 μ A S ∧ XK2 μ A S E ∧ XK3 μ A S E ∧ XK4 μ A S E tt ∧ LR μ (A 0 7) (A 0 17) m (fun k => conv S (sv S 0 k)) ∧ LR μ (A 0 8) (A 0 18) (E 9) tq ∧ al μ (A 0 17) = E 0 ∧ al μ (A 0 18) = E 1 ∧ 32 ≤ E 0 ∧ 32 ≤ E 1 ∧
  (∀ n, n < E 9 → decT (tq n) (tp n) (tv n)) ∧ (∀ i j, i < j → j < s0 S 7 → tt i ≤ tt j) ∧ (∀ i, i < s0 S 7 → tt i ≤ E 9 ∧ ∀ k, k < s1 S 11 (s1 S 15 i) → undoX tp tv (tt i) (E 9 - tt i) (fun k => conv S (sv S 0 k)) k = conv S (sw S 0 i k))
theorem x_pushV {nm : Nat → Nat × Nat} {μ : Mem} {A : Ad} {S : Sp} {E tt tp : Nat → Nat} {tv tq : Nat → Int64} {m c z : Nat} {v : Int64} {post : Mem → Prop} (hN : RN nm A S E) (hL : LV μ A S E) (h : XKm μ A S E tt tp tv tq m) (hm : m < 262144) (hv : conv S (sv S 0 m) = v)
    (hc : UC (eRow E 0 m) ≤ UC E + c) (hz : UZ (eRow E 0 m) ≤ UZ E + z)
    (hp : ∀ μ' A' nm', RN nm' A' S (eRow E 0 m) → LV μ' A' S (eRow E 0 m) → XKm μ' A' S (eRow E 0 m) tt tp tv tq (m + 1) → St gK E μ A nm μ' A' nm' → post μ') : wp_X4_push c z μ (A 0 7) v post := by
  obtain ⟨h1, h2, h3, h4, t1, t2, t3, t4, t5, t6, t7, t8, t9⟩ := id h
  have e5 : s0 S 6 ≤ E 5 := h2.2.2.2.2.1
  have e7 : s0 S 7 ≤ E 7 := h2.2.2.2.2.2
  obtain ⟨u1, u2, u3, u4⟩ := eRow_U (E := E) (r := 0) (n := m) (by decide)
  have ne : ∀ i k, i < 24 → k < 24 → i ≠ k → ¬ A 0 i = A 0 k := fun i k hi hk hd => hN.ne (Us0 hi) (Us0 hk) (fun z => hd z.2)
  have n1 : ∀ i k, i < E 5 → k < 24 → ¬ A 1 i = A 0 k := fun i k hi hk => hN.ne (Us1 hi) (Us0 hk) (fun z => absurd z.1 (by decide))
  have n2 : ∀ i k, i < E 7 → k < 24 → ¬ A 2 i = A 0 k := fun i k hi hk => hN.ne (Us2 hi) (Us0 hk) (fun z => absurd z.1 (by decide))
  refine x_push t1 hm ?_ (by omega) (fun μ1 it' hl1 ho1 hit ha1 => ?_)
  · rw [t3]
    by_cases r : m < E 0
    · exact Or.inl r
    · obtain ⟨y1, y2⟩ := u3 r
      exact Or.inr ⟨by omega, by omega⟩
  have kit : kd μ1 it' = 103 := hl1.2.2.1
  have km1 := ho1.1
  have hN0 : RN nm A S (eRow E 0 m) := hN
  have hL0 : LV μ A S (eRow E 0 m) := hL
  obtain ⟨A', nm', hA', hN', hL', hA0, hAn⟩ : ∃ A' nm', A' 0 17 = it' ∧ RN nm' A' S (eRow E 0 m) ∧ LV μ1 A' S (eRow E 0 m) ∧ (∀ k l, ¬ (k = 0 ∧ l = 17) → A' k l = A k l) ∧ ∀ b, kd μ b ≠ 0 → nm' b = nm b := by
    rcases hit with r | r
    · exact ⟨A, nm, r.symm, hN0, hL0.km km1, fun _ _ _ => rfl, fun _ _ => rfl⟩
    · obtain ⟨x1, x2⟩ := RN.mv (j := 17) hN0 hL0 r (by omega) km1
      exact ⟨upA A 0 17 it', upN nm it' (0, 17), upA_n, x1, x2, fun k l hk => upA_o hk, fun b hb => if_neg (show ¬ b = it' from fun e => hb (by rw [e]; exact r))⟩
  have a0 : ∀ l, l ≠ 17 → A' 0 l = A 0 l := fun l hl => hA0 0 l (fun z => hl z.2)
  have ah : ∀ k l, 1 ≤ k → A' k l = A k l := fun k l hk => hA0 k l (fun z => by omega)
  have no : ∀ l, l < 24 → l ≠ 7 → l ≠ 17 → ¬ (A 0 l = A 0 7 ∨ A 0 l = A 0 17) := fun l hl x y z => by
    rcases z with z | z
    · exact ne l 7 hl (by decide) x z
    · exact ne l 17 hl (by decide) y z
  have x1 := h1.off ho1 (no 2 (by decide) (by decide) (by decide))
  have x2 := h2.off ho1 (no 5 (by decide) (by decide) (by decide)) (no 6 (by decide) (by decide) (by decide)) (no 15 (by decide) (by decide) (by decide)) (no 16 (by decide) (by decide) (by decide))
  have x3 := h3.off ho1 e5 (fun l hl z => by rcases z with z | z; exact n1 l 7 hl (by decide) z; exact n1 l 17 hl (by decide) z)
  have x4 := h4.off ho1 e7 (fun l hl z => by rcases z with z | z; exact n2 l 7 hl (by decide) z; exact n2 l 17 hl (by decide) z)
  have xt := t2.off ho1 (no 8 (by decide) (by decide) (by decide)) (no 18 (by decide) (by decide) (by decide))
  have al18 : al μ1 (A 0 18) = E 1 := by rw [(ho1.2.2 _ (by have := t2.2.2.1; omega) (no 18 (by decide) (by decide) (by decide))).2.2.1]; exact t4
  refine hp μ1 A' nm' hN' hL' ⟨?_, ?_, ⟨fun l hl => ?_, fun l hl => ?_⟩, ⟨fun l hl => ?_, fun l hl => ?_⟩, ?_, ?_, ?_, ?_, ?_, t6, t7, t8, t9⟩ ⟨ho1.sub (fun b hb hb2 => K_of2 hN b hb (by rcases hb2 with r | r; exact Or.inr (Or.inl r); exact Or.inr (Or.inr (Or.inr (Or.inl r))))), fun k l hg => ?_, fun l _ => ah 1 l (by decide), fun l _ => ah 2 l (by decide), fun l hl => a0 l (by omega), hAn⟩
  · unfold XK1 at x1 ⊢
    rw [a0 2 (by decide), a0 5 (by decide), a0 6 (by decide), a0 7 (by decide), a0 8 (by decide)]
    exact x1
  · unfold XK2 at x2 ⊢
    rw [a0 5 (by decide), a0 15 (by decide), a0 6 (by decide), a0 16 (by decide), show A' 1 = A 1 from funext fun l => ah 1 l (by decide), show A' 2 = A 2 from funext fun l => ah 2 l (by decide)]
    exact x2
  · rw [ah 1 l (by decide)]; exact x3.1 l hl
  · have := x3.2 l hl
    unfold XF at this ⊢
    rw [ah 1 l (by decide), ah 3 _ (by decide)]
    refine ⟨this.1, this.2.1, this.2.2.1, this.2.2.2.1, fun u hu => ?_⟩
    rw [ah 1 u (by decide), ah 4 _ (by decide)]
    exact this.2.2.2.2 u hu
  · rw [ah 2 l (by decide)]; exact x4.1 l hl
  · have := x4.2 l hl
    unfold XR at this ⊢
    rw [ah 2 l (by decide), ah 1 _ (by decide)]
    exact this
  · rw [a0 7 (by decide), hA']
    refine hl1.congr (fun i hi => ?_)
    by_cases e : i = m
    · simp [va_up, e, hv]
    · simp [va_up, e]
  · rw [a0 8 (by decide), a0 18 (by decide)]; exact xt
  · rw [hA', ha1, t3]; rfl
  · rw [a0 18 (by decide)]; exact al18
  · show 32 ≤ (if m < E 0 then E 0 else 2 * E 0)
    split <;> omega
  · exact hA0 k l (fun z => hg (by rw [z.1, z.2]; exact Or.inl ⟨rfl, by show 17 = 2 ∨ _; omega⟩))
theorem gK_no {k j : Nat} (h : 3 ≤ k) : ¬ gK (k, j) := by
  rintro (z | z | z)
  · have : k = 0 := z.1
    omega
  · have : k = 1 := z
    omega
  · have : k = 2 := z
    omega
def eZ (E : Nat → Nat) (n : Nat) : Nat → (Nat → Nat)
  | 0 => E
  | k + 1 => eRow (eZ E n k) 0 (n + k)
theorem eZ_o {E : Nat → Nat} {n r : Nat} (hr : ¬ r = 0) : ∀ k, eZ E n k r = E r := by
  intro k
  induction k with
  | zero => rfl
  | succ k ih => exact (if_neg hr).trans ih
theorem eZ_U {E : Nat → Nat} {n : Nat} : ∀ k d, UC (eZ E n k) ≤ UC (eZ E n (k + d)) ∧ UZ (eZ E n k) ≤ UZ (eZ E n (k + d)) := by
  intro k d
  induction d with
  | zero => exact ⟨Nat.le_refl _, Nat.le_refl _⟩
  | succ d ih =>
    obtain ⟨a, b, -⟩ := eRow_U (E := eZ E n (k + d)) (r := 0) (n := n + (k + d)) (by decide)
    exact ⟨Nat.le_trans ih.1 a, Nat.le_trans ih.2 b⟩
theorem x_zeros {S : Sp} {E tt tp : Nat → Nat} {tv tq : Nat → Int64} {p b n pa fa : Nat} {post : Option Nat → Mem → Prop} (hp1 : p < s0 S 1) (hsl : s1 S 1 p = n) (hb : b + n ≤ 20000) (h0 : ∀ k, b ≤ k → sv S 0 k = 0) (hsz : szS S ≤ 20000) (hm11 : s0 S 11 < 2 ^ 31) (hend : s1 S 11 (s0 S 6) = b + n) :
    ∀ d k μ A nm c z, k + d = n → RN nm A S (eZ E b k) → LV μ A S (eZ E b k) → XKm μ A S (eZ E b k) tt tp tv tq (b + k) → kd μ (A 3 p) = 8 → fi μ 7 1 (A 3 p) = nI n → A 3 p = pa → UC (eZ E b n) ≤ UC (eZ E b k) + c → UZ (eZ E b n) ≤ UZ (eZ E b k) + z →
      (∀ μ' A' nm', RN nm' A' S (eZ E b n) → LV μ' A' S (eZ E b n) → XKx μ' A' (u0 S 11 (if s0 S 11 < szS S then szS S else s0 S 11)) (eZ E b n) tt tp tv tq → St gK (eZ E b k) μ A nm μ' A' nm' → post (some fa) μ') → wp_X7_pushFrame_103 (A 0 2) post (d + 1) c z μ pa fa (nI k) := by
  intro d
  induction d with
  | zero =>
    intro k μ A nm c z hk hN hL h k8 f7 hpa hc hz hp
    have ek : k = n := by omega
    subst ek
    rw [← hpa, wp_X7_pushFrame_103, f7]
    obtain ⟨h1, h2, h3, h4, t1, t2⟩ := id h
    refine ⟨k8, fun _ => ⟨h1.1, ?_⟩, fun q => absurd (nI_le (Nat.le_refl _) (by omega)) q⟩
    have hX : XKx μ A S (eZ E b k) tt tp tv tq := ⟨h1, h2, h3, h4, by rw [hend]; exact t1, t2⟩
    exact x_noteSize hX hN (by omega) hm11 (fun μ' h' ho _ => hp μ' A nm hN (hL.km ho.1) h' (St.of (ho.sub (fun a ha hb => K_of2 hN a ha (Or.inl hb)))))
  | succ d ih =>
    intro k μ A nm c z hk hN hL h k8 f7 hpa hc hz hp
    subst hpa
    rw [wp_X7_pushFrame_103, f7]
    obtain ⟨h1, h2, h3, h4, t1, t2⟩ := id h
    refine ⟨k8, fun q => absurd q (nI_ge (by omega) (by omega)), fun _ => ⟨h1.1, A 0 7, h1.2.2.2.1, t1.1, ?_⟩⟩
    obtain ⟨u1, u2⟩ := eZ_U (E := E) (n := b) k 1
    obtain ⟨w1, w2⟩ := eZ_U (E := E) (n := b) (k + 1) d
    rw [show k + 1 + d = n by omega] at w1 w2
    refine ⟨UC (eZ E b (k + 1)) - UC (eZ E b k), UZ (eZ E b (k + 1)) - UZ (eZ E b k), by omega, by omega, ?_⟩
    refine x_pushV hN hL h (by omega) (by rw [h0 _ (by omega)]; rfl) (show UC (eZ E b (k + 1)) ≤ _ by omega) (show UZ (eZ E b (k + 1)) ≤ _ by omega) (fun μ1 A1 nm1 hN1 hL1 h1' hst _ v81 e81 => ?_)
    rw [e81, nI_1]
    have r3 : A1 3 p = A 3 p := hst.2.1 3 p (gK_no (by decide))
    have n3 : ¬ gK (nm (A 3 p)) := by
      rw [hN 3 p (Or.inr (Or.inr (Or.inr (Or.inl ⟨Or.inl rfl, hp1⟩))))]
      exact gK_no (by decide)
    obtain ⟨q1, -⟩ := hst.1.2.2 (A 3 p) (by omega) n3
    have := ih (k + 1) μ1 A1 nm1 (c - (UC (eZ E b (k + 1)) - UC (eZ E b k))) (z - (UZ (eZ E b (k + 1)) - UZ (eZ E b k))) (by omega) hN1 hL1 h1' (by rw [r3]; exact hst.1.kd k8) (by rw [r3, q1]; exact f7) r3 (by omega) (by omega) (fun μ' A' nm' x1 x2 x3 x4 => hp μ' A' nm' x1 x2 x3 (hst.tr x4 (by rw [eZ_o (by decide), eZ_o (by decide)]; exact Nat.le_refl _) (by rw [eZ_o (by decide), eZ_o (by decide)]; exact Nat.le_refl _)))
    rw [hst.2.2.2.2.1 2 (by decide)] at this
    exact this
