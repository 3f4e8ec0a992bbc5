/-! the class's engine: stack, heap and program together -/
def Pq (S S' : Sp) : Prop := s0 S' 1 = s0 S 1 ∧ s0 S' 2 = s0 S 2 ∧ (∀ k, k ≤ 6 → s1 S' k = s1 S k) ∧ s2 S' = s2 S ∧ si S' = si S
theorem Pq.rf {S : Sp} : Pq S S := ⟨rfl, rfl, fun _ _ => rfl, rfl, rfl⟩
theorem Pq.tr {S S1 S2 : Sp} (h : Pq S S1) (h' : Pq S1 S2) : Pq S S2 := ⟨h'.1.trans h.1, h'.2.1.trans h.2.1, fun k hk => (h'.2.2.1 k hk).trans (h.2.2.1 k hk), h'.2.2.2.1.trans h.2.2.2.1, h'.2.2.2.2.trans h.2.2.2.2⟩
theorem XP.pq {μ : Mem} {A : Ad} {S S' : Sp} (h : XP μ A S) (hq : Pq S S') : XP μ A S' := by
  obtain ⟨q1, q2, q3, q4, q5⟩ := hq
  unfold XP XQ XI sa at h ⊢
  rw [q1, q2, q3 0 (by decide), q3 1 (by decide), q3 2 (by decide), q3 3 (by decide), q3 4 (by decide), q3 5 (by decide), q3 6 (by decide), q4, q5]
  exact h
theorem RN.pq {nm : Nat → Nat × Nat} {A : Ad} {S S' : Sp} {E E' : Nat → Nat} (h : RN nm A S E) (h1 : s0 S' 1 = s0 S 1) (h2 : s0 S' 2 = s0 S 2) (e5 : E' 5 = E 5) (e7 : E' 7 = E 7) (h4 : s1 S' 4 = s1 S 4 := by rfl) : RN nm A S' E' := by
  unfold RN Us at h ⊢
  rw [h1, h2, e5, e7, h4]
  exact h
theorem LV.pq {μ : Mem} {A : Ad} {S S' : Sp} {E E' : Nat → Nat} (h : LV μ A S E) (h1 : s0 S' 1 = s0 S 1) (h2 : s0 S' 2 = s0 S 2) (e5 : E' 5 = E 5) (e7 : E' 7 = E 7) (h4 : s1 S' 4 = s1 S 4 := by rfl) : LV μ A S' E' := by
  unfold LV Us at h ⊢
  rw [h1, h2, e5, e7, h4]
  exact h
def XEc (μ : Mem) (A : Ad) : Prop := kd μ (A 0 1) = 3 ∧ fr μ 2 0 (A 0 1) = some (A 0 2) ∧ fr μ 2 1 (A 0 1) = some (A 0 3)
def XHt (μ : Mem) (A : Ad) (S : Sp) (E : Nat → Nat) : Prop := s0 S 5 ≤ s0 S 12 ∧ ∃ w n u, XHm μ A S E (s0 S 12) (s0 S 5) w n u ∧ HW S w
def Hq (S S' : Sp) (E E' : Nat → Nat) : Prop := s0 S' 3 = s0 S 3 ∧ s0 S' 5 = s0 S 5 ∧ s0 S' 12 = s0 S 12 ∧ s0 S' 15 = s0 S 15 ∧ s1 S' 7 = s1 S 7 ∧ s1 S' 8 = s1 S 8 ∧ s1 S' 9 = s1 S 9 ∧ sv S' 1 = sv S 1 ∧ E' 2 = E 2 ∧ E' 3 = E 3
theorem XHt.cg {μ : Mem} {A : Ad} {S S' : Sp} {E E' : Nat → Nat} (h : XHt μ A S E) (hq : Hq S S' E E') : XHt μ A S' E' := by
  obtain ⟨q1, q2, q3, q4, q5, q6, q7, q8, q9, q10⟩ := hq
  unfold XHt XHm HW conv cellX plc hpS at h ⊢
  rw [q1, q2, q3, q4, q5, q6, q7, q8, q9, q10]
  exact h
def XG (μ : Mem) (A : Ad) (nm : Nat → Nat × Nat) (S : Sp) (E tt : Nat → Nat) : Prop := RN nm A S E ∧ LV μ A S E ∧ XKt μ A S E tt ∧ XHt μ A S E ∧ XP μ A S ∧ XEc μ A
def XV (μ : Mem) (A : Ad) (st steps sols : Int32) (wk : Option Nat) (nx : Int32) : Prop := fi μ 2 2 (A 0 1) = st ∧ fi μ 2 3 (A 0 1) = steps ∧ fi μ 2 4 (A 0 1) = sols ∧ fr μ 2 5 (A 0 1) = wk ∧ fi μ 2 6 (A 0 1) = nx
def gE (q : Nat × Nat) : Prop := gK q ∨ gH q ∨ q = (0, 1)
theorem St.mono {G G' : Nat × Nat → Prop} {E : Nat → Nat} {μ μ' : Mem} {A A' : Ad} {nm nm' : Nat → Nat × Nat} (h : St G E μ A nm μ' A' nm') (hG : ∀ q, G q → G' q) : St G' E μ A nm μ' A' nm' :=
  ⟨h.1.sub (fun a _ ha => hG _ ha), fun k j hg => h.2.1 k j (fun q => hg (hG _ q)), h.2.2.1, h.2.2.2.1, h.2.2.2.2.1, h.2.2.2.2.2⟩
theorem St.km {G : Nat × Nat → Prop} {E : Nat → Nat} {μ μ' : Mem} {A A' : Ad} {nm nm' : Nat → Nat × Nat} (h : St G E μ A nm μ' A' nm') : KM μ μ' := h.1.1
theorem gK_n {j : Nat} (h : j = 0 ∨ j = 1 ∨ j = 3 ∨ j = 4 ∨ 9 ≤ j ∧ j ≤ 14 ∨ 19 ≤ j) : ¬ gK (0, j) := by
  rintro (⟨-, z⟩ | z | z)
  · have z : j = 2 ∨ j = 5 ∨ j = 6 ∨ j = 7 ∨ j = 8 ∨ j = 15 ∨ j = 16 ∨ j = 17 ∨ j = 18 := z
    omega
  · cases z
  · cases z
theorem gH_n {j : Nat} (h : ¬ (j = 3 ∨ j = 9 ∨ j = 10 ∨ j = 19 ∨ j = 20)) : ¬ gH (0, j) := fun z => h z.2
theorem gH_k {k j : Nat} (h : 1 ≤ k) : ¬ gH (k, j) := fun z => by have : k = 0 := z.1; omega
theorem gP_k {q : Nat × Nat} (h : gP q) : ¬ gK q := by
  rintro (⟨z1, z⟩ | z | z)
  · rcases h with ⟨-, r⟩ | r <;> omega
  · rcases h with ⟨r, -⟩ | r <;> omega
  · rcases h with ⟨r, -⟩ | r <;> omega
theorem gP_h {q : Nat × Nat} (h : gP q) : ¬ gH q := by
  rintro ⟨z1, z⟩
  rcases h with ⟨-, r⟩ | r <;> omega
theorem gP_0 {q : Nat × Nat} (h : gP q) : ¬ q = (0, 1) := by
  intro z
  subst z
  rcases h with ⟨-, r⟩ | r
  · have r : (1 : Nat) = 13 ∨ (1 : Nat) = 23 := r
    omega
  · have r : (3 : Nat) ≤ 0 := r
    omega
/-- the program stays -/
theorem XP.st {G : Nat × Nat → Prop} {nm nm' : Nat → Nat × Nat} {μ μ' : Mem} {A A' : Ad} {S : Sp} {E : Nat → Nat} (h : XP μ A S) (hN : RN nm A S E) (hs : St G E μ A nm μ' A' nm') (hG : ∀ q, gP q → ¬ G q) : XP μ' A' S := by
  have h1 := h.off hN hs.1 (fun a ha => hG _ ha)
  have a13 : A' 0 13 = A 0 13 := hs.2.1 0 13 (hG _ (Or.inl ⟨rfl, Or.inl rfl⟩))
  have a23 : A' 0 23 = A 0 23 := hs.2.1 0 23 (hG _ (Or.inl ⟨rfl, Or.inr rfl⟩))
  have ak : ∀ k, 3 ≤ k → A' k = A k := fun k hk => funext fun j => hs.2.1 k j (hG _ (Or.inr hk))
  unfold XP XQ XI at h1 ⊢
  rw [a13, a23, ak 3 (by decide), ak 4 (by decide), ak 5 (by decide), ak 6 (by decide), ak 7 (by decide), ak 8 (by decide)]
  exact h1
theorem XEc.st {G : Nat × Nat → Prop} {nm nm' : Nat → Nat × Nat} {μ μ' : Mem} {A A' : Ad} {S : Sp} {E : Nat → Nat} (h : XEc μ A) (hN : RN nm A S E) (hs : St G E μ A nm μ' A' nm') (hG : ¬ G (0, 1)) : XEc μ' A' := by
  obtain ⟨g1, g2, g3⟩ := h
  have a := hs.2.2.2.2.1
  obtain ⟨-, q2, -⟩ := hs.1.2.2 (A 0 1) (by omega) (by show ¬ G (nm (A 0 1)); rw [hN 0 1 (Us0 (by decide))]; exact hG)
  unfold XEc
  rw [a 1 (by decide), a 2 (by decide), a 3 (by decide), q2, q2]
  exact ⟨hs.1.kd g1, g2, g3⟩
theorem XV.st {G : Nat × Nat → Prop} {nm nm' : Nat → Nat × Nat} {μ μ' : Mem} {A A' : Ad} {S : Sp} {E : Nat → Nat} {st steps sols nx : Int32} {wk : Option Nat} (h : XV μ A st steps sols wk nx) (hk : kd μ (A 0 1) = 3) (hN : RN nm A S E) (hs : St G E μ A nm μ' A' nm') (hG : ¬ G (0, 1)) : XV μ' A' st steps sols wk nx := by
  obtain ⟨q1, q2, -⟩ := hs.1.2.2 (A 0 1) (by omega) (by show ¬ G (nm (A 0 1)); rw [hN 0 1 (Us0 (by decide))]; exact hG)
  unfold XV at h ⊢
  rw [hs.2.2.2.2.1 1 (by decide), q1, q1, q1, q1, q2]
  exact h
theorem XHt.st {nm nm' : Nat → Nat × Nat} {μ μ' : Mem} {A A' : Ad} {S : Sp} {E : Nat → Nat} (h : XHt μ A S E) (hN : RN nm A S E) (hs : St gK E μ A nm μ' A' nm') : XHt μ' A' S E := by
  obtain ⟨h0, w, n, u, h1, h2⟩ := h
  have h3 := h1.off hs.1 (fun j hj => by rw [hN 0 j (Us0 (by omega))]; exact gK_n (by omega))
  have a : ∀ j, j = 3 ∨ j = 9 ∨ j = 10 ∨ j = 19 ∨ j = 20 → A' 0 j = A 0 j := fun j hj => hs.2.1 0 j (gK_n (by omega))
  refine ⟨h0, w, n, u, ?_, h2⟩
  unfold XHm at h3 ⊢
  rw [a 3 (by omega), a 9 (by omega), a 10 (by omega), a 19 (by omega), a 20 (by omega)]
  exact h3
theorem XKt.st {nm nm' : Nat → Nat × Nat} {μ μ' : Mem} {A A' : Ad} {S : Sp} {E E' tt : Nat → Nat} (h : XKt μ A S E tt) (hN : RN nm A S E) (hs : St gH E μ A nm μ' A' nm') (e0 : E' 0 = E 0) (e1 : E' 1 = E 1) (e5 : E' 5 = E 5) (e6 : E' 6 = E 6) (e7 : E' 7 = E 7) (e8 : E' 8 = E 8) (e9 : E' 9 = E 9) : XKt μ' A' S E' tt := by
  obtain ⟨h1, h2, h3, tp, tv, tq, h4, h5⟩ := h
  have n0 : ∀ j, j < 24 → ¬ (j = 3 ∨ j = 9 ∨ j = 10 ∨ j = 19 ∨ j = 20) → ¬ gH (nm (A 0 j)) := fun j hj hd => by rw [hN 0 j (Us0 hj)]; exact gH_n hd
  have x1 := h1.off hs.1 (n0 2 (by decide) (by omega))
  have x2 := h2.off hs.1 (n0 5 (by decide) (by omega)) (n0 6 (by decide) (by omega)) (n0 15 (by decide) (by omega)) (n0 16 (by decide) (by omega))
  have x3 := h3.off hs.1 h2.2.2.2.2.1 (fun j hj => by rw [hN 1 j (Us1 hj)]; exact gH_k (by decide))
  have x4 := h4.off hs.1 h2.2.2.2.2.2 (fun j hj => by rw [hN 2 j (Us2 hj)]; exact gH_k (by decide))
  have x5 := h5.off hs.1 (n0 7 (by decide) (by omega)) (n0 8 (by decide) (by omega)) (n0 17 (by decide) (by omega)) (n0 18 (by decide) (by omega))
  have a : ∀ j, ¬ (j = 3 ∨ j = 9 ∨ j = 10 ∨ j = 19 ∨ j = 20) → A' 0 j = A 0 j := fun j hd => hs.2.1 0 j (gH_n hd)
  have ak : ∀ k, 1 ≤ k → A' k = A k := fun k hk => funext fun j => hs.2.1 k j (gH_k hk)
  unfold XKt XK1 XK2 XK3 XF
  unfold XK4 XR XK5
  rw [a 2 (by omega), a 5 (by omega), a 6 (by omega), a 7 (by omega), a 8 (by omega), a 15 (by omega), a 16 (by omega), a 17 (by omega), a 18 (by omega), ak 1 (by decide), ak 2 (by decide), ak 3 (by decide), ak 4 (by decide), e0, e1, e5, e6, e7, e8, e9]
  exact ⟨x1, x2, x3, tp, tv, tq, x4, x5⟩
/-- behind a change of the stack -/
theorem XG.k {nm nm' : Nat → Nat × Nat} {μ μ' : Mem} {A A' : Ad} {S S' : Sp} {E E' tt tt' : Nat → Nat} (h : XG μ A nm S E tt) (hs : St gK E μ A nm μ' A' nm') (hr : RXK μ' A' nm' S' E' tt') (hh : Hq S S' E E') (hp : Pq S S') : XG μ' A' nm' S' E' tt' := by
  obtain ⟨hN, hL, hK, hH, hP, hE⟩ := h
  exact ⟨hr.1, hr.2.1, hr.2.2, (hH.st hN hs).cg hh, (hP.st hN hs (fun q => gP_k)).pq hp, hE.st hN hs (gK_n (by omega))⟩
theorem XG.ne {nm : Nat → Nat × Nat} {μ : Mem} {A : Ad} {S : Sp} {E tt : Nat → Nat} (h : XG μ A nm S E tt) : RXK μ A nm S E tt := ⟨h.1, h.2.1, h.2.2.1⟩
theorem eWr_o {S : Sp} {E : Nat → Nat} {q r : Nat} (h1 : ¬ r = 1) (h9 : ¬ r = 9) : eWr S E q r = E r := by
  unfold eWr
  split
  · show (if r = 9 then _ else if r = 1 then _ else E r) = E r
    rw [if_neg h9, if_neg h1]
  · rfl
theorem eWr_U {S : Sp} {E : Nat → Nat} {q : Nat} : UC E ≤ UC (eWr S E q) ∧ UZ E ≤ UZ (eWr S E q) ∧ E 9 ≤ eWr S E q 9 ∧ eWr S E q 9 ≤ E 9 + 1 := by
  obtain ⟨u1, u2, -⟩ := eRow_U (E := E) (r := 1) (n := E 9) (by decide)
  unfold eWr
  split
  · exact ⟨u1, u2, by show E 9 ≤ E 9 + 1; omega, by show E 9 + 1 ≤ E 9 + 1; omega⟩
  · exact ⟨Nat.le_refl _, Nat.le_refl _, Nat.le_refl _, Nat.le_succ _⟩
theorem x_writeG {nm : Nat → Nat × Nat} {μ : Mem} {A : Ad} {S : Sp} {E tt : Nat → Nat} {j a c z : Nat} {v : Int64} {post : Mem → Prop} (h : XG μ A nm S E tt) (hW : WF S) (hj : j < s0 S 6) (ha : a < s1 S 1 (s1 S 10 j)) (h9 : E 9 < 262143)
    (hc : UC (eWr S E (s1 S 11 j + a)) ≤ UC E + c) (hz : UZ (eWr S E (s1 S 11 j + a)) ≤ UZ E + z)
    (hp : ∀ μ' A' nm', XG μ' A' nm' (uv S 0 (s1 S 11 j + a) v) (eWr S E (s1 S 11 j + a)) tt → St gK E μ A nm μ' A' nm' → post μ') : wp_X7_write c z μ (A 0 2) (A 1 j) (nI a) (conv S v) post := by
  obtain ⟨P, C, hB, hT, hV, hNm⟩ := id hW
  have hpl := WF.sl hB hj ha
  have hszd : szS S = s1 S 11 (s0 S 6) + 2 * s0 S 6 + 3 * s0 S 7 := rfl
  have hsz := hB.2.1
  have hc3 : s0 S 3 ≤ 20000 := by have := C.1; have := hNm.2.2.1; omega
  refine x_write h.ne hj hpl (by omega) (by omega) (fun i hi => WF.bl hB (hT.1.2 i hi) (Nat.le_refl _)) (fun i hi => WF.bl hB ?_ (hT.1.2 _ (by omega))) h9 (conv_rng C hNm.2.2.2.2 hc3 (hV _ hpl)) hc hz (fun μ' A' nm' hr hs => hp μ' A' nm' (h.k hs hr ⟨rfl, rfl, rfl, rfl, rfl, rfl, rfl, rfl, eWr_o (by decide) (by decide), eWr_o (by decide) (by decide)⟩ Pq.rf) hs)
  rcases Nat.lt_or_ge i (s0 S 7 - 1) with q | q
  · exact hT.1.1 i _ q (by omega)
  · rw [show i = s0 S 7 - 1 by omega]; exact Nat.le_refl _
theorem x_readG {nm : Nat → Nat × Nat} {μ : Mem} {A : Ad} {S : Sp} {E tt : Nat → Nat} {j a : Nat} {post : Int64 → Mem → Prop} (h : XG μ A nm S E tt) (hW : WF S) (hj : j < s0 S 6) (ha : a < s1 S 1 (s1 S 10 j)) (hp : post (conv S (sv S 0 (s1 S 11 j + a))) μ) : wp_X7_read μ (A 0 2) (A 1 j) (nI a) post := by
  obtain ⟨h1, h2, h3, tp, tv, tq, h4, h5⟩ := h.2.2.1
  exact x_read ⟨h1, h2, h3, h4, h5⟩ hj (WF.sl hW.2.2.1 hj ha) hp
theorem x_become {nm : Nat → Nat × Nat} {μ : Mem} {A : Ad} {S : Sp} {E tt : Nat → Nat} {j a c z : Nat} {v : Int64} {post : Int32 → Mem → Prop} (h : XG μ A nm S E tt) (hW : WF S) (hj : j < s0 S 6) (ha : a < s1 S 1 (s1 S 10 j)) (h9 : E 9 < 262143)
    (hc : UC (eWr S E (s1 S 11 j + a)) ≤ UC E + c) (hz : UZ (eWr S E (s1 S 11 j + a)) ≤ UZ E + z)
    (hp : ∀ μ' A' nm', XG μ' A' nm' (uv S 0 (s1 S 11 j + a) v) (eWr S E (s1 S 11 j + a)) tt → St gK E μ A nm μ' A' nm' → post 0 μ') : wp_X0_become c z μ (A 0 1) (A 1 j) (nI a) (conv S v) post :=
  ⟨h.2.2.2.2.2.1, A 0 2, h.2.2.2.2.2.2.1, h.2.2.1.1.1, c, z, Nat.le_refl _, Nat.le_refl _, x_writeG h hW hj ha h9 hc hz (fun μ' A' nm' x y _ => hp μ' A' nm' x y)⟩
