/-! the class's heap -/
/-- the heap: g its greatest, m words w, n pending u -/
def XHm (μ : Mem) (A : Ad) (S : Sp) (E : Nat → Nat) (g m : Nat) (w : Nat → Int64) (n : Nat) (u : Nat → Int64) : Prop := kd μ (A 0 3) = 5 ∧ fr μ 4 0 (A 0 3) = some (A 0 9) ∧ fr μ 4 1 (A 0 3) = some (A 0 10) ∧ fi μ 4 2 (A 0 3) = nI (s0 S 15) ∧ fi μ 4 3 (A 0 3) = nI g ∧ al μ (A 0 19) = E 2 ∧ al μ (A 0 20) = E 3 ∧ 32 ≤ E 2 ∧ 32 ≤ E 3 ∧ LR μ (A 0 9) (A 0 19) m w ∧ LR μ (A 0 10) (A 0 20) n u
/-- the words of the cells -/
def HW (S : Sp) (w : Nat → Int64) : Prop := ∀ c k, c < s0 S 3 → k < s1 S 8 c → w (hpS S c + 1 + k) = conv S (sv S 1 (s1 S 9 c + k))
def RXH (μ : Mem) (A : Ad) (nm : Nat → Nat × Nat) (S : Sp) (E : Nat → Nat) : Prop := RN nm A S E ∧ LV μ A S E ∧ s0 S 5 ≤ s0 S 12 ∧ ∃ w n u, XHm μ A S E (s0 S 12) (s0 S 5) w n u ∧ HW S w
theorem XHm.off {D : Nat → Prop} {μ μ' : Mem} {A : Ad} {S : Sp} {E : Nat → Nat} {g m n : Nat} {w u : Nat → Int64} (h : XHm μ A S E g m w n u) (hf : Off D μ μ') (hD : ∀ j, j = 3 ∨ j = 9 ∨ j = 10 ∨ j = 19 ∨ j = 20 → ¬ D (A 0 j)) : XHm μ' A S E g m w n u := by
  obtain ⟨g1, g2, g3, g4, g5, g6, g7, g8, g9, l1, l3⟩ := h
  obtain ⟨a1, a2, -⟩ := hf.2.2 (A 0 3) (by omega) (hD 3 (by omega))
  obtain ⟨-, -, b3, -⟩ := hf.2.2 (A 0 19) (by have := l1.2.2.1; omega) (hD 19 (by omega))
  obtain ⟨-, -, c3, -⟩ := hf.2.2 (A 0 20) (by have := l3.2.2.1; omega) (hD 20 (by omega))
  refine ⟨hf.kd g1, ?_, ?_, ?_, ?_, ?_, ?_, g8, g9, l1.off hf (hD 9 (by omega)) (hD 19 (by omega)), l3.off hf (hD 10 (by omega)) (hD 20 (by omega))⟩
  · rw [a2]; exact g2
  · rw [a2]; exact g3
  · rw [a1]; exact g4
  · rw [a1]; exact g5
  · rw [b3]; exact g6
  · rw [c3]; exact g7
theorem gH_of {nm : Nat → Nat × Nat} {A : Ad} {S : Sp} {E : Nat → Nat} (hN : RN nm A S E) {j a : Nat} (hj : j = 3 ∨ j = 9 ∨ j = 10 ∨ j = 19 ∨ j = 20) (ha : a = A 0 j) : gH (nm a) := by
  rw [ha, hN 0 j (Us0 (by omega))]
  exact ⟨rfl, hj⟩
theorem x_pushW {nm : Nat → Nat × Nat} {μ : Mem} {A : Ad} {S : Sp} {E : Nat → Nat} {g m n c z : Nat} {w u : Nat → Int64} {v : Int64} {post : Mem → Prop} (hN : RN nm A S E) (hL : LV μ A S E) (h : XHm μ A S E g m w n u) (hm : m < 262144)
    (hc : UC (eRow E 2 m) ≤ UC E + c) (hz : UZ (eRow E 2 m) ≤ UZ E + z)
    (hp : ∀ μ' A' nm', RN nm' A' S (eRow E 2 m) → LV μ' A' S (eRow E 2 m) → XHm μ' A' S (eRow E 2 m) g (m + 1) (va_up w m v) n u → St gH E μ A nm μ' A' nm' → post μ') : wp_X4_push c z μ (A 0 9) v post := by
  obtain ⟨g1, g2, g3, g4, g5, g6, g7, g8, g9, l1, l3⟩ := id h
  obtain ⟨u1, u2, u3, u4⟩ := eRow_U (E := E) (r := 2) (n := m) (by decide)
  have ne : ∀ i k, i < 24 → k < 24 → i ≠ k → ¬ A 0 i = A 0 k := fun i k hi hk hd => hN.ne (Us0 hi) (Us0 hk) (fun z => hd z.2)
  refine x_push l1 hm ?_ (by omega) (fun μ1 it' hl1 ho1 hit ha1 => ?_)
  · rw [g6]
    by_cases r : m < E 2
    · exact Or.inl r
    · obtain ⟨y1, y2⟩ := u3 r
      exact Or.inr ⟨by omega, by omega⟩
  have kit : kd μ1 it' = 103 := hl1.2.2.1
  have km1 := ho1.1
  have hN0 : RN nm A S (eRow E 2 m) := hN
  have hL0 : LV μ A S (eRow E 2 m) := hL
  obtain ⟨A', nm', hA', hN', hL', hA0, hAn⟩ : ∃ A' nm', A' 0 19 = it' ∧ RN nm' A' S (eRow E 2 m) ∧ LV μ1 A' S (eRow E 2 m) ∧ (∀ k l, ¬ (k = 0 ∧ l = 19) → A' k l = A k l) ∧ ∀ b, kd μ b ≠ 0 → nm' b = nm b := by
    rcases hit with r | r
    · exact ⟨A, nm, r.symm, hN0, hL0.km km1, fun _ _ _ => rfl, fun _ _ => rfl⟩
    · obtain ⟨x1, x2⟩ := RN.mv (j := 19) hN0 hL0 r (by omega) km1
      exact ⟨upA A 0 19 it', upN nm it' (0, 19), upA_n, x1, x2, fun k l hk => upA_o hk, fun b hb => if_neg (show ¬ b = it' from fun e => hb (by rw [e]; exact r))⟩
  have a0 : ∀ l, l ≠ 19 → A' 0 l = A 0 l := fun l hl => hA0 0 l (fun z => hl z.2)
  have no : ∀ l, l < 24 → l ≠ 9 → l ≠ 19 → ¬ (A 0 l = A 0 9 ∨ A 0 l = A 0 19) := fun l hl x y z => by
    rcases z with z | z
    · exact ne l 9 hl (by decide) x z
    · exact ne l 19 hl (by decide) y z
  obtain ⟨q1, q2, -⟩ := ho1.2.2 (A 0 3) (by omega) (no 3 (by decide) (by decide) (by decide))
  refine hp μ1 A' nm' hN' hL' ⟨?_, ?_, ?_, ?_, ?_, ?_, ?_, ?_, g9, ?_, ?_⟩ ⟨ho1.sub (fun b hb hb2 => by rcases hb2 with r | r; exact gH_of hN (by omega) r; exact gH_of hN (by omega) r), fun k l hg => ?_, fun l _ => hA0 1 l (fun z => absurd z.1 (by decide)), fun l _ => hA0 2 l (fun z => absurd z.1 (by decide)), fun l hl => a0 l (by omega), hAn⟩
  · rw [a0 3 (by decide)]; exact ho1.kd g1
  · rw [a0 3 (by decide), a0 9 (by decide), q2]; exact g2
  · rw [a0 3 (by decide), a0 10 (by decide), q2]; exact g3
  · rw [a0 3 (by decide), q1]; exact g4
  · rw [a0 3 (by decide), q1]; exact g5
  · rw [hA', ha1, g6]; rfl
  · rw [a0 20 (by decide), (ho1.2.2 _ (by have := l3.2.2.1; omega) (no 20 (by decide) (by decide) (by decide))).2.2.1]; exact g7
  · show 32 ≤ (if m < E 2 then E 2 else 2 * E 2)
    split <;> omega
  · rw [a0 9 (by decide), hA']; exact hl1
  · rw [a0 10 (by decide), a0 20 (by decide)]; exact l3.off ho1 (no 10 (by decide) (by decide) (by decide)) (no 20 (by decide) (by decide) (by decide))
  · exact hA0 k l (fun z => hg (by rw [z.1, z.2]; exact ⟨rfl, by show 19 = 3 ∨ _; omega⟩))
theorem x_pushP {nm : Nat → Nat × Nat} {μ : Mem} {A : Ad} {S : Sp} {E : Nat → Nat} {g m n c z : Nat} {w u : Nat → Int64} {v : Int64} {post : Mem → Prop} (hN : RN nm A S E) (hL : LV μ A S E) (h : XHm μ A S E g m w n u) (hm : n < 262144)
    (hc : UC (eRow E 3 n) ≤ UC E + c) (hz : UZ (eRow E 3 n) ≤ UZ E + z)
    (hp : ∀ μ' A' nm', RN nm' A' S (eRow E 3 n) → LV μ' A' S (eRow E 3 n) → XHm μ' A' S (eRow E 3 n) g m w (n + 1) (va_up u n v) → St gH E μ A nm μ' A' nm' → post μ') : wp_X4_push c z μ (A 0 10) v post := by
  obtain ⟨g1, g2, g3, g4, g5, g6, g7, g8, g9, l1, l3⟩ := id h
  obtain ⟨u1, u2, u3, u4⟩ := eRow_U (E := E) (r := 3) (n := n) (by decide)
  have ne : ∀ i k, i < 24 → k < 24 → i ≠ k → ¬ A 0 i = A 0 k := fun i k hi hk hd => hN.ne (Us0 hi) (Us0 hk) (fun z => hd z.2)
  refine x_push l3 hm ?_ (by omega) (fun μ1 it' hl1 ho1 hit ha1 => ?_)
  · rw [g7]
    by_cases r : n < E 3
    · exact Or.inl r
    · obtain ⟨y1, y2⟩ := u3 r
      exact Or.inr ⟨by omega, by omega⟩
  have kit : kd μ1 it' = 103 := hl1.2.2.1
  have km1 := ho1.1
  have hN0 : RN nm A S (eRow E 3 n) := hN
  have hL0 : LV μ A S (eRow E 3 n) := hL
  obtain ⟨A', nm', hA', hN', hL', hA0, hAn⟩ : ∃ A' nm', A' 0 20 = it' ∧ RN nm' A' S (eRow E 3 n) ∧ LV μ1 A' S (eRow E 3 n) ∧ (∀ k l, ¬ (k = 0 ∧ l = 20) → A' k l = A k l) ∧ ∀ b, kd μ b ≠ 0 → nm' b = nm b := by
    rcases hit with r | r
    · exact ⟨A, nm, r.symm, hN0, hL0.km km1, fun _ _ _ => rfl, fun _ _ => rfl⟩
    · obtain ⟨x1, x2⟩ := RN.mv (j := 20) hN0 hL0 r (by omega) km1
      exact ⟨upA A 0 20 it', upN nm it' (0, 20), upA_n, x1, x2, fun k l hk => upA_o hk, fun b hb => if_neg (show ¬ b = it' from fun e => hb (by rw [e]; exact r))⟩
  have a0 : ∀ l, l ≠ 20 → A' 0 l = A 0 l := fun l hl => hA0 0 l (fun z => hl z.2)
  have no : ∀ l, l < 24 → l ≠ 10 → l ≠ 20 → ¬ (A 0 l = A 0 10 ∨ A 0 l = A 0 20) := fun l hl x y z => by
    rcases z with z | z
    · exact ne l 10 hl (by decide) x z
    · exact ne l 20 hl (by decide) y z
  obtain ⟨q1, q2, -⟩ := ho1.2.2 (A 0 3) (by omega) (no 3 (by decide) (by decide) (by decide))
  refine hp μ1 A' nm' hN' hL' ⟨?_, ?_, ?_, ?_, ?_, ?_, ?_, g8, ?_, ?_, ?_⟩ ⟨ho1.sub (fun b hb hb2 => by rcases hb2 with r | r; exact gH_of hN (by omega) r; exact gH_of hN (by omega) r), fun k l hg => ?_, fun l _ => hA0 1 l (fun z => absurd z.1 (by decide)), fun l _ => hA0 2 l (fun z => absurd z.1 (by decide)), fun l hl => a0 l (by omega), hAn⟩
  · rw [a0 3 (by decide)]; exact ho1.kd g1
  · rw [a0 3 (by decide), a0 9 (by decide), q2]; exact g2
  · rw [a0 3 (by decide), a0 10 (by decide), q2]; exact g3
  · rw [a0 3 (by decide), q1]; exact g4
  · rw [a0 3 (by decide), q1]; exact g5
  · rw [a0 19 (by decide), (ho1.2.2 _ (by have := l1.2.2.1; omega) (no 19 (by decide) (by decide) (by decide))).2.2.1]; exact g6
  · rw [hA', ha1, g7]; rfl
  · show 32 ≤ (if n < E 3 then E 3 else 2 * E 3)
    split <;> omega
  · rw [a0 9 (by decide), a0 19 (by decide)]; exact l1.off ho1 (no 9 (by decide) (by decide) (by decide)) (no 19 (by decide) (by decide) (by decide))
  · rw [a0 10 (by decide), hA']; exact hl1
  · exact hA0 k l (fun z => hg (by rw [z.1, z.2]; exact ⟨rfl, by show 20 = 3 ∨ _; omega⟩))
/-- a field of a cell -/
theorem x_field {μ : Mem} {A : Ad} {S : Sp} {E : Nat → Nat} {g m n c k : Nat} {w u : Nat → Int64} {post : Int64 → Mem → Prop} (h : XHm μ A S E g m w n u) (hW : HW S w) (hC : WC S) (hb : s0 S 15 ≤ 20000) (hm : m = s0 S 5) (hc : c < s0 S 3) (hk : k < s1 S 8 c) (hp : post (conv S (sv S 1 (s1 S 9 c + k))) μ) : wp_X2_field μ (A 0 3) (cellX S c) (nI k) post := by
  obtain ⟨g1, g2, g3, g4, g5, g6, g7, g8, g9, l1, l3⟩ := h
  obtain ⟨b1, b2, b3⟩ := hC.pb hb hc
  have hpl : plc S c = hpS S c := by unfold plc; rw [if_neg (by omega)]
  have hlt : hpS S c + 1 + k < m := by
    have := hpS_le (S := S) (c := c + 1) (e := s0 S 3) (by omega)
    have e1 : hpS S (c + 1) = hpS S c + (if s1 S 8 c = 0 then 0 else s1 S 8 c + 1) := rfl
    rw [if_neg (by omega)] at e1
    have := hC.2.2.1
    omega
  refine ⟨g1, A 0 9, g2, ?_⟩
  show KM μ μ → _
  intro _
  rw [cellX_mk, mkX_place b1 b2 b3, hpl, nI_1, nI_add]
  refine ⟨l1.1, s_at l1 hlt fun _ => ?_⟩
  rw [hW c k hc hk]; exact hp
theorem x_used {μ : Mem} {A : Ad} {S : Sp} {E : Nat → Nat} {g m n : Nat} {w u : Nat → Int64} {post : Int32 → Mem → Prop} (h : XHm μ A S E g m w n u) (hp : post (nI m) μ) : wp_X2_used μ (A 0 3) post :=
  ⟨h.1, A 0 9, h.2.1, h.2.2.2.2.2.2.2.2.2.1.1, s_size h.2.2.2.2.2.2.2.2.2.1 fun _ => hp⟩
theorem x_hgoBack {nm : Nat → Nat × Nat} {μ : Mem} {A : Ad} {S : Sp} {E : Nat → Nat} {g m n k : Nat} {w u : Nat → Int64} {post : Mem → Prop} (hN : RN nm A S E) (h : XHm μ A S E g m w n u) (hk : k ≤ m) (hp : ∀ μ', XHm μ' A S E g k w n u → Off (fun a => gH (nm a)) μ μ' → post μ') : wp_X2_goBackTo μ (A 0 3) (nI k) post := by
  obtain ⟨g1, g2, g3, g4, g5, g6, g7, g8, g9, l1, l3⟩ := id h
  have ne : ∀ i k, i < 24 → k < 24 → i ≠ k → ¬ A 0 i = A 0 k := fun i k hi hk hd => hN.ne (Us0 hi) (Us0 hk) (fun z => hd z.2)
  refine ⟨g1, A 0 9, g2, l1.1, x_shrink l1 hk (fun μ' hl ho ha _ => hp μ' ?_ (ho.sub (fun a _ hb => gH_of hN (by omega) hb)))⟩
  obtain ⟨q1, q2, -⟩ := ho.2.2 (A 0 3) (by omega) (ne 3 9 (by decide) (by decide) (by decide))
  exact ⟨ho.kd g1, by rw [q2]; exact g2, by rw [q2]; exact g3, by rw [q1]; exact g4, by rw [q1]; exact g5, ha.trans g6, by rw [(ho.2.2 _ (by have := l3.2.2.1; omega) (ne 20 9 (by decide) (by decide) (by decide))).2.2.1]; exact g7, g8, g9, hl, l3.off ho (ne 10 9 (by decide) (by decide) (by decide)) (ne 20 9 (by decide) (by decide) (by decide))⟩
theorem x_hhasRoom {μ : Mem} {A : Ad} {S : Sp} {E : Nat → Nat} {g m n f : Nat} {w u : Nat → Int64} {post : Int32 → Mem → Prop} (h : XHm μ A S E g m w n u) (hf : f ≤ 4) (hm : m ≤ 20000) (hl : s0 S 15 ≤ 20000) (hle : m ≤ s0 S 15) (hy : m + tkN f ≤ s0 S 15 → post 1 μ) (hn : ¬ m + tkN f ≤ s0 S 15 → post 0 μ) : wp_X2_hasRoom μ (A 0 3) (nI f) post := by
  obtain ⟨g1, g2, g3, g4, g5, g6, g7, g8, g9, l1, l3⟩ := id h
  refine ⟨fun hz => ?_, fun hz => ⟨g1, A 0 9, g2, l1.1, s_size l1 fun _ => ?_⟩⟩
  · have e : f = 0 := (nI_eq (by omega) (by decide)).mp hz
    refine hy ?_
    rw [tkN, if_pos e]; exact hle
  · have e : ¬ f = 0 := fun q => hz (by rw [q]; rfl)
    have et : tkN f = f + 1 := by rw [tkN, if_neg e]
    rw [et] at hy hn
    rw [g4, nI_1, nI_add]
    refine ⟨fun q => hn fun z => absurd q (nI_nlt (by omega) (by omega)), fun q => hy ?_⟩
    rcases Nat.lt_or_ge (s0 S 15) (m + (f + 1)) with r | r
    · exact absurd (nI_lt (show s0 S 15 < m + 1 + f by omega) (by omega)) q
    · exact r
