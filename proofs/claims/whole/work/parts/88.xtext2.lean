/-! the class's text: its roles -/
def XT (μ : Mem) (A : Ad) (E : Nat → Nat) (l : List Nat) (m : Nat) (u : Nat → Int64) : Prop := kd μ (A 0 4) = 11 ∧ (fr μ 10 0 (A 0 4) = some (A 0 22) ∧ fr μ 10 2 (A 0 4) = some (A 0 12)) ∧ fr μ 10 3 (A 0 4) = some (A 0 11) ∧ SB μ (A 0 4) (A 0 22) (A 0 12) l ∧ LR μ (A 0 11) (A 0 21) m u ∧ al μ (A 0 21) = E 4 ∧ 32 ≤ E 4
def gT (q : Nat × Nat) : Prop := q.1 = 0 ∧ (q.2 = 4 ∨ q.2 = 11 ∨ q.2 = 12 ∨ q.2 = 21 ∨ q.2 = 22)
def RXT (μ : Mem) (A : Ad) (nm : Nat → Nat × Nat) (S : Sp) (E : Nat → Nat) (l : List Nat) (m : Nat) (u : Nat → Int64) : Prop := RN nm A S E ∧ LV μ A S E ∧ XT μ A E l m u
theorem gT_of {nm : Nat → Nat × Nat} {A : Ad} {S : Sp} {E : Nat → Nat} (hN : RN nm A S E) {j a : Nat} (hj : j = 4 ∨ j = 11 ∨ j = 12 ∨ j = 21 ∨ j = 22) (ha : a = A 0 j) : gT (nm a) := by
  rw [ha, hN 0 j (Us0 (by omega))]
  exact ⟨rfl, hj⟩
theorem mvT {nm : Nat → Nat × Nat} {μ μ1 : Mem} {A : Ad} {S : Sp} {E : Nat → Nat} {j it' : Nat} (hN : RN nm A S E) (hL : LV μ A S E) (hit : it' = A 0 j ∨ kd μ it' = 0) (hk : kd μ1 it' ≠ 0) (km : KM μ μ1) :
    ∃ A' nm', A' 0 j = it' ∧ RN nm' A' S E ∧ LV μ1 A' S E ∧ (∀ k l, ¬ (k = 0 ∧ l = j) → A' k l = A k l) ∧ ∀ b, kd μ b ≠ 0 → nm' b = nm b := by
  rcases hit with r | r
  · exact ⟨A, nm, r.symm, hN, hL.km km, fun _ _ _ => rfl, fun _ _ => rfl⟩
  · obtain ⟨x1, x2⟩ := RN.mv (j := j) hN hL r hk km
    exact ⟨upA A 0 j it', upN nm it' (0, j), upA_n, x1, x2, fun k l hk => upA_o hk, fun b hb => if_neg (show ¬ b = it' from fun e => hb (by rw [e]; exact r))⟩
/-- the rows of characters are made once: nothing grows -/
def eSb (E : Nat → Nat) (_m : Nat) : Nat → Nat := E
theorem eSb_o {E : Nat → Nat} {m r : Nat} (_h : ¬ r = 10) : eSb E m r = E r := rfl
theorem x_tbuild {nm : Nat → Nat × Nat} {μ μ1 : Mem} {A : Ad} {S : Sp} {E : Nat → Nat} {m : Nat} {l l' : List Nat} {u : Nat → Int64} (h : RXT μ A nm S E l m u) (h1 : SB μ1 (A 0 4) (A 0 22) (A 0 12) l') (ho : Off (fun a => a = A 0 4 ∨ a = A 0 22 ∨ a = A 0 12) μ μ1) (hfr : fr μ1 = fr μ) :
    RXT μ1 A nm S E l' m u ∧ St gT E μ A nm μ1 A nm := by
  obtain ⟨hN, hL, g1, g2, g3, g4, g5, g6, g7⟩ := h
  have ne : ∀ i k, i < 24 → k < 24 → i ≠ k → ¬ A 0 i = A 0 k := fun i k hi hk hd => hN.ne (Us0 hi) (Us0 hk) (fun z => hd z.2)
  have no : ∀ j, j < 24 → j ≠ 4 → j ≠ 12 → j ≠ 22 → ¬ (A 0 j = A 0 4 ∨ A 0 j = A 0 22 ∨ A 0 j = A 0 12) := fun j hj w x y q => by
    rcases q with q | q | q
    · exact ne j 4 hj (by decide) w q
    · exact ne j 22 hj (by decide) y q
    · exact ne j 12 hj (by decide) x q
  refine ⟨⟨hN, hL.km ho.1, ho.kd g1, by rw [hfr]; exact g2, by rw [hfr]; exact g3, h1, g5.off ho (no 11 (by decide) (by decide) (by decide) (by decide)) (no 21 (by decide) (by decide) (by decide) (by decide)), ?_, g7⟩, St.of (ho.sub (fun a _ q => by rcases q with q | q | q; exact gT_of hN (j := 4) (by omega) q; exact gT_of hN (j := 22) (by omega) q; exact gT_of hN (j := 12) (by omega) q))⟩
  rw [(ho.2.2 (A 0 21) (hL 0 21 (Us0 (by decide))) (no 21 (by decide) (by decide) (by decide) (by decide))).2.2.1]
  exact g6
theorem x_tchar {nm : Nat → Nat × Nat} {μ : Mem} {A : Ad} {S : Sp} {E : Nat → Nat} {o ch m : Nat} {l : List Nat} {u : Nat → Int64} {post : Mem → Prop} (h : RXT μ A nm S E l m u) (eo : A 0 4 = o) (hch : ch < 128)
    (hp : ∀ μ' A' nm', RXT μ' A' nm' S (eSb E (l.length + 1)) (l ++ [ch]) m u → St gT E μ A nm μ' A' nm' → post μ') : wp_X8_writeCharacter μ o (nI ch) post := by
  obtain ⟨hN, hL, g1, g2, g3, g4, g5, g6, g7⟩ := id h
  rw [← eo]
  refine x_wchar g1 g2.1 g4 (hN.ne (Us0 (by decide)) (Us0 (by decide)) (by decide)) hch (fun μ1 h1 o1 f1 => ?_)
  obtain ⟨r, st⟩ := x_tbuild h h1 (o1.sub (fun a _ q => by rcases q with q | q; exact Or.inl q; exact Or.inr (Or.inl q))) f1
  exact hp μ1 A nm r st
theorem dec_len {x : Int32} : (dec x).length ≤ 11 := by
  have : nd x.toInt.natAbs ≤ 10 := nd_le 9 1
  unfold dec
  split
  · rw [dgs_len]; omega
  · rw [List.length_cons, dgs_len]; omega
theorem x_tint {nm : Nat → Nat × Nat} {μ : Mem} {A : Ad} {S : Sp} {E : Nat → Nat} {o m : Nat} {x : Int32} {l : List Nat} {u : Nat → Int64} {post : Mem → Prop} (h : RXT μ A nm S E l m u) (eo : A 0 4 = o)
    (hp : ∀ μ' A' nm', RXT μ' A' nm' S (eSb E (l.length + (dec x).length)) (l ++ dec x) m u → St gT E μ A nm μ' A' nm' → post μ') : wp_X8_writeNumber μ o x.toInt64 post := by
  obtain ⟨hN, hL, g1, g2, g3, g4, g5, g6, g7⟩ := id h
  rw [← eo]
  refine x_number g1 g2.1 g2.2 g4 (hN.ne (Us0 (by decide)) (Us0 (by decide)) (by decide)) (fun μ1 h1 o1 f1 => ?_)
  obtain ⟨r, st⟩ := x_tbuild h h1 o1 f1
  exact hp μ1 A nm r st
theorem x_tpush {nm : Nat → Nat × Nat} {μ : Mem} {A : Ad} {S : Sp} {E : Nat → Nat} {m c z : Nat} {v : Int64} {l : List Nat} {u : Nat → Int64} {post : Mem → Prop} (h : RXT μ A nm S E l m u) (hm : m < 262144)
    (hc : UC (eRow E 4 m) ≤ UC E + c) (hz : UZ (eRow E 4 m) ≤ UZ E + z)
    (hp : ∀ μ' A' nm', RXT μ' A' nm' S (eRow E 4 m) l (m + 1) (va_up u m v) → St gT E μ A nm μ' A' nm' → post μ') : wp_X4_push c z μ (A 0 11) v post := by
  obtain ⟨hN, hL, g1, g2, g3, g4, g5, g6, g7⟩ := id h
  obtain ⟨u1, u2, u3, u4⟩ := eRow_U (E := E) (r := 4) (n := m) (by decide)
  have ne : ∀ i k, i < 24 → k < 24 → i ≠ k → ¬ A 0 i = A 0 k := fun i k hi hk hd => hN.ne (Us0 hi) (Us0 hk) (fun z => hd z.2)
  have no : ∀ j, j < 24 → j ≠ 11 → j ≠ 21 → ¬ (A 0 j = A 0 11 ∨ A 0 j = A 0 21) := fun j hj x y q => by
    rcases q with q | q
    · exact ne j 11 hj (by decide) x q
    · exact ne j 21 hj (by decide) y q
  refine x_push g5 hm ?_ (by omega) (fun μ1 it' hl1 ho hit ha1 => ?_)
  · rw [g6]
    by_cases r : m < E 4
    · exact Or.inl r
    · obtain ⟨y1, y2⟩ := u3 r
      exact Or.inr ⟨by omega, by omega⟩
  obtain ⟨A', nm', hA', hN', hL', hA0, hAn⟩ := mvT (S := S) (E := eRow E 4 m) hN hL hit (by rw [hl1.2.2.1]; decide) ho.1
  have a0 : ∀ j, j ≠ 21 → A' 0 j = A 0 j := fun j hj => hA0 0 j (fun z => hj z.2)
  obtain ⟨q1, q2, -⟩ := ho.2.2 (A 0 4) (by omega) (no 4 (by decide) (by decide) (by decide))
  refine hp μ1 A' nm' ⟨hN', hL', ?_⟩ ⟨ho.sub (fun a ha q => by rcases q with q | q; exact gT_of hN (j := 11) (by omega) q; exact gT_of hN (j := 21) (by omega) q), fun k j hg => hA0 k j (fun z => hg (by rw [z.1, z.2]; exact ⟨rfl, by show 21 = 4 ∨ _; omega⟩)), fun j _ => hA0 1 j (fun z => absurd z.1 (by decide)), fun j _ => hA0 2 j (fun z => absurd z.1 (by decide)), fun j hj => a0 j (by omega), hAn⟩
  unfold XT
  rw [a0 4 (by decide), a0 11 (by decide), a0 12 (by decide), a0 22 (by decide), hA', q2, q2, q2]
  refine ⟨ho.kd g1, g2, g3, g4.off ho (by omega) (no 4 (by decide) (by decide) (by decide)) (no 22 (by decide) (by decide) (by decide)) (no 12 (by decide) (by decide) (by decide)), hl1, ?_, ?_⟩
  · rw [ha1, g6]; rfl
  · show 32 ≤ (if m < E 4 then E 4 else 2 * E 4)
    split <;> omega
theorem x_tpop {nm : Nat → Nat × Nat} {μ : Mem} {A : Ad} {S : Sp} {E : Nat → Nat} {m : Nat} {l : List Nat} {u : Nat → Int64} {post : Int64 → Mem → Prop} (h : RXT μ A nm S E l (m + 1) u) (hp : ∀ μ', RXT μ' A nm S E l m u → St gT E μ A nm μ' A nm → post (u m) μ') : wp_X4_pop μ (A 0 11) post := by
  obtain ⟨hN, hL, g1, g2, g3, g4, g5, g6, g7⟩ := id h
  have ne : ∀ i k, i < 24 → k < 24 → i ≠ k → ¬ A 0 i = A 0 k := fun i k hi hk hd => hN.ne (Us0 hi) (Us0 hk) (fun z => hd z.2)
  refine x_pop g5 (fun μ1 hl1 ho ha => hp μ1 ⟨hN, hL.km ho.1, ?_⟩ (St.of (ho.sub (fun a _ q => gT_of hN (j := 11) (by omega) q))))
  obtain ⟨q1, q2, -⟩ := ho.2.2 (A 0 4) (by omega) (ne 4 11 (by decide) (by decide) (by decide))
  unfold XT
  rw [q2, q2, q2]
  exact ⟨ho.kd g1, g2, g3, g4.off ho (by omega) (ne 4 11 (by decide) (by decide) (by decide)) (ne 22 11 (by decide) (by decide) (by decide)) (ne 12 11 (by decide) (by decide) (by decide)), hl1, ha.trans g6, g7⟩
