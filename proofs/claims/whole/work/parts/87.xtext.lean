/-! the class's text -/
theorem dgs_get {w : Nat} : ∀ k i, i < k → (dgs w k).getD i 0 = 48 + w / 10 ^ (k - 1 - i) % 10 := by
  intro k
  induction k with
  | zero => intro i h; omega
  | succ k ih =>
    intro i h
    rw [dgs]
    cases i with
    | zero => simp [List.getD]
    | succ i =>
      have := ih i (by omega)
      rw [show k + 1 - 1 - (i + 1) = k - 1 - i by omega, ← this]
      simp [List.getD]
theorem off_two {μ μ1 μ2 : Mem} {o it it1 : Nat} (x1 : Off (fun a => a = o ∨ a = it) μ μ1) (x2 : Off (fun a => a = o ∨ a = it1) μ1 μ2) (hit : it1 = it ∨ kd μ it1 = 0) : Off (fun a => a = o ∨ a = it) μ μ2 := by
  obtain ⟨y1, y2, y3⟩ := x2
  refine ⟨x1.1.tr y1, fun a ha => ⟨(x1.2.1 a (y2 a ha).1).1, (y2 a ha).2.trans (x1.2.1 a (y2 a ha).1).2⟩, fun a ha hd => ?_⟩
  obtain ⟨w1, w2, w3, w4, w5, w6⟩ := x1.2.2 a ha hd
  obtain ⟨v1, v2, v3, v4, v5, v6⟩ := y3 a (by rw [x1.1 a ha]; exact ha) (fun q => by
    rcases q with q | q
    · exact hd (Or.inl q)
    · rcases hit with r | r
      · exact hd (Or.inr (q.trans r))
      · exact ha (by rw [q]; exact r))
  exact ⟨fun c k => (v1 c k).trans (w1 c k), fun c k => (v2 c k).trans (w2 c k), v3.trans w3, fun i => (v4 i).trans (w4 i), fun i => (v5 i).trans (w5 i), fun i => (v6 i).trans (w6 i)⟩
theorem x_bint {μ : Mem} {o it cap c z : Nat} {x : Int32} {l : List Nat} {post : Option Nat → Mem → Prop} (h : SB μ o it cap l) (hm : l.length + (dec x).length ≤ 100000) (hm2 : 2 * cap + 2 ≤ 100000) (hc : cap < l.length + (dec x).length → 1 ≤ c ∧ bcap cap (l.length + (dec x).length) ≤ z)
    (hp : ∀ μ' it', SB μ' o it' (bcap cap (l.length + (dec x).length)) (l ++ dec x) → Off (fun a => a = o ∨ a = it) μ μ' → (it' = it ∨ kd μ it' = 0) → post (some o) μ') : wp_J4_append_bf812 c z μ o x post := by
  have hw : x.toInt.natAbs ≤ 2 ^ 31 := by
    have a := Int32.toInt_lt x
    have b := Int32.le_toInt x
    omega
  refine ⟨h.1, c, z, Nat.le_refl _, Nat.le_refl _, h.1, fun v2 e2 => x_ssize (fun _ v7 e7 => ⟨c, z, Nat.le_refl _, Nat.le_refl _, ?_⟩)⟩
  rw [h.2.2.2.1] at e2
  subst e2
  rw [nI_add] at e7
  subst e7
  refine x_bens h hm hm2 hc (fun μ1 it1 h1 o1 hit _ => x_latin h1 fun _ => ⟨fun q => absurd q (by decide), fun _ => ⟨it1, h1.2.1, ?_⟩⟩)
  obtain ⟨g1, g2, g3, g4, g5, g6, g7, g8, g9, g10, g11⟩ := id h1
  have hcap : l.length + (dec x).length ≤ bcap cap (l.length + (dec x).length) := by unfold bcap; split <;> (try split) <;> omega
  have no : ¬ o = it1 := fun e => by rw [← e, g1] at g5; cases g5
  have fin : ∀ s, dec x = (if s = 1 then [45] else []) ++ dgs x.toInt.natAbs (nd x.toInt.natAbs) → s ≤ 1 → ∀ (r21 : Int32) μ19, wrote it1 x.toInt.natAbs s (l.length + (dec x).length) μ1 μ19 → KM μ1 μ19 → ∀ μ23 : Mem, μ23 = sfi μ19 0 3 o (nI (l.length + (dec x).length)) → KM μ μ23 → post (some o) μ23 := by
    intro s es hs r21 μ19 hwr _ μ23 e23 _
    obtain ⟨w1, w2, w3, w4⟩ := hwr
    have hlen : (dec x).length = s + nd x.toInt.natAbs := by
      rw [es, List.length_append, dgs_len]
      rcases (by omega : s = 0 ∨ s = 1) with r | r
      · subst r; rfl
      · subst r; rfl
    refine hp μ23 it1 ?_ ?_ hit
    · refine h1.grow hcap (by rw [e23]; exact w1.1) (by rw [e23, fr_sfi, w1.2.2.1]) (by rw [e23, fi_sfi_k (by decide), w1.2.1]) (by rw [e23, fi_sfi_e]) (by rw [e23, al_sfi, w1.2.2.2.1]) (fun i hi => ?_) (fun i hi => ?_)
      · rw [e23, ai_sfi]; exact w4 i (by omega)
      · rw [e23, ai_sfi]
        rcases Nat.lt_or_ge i s with r | r
        · have s1 : s = 1 := by omega
          have i0 : i = 0 := by omega
          have := w3 s1
          rw [show l.length + (dec x).length - 1 - nd x.toInt.natAbs = l.length + i by omega] at this
          rw [this, es, if_pos s1, i0]
          exact ⟨rfl, by show 45 < 128; decide⟩
        · have := w2 (nd x.toInt.natAbs - 1 - (i - s)) (by omega)
          rw [show l.length + (dec x).length - 1 - (nd x.toInt.natAbs - 1 - (i - s)) = l.length + i by omega] at this
          have e1 : (dec x).getD i 0 = 48 + x.toInt.natAbs / 10 ^ (nd x.toInt.natAbs - 1 - (i - s)) % 10 := by
            rw [es]
            have ls : (if s = 1 then [45] else [] : List Nat).length = s := by
              rcases (by omega : s = 0 ∨ s = 1) with r | r
              · subst r; rfl
              · subst r; rfl
            rw [getD_r (by omega), ls, dgs_get _ _ (by omega)]
          rw [this, e1]
          exact ⟨rfl, by omega⟩
    · have x1 : Off (fun a => a = o ∨ a = it) μ μ1 := o1.sub (fun a _ q => Or.inl q)
      have x2 : Off (fun a => a = o ∨ a = it1) μ1 μ19 := w1.off.sub (fun a _ q => Or.inr q)
      have x3 : Off (fun a => a = o ∨ a = it1) μ19 μ23 := by rw [e23]; exact Off_sfi.sub (fun a _ q => Or.inl q)
      exact off_two x1 (x2.tr x3) hit
  have l0 : (dec x).length = (if 0 ≤ x then 0 else 1) + nd x.toInt.natAbs := by
    unfold dec
    split
    · rw [dgs_len]; omega
    · rw [List.length_cons, dgs_len]; omega
  have i0 : (0 ≤ x) ↔ ¬ x < 0 := Int32.not_lt.symm
  refine ⟨fun q => ⟨fun _ v38 e38 => ⟨5, ?_⟩, fun z => absurd rfl z⟩, fun q => ⟨fun z => absurd z (by decide), fun _ => ⟨5, ?_⟩⟩⟩
  · rw [e38, ng_pos (i0.mp q)]
    rw [if_pos q] at l0
    refine x_chars (s := 0) (by decide) 4 _ _ _ hw (by omega) (by omega) (by rw [g6]; exact hcap) (by omega) g5 (fun μ' hwr => fin 0 ?_ (by decide) 0 μ' hwr)
    rw [dec, if_pos q]; rfl
  · rw [if_neg q] at l0
    have := x_chars (post := fun (r21 : Int32) (μ19 : Mem) => KM μ1 μ19 → ∀ μ23 : Mem, μ23 = sfi μ19 0 3 o (nI (l.length + (dec x).length)) → KM μ μ23 → post (some o) μ23) (it := it1) (s := 1) (by decide) 4 _ (l.length + (dec x).length) μ1 hw (by omega) (by omega) (by rw [g6]; exact hcap) (by omega) g5 (fun μ' hwr => fin 1 (by rw [dec, if_neg q]; rfl) (by decide) 0 μ' hwr)
    rw [← ng_neg (Int32.not_le.mp q)] at this
    exact this
