/-! the machine's methods: put, run, told, letter, slot -/
def XTt (μ : Mem) (A : Ad) (S : Sp) (E : Nat → Nat) : Prop := ∃ l m u, XT μ A E l m u ∧ (l.length = s0 S 16 ∧ l.length ≤ 1000) ∧ ∀ i, i < s0 S 16 → l.getD i 0 = s1 S 22 i
theorem XT.st {G : Nat × Nat → Prop} {nm nm' : Nat → Nat × Nat} {μ μ' : Mem} {A A' : Ad} {S : Sp} {E E' : Nat → Nat} {l : List Nat} {m : Nat} {u : Nat → Int64} (h : XT μ A E l m u) (hN : RN nm A S E) (hL : LV μ A S E) (hs : St G E μ A nm μ' A' nm') (hG : ∀ j, j = 4 ∨ j = 11 ∨ j = 12 ∨ j = 21 ∨ j = 22 → ¬ G (0, j)) (e4 : E' 4 = E 4) (_e10 : E' 10 = E 10) : XT μ' A' E' l m u := by
  obtain ⟨g1, g2, g3, g4, g5, g6, g7⟩ := h
  have n0 : ∀ j, j = 4 ∨ j = 11 ∨ j = 12 ∨ j = 21 ∨ j = 22 → ¬ G (nm (A 0 j)) := fun j hj => by rw [hN 0 j (Us0 (by omega))]; exact hG j hj
  have a : ∀ j, j = 4 ∨ j = 11 ∨ j = 12 ∨ j = 21 ∨ j = 22 → A' 0 j = A 0 j := fun j hj => hs.2.1 0 j (hG j hj)
  obtain ⟨q1, q2, -⟩ := hs.1.2.2 (A 0 4) (by omega) (n0 4 (by omega))
  unfold XT
  rw [a 4 (by omega), a 11 (by omega), a 12 (by omega), a 21 (by omega), a 22 (by omega), e4, q2, q2, q2]
  refine ⟨hs.1.kd g1, g2, g3, g4.off hs.1 (by omega) (n0 4 (by omega)) (n0 22 (by omega)) (n0 12 (by omega)), g5.off hs.1 (n0 11 (by omega)) (n0 21 (by omega)), ?_, g7⟩
  rw [(hs.1.2.2 (A 0 21) (hL 0 21 (Us0 (by decide))) (n0 21 (by omega))).2.2.1]
  exact g6
theorem XTt.st {G : Nat × Nat → Prop} {nm nm' : Nat → Nat × Nat} {μ μ' : Mem} {A A' : Ad} {S S' : Sp} {E E' : Nat → Nat} (h : XTt μ A S E) (hN : RN nm A S E) (hL : LV μ A S E) (hs : St G E μ A nm μ' A' nm') (hG : ∀ j, j = 4 ∨ j = 11 ∨ j = 12 ∨ j = 21 ∨ j = 22 → ¬ G (0, j)) (e4 : E' 4 = E 4) (e10 : E' 10 = E 10) (e16 : s0 S' 16 = s0 S 16) (e22 : s1 S' 22 = s1 S 22) : XTt μ' A' S' E' := by
  obtain ⟨l, m, u, h1, h2, h3⟩ := h
  refine ⟨l, m, u, h1.st hN hL hs hG e4 e10, by rw [e16]; exact h2, ?_⟩
  rw [e16, e22]; exact h3
/-- calls go to procedures that are there -/
def XCl (S : Sp) : Prop := ∀ k, k < s0 S 2 → s1 S 5 k = 10 → sa S 1 k < s0 S 1
/-- all that holds of the class between calls -/
def XX (μ : Mem) (A : Ad) (nm : Nat → Nat × Nat) (S : Sp) (E tt : Nat → Nat) : Prop := XJ μ A nm S E tt ∧ XM μ A S ∧ XTt μ A S E ∧ XCl S
theorem gE_n {j : Nat} (h : j = 0 ∨ j = 4 ∨ 11 ≤ j ∧ j ≤ 14 ∨ 21 ≤ j) : ¬ gE (0, j) := by
  rintro (q | q | q)
  · exact gK_n (by omega) q
  · exact gH_n (by omega) q
  · have : j = 1 := congrArg Prod.snd q
    omega
/-- what is not the class's own stays, with its name -/
def KP (μ : Mem) (nm : Nat → Nat × Nat) (μ' : Mem) (nm' : Nat → Nat × Nat) : Prop := Off (fun a => ¬ nm a = (0, 99)) μ μ' ∧ ∀ a, kd μ a ≠ 0 → nm' a = nm a
theorem KP.rf {μ : Mem} {nm : Nat → Nat × Nat} : KP μ nm μ nm := ⟨Off.rf μ, fun _ _ => rfl⟩
theorem KP.tr {μ μ1 μ2 : Mem} {nm nm1 nm2 : Nat → Nat × Nat} (h : KP μ nm μ1 nm1) (h' : KP μ1 nm1 μ2 nm2) : KP μ nm μ2 nm2 := by
  refine ⟨⟨h.1.1.tr h'.1.1, fun a ha => ⟨(h.1.2.1 a (h'.1.2.1 a ha).1).1, (h'.1.2.1 a ha).2.trans (h.1.2.1 a (h'.1.2.1 a ha).1).2⟩, fun a ha hd => ?_⟩, fun a ha => (h'.2 a (by rw [h.1.1 a ha]; exact ha)).trans (h.2 a ha)⟩
  obtain ⟨a1, a2, a3, a4, a5, a6⟩ := h.1.2.2 a ha hd
  obtain ⟨b1, b2, b3, b4, b5, b6⟩ := h'.1.2.2 a (by rw [h.1.1 a ha]; exact ha) (fun z => hd (fun w => z ((h.2 a ha).trans w)))
  exact ⟨fun c k => (b1 c k).trans (a1 c k), fun c k => (b2 c k).trans (a2 c k), b3.trans a3, fun i => (b4 i).trans (a4 i), fun i => (b5 i).trans (a5 i), fun i => (b6 i).trans (a6 i)⟩
theorem KP.of {D : Nat → Prop} {μ μ' : Mem} {nm nm' : Nat → Nat × Nat} (ho : Off D μ μ') (hD : ∀ a, D a → ¬ nm a = (0, 99)) (hn : ∀ a, kd μ a ≠ 0 → nm' a = nm a) : KP μ nm μ' nm' := ⟨ho.sub (fun a _ z => hD a z), hn⟩
theorem St.kp {G : Nat × Nat → Prop} {E : Nat → Nat} {μ μ' : Mem} {A A' : Ad} {nm nm' : Nat → Nat × Nat} (h : St G E μ A nm μ' A' nm') (hG : ¬ G (0, 99)) : KP μ nm μ' nm' := KP.of h.1 (fun a z e => hG (by rw [← e]; exact z)) h.2.2.2.2.2
theorem upN_kp {μ : Mem} {nm : Nat → Nat × Nat} {q : Nat} {r : Nat × Nat} (hq : kd μ q = 0) : ∀ a, kd μ a ≠ 0 → upN nm q r a = nm a := fun a ha => if_neg (fun e => ha (by rw [e]; exact hq))
theorem gE_99 : ¬ gE (0, 99) := gE_n (by omega)
theorem XM.cg {μ : Mem} {A : Ad} {S S' : Sp} (h : XM μ A S) (e0 : s0 S' 0 = s0 S 0) (e2 : s0 S' 2 = s0 S 2) (ei : si S' 0 = si S 0) : XM μ A S' := by
  unfold XM at h ⊢
  rw [e0, e2, ei]; exact h
theorem x_put {nm : Nat → Nat × Nat} {μ : Mem} {A : Ad} {S : Sp} {E tt : Nat → Nat} {a : Int32} {post : Int32 → Mem → Prop} (h : XX μ A nm S E tt) (hp : ∀ μ', XX μ' A nm (sp_put S a).2 E tt → KP μ nm μ' nm → post (sp_put S a).1 μ') : wp_X10_put μ (A 0 0) a post := by
  obtain ⟨hJ, hM, hT, hX⟩ := id h
  obtain ⟨g1, g2, g3, g4, g5, g6, g7, g8, g9, g10, g11⟩ := id hM
  obtain ⟨hN, hL, -⟩ := id hJ.1
  refine ⟨g1, ?_⟩
  rw [g3]
  refine ⟨fun q => absurd q (nI_pos (by omega)), fun _ => ⟨A 0 14, g2, Or.inr (Or.inl g8), ?_⟩⟩
  rw [g9]
  refine ⟨fun q => ⟨A 0 14, g2, g8, ?_⟩, fun q => ?_⟩
  · have lt : s0 S 0 < 10 := by
      rcases Nat.lt_or_ge (s0 S 0) 10 with r | r
      · exact r
      · exact absurd q (nI_nlt r (by omega))
    rw [g9, nI_clamp (by omega)]
    refine ⟨vp_in_nI lt (by decide), fun μ5 e5 μ9 e9 => ?_⟩
    have f5 : fi μ5 11 1 (A 0 0) = nI (s0 S 0) := by rw [e5]; exact g3
    rw [f5, nI_1] at e9
    rw [sp_put, if_neg (by omega)] at hp
    have n14 : ¬ A 0 14 = A 0 0 := hN.ne (Us0 (by decide)) (Us0 (by decide)) (fun z => absurd z.2 (by decide))
    have ho : Off (fun a => a = A 0 0 ∨ a = A 0 14) μ μ9 := by
      rw [e9, e5]
      exact (Off_sai.sub (fun a _ q => Or.inr q)).tr (Off_sfi.sub (fun a _ q => Or.inl q))
    have st : St gR E μ A nm μ9 A nm := St.of (ho.sub (fun a _ q => by
      rcases q with q | q
      · rw [q, hN 0 0 (Us0 (by decide))]; exact ⟨rfl, Or.inl rfl⟩
      · rw [q, hN 0 14 (Us0 (by decide))]; exact ⟨rfl, by show (14 = 0 ∨ _); omega⟩))
    have ne : ∀ j, j < 24 → j ≠ 0 → j ≠ 14 → ¬ (A 0 j = A 0 0 ∨ A 0 j = A 0 14) := fun j hj x y q => by
      rcases q with q | q
      · exact hN.ne (Us0 hj) (Us0 (by decide)) (fun z => x z.2) q
      · exact hN.ne (Us0 hj) (Us0 (by decide)) (fun z => y z.2) q
    have st2 : St (fun q => q = (0, 0) ∨ q = (0, 14)) E μ A nm μ9 A nm := St.of (ho.sub (fun a _ q => by
      rcases q with q | q
      · rw [q, hN 0 0 (Us0 (by decide))]; exact Or.inl rfl
      · rw [q, hN 0 14 (Us0 (by decide))]; exact Or.inr rfl))
    have kpp : KP μ nm μ9 nm := st2.kp (fun z => by rcases z with z | z <;> cases z)
    refine hp μ9 ⟨(hJ.stx st hN (hL.km ho.1) (fun _ _ _ => rfl) hJ.2.2.2.2.1).row, ?_, hT.st hN hL st2 (fun j hj q => by rcases q with q | q; have : j = 0 := congrArg Prod.snd q; omega; have : j = 14 := congrArg Prod.snd q; omega) rfl rfl rfl rfl, hX⟩ kpp
    refine ⟨by rw [e9, e5]; exact g1, by rw [e9, e5]; exact g2, by rw [e9, fi_sfi_e]; rfl, by rw [e9, e5]; exact g4, by rw [e9, fi_sfi_k (by decide), e5]; exact g5, by rw [e9, e5]; exact g6, by rw [e9, e5]; exact g7, by rw [e9, e5]; exact g8, by rw [e9, e5]; exact g9, by show s0 S 0 + 1 ≤ 10; omega, fun i hi => ?_⟩
    have hi : i < s0 S 0 + 1 := hi
    rw [e9, e5]
    show (if A 0 14 = A 0 14 ∧ i = s0 S 0 then a else ai μ (A 0 14) i) = (if 0 = 0 ∧ i = s0 S 0 then a else si S 0 i)
    by_cases q : i = s0 S 0
    · rw [if_pos ⟨rfl, q⟩, if_pos ⟨rfl, q⟩]
    · rw [if_neg (fun z => q z.2), if_neg (fun z => q z.2)]; exact g11 i (by omega)
  · have ge : s0 S 0 = 10 := by
      rcases Nat.lt_or_ge (s0 S 0) 10 with r | r
      · exact absurd (nI_lt r (by decide)) q
      · omega
    rw [sp_put, if_pos ge] at hp
    exact hp μ h KP.rf
theorem x_mrun {nm : Nat → Nat × Nat} {μ : Mem} {A : Ad} {S : Sp} {E tt : Nat → Nat} {n : Int32} {c z : Nat} {post : Int32 → Mem → Prop} (h : XX μ A nm S E tt) (hc : UC (eRunS S E tt n).1 ≤ UC E + c ∨ 537396 ≤ UC E + c) (hz : UZ (eRunS S E tt n).1 ≤ UZ E + z ∨ 1181512 ≤ UZ E + z)
    (hp : ∀ μ' A' nm', XX μ' A' nm' (sp_runS S n) (eRunS S E tt n).1 (eRunS S E tt n).2 → St gE E μ A nm μ' A' nm' → post (nI (s0 (sp_runS S n) 17) - 1) μ') : wp_X10_run c z μ (A 0 0) n post := by
  obtain ⟨hJ, hM, hT, hX⟩ := id h
  obtain ⟨hN, hL, -⟩ := id hJ.1
  obtain ⟨k1, k2, k3, k6, k4, k7, k5⟩ := KR.runS (S := S) (n := n)
  refine ⟨hM.1, A 0 1, hM.2.2.2.2.2.1, hJ.1.2.2.2.2.2.1, c, z, Nat.le_refl _, Nat.le_refl _, x_advance hJ hc hz (fun μ' A' nm' x1 x2 _ => hp μ' A' nm' ⟨x1, (hM.st hN x2 (gE_n (by omega)) (gE_n (by omega))).cg k1 k2 (congrFun k4 0), hT.st hN hL x2 (fun j hj => gE_n (by omega)) (eRunS_o (Or.inl rfl)) (eRunS_o (Or.inr rfl)) k3 k5, by unfold XCl sa; rw [k2, k6, k7, k4]; exact hX⟩ x2)⟩
theorem x_mtold {nm : Nat → Nat × Nat} {μ : Mem} {A : Ad} {S : Sp} {E tt : Nat → Nat} {a : Int32} {post : Int32 → Mem → Prop} (h : XX μ A nm S E tt) (hp : post (sp_told S a) μ) : wp_X10_told μ (A 0 0) a post :=
  ⟨h.2.1.1, A 0 1, h.2.1.2.2.2.2.2.1, h.1.1.2.2.2.2.2.1, x_figure h.1 fun _ => hp⟩
theorem x_mslot {nm : Nat → Nat × Nat} {μ : Mem} {A : Ad} {S : Sp} {E tt : Nat → Nat} {a : Int32} {post : Int64 → Mem → Prop} (h : XX μ A nm S E tt) (hp : post (sp_slot S a) μ) : wp_X10_slot μ (A 0 0) a post :=
  ⟨h.2.1.1, A 0 1, h.2.1.2.2.2.2.2.1, h.1.1.2.2.2.2.2.1, x_slotSeen h.1 fun _ => hp⟩
theorem x_mletter {nm : Nat → Nat × Nat} {μ : Mem} {A : Ad} {S : Sp} {E tt : Nat → Nat} {a : Int32} {post : Int32 → Mem → Prop} (h : XX μ A nm S E tt) (hp : post (if 0 ≤ a ∧ a < nI (s0 S 16) then nI (s1 S 22 a.toNatClampNeg) else -1) μ) : wp_X10_letter μ (A 0 0) a post := by
  obtain ⟨hJ, hM, ⟨l, m, u, hT, h2, h3⟩, -⟩ := h
  obtain ⟨t1, t2, t3, t4, t5, t6, t7⟩ := id hT
  have etk : l.take 1000 = l := List.take_of_length_le h2.2
  refine ⟨hM.1, A 0 4, hM.2.2.2.2.2.2.1, t1, t1, ?_⟩
  rw [t4.1, etk, h2.1]
  refine x_within (fun y0 y1 _ => nz1 ?_) (fun y _ => nz0 fun _ => ?_)
  · rw [if_pos ⟨y0, y1⟩] at hp
    obtain ⟨i, hi, ei⟩ := nI_of (Int32.not_lt.mpr y0)
    subst ei
    have lt : i < s0 S 16 := by
      rw [Int32.lt_iff_toInt_lt, nI_toInt hi, nI_toInt (by omega)] at y1; omega
    rw [nI_clamp hi, ← h3 i lt] at hp
    refine ⟨A 0 22, t2.1, Or.inl t4.2.1, fun q => ?_, fun _ => ⟨A 0 22, t2.1, t4.2.1, by rw [t4.2.2.1]; exact vp_in_nI (by omega) (by decide), fun _ => ?_⟩⟩
    · rw [t4.2.2.1] at q
      exact absurd q (nI_ge (by omega) (by decide))
    · rw [nI_clamp hi, t4.2.2.2.2.2 i (by rw [etk]; omega), etk]
      exact hp
  · rw [if_neg y] at hp
    exact hp
/-- the text that is told -/
theorem sayL_sp : ∀ (L : List Nat) (S : Sp), s0 S 16 ≤ 1000 → (∀ k, k ≠ 16 → s0 (sayL S L) k = s0 S k) ∧ (∀ k, k ≠ 22 → s1 (sayL S L) k = s1 S k) ∧ s2 (sayL S L) = s2 S ∧ si (sayL S L) = si S ∧ sv (sayL S L) = sv S ∧ sw (sayL S L) = sw S ∧ s0 (sayL S L) 16 = s0 S 16 + (L.take (1000 - s0 S 16)).length ∧ (∀ i, i < s0 S 16 → s1 (sayL S L) 22 i = s1 S 22 i) ∧ ∀ i, i < (L.take (1000 - s0 S 16)).length → s1 (sayL S L) 22 (s0 S 16 + i) = L.getD i 0 := by
  intro L
  induction L with
  | nil => intro S _; exact ⟨fun _ _ => rfl, fun _ _ => rfl, rfl, rfl, rfl, rfl, by simp [sayL], fun _ _ => rfl, fun i hi => absurd hi (by simp)⟩
  | cons c L ih =>
    intro S hS
    show _ ∧ _
    by_cases e : s0 S 16 = 1000
    · rw [sayL_full e, e]
      exact ⟨fun _ _ => rfl, fun _ _ => rfl, rfl, rfl, rfl, rfl, by simp, fun _ _ => rfl, fun i hi => absurd hi (by simp)⟩
    · have es : sp_say S c = u0 (u1 S 22 (s0 S 16) c) 16 (s0 S 16 + 1) := if_neg e
      have e1 : sayL S (c :: L) = sayL (u0 (u1 S 22 (s0 S 16) c) 16 (s0 S 16 + 1)) L := by rw [← es]; rfl
      rw [e1]
      obtain ⟨i1, i2, i3, i4, i5, i6, i7, i8, i9⟩ := ih (u0 (u1 S 22 (s0 S 16) c) 16 (s0 S 16 + 1)) (by show s0 S 16 + 1 ≤ 1000; omega)
      have t1 : s0 (u0 (u1 S 22 (s0 S 16) c) 16 (s0 S 16 + 1)) 16 = s0 S 16 + 1 := rfl
      rw [t1] at i7 i8 i9
      have tk : (c :: L).take (1000 - s0 S 16) = c :: L.take (1000 - (s0 S 16 + 1)) := by
        rw [show 1000 - s0 S 16 = (1000 - (s0 S 16 + 1)) + 1 by omega, List.take_succ_cons]
      have tl : ((c :: L).take (1000 - s0 S 16)).length = (L.take (1000 - (s0 S 16 + 1))).length + 1 := by rw [tk, List.length_cons]
      refine ⟨fun k hk => (i1 k hk).trans (if_neg hk), fun k hk => (i2 k hk).trans ?_, i3, i4, i5, i6, by rw [i7, tl]; omega, fun i hi => ?_, fun i hi => ?_⟩
      · funext j
        show (if k = 22 ∧ j = s0 S 16 then c else s1 S k j) = s1 S k j
        rw [if_neg (fun z => hk z.1)]
      · rw [i8 i (by omega)]
        show (if 22 = 22 ∧ i = s0 S 16 then c else s1 S 22 i) = s1 S 22 i
        rw [if_neg (fun z => by omega)]
      · rw [tl] at hi
        cases i with
        | zero =>
          rw [i8 (s0 S 16 + 0) (by omega)]
          show (if 22 = 22 ∧ s0 S 16 + 0 = s0 S 16 then c else _) = (c :: L).getD 0 0
          rw [if_pos ⟨rfl, rfl⟩]
          rfl
        | succ i =>
          rw [show s0 S 16 + (i + 1) = s0 S 16 + 1 + i by omega, i9 i (by omega)]
          simp [List.getD]
theorem XJ.say {nm : Nat → Nat × Nat} {μ : Mem} {A : Ad} {E tt : Nat → Nat} : ∀ (L : List Nat) (S : Sp), XJ μ A nm S E tt → XJ μ A nm (sayL S L) E tt := by
  intro L
  induction L with
  | nil => intro S h; exact h
  | cons c L ih =>
    intro S h
    refine ih _ ?_
    unfold sp_say
    split
    · exact h
    · obtain ⟨G, Z, W, V, B, h9⟩ := h
      exact ⟨G, Z, W, V, B, h9⟩
theorem x_mtext {nm : Nat → Nat × Nat} {μ : Mem} {A : Ad} {S : Sp} {E tt : Nat → Nat} {k c z : Nat} {post : Int32 → Mem → Prop} (h : XX μ A nm S E tt) (hv : okV (s0 S 3) (sv S 0 (s2 S 0 (s1 S 10 0) k)))
    (hc : UC (tAll S (sv S 0 (s2 S 0 (s1 S 10 0) k)) E).2.2.2 ≤ UC E + c ∨ 537396 ≤ UC E + c) (hz : UZ (tAll S (sv S 0 (s2 S 0 (s1 S 10 0) k)) E).2.2.2 ≤ UZ E + z ∨ 1181512 ≤ UZ E + z)
    (hp : ∀ μ' A' nm', XX μ' A' nm' (sp_telS S k) (tAll S (sv S 0 (s2 S 0 (s1 S 10 0) k)) E).2.2.2 tt → A' 0 0 = A 0 0 → KP μ nm μ' nm' → post (nI (s0 (sp_telS S k) 16)) μ') : wp_X8_write c z μ (A 0 4) (conv S (sv S 0 (s2 S 0 (s1 S 10 0) k))) (A 0 3) post := by
  obtain ⟨hJ, hM, ⟨l, m, u, hT, h2, h3⟩, hX⟩ := h
  obtain ⟨hN, hL, hK, hH, hP, hE⟩ := id hJ.1
  refine x_textwrite (S := S) ⟨hN, hL, hT⟩ hH hJ.2.2.1 hv hJ.2.2.2.2.1 hc hz (fun μ' A' nm' m' u' r st hB => ?_)
  have gTR : ∀ q, gT q → gR q := fun q hq => ⟨hq.1, by have := hq.2; omega⟩
  have tE : ∀ r, r ≠ 4 → r ≠ 10 → (tAll S (sv S 0 (s2 S 0 (s1 S 10 0) k)) E).2.2.2 r = E r := fun r h4 h10 => by
    unfold tAll
    have key : ∀ f (t : TSt), (tLoop S f t).2.2.2 r = t.2.2.2 r := by
      intro f
      induction f with
      | zero => intro t; rfl
      | succ f ih =>
        intro t
        rw [tLoop]
        split
        · rfl
        · rw [ih]
          unfold tMore
          split
          · exact rfl
          · rw [tHead_23 h4 h10]
            refine (if_neg h4).trans ((if_neg h4).trans ?_)
            split
            · rfl
            · exact rfl
    rw [key, tHead_23 h4 h10]
  obtain ⟨y1, y2, y3, y4, y5, y6, y7, y8, y9⟩ := sayL_sp (txt S (sv S 0 (s2 S 0 (s1 S 10 0) k))) (u0 S 16 0) (Nat.zero_le _)
  have z0 : s0 (u0 S 16 0) 16 = 0 := rfl
  rw [z0, Nat.zero_add] at y7
  rw [z0] at y9
  have hJ0 : XJ μ' A' nm' (u0 S 16 0) (tAll S (sv S 0 (s2 S 0 (s1 S 10 0) k)) E).2.2.2 tt := by
    obtain ⟨G, Z, W, V, B, h9⟩ := hJ.stx (st.mono gTR) r.1 r.2.1 tE hB
    exact ⟨G, Z, W, V, B, h9⟩
  have e16 : s0 (sp_telS S k) 16 = ((txt S (sv S 0 (s2 S 0 (s1 S 10 0) k))).take 1000).length := y7
  rw [← e16]
  refine hp μ' A' nm' ⟨XJ.say _ _ hJ0, (hM.st hN st (gT_n (by omega)) (gT_n (by omega))).cg (y1 0 (by decide)) (y1 2 (by decide)) (congrFun y4 0), ⟨_, m', u', r.2.2, ⟨e16.symm, by rw [List.length_take]; omega⟩, fun i hi => ?_⟩, ?_⟩ (st.2.2.2.2.1 0 (by decide)) (st.kp (fun z => by have := z.2; omega))
  · rw [e16] at hi
    have := y9 i hi
    rw [Nat.zero_add] at this
    rw [show s1 (sp_telS S k) 22 i = _ from this]
    have hi' : i < 1000 := by rw [List.length_take] at hi; omega
    simp [List.getD, hi']
  · unfold XCl sa
    rw [show s0 (sp_telS S k) 2 = s0 S 2 from y1 2 (by decide), show s0 (sp_telS S k) 1 = s0 S 1 from y1 1 (by decide), show s1 (sp_telS S k) 5 = s1 S 5 from y2 5 (by decide), show si (sp_telS S k) = si S from y4]
    exact hX
