/-! the class as it is made: all of it -/
def ixo : List Nat → Nat → Nat
  | [], _ => 0
  | x :: L, a => if a = x then 0 else ixo L a + 1
theorem ixo_at : ∀ (L : List Nat), L.Nodup → ∀ i, i < L.length → ixo L (L.getD i 0) = i := by
  intro L
  induction L with
  | nil => intro _ i hi; exact absurd hi (Nat.not_lt_zero i)
  | cons x L ih =>
    intro h i hi
    obtain ⟨h1, h2⟩ := List.nodup_cons.mp h
    cases i with
    | zero => exact if_pos rfl
    | succ i =>
      have hi' : i < L.length := Nat.lt_of_succ_lt_succ hi
      have e : (x :: L).getD (i + 1) 0 = L.getD i 0 := by simp [List.getD]
      rw [e]
      have hm : L.getD i 0 ∈ L := by
        rw [List.getD_eq_getElem?_getD, List.getElem?_eq_getElem hi']
        exact List.getElem_mem hi'
      have ne : ¬ L.getD i 0 = x := fun z => h1 (by rw [← z]; exact hm)
      rw [ixo, if_neg ne, ih h2 i hi']
def piR : List Nat := [0, 6, 7, 14, 19, 8, 9, 10, 12, 15, 17, 22, 21, 5, 4, 1, 2, 11, 13, 16, 18, 23, 20, 3]
def piI : List Nat := [0, 15, 16, 23, 14, 13, 1, 2, 5, 6, 7, 17, 8, 18, 3, 9, 19, 10, 20, 4, 22, 12, 11, 21]
theorem pi_ok : ∀ j : Nat, j < 24 → piR.getD j 0 < 24 ∧ piI.getD (piR.getD j 0) 0 = j := by decide
theorem x_roles {L : List Nat} (h : L.Nodup) (hl : L.length = 24) : ∃ (A : Ad) (nm : Nat → Nat × Nat), (∀ j, j < 24 → nm (A 0 j) = (0, j)) ∧ (∀ j, j < 24 → A 0 j = L.getD (piR.getD j 0) 0) ∧ ∀ j, j < 24 → A 0 j ∈ L := by
  refine ⟨fun _ j => L.getD (piR.getD j 0) 0, fun a => (0, piI.getD (ixo L a) 0), fun j hj => ?_, fun _ _ => rfl, fun j hj => ?_⟩
  · obtain ⟨p1, p2⟩ := pi_ok j hj
    show (0, piI.getD (ixo L (L.getD (piR.getD j 0) 0)) 0) = (0, j)
    rw [ixo_at L h _ (by omega), p2]
  · obtain ⟨p1, p2⟩ := pi_ok j hj
    show L.getD (piR.getD j 0) 0 ∈ L
    rw [List.getD_eq_getElem?_getD, List.getElem?_eq_getElem (show piR.getD j 0 < L.length by omega)]
    exact List.getElem_mem _
def S00 : Sp := (fun _ => 0, fun _ _ => 0, fun _ _ _ => 0, fun _ _ => 0, fun _ _ => 0, fun _ _ _ => 0)
def E00 : Nat → Nat := fun r => if r ≤ 4 then 32 else if r = 10 then 16 else 0
theorem E00_bd : EBd E00 := by
  refine ⟨fun r hr h9 => ?_, by decide, by decide, Or.inl rfl, Or.inl rfl⟩
  have : ∀ r : Nat, r < 11 → E00 r ≤ Mx r := by decide
  exact this r (by omega)
theorem S00_wf : WF S00 := by
  refine ⟨⟨Nat.zero_le _, Nat.zero_le _, fun p hp => absurd hp (Nat.not_lt_zero p), fun k hk => absurd hk (Nat.not_lt_zero k)⟩, ⟨Nat.le_refl _, rfl, rfl, Nat.le_refl _, fun c hc => absurd hc (Nat.not_lt_zero c)⟩, ⟨rfl, Nat.zero_le _, fun h => ?_, fun j hj => absurd hj (Nat.not_lt_zero j)⟩, ⟨⟨fun i j _ hj => absurd hj (Nat.not_lt_zero j), fun i hi => absurd hi (Nat.not_lt_zero i)⟩, fun i j _ hj => absurd hj (Nat.not_lt_zero j), fun i hi => absurd hi (Nat.not_lt_zero i)⟩, fun m hm => absurd hm (Nat.not_lt_zero m), ⟨Nat.zero_le _, Nat.le_refl _, Nat.zero_le _, Nat.zero_le _, Nat.zero_le _⟩⟩
  rcases h with h | h <;> cases h
theorem S00_live : ¬ live S00 := fun h => by rcases h with h | h <;> cases h
set_option maxHeartbeats 4000000 in
theorem x_minit0 {μ : Mem} {o c z : Nat} {post : Mem → Prop} (hE : E106 μ) (ho : kd μ o = 12) (hfi : ∀ k, fi μ 11 k o = 0) (hc : 20 ≤ c) (hz : 1222 ≤ z)
    (hp : ∀ μ49 rw0 pl eg s q1 q2 q3 i3 q4 i4 h h3 j3 h4 j4 tx t3 u3 t4 u4, NW μ μ49 ([rw0] ++ [pl] ++ [eg, s, q1, q2, q3, i3, q4, i4, h, h3, j3, h4, j4] ++ [tx, t3, u3, t4, u4]) → Off (fun a => a = o) μ μ49 → KI μ49 s q1 q2 q3 i3 q4 i4 → HI μ49 h h3 j3 h4 j4 → TI μ49 tx t3 u3 t4 u4 → AE μ49 pl → (kd μ49 rw0 = 102 ∧ al μ49 rw0 = 10) → (kd μ49 eg = 3 ∧ fr μ49 2 0 eg = some s ∧ fr μ49 2 1 eg = some h ∧ fi μ49 2 2 eg = -1 ∧ ∀ k, ¬ k = 2 → fi μ49 2 k eg = 0) → (kd μ49 o = 12 ∧ fr μ49 11 0 o = some rw0 ∧ fr μ49 11 2 o = some pl ∧ fr μ49 11 4 o = some eg ∧ fr μ49 11 5 o = some tx ∧ ∀ k, fi μ49 11 k o = 0) → post μ49) : wp_X10_init c z μ o post := by
  have lo : kd μ o ≠ 0 := by omega
  refine ⟨by decide, by decide, by omega, Nat.le_trans (by decide) hz, fun rw0 μ2 hr e2' => ?_⟩
  have o2 : ∀ D, Off D μ μ2 := fun D => by rw [e2']; exact Off_nar hr (by decide)
  have kr : kd μ2 rw0 = 102 := by rw [e2', kd_narE, if_pos rfl]
  have lr : al μ2 rw0 = 10 := by rw [e2', al_nar, if_pos rfl]; rfl
  refine ⟨(o2 (fun _ => False)).kd ho, fun μ6 e6 => ?_⟩
  obtain ⟨a1, a2, a3, a4, a5, a6, a7, -⟩ := st3 hr lo o2 (by omega) (Off.rf μ2) (NW.nil (μ := μ2) (μ' := μ2)) e6
  have kr6 : kd μ6 rw0 = 102 := a2.kd kr
  have lr6 : al μ6 rw0 = 10 := by rw [(a2.2.2 rw0 (by omega) a7).2.2.1]; exact lr
  have E6 := hE.off a1
  have ho6 := a1.kd ho
  clear kr lr e6 a2 o2 e2'
  have c10 : Int32.toNatClampNeg 10 = 10 := rfl
  rw [c10]
  refine ⟨by omega, by omega, fun pl μ11 hpl e11 => ?_⟩
  have o2 : ∀ D, Off D μ6 μ11 := fun D => by rw [e11]; exact Off_nob hpl (by decide)
  have k2' : kd μ11 pl = 2 := by rw [e11]; exact if_pos rfl
  refine x_Ainit (E6.off (o2 (fun _ => False))) k2' (by rw [e11, fi_nob, if_pos ⟨rfl, rfl⟩]) (fun μ15 L15 o15 _ μ19 e19 => ?_)
  obtain ⟨b1, b2, b3, b4, b5, b6, b7, -⟩ := st3 hpl (by omega) o2 (by omega) o15 (NW.nil (μ := μ11) (μ' := μ15)) e19
  have L19 : AE μ19 pl := L15.off b2 b7
  have n19 := a3.tr b3 a1.1 b1.1
  have ho19 := b1.kd ho6
  have E19 := E6.off b1
  clear L15 o15 e19 b2 o2 k2' e11
  refine ⟨by omega, by omega, fun eg μ24 heg e24 => ⟨12, 154, by omega, by omega, ?_⟩⟩
  have o2 : ∀ D, Off D μ19 μ24 := fun D => by rw [e24]; exact Off_nob heg (by decide)
  have k2' : kd μ24 eg = 3 := by rw [e24]; exact if_pos rfl
  have z2 : ∀ k, fi μ24 2 k eg = 0 := fun k => by rw [e24, fi_nob, if_pos ⟨rfl, rfl⟩]
  refine x_Einit (E19.off (o2 (fun _ => False))) k2' (Nat.le_refl _) (Nat.le_refl _) (fun μ28 s q1 q2 q3 i3 q4 i4 h h3 j3 h4 j4 n28 o28 f1 f2 f3 f4 K28 H28 _ μ34 e34 => ?_)
  obtain ⟨c1, c2, c3, c4, c5, c6, c7, c8⟩ := st3 heg (by omega) o2 (by omega) o28 n28 e34
  have nK : ∀ a, a ∈ [s, q1, q2, q3, i3, q4, i4] → ¬ a = o := fun a ha => c8 a (List.mem_append_left [h, h3, j3, h4, j4] ha)
  have nH : ∀ a, a ∈ [h, h3, j3, h4, j4] → ¬ a = o := fun a ha => c8 a (List.mem_append_right [s, q1, q2, q3, i3, q4, i4] ha)
  have K34 := K28.off c2 nK
  have H34 := H28.off c2 nH
  have n34 := n19.tr c3 (a1.tr b1).1 c1.1
  have ho34 := c1.kd ho19
  have keg : kd μ28 eg = 3 := o28.kd k2'
  obtain ⟨y1, y2, -⟩ := c2.2.2 eg (by omega) c7
  have g1 : kd μ34 eg = 3 := c2.kd keg
  have g2 : fr μ34 2 0 eg = some s := by rw [y2]; exact f1
  have g3 : fr μ34 2 1 eg = some h := by rw [y2]; exact f2
  have g4 : fi μ34 2 2 eg = -1 := by rw [y1]; exact f3
  have g5 : ∀ k, ¬ k = 2 → fi μ34 2 k eg = 0 := fun k hk => by rw [y1, f4 k hk]; exact z2 k
  clear K28 H28 f1 f2 f3 f4 e34 o28 n28 c2 o2 k2' z2 e24 keg y1 y2
  refine ⟨by omega, by omega, fun tx μ39 htx e39 => ⟨4, 1044, by omega, by omega, ?_⟩⟩
  have o2 : ∀ D, Off D μ34 μ39 := fun D => by rw [e39]; exact Off_nob htx (by decide)
  have k2' : kd μ39 tx = 11 := by rw [e39]; exact if_pos rfl
  refine x_Tinit k2' (by rw [e39, fi_nob, if_pos ⟨rfl, rfl⟩]) (Nat.le_refl _) (Nat.le_refl _) (fun μ43 t3 u3 t4 u4 n43 o43 T43 _ μ49 e49 => ?_)
  obtain ⟨d1, d2, d3, d4, d5, d6, d7, d8⟩ := st3 htx (by omega) o2 (by omega) o43 n43 e49
  have nT : ∀ a, a ∈ [tx, t3, u3, t4, u4] → ¬ a = o := fun a ha => by
    rcases List.mem_cons.mp ha with r | r
    · rw [r]; exact d7
    · exact d8 a r
  have T49 := T43.off d2 nT
  have K49 := K34.off d1 nK
  have H49 := H34.off d1 nH
  have n49 := n34.tr d3 ((a1.tr b1).tr c1).1 d1.1
  have oAll := ((a1.tr b1).tr c1).tr d1
  obtain ⟨y1, y2, -⟩ := d1.2.2 eg (by omega) c7
  have L49 : AE μ49 pl := (L19.off c1 b7).off d1 b7
  have kr49 : kd μ49 rw0 = 102 := d1.kd (c1.kd (b1.kd kr6))
  have lr49 : al μ49 rw0 = 10 := by
    have k6 := b1.kd kr6
    rw [(d1.2.2 rw0 (by have := c1.kd k6; omega) a7).2.2.1, (c1.2.2 rw0 (by omega) a7).2.2.1, (b1.2.2 rw0 (by omega) a7).2.2.1]; exact lr6
  refine hp μ49 rw0 pl eg s q1 q2 q3 i3 q4 i4 h h3 j3 h4 j4 tx t3 u3 t4 u4 n49 oAll K49 H49 T49 L49 ⟨kr49, lr49⟩ ⟨d1.kd g1, by rw [y2]; exact g2, by rw [y2]; exact g3, by rw [y1]; exact g4, fun k hk => by rw [y1]; exact g5 k hk⟩ ⟨d1.kd ho34, ?_, ?_, ?_, d4, fun k => by rw [d6, c6, b6, a6]; exact hfi k⟩
  · rw [d5 0 (by decide), c5 0 (by decide), b5 0 (by decide)]; exact a4
  · rw [d5 2 (by decide), c5 2 (by decide)]; exact b4
  · rw [d5 4 (by decide)]; exact c4
set_option maxHeartbeats 4000000 in
theorem x_made {μ μ49 : Mem} {o e0 e1 e2 rw0 pl eg s q1 q2 q3 i3 q4 i4 h h3 j3 h4 j4 tx t3 u3 t4 u4 : Nat} (ho : kd μ o = 12) (k0 : kd μ e0 = 106) (k1 : kd μ e1 = 107) (k2 : kd μ e2 = 108)
    (n49 : NW μ μ49 ([rw0] ++ [pl] ++ [eg, s, q1, q2, q3, i3, q4, i4, h, h3, j3, h4, j4] ++ [tx, t3, u3, t4, u4])) (oAll : Off (fun a => a = o) μ μ49) (K49 : KI μ49 s q1 q2 q3 i3 q4 i4) (H49 : HI μ49 h h3 j3 h4 j4) (T49 : TI μ49 tx t3 u3 t4 u4) (L49 : AE μ49 pl) (R49 : kd μ49 rw0 = 102 ∧ al μ49 rw0 = 10)
    (G49 : kd μ49 eg = 3 ∧ fr μ49 2 0 eg = some s ∧ fr μ49 2 1 eg = some h ∧ fi μ49 2 2 eg = -1 ∧ ∀ k, ¬ k = 2 → fi μ49 2 k eg = 0) (M49 : kd μ49 o = 12 ∧ fr μ49 11 0 o = some rw0 ∧ fr μ49 11 2 o = some pl ∧ fr μ49 11 4 o = some eg ∧ fr μ49 11 5 o = some tx ∧ ∀ k, fi μ49 11 k o = 0) :
    ∃ A nm, XX μ49 A nm S00 E00 (fun _ => 0) ∧ A 0 0 = o := by
  have lo : kd μ o ≠ 0 := by omega
  obtain ⟨g1, g2, g3, g4, g5⟩ := G49
  obtain ⟨m1, m2, m3, m4, m5, m6⟩ := M49
  have nd : (o :: e0 :: e1 :: e2 :: ([rw0] ++ [pl] ++ [eg, s, q1, q2, q3, i3, q4, i4, h, h3, j3, h4, j4] ++ [tx, t3, u3, t4, u4])).Nodup := by
    have nn := n49.2
    have nin : ∀ x, kd μ x ≠ 0 → ¬ x ∈ ([rw0] ++ [pl] ++ [eg, s, q1, q2, q3, i3, q4, i4, h, h3, j3, h4, j4] ++ [tx, t3, u3, t4, u4]) := fun x hx hm => hx (nn x hm).1
    have ne : ∀ x y, kd μ x ≠ kd μ y → ¬ x = y := fun x y hxy e => hxy (by rw [e])
    refine List.nodup_cons.mpr ⟨fun hm => ?_, List.nodup_cons.mpr ⟨fun hm => ?_, List.nodup_cons.mpr ⟨fun hm => ?_, List.nodup_cons.mpr ⟨nin e2 (by omega), n49.1⟩⟩⟩⟩
    · rcases List.mem_cons.mp hm with r | hm
      · exact ne o e0 (by omega) r
      rcases List.mem_cons.mp hm with r | hm
      · exact ne o e1 (by omega) r
      rcases List.mem_cons.mp hm with r | hm
      · exact ne o e2 (by omega) r
      exact nin o lo hm
    · rcases List.mem_cons.mp hm with r | hm
      · exact ne e0 e1 (by omega) r
      rcases List.mem_cons.mp hm with r | hm
      · exact ne e0 e2 (by omega) r
      exact nin e0 (by omega) hm
    · rcases List.mem_cons.mp hm with r | hm
      · exact ne e1 e2 (by omega) r
      exact nin e1 (by omega) hm
  obtain ⟨A, nm, hN, hA, hm⟩ := x_roles nd rfl
  have A0 : A 0 0 = o := hA 0 (by decide)
  have A1 : A 0 1 = eg := hA 1 (by decide)
  have A2 : A 0 2 = s := hA 2 (by decide)
  have A3 : A 0 3 = h := hA 3 (by decide)
  have A4 : A 0 4 = tx := hA 4 (by decide)
  have A5 : A 0 5 = q1 := hA 5 (by decide)
  have A6 : A 0 6 = q2 := hA 6 (by decide)
  have A7 : A 0 7 = q3 := hA 7 (by decide)
  have A8 : A 0 8 = q4 := hA 8 (by decide)
  have A9 : A 0 9 = h3 := hA 9 (by decide)
  have A10 : A 0 10 = h4 := hA 10 (by decide)
  have A11 : A 0 11 = t4 := hA 11 (by decide)
  have A12 : A 0 12 = u3 := hA 12 (by decide)
  have A13 : A 0 13 = pl := hA 13 (by decide)
  have A14 : A 0 14 = rw0 := hA 14 (by decide)
  have A17 : A 0 17 = i3 := hA 17 (by decide)
  have A18 : A 0 18 = i4 := hA 18 (by decide)
  have A19 : A 0 19 = j3 := hA 19 (by decide)
  have A20 : A 0 20 = j4 := hA 20 (by decide)
  have A21 : A 0 21 = u4 := hA 21 (by decide)
  have A22 : A 0 22 = t3 := hA 22 (by decide)
  have us : ∀ k j, Us S00 E00 k j → k = 0 ∧ j < 24 := fun k j hu => by
    rcases hu with hu | hu | hu | hu | hu | hu
    · exact hu
    · exact absurd hu.2 (Nat.not_lt_zero j)
    · exact absurd hu.2 (Nat.not_lt_zero j)
    · exact absurd hu.2 (Nat.not_lt_zero j)
    · exact absurd hu.2 (Nat.not_lt_zero j)
    · exact absurd hu.2.1 (Nat.not_lt_zero j)
  have RN0 : RN nm A S00 E00 := fun k j hu => by
    obtain ⟨rfl, hj⟩ := us k j hu
    exact hN j hj
  have LV0 : LV μ49 A S00 E00 := fun k j hu => by
    obtain ⟨rfl, hj⟩ := us k j hu
    have hmj := hm j hj
    have live : ∀ x, kd μ x ≠ 0 → kd μ49 x ≠ 0 := fun x hx => by rw [oAll.1 x hx]; exact hx
    rcases List.mem_cons.mp hmj with r | hmj
    · rw [r]; exact live o lo
    rcases List.mem_cons.mp hmj with r | hmj
    · rw [r]; exact live e0 (by omega)
    rcases List.mem_cons.mp hmj with r | hmj
    · rw [r]; exact live e1 (by omega)
    rcases List.mem_cons.mp hmj with r | hmj
    · rw [r]; exact live e2 (by omega)
    exact (n49.2 _ hmj).2
  obtain ⟨x1, x2, x3, x4, x5, x6, x7, x8, x9, x10, x11, x12⟩ := K49
  obtain ⟨v1, v2, v3, v4, v5, v6, v7, v8⟩ := H49
  obtain ⟨w1, w2, w3, w4, w5, w6⟩ := T49
  refine ⟨A, nm, ⟨⟨⟨RN0, LV0, ⟨?_, ?_, ?_, fun _ => 0, fun _ => 0, fun _ => 0, ?_, ?_⟩, ⟨Nat.le_refl _, fun _ => 0, 0, fun _ => 0, ?_, fun c k hc => absurd hc (Nat.not_lt_zero c)⟩, ⟨?_, fun p hp => absurd hp (Nat.not_lt_zero p), fun k hk => absurd hk (Nat.not_lt_zero k)⟩, ?_⟩, ?_, S00_wf, ⟨Nat.zero_le _, Nat.zero_le _, Nat.zero_le _, fun e => rfl⟩, E00_bd, Nat.le_refl _⟩, ?_, ⟨[], 0, fun _ => 0, ?_, ⟨rfl, Nat.zero_le _⟩, fun i hi => absurd hi (Nat.not_lt_zero i)⟩, fun k hk => absurd hk (Nat.not_lt_zero k)⟩, A0⟩
  · unfold XK1
    rw [A2, A5, A6, A7, A8]
    exact ⟨x1, x2, x3, x4, x5, x6 1, x6 3, x6 6, x6 7⟩
  · unfold XK2
    rw [A5, A6]
    exact ⟨x7 _ _ _ (Or.inl rfl), x8 _ _ _ (Or.inr (Or.inr (Or.inr rfl))), if_pos rfl, if_pos rfl, Nat.le_refl _, Nat.le_refl _⟩
  · exact ⟨fun j hj => absurd hj (Nat.not_lt_zero j), fun j hj => absurd hj (Nat.not_lt_zero j)⟩
  · exact ⟨fun j hj => absurd hj (Nat.not_lt_zero j), fun j hj => absurd hj (Nat.not_lt_zero j)⟩
  · unfold XK5
    rw [A7, A8, A17, A18]
    exact ⟨x9.congr (fun i hi => absurd hi (Nat.not_lt_zero i)), x11, x10, x12, by decide, by decide, fun n hn => absurd hn (Nat.not_lt_zero n), fun i j _ hj => absurd hj (Nat.not_lt_zero j), fun i hi => absurd hi (Nat.not_lt_zero i)⟩
  · unfold XHm
    rw [A3, A9, A10, A19, A20]
    exact ⟨v1, v2, v3, v4 2, v4 3, v6, v8, by decide, by decide, v5, v7⟩
  · rw [A13]
    exact L49 _ _ _ (Or.inr (Or.inr (Or.inl rfl)))
  · unfold XEc
    rw [A1, A2, A3]
    exact ⟨g1, g2, g3⟩
  · unfold XZ
    rw [A1, g4, g5 3 (by decide), g5 4 (by decide)]
    exact ⟨by decide, rfl, rfl, fun h => absurd h S00_live⟩
  · unfold XM
    rw [A0, A14, A13, A1, A4]
    exact ⟨m1, m2, m6 1, m3, m6 3, m4, m5, R49.1, R49.2, Nat.zero_le _, fun i hi => absurd hi (Nat.not_lt_zero i)⟩
  · unfold XT
    rw [A4, A12, A11, A22, A21]
    exact ⟨w1, w2, w3, w4, w5, w6, by decide⟩
theorem x_minit {μ : Mem} {o c z e0 e1 e2 : Nat} {post : Mem → Prop} (hE : E106 μ) (ho : kd μ o = 12) (hfi : ∀ k, fi μ 11 k o = 0) (k0 : kd μ e0 = 106) (k1 : kd μ e1 = 107) (k2 : kd μ e2 = 108) (hc : 20 ≤ c) (hz : 1222 ≤ z)
    (hp : ∀ μ' A nm, XX μ' A nm S00 E00 (fun _ => 0) → A 0 0 = o → Off (fun a => a = o) μ μ' → post μ') : wp_X10_init c z μ o post := by
  refine x_minit0 hE ho hfi hc hz (fun μ' rw0 pl eg s q1 q2 q3 i3 q4 i4 h h3 j3 h4 j4 tx t3 u3 t4 u4 a1 a2 a3 a4 a5 a6 a7 a8 a9 => ?_)
  obtain ⟨A, nm, X, e⟩ := x_made ho k0 k1 k2 a1 a2 a3 a4 a5 a6 a7 a8 a9
  exact hp μ' A nm X e a2
