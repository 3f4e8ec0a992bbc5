/-! the law from its entry -/
def mem0 (e0 e1 e2 : Nat) : Mem := (fun a => if a = e0 then 106 else if a = e1 then 107 else if a = e2 then 108 else 0, fun _ _ _ => 0, fun _ _ _ => none, fun a => if a = e0 then 0 else if a = e1 then 100 else if a = e2 then 100 else 0, fun _ _ => 0, fun _ _ => 0, fun _ _ => none)
theorem mem0_Rs {e0 e1 e2 : Nat} (h1 : ¬ e0 = e1) (h2 : ¬ e0 = e2) (h3 : ¬ e1 = e2) : Rs e0 e1 e2 (mem0 e0 e1 e2) := by
  have k : ∀ a, kd (mem0 e0 e1 e2) a = if a = e0 then 106 else if a = e1 then 107 else if a = e2 then 108 else 0 := fun _ => rfl
  have l : ∀ a, al (mem0 e0 e1 e2) a = if a = e0 then 0 else if a = e1 then 100 else if a = e2 then 100 else 0 := fun _ => rfl
  refine ⟨fun a => ?_, fun a ha => ?_, fun a ha => ?_, fun a ha => ?_, ?_, ?_, ?_, ?_, ?_, ?_⟩
  · rw [k]; split; decide; split; decide; split <;> decide
  · rw [k] at ha
    by_cases q0 : a = e0
    · exact q0
    rw [if_neg q0] at ha
    by_cases q1 : a = e1
    · rw [if_pos q1] at ha; cases ha
    rw [if_neg q1] at ha
    by_cases q2 : a = e2
    · rw [if_pos q2] at ha; cases ha
    rw [if_neg q2] at ha; cases ha
  · rw [k] at ha
    by_cases q0 : a = e0
    · rw [if_pos q0] at ha; cases ha
    rw [if_neg q0] at ha
    by_cases q1 : a = e1
    · exact q1
    rw [if_neg q1] at ha
    by_cases q2 : a = e2
    · rw [if_pos q2] at ha; cases ha
    rw [if_neg q2] at ha; cases ha
  · rw [k] at ha
    by_cases q0 : a = e0
    · rw [if_pos q0] at ha; cases ha
    rw [if_neg q0] at ha
    by_cases q1 : a = e1
    · rw [if_pos q1] at ha; cases ha
    rw [if_neg q1] at ha
    by_cases q2 : a = e2
    · exact q2
    rw [if_neg q2] at ha; cases ha
  · rw [k, if_pos rfl]
  · rw [k, if_neg (fun e => h1 e.symm), if_pos rfl]
  · rw [k, if_neg (fun e => h2 e.symm), if_neg (fun e => h3 e.symm), if_pos rfl]
  · rw [l, if_pos rfl]
  · rw [l, if_neg (fun e => h1 e.symm), if_pos rfl]
  · rw [l, if_neg (fun e => h2 e.symm), if_neg (fun e => h3 e.symm), if_pos rfl]
theorem mem0_Rl {T : Tb} {B : Nat} {H : Heap} (h1 : ¬ st T 0 = st T 1) (h2 : ¬ st T 0 = st T 2) (h3 : ¬ st T 1 = st T 2) : Rl T B (mem0 (st T 0) (st T 1) (st T 2)) H := by
  refine ⟨[], fun a => ⟨fun h => absurd h (by simp), fun h => ?_⟩, fun k q h => absurd h (by simp [va_pl]), ⟨fun i j p q h => absurd h (by simp [va_pl]), fun k q h => absurd h (by simp [va_pl])⟩, mem0_Rs h1 h2 h3⟩
  exfalso
  obtain ⟨g1, g2⟩ := h
  have k : kd (mem0 (st T 0) (st T 1) (st T 2)) a = if a = st T 0 then 106 else if a = st T 1 then 107 else if a = st T 2 then 108 else 0 := rfl
  rw [k] at g1 g2
  by_cases q0 : a = st T 0
  · rw [if_pos q0] at g2; omega
  rw [if_neg q0] at g1 g2
  by_cases q1 : a = st T 1
  · rw [if_pos q1] at g2; omega
  rw [if_neg q1] at g1 g2
  by_cases q2 : a = st T 2
  · rw [if_pos q2] at g2; omega
  rw [if_neg q2] at g1
  exact g1 rfl
theorem Rs.e106 {e0 e1 e2 : Nat} {μ : Mem} (h : Rs e0 e1 e2 μ) : E106 μ := fun q hq => by
  have := h.2.1 q hq
  exact ⟨by rw [this]; exact h.2.2.2.2.2.2.2.1, fun q' hq' => this.trans (h.2.1 q' hq').symm⟩
/-- both are made, and the law's one long: now all stand in one memory -/
theorem LW_start {μ2 μ3 μ4 μ5 : Mem} {A : Ad} {nm : Nat → Nat × Nat} {x o ao : Nat} {M : Nat → Nat} (X : XX μ2 A nm S00 E00 (fun _ => 0)) (hA : A 0 0 = x) (ho : kd μ2 o = 0) (e3 : μ3 = nob μ2 12 o) (hM : MI μ3 μ4 o KSm M) (h44 : fi μ4 12 44 o = -1) (ha : kd μ4 ao = 0) (e5 : μ5 = nar μ4 103 ao 1) : ∃ nm' σ, LW μ5 A nm' S00 E00 (fun _ => 0) x o ao M σ := by
  have o3 : ∀ D, Off D μ2 μ3 := fun D => by rw [e3]; exact Off_nob ho (by decide)
  have o4 : Off (fun a => a = o) μ3 μ4 := hM.1
  have o24 : ∀ D, Off D μ2 μ4 := fun D => Off_fresh ((o3 (fun a => a = o)).tr o4) (fun a z => Or.inl (by rw [z]; exact ho))
  have o5 : ∀ D, Off D μ4 μ5 := fun D => by rw [e5]; exact Off_nar ha (by decide)
  have o25 : ∀ D, Off D μ2 μ5 := fun D => (o24 D).tr (o5 D)
  have X5 := X.dead o25
  have ha2 : kd μ2 ao = 0 := by
    rcases Nat.eq_zero_or_pos (kd μ2 ao) with r | r
    · exact r
    · have := (o24 (fun _ => False)).1 ao (by omega)
      omega
  have hk2 : ∀ k, k ∈ KSm → kd μ2 (M k) = 0 := fun k hk => by
    have h0 := (hM.2.2.1 k hk).2.2.2.2.2.1
    rcases Nat.eq_zero_or_pos (kd μ2 (M k)) with r | r
    · exact r
    · have := (o3 (fun _ => False)).1 (M k) (by omega)
      omega
  obtain ⟨nm', hnm'⟩ : ∃ nm' : Nat → Nat × Nat, nm' = fun a => if a = o ∨ a = ao ∨ a ∈ KSm.map M then (0, 99) else nm a := ⟨_, rfl⟩
  have hL2 : LV μ2 A S00 E00 := X.1.1.2.1
  have N' : RN nm' A S00 E00 := fun k j hu => by
    have hn := X.1.1.1 k j hu
    have hl := hL2 k j hu
    rw [hnm']
    refine (if_neg (fun z => ?_)).trans hn
    rcases z with z | z | z
    · exact hl (by rw [z]; exact ho)
    · exact hl (by rw [z]; exact ha2)
    · obtain ⟨k', hk', ek⟩ := List.mem_map.mp z
      exact hl (by rw [← ek]; exact hk2 k' hk')
  have im4 := hM.im
  have rm4 := hM.rm (fun k => by rw [e3, fi_nob, if_pos ⟨rfl, rfl⟩]) h44
  have lo : kd μ4 o ≠ 0 := by rw [im4.1]; decide
  have lk : ∀ k, (mk k).1 ≠ 0 → kd μ4 (M k) ≠ 0 := fun k hk => by rw [(im4.2.1 k hk).2.1]; exact hk
  have of := o5 (fun _ => False)
  obtain ⟨f1, f2, -⟩ := of.2.2 o lo (fun z => z)
  have uk : ∀ k, (mk k).1 ≠ 0 → _ := fun k hk => of.2.2 (M k) (lk k hk) (fun z => z)
  have ev : vw μ5 o M = vw μ4 o M := by
    unfold vw
    refine Prod.ext (funext fun j => f1 12 j) (Prod.ext (funext fun j => funext fun i => ?_) (funext fun j => funext fun i => ?_))
    · show (if (mk j).1 = 0 then 0 else ai μ5 (M j) i) = if (mk j).1 = 0 then 0 else ai μ4 (M j) i
      by_cases z : (mk j).1 = 0
      · rw [if_pos z, if_pos z]
      · rw [if_neg z, if_neg z]; exact (uk j z).2.2.2.1 i
    · show (if (mk j).1 = 0 then 0 else aj μ5 (M j) i) = if (mk j).1 = 0 then 0 else aj μ4 (M j) i
      by_cases z : (mk j).1 = 0
      · rw [if_pos z, if_pos z]
      · rw [if_neg z, if_neg z]; exact (uk j z).2.2.2.2.1 i
  refine ⟨nm', _, X5.nm N', hA, ⟨of.kd im4.1, fun j hj => ⟨by rw [f2]; exact (im4.2.1 j hj).1, by rw [of.1 _ (lk j hj)]; exact (im4.2.1 j hj).2.1, by rw [(uk j hj).2.2.1]; exact (im4.2.1 j hj).2.2⟩, im4.2.2⟩, ev, rm4, ⟨by rw [e5, kd_narE, if_pos rfl], by rw [e5, al_nar, if_pos rfl], fun k hk e => lk k hk (by rw [e]; exact ha)⟩, ?_, ?_, fun k hk => ?_⟩
  · rw [hnm']; exact if_pos (Or.inl rfl)
  · rw [hnm']; exact if_pos (Or.inr (Or.inl rfl))
  · rw [hnm']; exact if_pos (Or.inr (Or.inr (List.mem_map.mpr ⟨k, mk_in k hk, rfl⟩)))
theorem sw_7 : Cond.classLink RL 8 RX10 ∈ G ∧ Cond.classLink RL 16 RX11 ∈ G := ⟨lw_in (by decide +kernel) (by decide +kernel), lw_in (by decide +kernel) (by decide +kernel)⟩
theorem sw_8 : Cond.instantiable RX10 6 ∈ G ∧ Cond.instantiable RX11 59 ∈ G ∧ Cond.arrayClass .long ∈ G := ⟨lw_in (by decide +kernel) (by decide +kernel), lw_in (by decide +kernel) (by decide +kernel), lw_in (by decide +kernel) (by decide +kernel)⟩
set_option maxRecDepth 100000 in
set_option maxHeartbeats 4000000 in
/-- from the entry, for every script of at most 3584 ints, the law comes to its end with true -/
theorem whole_start {p : Program} {e : Env} {s : State} {m : MethodId} {below : List Frame} {meth : Method} {c : Code} (l : Launch) (hst : l.stackTraces = false) {b L : Nat} {xs : Nat → Int32} (hL : L ≤ 3584) (C0 : lw_At p s m meth c b L xs) : W p l e room_1 s m #[Value.ref b] below meth c s.heap [] 0 0 (lw_Z below #[Value.ref b] s) (entryFrame m ([Value.ref b] : List Value).toArray 7) := by
  obtain ⟨hx, hb, hr, hml, hown, hts, hX, hbl, hlocks, hgv⟩ := C0
  have hnr : ∀ w ∈ nar1, w.before #[Value.ref b] s = true := flat_of_before _ hgv
  obtain ⟨T, hK, hF, d1, d2, d3⟩ := st_T hts hnr hX hbl
  have hTX := st_TX hts hnr
  have X : CX T s.heap.size p m c cL_law 7 s #[Value.ref b] RL := ⟨hx, hb, hml, hown, st_G hts, hK, hF⟩
  have hbA : ¬ Ai s.heap.size b := fun z => absurd (show s.heap.size ≤ b from z) (Nat.not_le.mpr hbl)
  have M0 : MS T s.heap.size s (mem0 (st T 0) (st T 1) (st T 2)) s.heap [] := ⟨mem0_Rl d1 d2 d3, Nat.le_refl _, va_S.rf⟩
  have R0 : Rs (st T 0) (st T 1) (st T 2) (mem0 (st T 0) (st T 1) (st T 2)) := mem0_Rs d1 d2 d3
  have hl := lv_entry [Value.ref b] (n := 7) (Nat.le_of_ble_eq_true rfl)
  rw [lg_entry_eq]
  generalize (lg_sl [Value.ref b] ++ List.replicate (7 - (lg_sl [Value.ref b]).length) Slot.unset).toArray = ls at hl ⊢
  have hl : lv_has ls 7 [(0, .ref b)] := hl
  generalize mem0 (st T 0) (st T 1) (st T 2) = μ0 at M0 R0
  refine my_new (C := RX10) (F := TX10) (N := 6) (ci := 11) X M0 rfl in_X10 tyX10 tyX10_ok df_X10 (by decide) sw_7.1 sw_8.1 lt_w4 dL_law_0 (Nat.le_of_ble_eq_true rfl) (Nat.le_of_ble_eq_true rfl) (fun x μ1 H1 hx0 e1 M1 => ?_)
  refine lv_dup X.1 X.2.1 dL_law_3 rfl ?_
  have o1 : ∀ D, Off D μ0 μ1 := fun D => by rw [e1]; exact Off_nob hx0 (by decide)
  have kx1 : kd μ1 x = 12 := by rw [e1]; exact if_pos rfl
  have w1 : wp_X10_init 20 1222 μ1 x (fun μ2 => ∃ A nm, XX μ2 A nm S00 E00 (fun _ => 0) ∧ A 0 0 = x) := x_minit (R0.e106.off (o1 (fun _ => False))) kx1 (fun k => by rw [e1, fi_nob, if_pos ⟨rfl, rfl⟩]) ((o1 (fun _ => False)).kd R0.2.2.2.2.1) ((o1 (fun _ => False)).kd R0.2.2.2.2.2.1) ((o1 (fun _ => False)).kd R0.2.2.2.2.2.2.1) (Nat.le_refl _) (Nat.le_refl _) (fun μ' A nm X' e' _ => ⟨A, nm, X', e'⟩)
  refine mx_cv M1 (mx_runI (n := 0) (As := []) (rest := [.ref x]) X M1 (c_X10_init l T s.heap.size 20 1222 μ1 x _ w1) lk_iX101 lk_iX102 rfl lt_w4 lk_iX105 (by decide +kernel) rfl rfl ⟨Nat.le_of_ble_eq_true rfl, Nat.le_of_ble_eq_true rfl⟩ rfl hl.1 (Nat.le_of_ble_eq_true rfl) dL_law_4 ⟨Nat.le_of_ble_eq_true rfl, Nat.le_of_ble_eq_true rfl⟩) (fun μ2 H2 locs2 hp2 M2 => ?_)
  obtain ⟨⟨A, nm, X2, hA⟩, -⟩ := hp2
  refine lv_astore_n (lv' := [(1, .ref x), (0, .ref b)]) X.1 X.2.1 dL_law_7 rfl hl (by decide) rfl (fun ls hl => ?_)
  refine my_new (C := RX11) (F := TX11) (N := 59) (ci := 12) X M2 rfl in_X11 tyX11 tyX11_ok df_X11 (by decide) sw_7.2 sw_8.2.1 lk_ini11 dL_law_8 (Nat.le_of_ble_eq_true rfl) (Nat.le_of_ble_eq_true rfl) (fun o μ3 H3 ho0 e3 M3 => ?_)
  refine lv_dup X.1 X.2.1 dL_law_11 rfl ?_
  have ko3 : kd μ3 o = 13 := by rw [e3]; exact if_pos rfl
  have w2 : wp_X11_init 38 785490 μ3 o (fun μ4 => ∃ M, MI μ3 μ4 o KSm M ∧ fi μ4 12 44 o = -1) := x_rinit ko3 (Nat.le_refl _) (Nat.le_refl _) (fun μ' M h1 h2 => ⟨M, h1, h2⟩)
  refine mx_cv M3 (mx_runI (n := 0) (As := []) (rest := [.ref o]) X M3 (c_X11_init l T s.heap.size 38 785490 μ3 o _ w2) lk_iX111 lk_iX112 rfl lk_ini11 lk_iX115 (by decide +kernel) rfl rfl ⟨Nat.le_of_ble_eq_true rfl, Nat.le_of_ble_eq_true rfl⟩ rfl hl.1 (Nat.le_of_ble_eq_true rfl) dL_law_12 ⟨Nat.le_of_ble_eq_true rfl, Nat.le_of_ble_eq_true rfl⟩) (fun μ4 H4 locs4 hp4 M4 => ?_)
  obtain ⟨⟨M, hM, h44⟩, -⟩ := hp4
  refine lv_astore_n (lv' := [(2, .ref o), (1, .ref x), (0, .ref b)]) X.1 X.2.1 dL_law_15 rfl hl (by decide) rfl (fun ls hl => ?_)
  refine lv_iconst (v := 1) X.1 X.2.1 dL_law_16 (by decide) ?_
  refine my_newJk X M4 sw_8.2.2 dL_law_17 1 (by decide) (by decide) (by decide) (Nat.le_of_ble_eq_true rfl) (Nat.le_of_ble_eq_true rfl) (fun ao μ5 H5 cells5 slots5 ec es ha0 e5 M5 => ?_)
  obtain ⟨nm', σ, LW5⟩ := LW_start X2 hA ho0 e3 hM h44 ha0 e5
  refine lv_astore_n (lv' := [(3, .ref ao), (2, .ref o), (1, .ref x), (0, .ref b)]) X.1 X.2.1 dL_law_19 rfl hl (by decide) rfl (fun ls hl => ?_)
  refine lv_iconst (v := nI 0) X.1 X.2.1 dL_law_20 (by decide) ?_
  refine lv_istore (lv' := [(4, .int (nI 0)), (3, .ref ao), (2, .ref o), (1, .ref x), (0, .ref b)]) X.1 X.2.1 dL_law_21 hl (by decide) rfl (fun ls hl => ?_)
  refine law_loop ⟨X, hX, hbl, hbA, hst, hTX⟩ hr hlocks (Nat.le_refl _) hL 512 0 (by omega) (by omega) μ5 A nm' S00 E00 _ σ H5 _ _ _ ls M5 LW5 ⟨?_, ?_⟩ (lv_sub hl [4, 3, 2, 1, 0] rfl)
  · rw [ec]; exact Nat.le_trans (Nat.le_of_ble_eq_true rfl) (Nat.le_add_right 601024 _)
  · rw [es]; exact Nat.le_trans (Nat.le_of_ble_eq_true rfl) (Nat.le_add_right 7293034 _)
