/-! the reference as it is made -/
def MI (μ0 μ : Mem) (o : Nat) (ks : List Nat) (A : Nat → Nat) : Prop := Off (fun a => a = o) μ0 μ ∧ kd μ o = 13 ∧ (∀ k, k ∈ ks → fr μ 12 k o = some (A k) ∧ kd μ (A k) = (mk k).1 ∧ al μ (A k) = (mk k).2 ∧ (∀ i, ai μ (A k) i = 0) ∧ (∀ i, aj μ (A k) i = 0) ∧ kd μ0 (A k) = 0 ∧ kd μ (A k) ≠ 0) ∧ (∀ j, j ∈ ks → ∀ k, k ∈ ks → A j = A k → j = k) ∧ ∀ k, ¬ k = 44 → fi μ 12 k o = fi μ0 12 k o
theorem MI.step {μ0 μ μ1 μ2 : Mem} {o q k : Nat} {ks : List Nat} {A : Nat → Nat} (h : MI μ0 μ o ks A) (hq : kd μ q = 0) (t n : Nat) (ht : (mk k).1 = t) (hn : (mk k).2 = n) (h6 : t ≠ 106 ∧ t ≠ 0) (hk : ¬ k ∈ ks) (e1 : μ1 = nar μ t q n) (e2 : μ2 = sfr μ1 12 k o (some q)) : MI μ0 μ2 o (k :: ks) (va_up A k q) := by
  obtain ⟨g1, g2, g3, g4, g5⟩ := h
  have nq : ¬ o = q := fun e => by rw [e, hq] at g2; cases g2
  have o1 : ∀ D, Off D μ μ1 := fun D => by rw [e1]; exact Off_nar hq h6.1
  have o2 : Off (fun a => a = o) μ1 μ2 := by rw [e2]; exact Off_sfr
  have k1 : kd μ1 q = t := by rw [e1, kd_narE, if_pos rfl]
  have q0 : kd μ0 q = 0 := by
    rcases Nat.eq_zero_or_pos (kd μ0 q) with r | r
    · exact r
    · have := g1.1 q (by omega)
      omega
  have qn : ∀ j, j ∈ ks → ¬ A j = q := fun j hj e => (g3 j hj).2.2.2.2.2.2 (by rw [e]; exact hq)
  have Ao : ∀ j, ¬ j = k → va_up A k q j = A j := fun j hj => if_neg hj
  have An : va_up A k q k = q := if_pos rfl
  obtain ⟨x1, x2, -⟩ := (o1 (fun _ => False)).2.2 o (by omega) (fun z => z)
  refine ⟨(g1.tr (o1 _)).tr o2, by rw [e2]; exact (o1 (fun _ => False)).kd g2, fun j hj => ?_, fun i hi j hj e => ?_, fun j hj => ?_⟩
  · by_cases e : j = k
    · subst e
      rw [An, e2]
      refine ⟨fr_sfr_e, ?_, ?_, fun i => ?_, fun i => ?_, q0, ?_⟩
      · show kd μ1 q = _; rw [k1, ht]
      · show al μ1 q = _; rw [e1, al_nar, if_pos rfl, hn]
      · show ai μ1 q i = 0; rw [e1, ai_nar, if_pos rfl]
      · show aj μ1 q i = 0; rw [e1, aj_nar, if_pos rfl]
      · show kd μ1 q ≠ 0; rw [k1]; exact h6.2
    · have hj' : j ∈ ks := by
        rcases List.mem_cons.mp hj with r | r
        · exact absurd r e
        · exact r
      obtain ⟨y1, y2, y3, y4, y5, y6, y7⟩ := g3 j hj'
      obtain ⟨-, -, b3, b4, b5, -⟩ := (o1 (fun _ => False)).2.2 (A j) y7 (fun z => z)
      have kk : kd μ1 (A j) = kd μ (A j) := (o1 (fun _ => False)).1 (A j) y7
      rw [Ao j e, e2]
      refine ⟨?_, ?_, ?_, fun i => ?_, fun i => ?_, y6, ?_⟩
      · rw [fr_sfr_k e, x2]; exact y1
      · show kd μ1 (A j) = _; rw [kk]; exact y2
      · show al μ1 (A j) = _; rw [b3]; exact y3
      · show ai μ1 (A j) i = 0; rw [b4]; exact y4 i
      · show aj μ1 (A j) i = 0; rw [b5]; exact y5 i
      · show kd μ1 (A j) ≠ 0; rw [kk]; exact y7
  · by_cases ei : i = k
    · by_cases ej : j = k
      · rw [ei, ej]
      · exfalso
        rw [ei, An, Ao j ej] at e
        rcases List.mem_cons.mp hj with r | r
        · exact ej r
        · exact qn j r e.symm
    · by_cases ej : j = k
      · exfalso
        rw [ej, An, Ao i ei] at e
        rcases List.mem_cons.mp hi with r | r
        · exact ei r
        · exact qn i r e
      · rw [Ao i ei, Ao j ej] at e
        refine g4 i ?_ j ?_ e
        · rcases List.mem_cons.mp hi with r | r
          · exact absurd r ei
          · exact r
        · rcases List.mem_cons.mp hj with r | r
          · exact absurd r ej
          · exact r
  · rw [e2]; show fi μ1 12 j o = _; rw [x1]; exact g5 j hj
theorem MI.int {μ0 μ μ1 : Mem} {o : Nat} {ks : List Nat} {A : Nat → Nat} {v : Int32} (h : MI μ0 μ o ks A) (hk : ∀ k, k ∈ ks → ¬ A k = o) (e1 : μ1 = sfi μ 12 44 o v) : MI μ0 μ1 o ks A := by
  obtain ⟨g1, g2, g3, g4, g5⟩ := h
  subst e1
  refine ⟨g1.tr Off_sfi, g2, fun k hk => g3 k hk, g4, fun k hk => ?_⟩
  rw [fi_sfi_k hk]; exact g5 k hk
def KSm : List Nat := [57, 56, 55, 53, 43, 42, 39, 38, 37, 36, 35, 34, 33, 32, 31, 30, 29, 28, 27, 23, 22, 21, 20, 18, 17, 16, 15, 14, 13, 12, 10, 9, 8, 7, 6, 5, 4, 1]
theorem mk_in : ∀ k, (mk k).1 ≠ 0 → k ∈ KSm := by
  intro k h
  unfold mk at h
  split at h <;> first | decide | exact absurd rfl h
theorem mk_out : ∀ k, k ∈ KSm → (mk k).1 ≠ 0 := by decide

set_option maxHeartbeats 4000000 in
theorem x_rinit {μ : Mem} {o c z : Nat} {post : Mem → Prop} (ho : kd μ o = 13) (hc : 38 ≤ c) (hz : 785490 ≤ z) (hp : ∀ μ' A, MI μ μ' o KSm A → fi μ' 12 44 o = -1 → post μ') : wp_X11_init c z μ o post := by
  have M : MI μ μ o [] (fun _ => 0) := ⟨Off.rf μ, ho, fun k hk => absurd hk (by simp), fun j hj => absurd hj (by simp), fun _ _ => rfl⟩
  refine ⟨by omega, by omega, fun q μ2 c3 z4 ec ez hq e1 => ⟨?_, fun μ3 e2 => ?_⟩⟩
  · rw [e1, kd_narE, if_neg (fun e => by rw [e, hq] at ho; cases ho)]; exact ho
  have M := M.step (k := 1) hq 102 10 rfl rfl (by decide) (by decide) e1 e2
  have hc : 37 ≤ c3 := by omega
  have hz : 785480 ≤ z4 := by omega
  clear ec ez e1 e2 hq
  refine ⟨by omega, by omega, fun q μ2 c3 z4 ec ez hq e1 μ3 e2 => ?_⟩
  have M := M.step (k := 4) hq 104 60 rfl rfl (by decide) (by decide) e1 e2
  have hc : 36 ≤ c3 := by omega
  have hz : 785420 ≤ z4 := by omega
  clear ec ez e1 e2 hq
  refine ⟨by omega, by omega, fun q μ2 c3 z4 ec ez hq e1 μ3 e2 => ?_⟩
  have M := M.step (k := 5) hq 102 60 rfl rfl (by decide) (by decide) e1 e2
  have hc : 35 ≤ c3 := by omega
  have hz : 785360 ≤ z4 := by omega
  clear ec ez e1 e2 hq
  refine ⟨by omega, by omega, fun q μ2 c3 z4 ec ez hq e1 μ3 e2 => ?_⟩
  have M := M.step (k := 6) hq 102 60 rfl rfl (by decide) (by decide) e1 e2
  have hc : 34 ≤ c3 := by omega
  have hz : 785300 ≤ z4 := by omega
  clear ec ez e1 e2 hq
  refine ⟨by omega, by omega, fun q μ2 c3 z4 ec ez hq e1 μ3 e2 => ?_⟩
  have M := M.step (k := 7) hq 102 60 rfl rfl (by decide) (by decide) e1 e2
  have hc : 33 ≤ c3 := by omega
  have hz : 785240 ≤ z4 := by omega
  clear ec ez e1 e2 hq
  refine ⟨by omega, by omega, fun q μ2 c3 z4 ec ez hq e1 μ3 e2 => ?_⟩
  have M := M.step (k := 8) hq 102 480 rfl rfl (by decide) (by decide) e1 e2
  have hc : 32 ≤ c3 := by omega
  have hz : 784760 ≤ z4 := by omega
  clear ec ez e1 e2 hq
  refine ⟨by omega, by omega, fun q μ2 c3 z4 ec ez hq e1 μ3 e2 => ?_⟩
  have M := M.step (k := 9) hq 102 60 rfl rfl (by decide) (by decide) e1 e2
  have hc : 31 ≤ c3 := by omega
  have hz : 784700 ≤ z4 := by omega
  clear ec ez e1 e2 hq
  refine ⟨by omega, by omega, fun q μ2 c3 z4 ec ez hq e1 μ3 e2 => ?_⟩
  have M := M.step (k := 10) hq 102 120000 rfl rfl (by decide) (by decide) e1 e2
  have hc : 30 ≤ c3 := by omega
  have hz : 664700 ≤ z4 := by omega
  clear ec ez e1 e2 hq
  refine ⟨by omega, by omega, fun q μ2 c3 z4 ec ez hq e1 μ3 e2 => ?_⟩
  have M := M.step (k := 12) hq 102 2000 rfl rfl (by decide) (by decide) e1 e2
  have hc : 29 ≤ c3 := by omega
  have hz : 662700 ≤ z4 := by omega
  clear ec ez e1 e2 hq
  refine ⟨by omega, by omega, fun q μ2 c3 z4 ec ez hq e1 μ3 e2 => ?_⟩
  have M := M.step (k := 13) hq 102 2000 rfl rfl (by decide) (by decide) e1 e2
  have hc : 28 ≤ c3 := by omega
  have hz : 660700 ≤ z4 := by omega
  clear ec ez e1 e2 hq
  refine ⟨by omega, by omega, fun q μ2 c3 z4 ec ez hq e1 μ3 e2 => ?_⟩
  have M := M.step (k := 14) hq 102 2000 rfl rfl (by decide) (by decide) e1 e2
  have hc : 27 ≤ c3 := by omega
  have hz : 658700 ≤ z4 := by omega
  clear ec ez e1 e2 hq
  refine ⟨by omega, by omega, fun q μ2 c3 z4 ec ez hq e1 μ3 e2 => ?_⟩
  have M := M.step (k := 15) hq 102 2000 rfl rfl (by decide) (by decide) e1 e2
  have hc : 26 ≤ c3 := by omega
  have hz : 656700 ≤ z4 := by omega
  clear ec ez e1 e2 hq
  refine ⟨by omega, by omega, fun q μ2 c3 z4 ec ez hq e1 μ3 e2 => ?_⟩
  have M := M.step (k := 16) hq 102 2000 rfl rfl (by decide) (by decide) e1 e2
  have hc : 25 ≤ c3 := by omega
  have hz : 654700 ≤ z4 := by omega
  clear ec ez e1 e2 hq
  refine ⟨by omega, by omega, fun q μ2 c3 z4 ec ez hq e1 μ3 e2 => ?_⟩
  have M := M.step (k := 17) hq 102 2000 rfl rfl (by decide) (by decide) e1 e2
  have hc : 24 ≤ c3 := by omega
  have hz : 652700 ≤ z4 := by omega
  clear ec ez e1 e2 hq
  refine ⟨by omega, by omega, fun q μ2 c3 z4 ec ez hq e1 μ3 e2 => ?_⟩
  have M := M.step (k := 18) hq 102 20000 rfl rfl (by decide) (by decide) e1 e2
  have hc : 23 ≤ c3 := by omega
  have hz : 632700 ≤ z4 := by omega
  clear ec ez e1 e2 hq
  refine ⟨by omega, by omega, fun q μ2 c3 z4 ec ez hq e1 μ3 e2 => ?_⟩
  have M := M.step (k := 20) hq 102 20100 rfl rfl (by decide) (by decide) e1 e2
  have hc : 22 ≤ c3 := by omega
  have hz : 612600 ≤ z4 := by omega
  clear ec ez e1 e2 hq
  refine ⟨by omega, by omega, fun q μ2 c3 z4 ec ez hq e1 μ3 e2 => ?_⟩
  have M := M.step (k := 21) hq 102 20100 rfl rfl (by decide) (by decide) e1 e2
  have hc : 21 ≤ c3 := by omega
  have hz : 592500 ≤ z4 := by omega
  clear ec ez e1 e2 hq
  refine ⟨by omega, by omega, fun q μ2 c3 z4 ec ez hq e1 μ3 e2 => ?_⟩
  have M := M.step (k := 22) hq 102 20100 rfl rfl (by decide) (by decide) e1 e2
  have hc : 20 ≤ c3 := by omega
  have hz : 572400 ≤ z4 := by omega
  clear ec ez e1 e2 hq
  refine ⟨by omega, by omega, fun q μ2 c3 z4 ec ez hq e1 μ3 e2 => ?_⟩
  have M := M.step (k := 23) hq 103 20100 rfl rfl (by decide) (by decide) e1 e2
  have hc : 19 ≤ c3 := by omega
  have hz : 552300 ≤ z4 := by omega
  clear ec ez e1 e2 hq
  refine ⟨by omega, by omega, fun q μ2 c3 z4 ec ez hq e1 μ3 e2 => ?_⟩
  have M := M.step (k := 27) hq 104 7000 rfl rfl (by decide) (by decide) e1 e2
  have hc : 18 ≤ c3 := by omega
  have hz : 545300 ≤ z4 := by omega
  clear ec ez e1 e2 hq
  refine ⟨by omega, by omega, fun q μ2 c3 z4 ec ez hq e1 μ3 e2 => ?_⟩
  have M := M.step (k := 28) hq 102 7000 rfl rfl (by decide) (by decide) e1 e2
  have hc : 17 ≤ c3 := by omega
  have hz : 538300 ≤ z4 := by omega
  clear ec ez e1 e2 hq
  refine ⟨by omega, by omega, fun q μ2 c3 z4 ec ez hq e1 μ3 e2 => ?_⟩
  have M := M.step (k := 29) hq 102 7000 rfl rfl (by decide) (by decide) e1 e2
  have hc : 16 ≤ c3 := by omega
  have hz : 531300 ≤ z4 := by omega
  clear ec ez e1 e2 hq
  refine ⟨by omega, by omega, fun q μ2 c3 z4 ec ez hq e1 μ3 e2 => ?_⟩
  have M := M.step (k := 30) hq 102 7000 rfl rfl (by decide) (by decide) e1 e2
  have hc : 15 ≤ c3 := by omega
  have hz : 524300 ≤ z4 := by omega
  clear ec ez e1 e2 hq
  refine ⟨by omega, by omega, fun q μ2 c3 z4 ec ez hq e1 μ3 e2 => ?_⟩
  have M := M.step (k := 31) hq 102 7000 rfl rfl (by decide) (by decide) e1 e2
  have hc : 14 ≤ c3 := by omega
  have hz : 517300 ≤ z4 := by omega
  clear ec ez e1 e2 hq
  refine ⟨by omega, by omega, fun q μ2 c3 z4 ec ez hq e1 μ3 e2 => ?_⟩
  have M := M.step (k := 32) hq 102 7000 rfl rfl (by decide) (by decide) e1 e2
  have hc : 13 ≤ c3 := by omega
  have hz : 510300 ≤ z4 := by omega
  clear ec ez e1 e2 hq
  refine ⟨by omega, by omega, fun q μ2 c3 z4 ec ez hq e1 μ3 e2 => ?_⟩
  have M := M.step (k := 33) hq 102 7000 rfl rfl (by decide) (by decide) e1 e2
  have hc : 12 ≤ c3 := by omega
  have hz : 503300 ≤ z4 := by omega
  clear ec ez e1 e2 hq
  refine ⟨by omega, by omega, fun q μ2 c3 z4 ec ez hq e1 μ3 e2 => ?_⟩
  have M := M.step (k := 34) hq 104 7000 rfl rfl (by decide) (by decide) e1 e2
  have hc : 11 ≤ c3 := by omega
  have hz : 496300 ≤ z4 := by omega
  clear ec ez e1 e2 hq
  refine ⟨by omega, by omega, fun q μ2 c3 z4 ec ez hq e1 μ3 e2 => ?_⟩
  have M := M.step (k := 35) hq 102 7000 rfl rfl (by decide) (by decide) e1 e2
  have hc : 10 ≤ c3 := by omega
  have hz : 489300 ≤ z4 := by omega
  clear ec ez e1 e2 hq
  refine ⟨by omega, by omega, fun q μ2 c3 z4 ec ez hq e1 μ3 e2 => ?_⟩
  have M := M.step (k := 36) hq 102 7000 rfl rfl (by decide) (by decide) e1 e2
  have hc : 9 ≤ c3 := by omega
  have hz : 482300 ≤ z4 := by omega
  clear ec ez e1 e2 hq
  refine ⟨by omega, by omega, fun q μ2 c3 z4 ec ez hq e1 μ3 e2 => ?_⟩
  have M := M.step (k := 37) hq 102 7000 rfl rfl (by decide) (by decide) e1 e2
  have hc : 8 ≤ c3 := by omega
  have hz : 475300 ≤ z4 := by omega
  clear ec ez e1 e2 hq
  refine ⟨by omega, by omega, fun q μ2 c3 z4 ec ez hq e1 μ3 e2 => ?_⟩
  have M := M.step (k := 38) hq 102 7000 rfl rfl (by decide) (by decide) e1 e2
  have hc : 7 ≤ c3 := by omega
  have hz : 468300 ≤ z4 := by omega
  clear ec ez e1 e2 hq
  refine ⟨by omega, by omega, fun q μ2 c3 z4 ec ez hq e1 μ3 e2 => ?_⟩
  have M := M.step (k := 39) hq 103 20100 rfl rfl (by decide) (by decide) e1 e2
  have hc : 6 ≤ c3 := by omega
  have hz : 448200 ≤ z4 := by omega
  clear ec ez e1 e2 hq
  refine ⟨by omega, by omega, fun q μ2 c3 z4 ec ez hq e1 μ3 e2 => ?_⟩
  have M := M.step (k := 42) hq 102 200000 rfl rfl (by decide) (by decide) e1 e2
  have hc : 5 ≤ c3 := by omega
  have hz : 248200 ≤ z4 := by omega
  clear ec ez e1 e2 hq
  refine ⟨by omega, by omega, fun q μ2 c3 z4 ec ez hq e1 μ3 e2 => ?_⟩
  have M := M.step (k := 43) hq 103 200000 rfl rfl (by decide) (by decide) e1 e2
  have hc : 4 ≤ c3 := by omega
  have hz : 48200 ≤ z4 := by omega
  clear ec ez e1 e2 hq
  intro μi ei
  have M := M.int (fun k hk e => by have := (M.2.2.1 k hk).2.1; rw [e, M.2.1] at this; revert this; exact (by decide : ∀ k, k ∈ [43, 42, 39, 38, 37, 36, 35, 34, 33, 32, 31, 30, 29, 28, 27, 23, 22, 21, 20, 18, 17, 16, 15, 14, 13, 12, 10, 9, 8, 7, 6, 5, 4, 1] → ¬ 13 = (mk k).1) k hk) ei
  have f44 : fi μi 12 44 o = -1 := by rw [ei, fi_sfi_e]
  clear ei
  refine ⟨by omega, by omega, fun q μ2 c3 z4 ec ez hq e1 μ3 e2 => ?_⟩
  have f44 : fi μ3 12 44 o = -1 := by rw [e2]; show fi μ2 12 44 o = -1; rw [e1]; exact f44
  have M := M.step (k := 53) hq 102 1000 rfl rfl (by decide) (by decide) e1 e2
  have hc : 3 ≤ c3 := by omega
  have hz : 47200 ≤ z4 := by omega
  clear ec ez e1 e2 hq
  refine ⟨by omega, by omega, fun q μ2 c3 z4 ec ez hq e1 μ3 e2 => ?_⟩
  have f44 : fi μ3 12 44 o = -1 := by rw [e2]; show fi μ2 12 44 o = -1; rw [e1]; exact f44
  have M := M.step (k := 55) hq 103 20100 rfl rfl (by decide) (by decide) e1 e2
  have hc : 2 ≤ c3 := by omega
  have hz : 27100 ≤ z4 := by omega
  clear ec ez e1 e2 hq
  refine ⟨by omega, by omega, fun q μ2 c3 z4 ec ez hq e1 μ3 e2 => ?_⟩
  have f44 : fi μ3 12 44 o = -1 := by rw [e2]; show fi μ2 12 44 o = -1; rw [e1]; exact f44
  have M := M.step (k := 56) hq 103 20100 rfl rfl (by decide) (by decide) e1 e2
  have hc : 1 ≤ c3 := by omega
  have hz : 7000 ≤ z4 := by omega
  clear ec ez e1 e2 hq
  refine ⟨by omega, by omega, fun q μ2 c3 z4 ec ez hq e1 μ3 e2 => ?_⟩
  have f44 : fi μ3 12 44 o = -1 := by rw [e2]; show fi μ2 12 44 o = -1; rw [e1]; exact f44
  have M := M.step (k := 57) hq 102 7000 rfl rfl (by decide) (by decide) e1 e2
  have hc : 0 ≤ c3 := by omega
  have hz : 0 ≤ z4 := by omega
  clear ec ez e1 e2 hq
  exact hp _ _ M f44
