/-! LongRow.push, in both cases -/
theorem s_push {μ : Mem} {o it n c z : Nat} {f : Nat → Int64} {v : Int64} {post : Mem → Prop} (h : LR μ o it n f) (hn : n < 262144) (hb : n < al μ it ∨ (1 ≤ c ∧ 2 * al μ it ≤ z)) (h1 : 1 ≤ al μ it)
    (hp : ∀ μ' it', LR μ' o it' (n + 1) (va_up f n v) → FrP o it μ μ' → (it' = it ∨ kd μ it' = 0) → (n < al μ it → it' = it ∧ al μ' it' = al μ it) → (¬ n < al μ it → al μ' it' = 2 * al μ it) → (∀ a, kd μ' a = 106 → kd μ a = 106) → post μ') : wp_X4_push c z μ o v post := by
  obtain ⟨g1, g2, g3, g4, g5, g6, g7⟩ := id h
  have ia : isArr (kd μ it) := Or.inr (Or.inr (Or.inl g3))
  refine ⟨g1, it, g2, ia, fun hlt => ?_, fun hlt => ?_⟩
  · rw [g4] at hlt
    have hl : n < al μ it := by
      rcases Nat.lt_or_ge n (al μ it) with q | q
      · exact q
      · exact absurd hlt (nI_nlt q (by omega))
    exact s_push_40 h hl (hp _ it (h.pushed hl) FrP.pushed (Or.inl rfl) (fun _ => ⟨rfl, rfl⟩) (fun q => absurd hl q) (fun _ h => h))
  · rw [g4] at hlt
    have hl : al μ it = n := by
      rcases Nat.lt_or_ge n (al μ it) with q | q
      · exact absurd (nI_lt q (by omega)) hlt
      · omega
    refine ⟨it, g2, ia, fun hbig => absurd hbig ?_, fun _ => ⟨it, g2, it, g2, ia, 1, 2 * n, ?_⟩⟩
    · rw [hl]; exact nI_ge (b := 1048576) (by omega) (by decide)
    · have hb2 : 1 ≤ c ∧ 2 * al μ it ≤ z := by
        rcases hb with q | q
        · omega
        · exact q
      refine ⟨hb2.1, by omega, ?_⟩
      rw [hl, show nI n * 2 = nI (2 * n) by rw [show (2 : Int32) = nI 2 from rfl, pk_mul, Nat.mul_comm]]
      refine s_copyJ g3 hl (by omega) (by omega) (Nat.le_refl _) (Nat.le_refl _) fun q hq => ?_
      intro _ μ2 e2
      have nq1 : o ≠ q := fun e => by rw [e, hq] at g1; cases g1
      have nq2 : it ≠ q := fun e => by rw [e, hq] at g3; cases g3
      subst e2
      have hLR : LR (sfr (cpj (nar μ 103 q (2 * n)) it 0 q 0 n) 6 0 o (some q)) o q n f := by
        refine ⟨?_, ?_, ?_, ?_, ?_, ?_, fun i hi => ?_⟩
        · rw [kd_sfr, kd_cpj, kd_narE, if_neg nq1]; exact g1
        · rw [fr_sfr, if_pos ⟨rfl, rfl, rfl⟩]
        · rw [kd_sfr, kd_cpj, kd_narE, if_pos rfl]
        · rw [fi_sfr, fi_cpj, fi_nar]; exact g4
        · rw [al_sfr, al_cpj, al_nar, if_pos rfl]; omega
        · rw [al_sfr, al_cpj, al_nar, if_pos rfl]; omega
        · rw [aj_sfr, aj_cpj, if_pos rfl, pk_cpy_in (by omega) (by omega), aj_nar, if_neg nq2, show 0 + (i - 0) = i by omega]
          exact g7 i hi
      have hal : al (sfr (cpj (nar μ 103 q (2 * n)) it 0 q 0 n) 6 0 o (some q)) q = 2 * n := by rw [al_sfr, al_cpj, al_nar, if_pos rfl]
      have hl2 : n < al (sfr (cpj (nar μ 103 q (2 * n)) it 0 q 0 n) 6 0 o (some q)) q := by rw [hal]; omega
      refine s_push_40 hLR hl2 (hp _ q (hLR.pushed hl2) ?_ (Or.inr hq) (fun z => absurd z (by omega)) (fun _ => ?_) (fun a ha => ?_))
      · refine ⟨fun a ha => ?_, fun c k a ha hx => ?_, fun c k a ha hx => ?_, fun a ha => ?_, fun a i ha hx => ?_, fun a i ha hx => ?_, fun a i ha hx => ?_⟩
        all_goals have na : a ≠ q := fun e => ha (e ▸ hq)
        · rw [kd_sfi, kd_saj, kd_sfr, kd_cpj, kd_narE, if_neg na]
        · rw [fi_sfi, if_neg hx, fi_saj, fi_sfr, fi_cpj, fi_nar]
        · rw [fr_sfi, fr_saj, fr_sfr, if_neg hx, fr_cpj, fr_nar]
        · rw [al_sfi, al_saj, al_sfr, al_cpj, al_nar, if_neg na]
        · rw [aj_sfi, aj_saj, if_neg (fun z => na z.1), aj_sfr, aj_cpj, if_neg na, aj_nar, if_neg na]
        · rw [ai_sfi, ai_saj, ai_sfr, ai_cpj, ai_nar, if_neg na]
        · rw [ar_sfi, ar_saj, ar_sfr, ar_cpj, ar_nar, if_neg na]
      · rw [al_sfi, al_saj, hal, hl]
      · rw [kd_sfi, kd_saj, kd_sfr, kd_cpj, kd_narE] at ha
        by_cases e : a = q
        · rw [if_pos e] at ha; cases ha
        · rw [if_neg e] at ha; exact ha
