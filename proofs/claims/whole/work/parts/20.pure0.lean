/-! pure rows: what the memory holds behind stores; the row of longs -/
theorem kd_sfi {μ : Mem} {c k a : Nat} {v : Int32} : kd (sfi μ c k a v) = kd μ := rfl
theorem kd_sfr {μ : Mem} {c k a : Nat} {v : Option Nat} : kd (sfr μ c k a v) = kd μ := rfl
theorem kd_sai {μ : Mem} {a i : Nat} {v : Int32} : kd (sai μ a i v) = kd μ := rfl
theorem kd_saj {μ : Mem} {a i : Nat} {v : Int64} : kd (saj μ a i v) = kd μ := rfl
theorem kd_sar {μ : Mem} {a i : Nat} {v : Option Nat} : kd (sar μ a i v) = kd μ := rfl
theorem kd_cpi {μ : Mem} {a sp b dp n : Nat} : kd (cpi μ a sp b dp n) = kd μ := rfl
theorem kd_cpj {μ : Mem} {a sp b dp n : Nat} : kd (cpj μ a sp b dp n) = kd μ := rfl
theorem kd_cpr {μ : Mem} {a sp b dp n : Nat} : kd (cpr μ a sp b dp n) = kd μ := rfl
theorem kd_nobE {μ : Mem} {c q a : Nat} : kd (nob μ c q) a = if a = q then c + 1 else kd μ a := rfl
theorem kd_narE {μ : Mem} {t q n a : Nat} : kd (nar μ t q n) a = if a = q then t else kd μ a := rfl
theorem kd_clnE {μ : Mem} {b q a : Nat} : kd (cln μ b q) a = if a = q then kd μ b else kd μ a := rfl
theorem fi_sfi {μ : Mem} {c k a c' k' a' : Nat} {v : Int32} : fi (sfi μ c k a v) c' k' a' = if c' = c ∧ k' = k ∧ a' = a then v else fi μ c' k' a' := rfl
theorem fi_sfr {μ : Mem} {c k a : Nat} {v : Option Nat} : fi (sfr μ c k a v) = fi μ := rfl
theorem fi_sai {μ : Mem} {a i : Nat} {v : Int32} : fi (sai μ a i v) = fi μ := rfl
theorem fi_saj {μ : Mem} {a i : Nat} {v : Int64} : fi (saj μ a i v) = fi μ := rfl
theorem fi_sar {μ : Mem} {a i : Nat} {v : Option Nat} : fi (sar μ a i v) = fi μ := rfl
theorem fi_cpi {μ : Mem} {a sp b dp n : Nat} : fi (cpi μ a sp b dp n) = fi μ := rfl
theorem fi_cpj {μ : Mem} {a sp b dp n : Nat} : fi (cpj μ a sp b dp n) = fi μ := rfl
theorem fi_cpr {μ : Mem} {a sp b dp n : Nat} : fi (cpr μ a sp b dp n) = fi μ := rfl
theorem fi_nob {μ : Mem} {c q c' k' a' : Nat} : fi (nob μ c q) c' k' a' = if c' = c ∧ a' = q then 0 else fi μ c' k' a' := rfl
theorem fi_nar {μ : Mem} {t q n : Nat} : fi (nar μ t q n) = fi μ := rfl
theorem fi_cln {μ : Mem} {b q : Nat} : fi (cln μ b q) = fi μ := rfl
theorem fr_sfr {μ : Mem} {c k a c' k' a' : Nat} {v : Option Nat} : fr (sfr μ c k a v) c' k' a' = if c' = c ∧ k' = k ∧ a' = a then v else fr μ c' k' a' := rfl
theorem fr_sfi {μ : Mem} {c k a : Nat} {v : Int32} : fr (sfi μ c k a v) = fr μ := rfl
theorem fr_sai {μ : Mem} {a i : Nat} {v : Int32} : fr (sai μ a i v) = fr μ := rfl
theorem fr_saj {μ : Mem} {a i : Nat} {v : Int64} : fr (saj μ a i v) = fr μ := rfl
theorem fr_sar {μ : Mem} {a i : Nat} {v : Option Nat} : fr (sar μ a i v) = fr μ := rfl
theorem fr_cpi {μ : Mem} {a sp b dp n : Nat} : fr (cpi μ a sp b dp n) = fr μ := rfl
theorem fr_cpj {μ : Mem} {a sp b dp n : Nat} : fr (cpj μ a sp b dp n) = fr μ := rfl
theorem fr_cpr {μ : Mem} {a sp b dp n : Nat} : fr (cpr μ a sp b dp n) = fr μ := rfl
theorem fr_nob {μ : Mem} {c q c' k' a' : Nat} : fr (nob μ c q) c' k' a' = if c' = c ∧ a' = q then none else fr μ c' k' a' := rfl
theorem fr_nar {μ : Mem} {t q n : Nat} : fr (nar μ t q n) = fr μ := rfl
theorem fr_cln {μ : Mem} {b q : Nat} : fr (cln μ b q) = fr μ := rfl
theorem al_sfi {μ : Mem} {c k a : Nat} {v : Int32} : al (sfi μ c k a v) = al μ := rfl
theorem al_sfr {μ : Mem} {c k a : Nat} {v : Option Nat} : al (sfr μ c k a v) = al μ := rfl
theorem al_sai {μ : Mem} {a i : Nat} {v : Int32} : al (sai μ a i v) = al μ := rfl
theorem al_saj {μ : Mem} {a i : Nat} {v : Int64} : al (saj μ a i v) = al μ := rfl
theorem al_sar {μ : Mem} {a i : Nat} {v : Option Nat} : al (sar μ a i v) = al μ := rfl
theorem al_cpi {μ : Mem} {a sp b dp n : Nat} : al (cpi μ a sp b dp n) = al μ := rfl
theorem al_cpj {μ : Mem} {a sp b dp n : Nat} : al (cpj μ a sp b dp n) = al μ := rfl
theorem al_cpr {μ : Mem} {a sp b dp n : Nat} : al (cpr μ a sp b dp n) = al μ := rfl
theorem al_nob {μ : Mem} {c q : Nat} : al (nob μ c q) = al μ := rfl
theorem al_nar {μ : Mem} {t q n a : Nat} : al (nar μ t q n) a = if a = q then n else al μ a := rfl
theorem al_cln {μ : Mem} {b q a : Nat} : al (cln μ b q) a = if a = q then al μ b else al μ a := rfl
theorem ai_sfi {μ : Mem} {c k a : Nat} {v : Int32} : ai (sfi μ c k a v) = ai μ := rfl
theorem ai_sfr {μ : Mem} {c k a : Nat} {v : Option Nat} : ai (sfr μ c k a v) = ai μ := rfl
theorem ai_sai {μ : Mem} {a i a' i' : Nat} {v : Int32} : ai (sai μ a i v) a' i' = if a' = a ∧ i' = i then v else ai μ a' i' := rfl
theorem ai_saj {μ : Mem} {a i : Nat} {v : Int64} : ai (saj μ a i v) = ai μ := rfl
theorem ai_sar {μ : Mem} {a i : Nat} {v : Option Nat} : ai (sar μ a i v) = ai μ := rfl
theorem ai_cpi {μ : Mem} {a sp b dp n a' i' : Nat} : ai (cpi μ a sp b dp n) a' i' = if a' = b then va_cpy (ai μ a) (ai μ b) sp dp n i' else ai μ a' i' := rfl
theorem ai_cpj {μ : Mem} {a sp b dp n : Nat} : ai (cpj μ a sp b dp n) = ai μ := rfl
theorem ai_cpr {μ : Mem} {a sp b dp n : Nat} : ai (cpr μ a sp b dp n) = ai μ := rfl
theorem ai_nob {μ : Mem} {c q : Nat} : ai (nob μ c q) = ai μ := rfl
theorem ai_nar {μ : Mem} {t q n a i : Nat} : ai (nar μ t q n) a i = if a = q then 0 else ai μ a i := rfl
theorem ai_cln {μ : Mem} {b q a i : Nat} : ai (cln μ b q) a i = if a = q then ai μ b i else ai μ a i := rfl
theorem aj_sfi {μ : Mem} {c k a : Nat} {v : Int32} : aj (sfi μ c k a v) = aj μ := rfl
theorem aj_sfr {μ : Mem} {c k a : Nat} {v : Option Nat} : aj (sfr μ c k a v) = aj μ := rfl
theorem aj_sai {μ : Mem} {a i : Nat} {v : Int32} : aj (sai μ a i v) = aj μ := rfl
theorem aj_saj {μ : Mem} {a i a' i' : Nat} {v : Int64} : aj (saj μ a i v) a' i' = if a' = a ∧ i' = i then v else aj μ a' i' := rfl
theorem aj_sar {μ : Mem} {a i : Nat} {v : Option Nat} : aj (sar μ a i v) = aj μ := rfl
theorem aj_cpi {μ : Mem} {a sp b dp n : Nat} : aj (cpi μ a sp b dp n) = aj μ := rfl
theorem aj_cpj {μ : Mem} {a sp b dp n a' i' : Nat} : aj (cpj μ a sp b dp n) a' i' = if a' = b then va_cpy (aj μ a) (aj μ b) sp dp n i' else aj μ a' i' := rfl
theorem aj_cpr {μ : Mem} {a sp b dp n : Nat} : aj (cpr μ a sp b dp n) = aj μ := rfl
theorem aj_nob {μ : Mem} {c q : Nat} : aj (nob μ c q) = aj μ := rfl
theorem aj_nar {μ : Mem} {t q n a i : Nat} : aj (nar μ t q n) a i = if a = q then 0 else aj μ a i := rfl
theorem aj_cln {μ : Mem} {b q a i : Nat} : aj (cln μ b q) a i = if a = q then aj μ b i else aj μ a i := rfl
theorem ar_sfi {μ : Mem} {c k a : Nat} {v : Int32} : ar (sfi μ c k a v) = ar μ := rfl
theorem ar_sfr {μ : Mem} {c k a : Nat} {v : Option Nat} : ar (sfr μ c k a v) = ar μ := rfl
theorem ar_sai {μ : Mem} {a i : Nat} {v : Int32} : ar (sai μ a i v) = ar μ := rfl
theorem ar_saj {μ : Mem} {a i : Nat} {v : Int64} : ar (saj μ a i v) = ar μ := rfl
theorem ar_sar {μ : Mem} {a i a' i' : Nat} {v : Option Nat} : ar (sar μ a i v) a' i' = if a' = a ∧ i' = i then v else ar μ a' i' := rfl
theorem ar_cpi {μ : Mem} {a sp b dp n : Nat} : ar (cpi μ a sp b dp n) = ar μ := rfl
theorem ar_cpj {μ : Mem} {a sp b dp n : Nat} : ar (cpj μ a sp b dp n) = ar μ := rfl
theorem ar_cpr {μ : Mem} {a sp b dp n a' i' : Nat} : ar (cpr μ a sp b dp n) a' i' = if a' = b then va_cpy (ar μ a) (ar μ b) sp dp n i' else ar μ a' i' := rfl
theorem ar_nob {μ : Mem} {c q : Nat} : ar (nob μ c q) = ar μ := rfl
theorem ar_nar {μ : Mem} {t q n a i : Nat} : ar (nar μ t q n) a i = if a = q then none else ar μ a i := rfl
theorem ar_cln {μ : Mem} {b q a i : Nat} : ar (cln μ b q) a i = if a = q then ar μ b i else ar μ a i := rfl
/-! the small functions -/
theorem s_within_t {μ : Mem} {a b : Int32} {post : Int32 → Mem → Prop} (h1 : ¬ a < 0) (h2 : ¬ b ≤ a) (hp : post 1 μ) : wp_X10_within μ a b post := ⟨fun h => absurd h h1, fun _ => ⟨fun h => absurd h h2, fun _ => hp⟩⟩
theorem s_within_f {μ : Mem} {a b : Int32} {post : Int32 → Mem → Prop} (h : a < 0 ∨ b ≤ a) (hp : post 0 μ) : wp_X10_within μ a b post :=
  ⟨fun _ => hp, fun h1 => ⟨fun _ => hp, fun h2 => by rcases h with h | h; exact absurd h h1; exact absurd h h2⟩⟩
/-- the row of longs at o: its array, how many, what -/
def LR (μ : Mem) (o it n : Nat) (f : Nat → Int64) : Prop := kd μ o = 7 ∧ fr μ 6 0 o = some it ∧ kd μ it = 103 ∧ fi μ 6 1 o = nI n ∧ n ≤ al μ it ∧ al μ it ≤ 1048576 ∧ ∀ i, i < n → aj μ it i = f i
theorem LR.mono {μ μ' : Mem} {o it n : Nat} {f : Nat → Int64} (h : LR μ o it n f) (h1 : kd μ' o = kd μ o) (h2 : fr μ' 6 0 o = fr μ 6 0 o) (h3 : kd μ' it = kd μ it) (h4 : fi μ' 6 1 o = fi μ 6 1 o) (h5 : al μ' it = al μ it) (h6 : ∀ i, aj μ' it i = aj μ it i) : LR μ' o it n f := by
  obtain ⟨g1, g2, g3, g4, g5, g6, g7⟩ := h
  exact ⟨by rw [h1]; exact g1, by rw [h2]; exact g2, by rw [h3]; exact g3, by rw [h4]; exact g4, by rw [h5]; exact g5, by rw [h5]; exact g6, fun i hi => by rw [h6]; exact g7 i hi⟩
theorem s_size {μ : Mem} {o it n : Nat} {f : Nat → Int64} {post : Int32 → Mem → Prop} (h : LR μ o it n f) (hp : post (nI n) μ) : wp_X4_size μ o post := ⟨h.1, by rw [h.2.2.2.1]; exact hp⟩
theorem s_at {μ : Mem} {o it n j : Nat} {f : Nat → Int64} {post : Int64 → Mem → Prop} (h : LR μ o it n f) (hj : j < n) (hp : post (f j) μ) : wp_X4_at μ o (nI j) post := by
  obtain ⟨h1, h2, h3, h4, h5, h6, h7⟩ := h
  refine ⟨h1, ?_⟩
  rw [h4]
  refine s_within_t (nI_pos (by omega)) (nI_ge hj (by omega)) ?_
  intro _
  refine ⟨fun h => absurd h (by decide), fun _ => ⟨it, h2, Or.inr (Or.inr (Or.inl h3)), fun h => absurd h (nI_ge (by omega) (by omega)), fun _ => ⟨it, h2, h3, vp_in_nI (by omega) (by omega), ?_⟩⟩⟩
  rw [nI_clamp (by omega), h7 j hj]
  exact hp
theorem s_set {μ : Mem} {o it n j : Nat} {f : Nat → Int64} {v : Int64} {post : Mem → Prop} (h : LR μ o it n f) (hj : j < n) (hp : post (saj μ it j v)) : wp_X4_set μ o (nI j) v post := by
  obtain ⟨h1, h2, h3, h4, h5, h6, h7⟩ := h
  refine ⟨h1, ?_⟩
  rw [h4]
  refine s_within_t (nI_pos (by omega)) (nI_ge hj (by omega)) ?_
  intro _
  refine ⟨fun h => absurd h (by decide), fun _ => ⟨it, h2, Or.inr (Or.inr (Or.inl h3)), fun h => absurd h (nI_ge (by omega) (by omega)), fun _ => ⟨it, h2, h3, vp_in_nI (by omega) (by omega), ?_⟩⟩⟩
  intro μ1 e1
  rw [nI_clamp (by omega)] at e1
  rw [e1]; exact hp
theorem s_set_out {μ : Mem} {o it n j : Nat} {f : Nat → Int64} {v : Int64} {post : Mem → Prop} (h : LR μ o it n f) (hj : n ≤ j) (hj2 : j < 2 ^ 31) (hp : post μ) : wp_X4_set μ o (nI j) v post := by
  obtain ⟨h1, h2, h3, h4, h5, h6, h7⟩ := h
  refine ⟨h1, ?_⟩
  rw [h4]
  refine s_within_f (Or.inr (nI_le hj hj2)) ?_
  intro _
  exact ⟨fun _ => hp, fun h => absurd rfl h⟩
theorem s_shrink {μ : Mem} {o it n k : Nat} {f : Nat → Int64} {post : Mem → Prop} (h : LR μ o it n f) (hk : k < n) (hp : post (sfi μ 6 1 o (nI k))) : wp_X4_shrink μ o (nI k) post := by
  obtain ⟨h1, h2, h3, h4, h5, h6, h7⟩ := h
  refine ⟨h1, ?_⟩
  rw [h4]
  refine s_within_t (nI_pos (by omega)) (nI_ge hk (by omega)) ?_
  intro _
  refine ⟨fun h => absurd h (by decide), fun _ μ1 e1 => ?_⟩
  rw [e1]; exact hp
theorem s_shrink_no {μ : Mem} {o it n k : Nat} {f : Nat → Int64} {post : Mem → Prop} (h : LR μ o it n f) (hk : n ≤ k) (hk2 : k < 2 ^ 31) (hp : post μ) : wp_X4_shrink μ o (nI k) post := by
  obtain ⟨h1, h2, h3, h4, h5, h6, h7⟩ := h
  refine ⟨h1, ?_⟩
  rw [h4]
  refine s_within_f (Or.inr (nI_le hk hk2)) ?_
  intro _
  exact ⟨fun _ => hp, fun h => absurd rfl h⟩
theorem LR.shrunk {μ : Mem} {o it n k : Nat} {f : Nat → Int64} (h : LR μ o it n f) (hk : k ≤ n) : LR (sfi μ 6 1 o (nI k)) o it k f := by
  obtain ⟨h1, h2, h3, h4, h5, h6, h7⟩ := h
  exact ⟨h1, h2, h3, by simp [fi_sfi], Nat.le_trans hk h5, h6, fun i hi => h7 i (by omega)⟩
theorem s_pop {μ : Mem} {o it n : Nat} {f : Nat → Int64} {post : Int64 → Mem → Prop} (h : LR μ o it (n + 1) f) (hp : post (f n) (sfi μ 6 1 o (nI n))) : wp_X4_pop μ o post := by
  refine ⟨h.1, ?_⟩
  rw [h.2.2.2.1, nI_pred]
  refine s_at h (Nat.lt_succ_self n) ?_
  intro _
  rw [h.2.2.2.1, nI_pred]
  refine s_shrink h (Nat.lt_succ_self n) ?_
  intro _
  exact hp
/-- what stays: kinds, lengths, and all fields and places but those that are named -/
def Fr (Pi Pr : Nat → Nat → Nat → Prop) (Aj Ai' Ar : Nat → Prop) (μ μ' : Mem) : Prop :=
  KM μ μ' ∧ (∀ c k a, kd μ a ≠ 0 → ¬ Pi c k a → fi μ' c k a = fi μ c k a) ∧ (∀ c k a, kd μ a ≠ 0 → ¬ Pr c k a → fr μ' c k a = fr μ c k a) ∧ (∀ a, kd μ a ≠ 0 → al μ' a = al μ a) ∧
  (∀ a i, kd μ a ≠ 0 → ¬ Aj a → aj μ' a i = aj μ a i) ∧ (∀ a i, kd μ a ≠ 0 → ¬ Ai' a → ai μ' a i = ai μ a i) ∧ ∀ a i, kd μ a ≠ 0 → ¬ Ar a → ar μ' a i = ar μ a i
/-- what a push may change -/
abbrev FrP (o it : Nat) (μ μ' : Mem) : Prop := Fr (fun c k a => c = 6 ∧ k = 1 ∧ a = o) (fun c k a => c = 6 ∧ k = 0 ∧ a = o) (fun a => a = it) (fun _ => False) (fun _ => False) μ μ'
theorem s_push_40 {μ : Mem} {o it n c z : Nat} {f : Nat → Int64} {v : Int64} {post : Mem → Prop} (h : LR μ o it n f) (hn : n < al μ it) (hp : post (sfi (saj μ it n v) 6 1 o (nI (n + 1)))) : wp_X4_push_40 o post c z μ v := by
  obtain ⟨h1, h2, h3, h4, h5, h6, h7⟩ := h
  refine ⟨h1, it, h2, Or.inr (Or.inr (Or.inl h3)), ?_⟩
  rw [h4]
  refine s_within_t (nI_pos (by omega)) (nI_ge hn (by omega)) ?_
  intro _
  refine ⟨fun h => absurd h (by decide), fun _ => ⟨it, h2, h3, by rw [h4]; exact vp_in_nI hn (by omega), ?_⟩⟩
  intro μ1 e1 μ2 e2
  rw [h4, nI_clamp (by omega)] at e1
  subst e1
  rw [fi_saj, h4, nI_1] at e2
  subst e2
  exact hp
theorem LR.pushed {μ : Mem} {o it n : Nat} {f : Nat → Int64} {v : Int64} (h : LR μ o it n f) (hn : n < al μ it) : LR (sfi (saj μ it n v) 6 1 o (nI (n + 1))) o it (n + 1) (va_up f n v) := by
  obtain ⟨h1, h2, h3, h4, h5, h6, h7⟩ := h
  refine ⟨h1, h2, h3, by simp [fi_sfi], hn, h6, fun i hi => ?_⟩
  rw [aj_sfi, aj_saj]
  by_cases he : i = n
  · subst he; simp [va_up]
  · simp [he, va_up]; exact h7 i (by omega)
theorem FrP.pushed {μ : Mem} {o it n : Nat} {v : Int64} {x : Int32} : FrP o it μ (sfi (saj μ it n v) 6 1 o x) := by
  refine ⟨fun _ _ => rfl, fun c k a _ hx => ?_, fun _ _ _ _ _ => rfl, fun _ _ => rfl, fun a i _ hx => ?_, fun _ _ _ _ => rfl, fun _ _ _ _ => rfl⟩
  · rw [fi_sfi, if_neg hx]; rfl
  · rw [aj_sfi, aj_saj, if_neg (fun q => hx q.1)]
theorem s_copyJ {μ : Mem} {a n N c z : Nat} {post : Option Nat → Mem → Prop} (ha : kd μ a = 103) (hl : al μ a = n) (hN : n < N) (hN2 : N ≤ 1048576) (hc : 1 ≤ c) (hz : N ≤ z)
    (hp : ∀ q, kd μ q = 0 → post (some q) (cpj (nar μ 103 q N) a 0 q 0 n)) : wp_J7_copyOf_c38d5 c z μ a (nI N) post := by
  refine ⟨Or.inr (Or.inr (Or.inl ha)), fun h => ?_, fun _ => ?_⟩
  · rw [hl] at h
    exact absurd ((nI_eq (by omega) (by omega)).mp h) (by omega)
  · rw [nI_clamp (by omega)]
    refine ⟨nI_pos (by omega), hN2, hc, hz, fun q μ1 hq e1 => ?_⟩
    have hne : a ≠ q := fun e => by rw [e, hq] at ha; cases ha
    subst e1
    have k1 : kd (nar μ 103 q N) a = 103 := by rw [kd_narE, if_neg hne]; exact ha
    have l1 : al (nar μ 103 q N) a = n := by rw [al_nar, if_neg hne]; exact hl
    have l2 : al (nar μ 103 q N) q = N := by rw [al_nar, if_pos rfl]
    rw [l1, l2]
    have hm : (if nI N < nI n then nI N else nI n) = nI n := if_neg (nI_nlt (by omega) (by omega))
    have hm2 : (if nI n < nI N then nI n else nI N) = nI n := if_pos (nI_lt hN (by omega))
    refine ⟨Or.inr (Or.inr (Or.inl k1)), k1, by decide, by decide, ?_⟩
    simp only [hm, hm2]
    rw [nI_clamp (by omega)]
    refine ⟨nI_pos (by omega), by show 0 + n ≤ n; omega, by show 0 + n ≤ N; omega, fun μ6 e6 => ?_⟩
    subst e6
    exact hp q hq
