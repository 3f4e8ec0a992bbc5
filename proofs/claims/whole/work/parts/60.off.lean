/-! pure rows for the class: what stays outside some addresses; rows of longs and lists -/
def Off (D : Nat → Prop) (μ μ' : Mem) : Prop :=
  KM μ μ' ∧ (∀ a, kd μ' a = 106 → kd μ a = 106 ∧ al μ' a = al μ a) ∧ ∀ a, kd μ a ≠ 0 → ¬ D a → (∀ c k, fi μ' c k a = fi μ c k a) ∧ (∀ c k, fr μ' c k a = fr μ c k a) ∧ al μ' a = al μ a ∧ (∀ i, ai μ' a i = ai μ a i) ∧ (∀ i, aj μ' a i = aj μ a i) ∧ ∀ i, ar μ' a i = ar μ a i
theorem Off.rf {D : Nat → Prop} (μ : Mem) : Off D μ μ := ⟨KM.rf μ, fun _ h => ⟨h, rfl⟩, fun _ _ _ => ⟨fun _ _ => rfl, fun _ _ => rfl, rfl, fun _ => rfl, fun _ => rfl, fun _ => rfl⟩⟩
theorem Off.sub {D D' : Nat → Prop} {μ μ' : Mem} (h : Off D μ μ') (hs : ∀ a, kd μ a ≠ 0 → D a → D' a) : Off D' μ μ' := ⟨h.1, h.2.1, fun a ha hd => h.2.2 a ha (fun q => hd (hs a ha q))⟩
theorem Off.tr {D : Nat → Prop} {μ μ1 μ2 : Mem} (h : Off D μ μ1) (h' : Off D μ1 μ2) : Off D μ μ2 := by
  refine ⟨h.1.tr h'.1, fun a ha => ⟨(h.2.1 a (h'.2.1 a ha).1).1, (h'.2.1 a ha).2.trans (h.2.1 a (h'.2.1 a ha).1).2⟩, fun a ha hd => ?_⟩
  obtain ⟨a1, a2, a3, a4, a5, a6⟩ := h.2.2 a ha hd
  obtain ⟨b1, b2, b3, b4, b5, b6⟩ := h'.2.2 a (by rw [h.1 a ha]; exact ha) hd
  exact ⟨fun c k => (b1 c k).trans (a1 c k), fun c k => (b2 c k).trans (a2 c k), b3.trans a3, fun i => (b4 i).trans (a4 i), fun i => (b5 i).trans (a5 i), fun i => (b6 i).trans (a6 i)⟩
theorem Off.kd {D : Nat → Prop} {μ μ' : Mem} (h : Off D μ μ') {a t : Nat} (ht : kd μ a = t + 1) : kd μ' a = t + 1 := h.1.at ht
theorem Off_sfi {μ : Mem} {c k o : Nat} {v : Int32} : Off (fun a => a = o) μ (sfi μ c k o v) :=
  ⟨fun _ _ => rfl, fun _ h => ⟨h, rfl⟩, fun a _ hd => ⟨fun c' k' => if_neg (fun z => hd z.2.2), fun _ _ => rfl, rfl, fun _ => rfl, fun _ => rfl, fun _ => rfl⟩⟩
theorem Off_sfr {μ : Mem} {c k o : Nat} {v : Option Nat} : Off (fun a => a = o) μ (sfr μ c k o v) :=
  ⟨fun _ _ => rfl, fun _ h => ⟨h, rfl⟩, fun a _ hd => ⟨fun _ _ => rfl, fun c' k' => if_neg (fun z => hd z.2.2), rfl, fun _ => rfl, fun _ => rfl, fun _ => rfl⟩⟩
theorem Off_sai {μ : Mem} {o i : Nat} {v : Int32} : Off (fun a => a = o) μ (sai μ o i v) :=
  ⟨fun _ _ => rfl, fun _ h => ⟨h, rfl⟩, fun a _ hd => ⟨fun _ _ => rfl, fun _ _ => rfl, rfl, fun j => if_neg (fun z => hd z.1), fun _ => rfl, fun _ => rfl⟩⟩
theorem Off_saj {μ : Mem} {o i : Nat} {v : Int64} : Off (fun a => a = o) μ (saj μ o i v) :=
  ⟨fun _ _ => rfl, fun _ h => ⟨h, rfl⟩, fun a _ hd => ⟨fun _ _ => rfl, fun _ _ => rfl, rfl, fun _ => rfl, fun j => if_neg (fun z => hd z.1), fun _ => rfl⟩⟩
theorem Off_sar {μ : Mem} {o i : Nat} {v : Option Nat} : Off (fun a => a = o) μ (sar μ o i v) :=
  ⟨fun _ _ => rfl, fun _ h => ⟨h, rfl⟩, fun a _ hd => ⟨fun _ _ => rfl, fun _ _ => rfl, rfl, fun _ => rfl, fun _ => rfl, fun j => if_neg (fun z => hd z.1)⟩⟩
theorem Off_nob {D : Nat → Prop} {μ : Mem} {c q : Nat} (hq : kd μ q = 0) (hc : c < 100) : Off D μ (nob μ c q) := by
  refine ⟨KM_nob hq, fun a ha => ?_, fun a ha _ => ?_⟩
  · rw [kd_nobE] at ha
    by_cases e : a = q
    · rw [if_pos e] at ha; omega
    · rw [if_neg e] at ha; exact ⟨ha, rfl⟩
  · have na : a ≠ q := fun e => ha (e ▸ hq)
    exact ⟨fun c' k' => if_neg (fun z => na z.2), fun c' k' => if_neg (fun z => na z.2), rfl, fun _ => rfl, fun _ => rfl, fun _ => rfl⟩
theorem Off_nar {D : Nat → Prop} {μ : Mem} {t q n : Nat} (hq : kd μ q = 0) (ht : t ≠ 106) : Off D μ (nar μ t q n) := by
  refine ⟨KM_nar hq, fun a ha => ?_, fun a ha _ => ?_⟩
  · rw [kd_narE] at ha
    by_cases e : a = q
    · rw [if_pos e] at ha; exact absurd ha ht
    · rw [if_neg e] at ha; exact ⟨ha, by rw [al_nar, if_neg e]⟩
  · have na : a ≠ q := fun e => ha (e ▸ hq)
    exact ⟨fun _ _ => rfl, fun _ _ => rfl, by rw [al_nar, if_neg na], fun i => by rw [ai_nar, if_neg na], fun i => by rw [aj_nar, if_neg na], fun i => by rw [ar_nar, if_neg na]⟩
theorem LR.off {D : Nat → Prop} {μ μ' : Mem} {o it n : Nat} {f : Nat → Int64} (h : LR μ o it n f) (hf : Off D μ μ') (h1 : ¬ D o) (h2 : ¬ D it) : LR μ' o it n f := by
  obtain ⟨g1, g2, g3, g4, g5, g6, g7⟩ := h
  obtain ⟨a1, a2, -⟩ := hf.2.2 o (by omega) h1
  obtain ⟨-, -, b3, -, b5, -⟩ := hf.2.2 it (by omega) h2
  exact ⟨hf.kd g1, by rw [a2]; exact g2, hf.kd g3, by rw [a1]; exact g4, by rw [b3]; exact g5, by rw [b3]; exact g6, fun i hi => by rw [b5]; exact g7 i hi⟩
theorem LR.congr {μ : Mem} {o it n : Nat} {f g : Nat → Int64} (h : LR μ o it n f) (hg : ∀ i, i < n → g i = f i) : LR μ o it n g :=
  ⟨h.1, h.2.1, h.2.2.1, h.2.2.2.1, h.2.2.2.2.1, h.2.2.2.2.2.1, fun i hi => by rw [hg i hi]; exact h.2.2.2.2.2.2 i hi⟩
theorem x_set {μ : Mem} {o it n j : Nat} {f : Nat → Int64} {v : Int64} {post : Mem → Prop} (h : LR μ o it n f) (hj : j < n) (hp : ∀ μ', LR μ' o it n (va_up f j v) → Off (fun a => a = it) μ μ' → al μ' it = al μ it → post μ') : wp_X4_set μ o (nI j) v post := by
  obtain ⟨g1, g2, g3, g4, g5, g6, g7⟩ := id h
  refine s_set h hj (hp _ ⟨g1, g2, g3, g4, g5, g6, fun i hi => ?_⟩ Off_saj rfl)
  rw [aj_saj]
  by_cases e : i = j
  · rw [if_pos ⟨rfl, e⟩, e]; simp [va_up]
  · rw [if_neg (fun z => e z.2), g7 i hi]; simp [va_up, e]
theorem x_shrink {μ : Mem} {o it n k : Nat} {f : Nat → Int64} {post : Mem → Prop} (h : LR μ o it n f) (hk : k ≤ n) (hp : ∀ μ', LR μ' o it k f → Off (fun a => a = o) μ μ' → al μ' it = al μ it → post μ') : wp_X4_shrink μ o (nI k) post := by
  have hb := h.2.2.2.2.2.1
  have hb2 := h.2.2.2.2.1
  rcases Nat.lt_or_ge k n with q | q
  · exact s_shrink h q (hp _ (h.shrunk hk) Off_sfi rfl)
  · have e : k = n := by omega
    subst e
    exact s_shrink_no h (Nat.le_refl _) (by omega) (hp _ h (Off.rf μ) rfl)
theorem x_pop {μ : Mem} {o it n : Nat} {f : Nat → Int64} {post : Int64 → Mem → Prop} (h : LR μ o it (n + 1) f) (hp : ∀ μ', LR μ' o it n f → Off (fun a => a = o) μ μ' → al μ' it = al μ it → post (f n) μ') : wp_X4_pop μ o post :=
  s_pop h (hp _ (h.shrunk (Nat.le_succ _)) Off_sfi rfl)
theorem x_push {μ : Mem} {o it n c z : Nat} {f : Nat → Int64} {v : Int64} {post : Mem → Prop} (h : LR μ o it n f) (hn : n < 262144) (hb : n < al μ it ∨ (1 ≤ c ∧ 2 * al μ it ≤ z)) (h1 : 1 ≤ al μ it)
    (hp : ∀ μ' it', LR μ' o it' (n + 1) (va_up f n v) → Off (fun a => a = o ∨ a = it) μ μ' → (it' = it ∨ kd μ it' = 0) → al μ' it' = (if n < al μ it then al μ it else 2 * al μ it) → post μ') : wp_X4_push c z μ o v post := by
  obtain ⟨g1, g2, g3, g4, g5, g6, g7⟩ := id h
  refine s_push h hn hb h1 (fun μ' it' a1 a2 a3 a4 a5 a6 => hp μ' it' a1 ?_ a3 ?_)
  · obtain ⟨b1, b2, b3, b4, b5, b6, b7⟩ := a2
    exact ⟨b1, fun a ha => ⟨a6 a ha, b4 a (by rw [a6 a ha]; decide)⟩, fun a ha hd => ⟨fun c k => b2 c k a ha (fun q => hd (Or.inl q.2.2)), fun c k => b3 c k a ha (fun q => hd (Or.inl q.2.2)), b4 a ha, fun i => b6 a i ha (fun q => q), fun i => b5 a i ha (fun q => hd (Or.inr q)), fun i => b7 a i ha (fun q => q)⟩⟩
  · by_cases q : n < al μ it
    · rw [if_pos q]; exact (a4 q).2
    · rw [if_neg q]; exact a5 q
/-- a list: its array, how many, which -/
def AL0 (μ : Mem) (o el n : Nat) (g : Nat → Nat) (t : Nat) : Prop := kd μ o = 2 ∧ fr μ 1 1 o = some el ∧ fi μ 1 2 o = nI n ∧ n ≤ al μ el ∧ al μ el ≤ 100000 ∧ ((kd μ el = 105 ∧ 10 ≤ al μ el) ∨ (kd μ el = 106 ∧ al μ el = 0)) ∧ (∀ i, i < n → ar μ el i = some (g i) ∧ kd μ (g i) = t) ∧ isEl t ∧ ∀ q, kd μ q = 106 → ∀ q', kd μ q' = 106 → q = q'
theorem AL0.off {D : Nat → Prop} {μ μ' : Mem} {o el n t : Nat} {g : Nat → Nat} (h : AL0 μ o el n g t) (hf : Off D μ μ') (h1 : ¬ D o) (h2 : ¬ D el) (h3 : n = 0 ∨ 0 < t) : AL0 μ' o el n g t := by
  obtain ⟨g1, g2, g3, g4, g5, g6, g7, g8, g9⟩ := h
  have hel : kd μ el ≠ 0 := by rcases g6 with q | q <;> omega
  obtain ⟨a1, a2, -⟩ := hf.2.2 o (by omega) h1
  obtain ⟨-, -, b3, -, -, b6⟩ := hf.2.2 el hel h2
  refine ⟨hf.kd g1, by rw [a2]; exact g2, by rw [a1]; exact g3, by rw [b3]; exact g4, by rw [b3]; exact g5, ?_, fun i hi => ⟨by rw [b6]; exact (g7 i hi).1, ?_⟩, g8, fun q hq q' hq' => g9 q (hf.2.1 q hq).1 q' (hf.2.1 q' hq').1⟩
  · rw [b3]
    rcases g6 with q | q
    · exact Or.inl ⟨hf.kd q.1, q.2⟩
    · exact Or.inr ⟨hf.kd q.1, q.2⟩
  · have := (g7 i hi).2
    rw [hf.1 _ (by omega)]; exact this
theorem x_lsize0 {μ : Mem} {o el n t : Nat} {g : Nat → Nat} {post : Int32 → Mem → Prop} (h : AL0 μ o el n g t) (hp : post (nI n) μ) : wp_Jx4a65c_size_8abf5 μ o post := ⟨h.1, by rw [h.2.2.1]; exact hp⟩
theorem x_lget0 {μ : Mem} {o el n t j : Nat} {g : Nat → Nat} {post : Option Nat → Mem → Prop} (h : AL0 μ o el n g t) (hj : j < n) (hp : post (some (g j)) μ) : wp_Jx4a65c_get_915e3 μ o (nI j) post := by
  obtain ⟨g1, g2, g3, g4, g5, g6, g7, g8, g9⟩ := h
  have hk : kd μ el = 105 := by rcases g6 with q | q; exact q.1; omega
  refine ⟨g1, ?_⟩
  rw [g3]
  refine ⟨fun z => absurd z (nI_pos (by omega)), fun _ => ⟨fun _ _ _ => ⟨g1, el, g2, hk, vp_in_nI (by omega) (by omega), fun r4 e4 => ?_⟩, fun z => absurd (nI_lt hj (by omega)) z⟩⟩
  rw [nI_clamp (by omega), (g7 j hj).1] at e4
  rw [e4]
  exact fun _ => hp
/-- what a list's array becomes -/
def gcap (n cap : Nat) : Nat := if n = cap then (if cap = 0 then 10 else cap + cap / 2) else cap
theorem x_copyR {μ : Mem} {a n N c z t : Nat} {g : Nat → Nat} {post : Option Nat → Mem → Prop} (ha : kd μ a = 105) (hl : al μ a = n) (hg : ∀ i, i < n → ar μ a i = some (g i) ∧ kd μ (g i) = t) (ht : isEl t) (hN : n ≤ N) (hN2 : N ≤ 200000) (hc : 1 ≤ c) (hz : N ≤ z)
    (hp : ∀ q, kd μ q = 0 → post (some q) (cpr (nar μ 105 q N) a 0 q 0 n)) : wp_J7_copyOf_1904c c z μ a (nI N) post := by
  refine ⟨ha, c, z, Nat.le_refl _, Nat.le_refl _, nI_pos (by omega), ?_⟩
  rw [nI_clamp (show N < 2 ^ 31 by omega)]
  refine ⟨by omega, hc, hz, fun q μ2 hq e2 => ?_⟩
  have hne : a ≠ q := fun e => by rw [e, hq] at ha; cases ha
  subst e2
  have k1 : kd (nar μ 105 q N) a = 105 := by rw [kd_narE, if_neg hne]; exact ha
  have l1 : al (nar μ 105 q N) a = n := by rw [al_nar, if_neg hne]; exact hl
  have l2 : al (nar μ 105 q N) q = N := by rw [al_nar, if_pos rfl]
  rw [l1, l2]
  have hm : (if nI N < nI n then nI N else nI n) = nI n := if_neg (nI_nlt hN (by omega))
  rw [hm, nI_clamp (show n < 2 ^ 31 by omega)]
  refine ⟨Or.inr (Or.inr (Or.inr (Or.inr (Or.inl k1)))), k1, by decide, by decide, nI_pos (by omega), by show 0 + n ≤ n; omega, by show 0 + n ≤ N; omega, ⟨t, ht, fun i y hi hy => ?_⟩, fun μ6 e6 _ => ?_⟩
  · have hy : ar (nar μ 105 q N) a (0 + i) = some y := hy
    rw [ar_nar, if_neg hne, Nat.zero_add, (hg i hi).1] at hy
    cases hy
    have hgi := (hg i hi).2
    have hgq : g i ≠ q := fun e => by rw [e, hq] at hgi; rcases ht with x | x | x | x <;> omega
    rw [kd_narE, if_neg hgq]; exact hgi
  · subst e6
    exact hp q hq
theorem x_ladd0 {μ : Mem} {o el n t y c z : Nat} {g : Nat → Nat} {post : Int32 → Mem → Prop} (h : AL0 μ o el n g t) (hy : kd μ y = t) (hn : n < 60000) (hb : n < al μ el ∨ (1 ≤ c ∧ gcap n (al μ el) ≤ z))
    (hp : ∀ μ' el', AL0 μ' o el' (n + 1) (va_up g n y) t → Off (fun a => a = o ∨ (a = el ∧ kd μ el = 105)) μ μ' → (el' = el ∨ kd μ el' = 0) → al μ' el' = gcap n (al μ el) → post 1 μ') : wp_Jx4a65c_add_9ea2d c z μ o y post := by
  obtain ⟨g1, g2, g3, g4, g5, g6, g7, g8, g9⟩ := id h
  have t0 : 0 < t := by rcases g8 with x | x | x | x <;> omega
  refine ⟨g1, fun μ2 e2 => ⟨el, by rw [e2]; exact g2, c, z, Nat.le_refl _, Nat.le_refl _, ?_⟩⟩
  have hO : Off (fun a => a = o ∨ (a = el ∧ kd μ el = 105)) μ μ2 := by rw [e2]; exact Off_sfi.sub (fun a _ ha => Or.inl ha)
  have kk : ∀ a, kd μ2 a = kd μ a := fun a => by rw [e2]; rfl
  have f2 : fi μ2 1 2 o = nI n := by rw [e2, fi_sfi, if_neg (fun z => absurd z.2.1 (by decide))]; exact g3
  have r2 : fr μ2 1 1 o = some el := by rw [e2]; exact g2
  have a2 : ∀ a, al μ2 a = al μ a := fun a => by rw [e2]; rfl
  have q2 : ∀ a i, ar μ2 a i = ar μ a i := fun a i => by rw [e2]; rfl
  have oe : o ≠ el := fun e => by rw [← e, g1] at g6; rcases g6 with x | x <;> omega
  have hia : isArr (kd μ2 el) := by rw [kk]; rcases g6 with x | x; exact Or.inr (Or.inr (Or.inr (Or.inr (Or.inl x.1)))); exact Or.inr (Or.inr (Or.inr (Or.inr (Or.inr x.1))))
  rw [f2]
  unfold wp_Jx4a65c_add_72be8
  rw [a2]
  refine ⟨hia, fun hq => ⟨by rw [kk]; exact g1, ?_⟩, fun hq => ?_⟩
  · have en : n = al μ el := (nI_eq (by omega) (by omega)).mp hq
    have hb2 : 1 ≤ c ∧ gcap n (al μ el) ≤ z := by rcases hb with x | x; omega; exact x
    refine ⟨c, z, Nat.le_refl _, Nat.le_refl _, by rw [kk]; exact g1, c, z, Nat.le_refl _, Nat.le_refl _, ?_⟩
    rw [f2, nI_1]
    have fin : ∀ q μ10, kd μ2 q = 0 → kd μ10 = (fun a => if a = q then 105 else kd μ2 a) → fi μ10 = fi μ2 → fr μ10 = (fun c' k' a' => if c' = 1 ∧ k' = 1 ∧ a' = o then some q else fr μ2 c' k' a') → (∀ a, a ≠ q → al μ10 a = al μ2 a) → al μ10 q = gcap n (al μ el) → (∀ a i, ai μ10 a i = if a = q then 0 else ai μ2 a i) → (∀ a i, aj μ10 a i = if a = q then 0 else aj μ2 a i) → (∀ a i, a ≠ q → ar μ10 a i = ar μ2 a i) → (∀ i, i < n → ar μ10 q i = some (g i)) →
        KM μ2 μ10 → ∃ x17, some q = some x17 ∧ kd μ10 x17 = 105 ∧ isEl (kd μ10 y) ∧ vp_in (nI n) (al μ10 x17) ∧ ∀ μ19 : Mem, μ19 = sar μ10 x17 (Int32.toNatClampNeg (nI n)) (some y) → ∀ μ23 : Mem, μ23 = sfi μ19 1 2 o (nI (n + 1)) → KM μ2 μ23 → post 1 μ23 := by
      intro q μ10 hq0 k10 i10 r10 l10 lq j10 s10 w10 wq _
      have oq : o ≠ q := fun e => by rw [← e, kk, g1] at hq0; cases hq0
      have eq : el ≠ q := fun e => by rw [← e, kk] at hq0; rcases g6 with x | x <;> omega
      have yq : y ≠ q := fun e => by rw [← e, kk, hy] at hq0; omega
      have gc : n < gcap n (al μ el) ∧ gcap n (al μ el) ≤ 100000 ∧ 10 ≤ gcap n (al μ el) := by
        unfold gcap
        rw [if_pos en]
        split
        · omega
        · rcases g6 with x | x
          · omega
          · omega
      refine ⟨q, rfl, by rw [k10]; exact if_pos rfl, ?_, by rw [lq]; exact vp_in_nI gc.1 (by omega), fun μ19 e19 μ23 e23 _ => ?_⟩
      · rw [k10]
        show isEl (if y = q then 105 else kd μ2 y)
        rw [if_neg yq, kk, hy]; exact g8
      · rw [nI_clamp (by omega)] at e19
        have k23 : kd μ23 = (fun a => if a = q then 105 else kd μ2 a) := by rw [e23, e19]; exact k10
        refine hp μ23 q ⟨?_, ?_, ?_, ?_, ?_, ?_, fun i hi => ⟨?_, ?_⟩, g8, fun x hx x' hx' => ?_⟩ ?_ (Or.inr (by rw [← kk]; exact hq0)) ?_
        · rw [k23]; show (if o = q then 105 else kd μ2 o) = 2; rw [if_neg oq, kk]; exact g1
        · rw [e23, e19]; show fr μ10 1 1 o = some q; rw [r10]; exact if_pos ⟨rfl, rfl, rfl⟩
        · rw [e23, fi_sfi, if_pos ⟨rfl, rfl, rfl⟩]
        · rw [e23, e19]; show n + 1 ≤ al μ10 q; rw [lq]; omega
        · rw [e23, e19]; show al μ10 q ≤ 100000; rw [lq]; omega
        · refine Or.inl ⟨by rw [k23]; exact if_pos rfl, ?_⟩
          rw [e23, e19]; show 10 ≤ al μ10 q; rw [lq]; omega
        · rw [e23, e19]
          show (if q = q ∧ i = n then some y else ar μ10 q i) = some (va_up g n y i)
          by_cases e : i = n
          · rw [if_pos ⟨rfl, e⟩]; simp [va_up, e]
          · rw [if_neg (fun z => e z.2), wq i (by omega)]; simp [va_up, e]
        · rw [k23]
          show (if va_up g n y i = q then 105 else kd μ2 (va_up g n y i)) = t
          by_cases e : i = n
          · rw [show va_up g n y i = y by simp [va_up, e], if_neg yq, kk]; exact hy
          · have hgi := (g7 i (by omega)).2
            have : g i ≠ q := fun z => by rw [← z, kk, hgi] at hq0; omega
            rw [show va_up g n y i = g i by simp [va_up, e], if_neg this, kk]; exact hgi
        · rw [k23] at hx hx'
          have a1 : kd μ x = 106 := by
            have hx : (if x = q then 105 else kd μ2 x) = 106 := hx
            by_cases e : x = q
            · rw [if_pos e] at hx; cases hx
            · rw [if_neg e, kk] at hx; exact hx
          have a2' : kd μ x' = 106 := by
            have hx' : (if x' = q then 105 else kd μ2 x') = 106 := hx'
            by_cases e : x' = q
            · rw [if_pos e] at hx'; cases hx'
            · rw [if_neg e, kk] at hx'; exact hx'
          exact g9 x a1 x' a2'
        · refine hO.tr ⟨fun a ha => ?_, fun a ha => ?_, fun a ha hd => ?_⟩
          · have : a ≠ q := fun e => ha (e ▸ hq0)
            rw [k23]; exact if_neg this
          · rw [k23] at ha
            have ha : (if a = q then 105 else kd μ2 a) = 106 := ha
            by_cases e : a = q
            · rw [if_pos e] at ha; cases ha
            · rw [if_neg e] at ha; exact ⟨ha, by rw [e23, e19]; exact l10 a e⟩
          · have na : a ≠ q := fun e => ha (e ▸ hq0)
            have no : a ≠ o := fun e => hd (Or.inl e)
            refine ⟨fun c k => ?_, fun c k => ?_, ?_, fun i => ?_, fun i => ?_, fun i => ?_⟩
            · rw [e23, fi_sfi, if_neg (fun z => no z.2.2), e19]; show fi μ10 c k a = _; rw [i10]
            · rw [e23, e19]; show fr μ10 c k a = _; rw [r10]; exact if_neg (fun z => no z.2.2)
            · rw [e23, e19]; exact l10 a na
            · rw [e23, e19]; show ai μ10 a i = _; rw [j10, if_neg na]
            · rw [e23, e19]; show aj μ10 a i = _; rw [s10, if_neg na]
            · rw [e23, e19]
              show (if a = q ∧ i = n then some y else ar μ10 a i) = _
              rw [if_neg (fun z => na z.1)]; exact w10 a i na
        · rw [e23, e19]; exact lq
    refine ⟨by rw [kk]; exact g1, el, r2, hia, fun v3 e3 => ?_⟩
    rw [a2] at e3
    subst e3
    refine ⟨fun hpos => ?_, fun hpos => ?_⟩
    · have hp0 : 0 < al μ el := by
        rcases Nat.eq_zero_or_pos (al μ el) with x | x
        · rw [x] at hpos; exact absurd hpos (by decide)
        · exact x
      have hk5 : kd μ el = 105 ∧ 10 ≤ al μ el := by rcases g6 with x | x; exact x; omega
      have gce : gcap n (al μ el) = al μ el + al μ el / 2 := by unfold gcap; rw [if_pos en, if_neg (by omega)]
      have hsh : nI (al μ el) >>> ((1 : Int32) &&& 31) = nI (al μ el / 2) := by
        have := pk_shrN (n := al μ el) (by omega) ((1 : Int32) &&& 31) 1 (by decide)
        simpa using this
      have h1 : nI (n + 1) - nI (al μ el) = nI 1 := by rw [pk_sub (by omega)]; congr 1; omega
      intro v1 ev1
      rw [hsh, h1, if_pos (nI_lt (by omega) (by omega)), nI_add] at ev1
      subst ev1
      refine ⟨fun z => absurd z (nI_nle (by omega) (by omega)), fun _ => ⟨fun z => absurd z ?_, fun _ _ => ⟨by rw [kk]; exact g1, el, r2, c, z, Nat.le_refl _, Nat.le_refl _, ?_⟩⟩⟩
      · rw [show (2147483639 : Int32) = nI 2147483639 from rfl]; exact nI_nlt (by omega) (by decide)
      · refine x_copyR (t := t) (g := g) (n := n) (by rw [kk]; exact hk5.1) (by rw [a2, ← en]) (fun i hi => ⟨by rw [q2]; exact (g7 i hi).1, by rw [kk]; exact (g7 i hi).2⟩) g8 (by omega) (by omega) hb2.1 (by rw [← gce]; exact hb2.2) (fun q hq0 => ?_)
        intro _ μ15 e15
        have oq : o ≠ q := fun e => by rw [← e, kk, g1] at hq0; cases hq0
        have eq : el ≠ q := fun e => by rw [← e, kk] at hq0; omega
        intro km
        refine fin q μ15 hq0 ?_ ?_ ?_ (fun a na => ?_) ?_ (fun a i => ?_) (fun a i => ?_) (fun a i na => ?_) (fun i hi => ?_)
        · rw [e15]; funext a; rw [kd_sfr, kd_cpr, kd_narE]
        · rw [e15, fi_sfr, fi_cpr, fi_nar]
        · rw [e15]; funext c' k' a'; rw [fr_sfr, fr_cpr, fr_nar]
        · rw [e15, al_sfr, al_cpr, al_nar, if_neg na]
        · rw [e15, al_sfr, al_cpr, al_nar, if_pos rfl, gce]
        · rw [e15, ai_sfr, ai_cpr, ai_nar]
        · rw [e15, aj_sfr, aj_cpr, aj_nar]
        · rw [e15, ar_sfr, ar_cpr, if_neg na, ar_nar, if_neg na]
        · rw [e15, ar_sfr, ar_cpr, if_pos rfl, pk_cpy_in (by omega) (by omega), ar_nar, if_neg eq, show 0 + (i - 0) = i by omega, q2]
          exact (g7 i hi).1
    · have hz : al μ el = 0 := by
        rcases Nat.eq_zero_or_pos (al μ el) with x | x
        · exact x
        · exact absurd (by rw [← nI_0]; exact nI_lt x (by omega)) hpos
      have hk6 : kd μ el = 106 := by rcases g6 with x | x; omega; exact x.1
      have n0 : n = 0 := by omega
      refine ⟨el, r2, fun q19 hq19 => ⟨fun _ => ?_, fun z => absurd (by rw [g9 el hk6 q19 (by rw [← kk]; exact hq19)]) z⟩⟩
      have hlt : ¬ (10 : Int32) < nI (n + 1) := by rw [n0]; decide
      rw [if_neg hlt]
      have c10 : Int32.toNatClampNeg 10 = 10 := by decide
      rw [c10]
      have gce : gcap n (al μ el) = 10 := by unfold gcap; rw [if_pos en, if_pos hz]
      refine ⟨by decide, by decide, hb2.1, by rw [gce] at hb2; exact hb2.2, fun q μ22 hq0 e22 μ26 e26 km => ?_⟩
      refine fin q μ26 hq0 ?_ ?_ ?_ (fun a na => ?_) ?_ (fun a i => ?_) (fun a i => ?_) (fun a i na => ?_) (fun i hi => absurd hi (by omega))
      · rw [e26, e22]; funext a; rw [kd_sfr, kd_narE]
      · rw [e26, e22, fi_sfr, fi_nar]
      · rw [e26, e22]; funext c' k' a'; rw [fr_sfr, fr_nar]
      · rw [e26, e22, al_sfr, al_nar, if_neg na]
      · rw [e26, e22, al_sfr, al_nar, if_pos rfl, gce]
      · rw [e26, e22, ai_sfr, ai_nar]
      · rw [e26, e22, aj_sfr, aj_nar]
      · rw [e26, e22, ar_sfr, ar_nar, if_neg na]
  · have ne : n ≠ al μ el := fun e => hq (by rw [e])
    have hk5 : kd μ el = 105 ∧ 10 ≤ al μ el := by rcases g6 with x | x; exact x; omega
    have gce : gcap n (al μ el) = al μ el := by unfold gcap; rw [if_neg ne]
    refine ⟨by rw [kk]; exact hk5.1, by rw [kk, hy]; exact g8, vp_in_nI (by omega) (by omega), fun μ3 e3 => ⟨by rw [e3]; show kd μ2 o = 2; rw [kk]; exact g1, fun μ6 e6 _ => ?_⟩⟩
    rw [nI_clamp (by omega)] at e3
    rw [nI_1] at e6
    have k6 : ∀ a, kd μ6 a = kd μ a := fun a => by rw [e6, e3]; exact kk a
    refine hp μ6 el ⟨by rw [k6]; exact g1, by rw [e6, e3]; exact r2, by rw [e6, fi_sfi, if_pos ⟨rfl, rfl, rfl⟩], ?_, ?_, ?_, fun i hi => ⟨?_, ?_⟩, g8, fun x hx x' hx' => g9 x (by rw [← k6]; exact hx) x' (by rw [← k6]; exact hx')⟩ ?_ (Or.inl rfl) ?_
    · rw [e6, e3]; show n + 1 ≤ al μ2 el; rw [a2]; omega
    · rw [e6, e3]; show al μ2 el ≤ 100000; rw [a2]; exact g5
    · refine Or.inl ⟨by rw [k6]; exact hk5.1, ?_⟩
      rw [e6, e3]; show 10 ≤ al μ2 el; rw [a2]; exact hk5.2
    · rw [e6, e3]
      show (if el = el ∧ i = n then some y else ar μ2 el i) = some (va_up g n y i)
      by_cases e : i = n
      · rw [if_pos ⟨rfl, e⟩]; simp [va_up, e]
      · rw [if_neg (fun z => e z.2), q2, (g7 i (by omega)).1]; simp [va_up, e]
    · rw [k6]
      by_cases e : i = n
      · rw [show va_up g n y i = y by simp [va_up, e]]; exact hy
      · rw [show va_up g n y i = g i by simp [va_up, e]]; exact (g7 i (by omega)).2
    · rw [e6, e3]
      exact hO.tr ((Off_sar.sub (fun a _ ha => Or.inr ⟨ha, hk5.1⟩)).tr (Off_sfi.sub (fun a _ ha => Or.inl ha)))
    · rw [e6, e3, gce]; exact a2 el
/-- a list: where its array is once something is in it -/
def AL (μ : Mem) (o el n : Nat) (g : Nat → Nat) (t : Nat) : Prop := kd μ o = 2 ∧ (n = 0 ∨ fr μ 1 1 o = some el) ∧ fi μ 1 2 o = nI n ∧ (n = 0 → ∃ e, fr μ 1 1 o = some e ∧ kd μ e = 106 ∧ al μ e = 0) ∧ (n ≠ 0 → kd μ el = 105 ∧ 10 ≤ al μ el ∧ n ≤ al μ el ∧ al μ el ≤ 100000 ∧ al μ el ≤ 2 * n + 10) ∧ (∀ i, i < n → ar μ el i = some (g i) ∧ kd μ (g i) = t) ∧ isEl t ∧ ∀ q, kd μ q = 106 → al μ q = 0 ∧ ∀ q', kd μ q' = 106 → q = q'
def capA (μ : Mem) (el n : Nat) : Nat := if n = 0 then 0 else al μ el
theorem AL.n {μ : Mem} {o el n t : Nat} {g : Nat → Nat} (h : AL μ o el n g t) : n ≤ 100000 ∧ n ≤ capA μ el n ∧ capA μ el n ≤ 100000 ∧ (capA μ el n = 0 ∨ 10 ≤ capA μ el n) ∧ capA μ el n ≤ 2 * n + 10 := by
  obtain ⟨-, -, -, -, g5, -⟩ := h
  unfold capA
  by_cases e : n = 0
  · rw [if_pos e]; omega
  · rw [if_neg e]
    have := g5 e
    omega
theorem AL.zero {μ : Mem} {o el n t : Nat} {g : Nat → Nat} (h : AL μ o el n g t) : ∃ e, AL0 μ o e n g t ∧ al μ e = capA μ el n ∧ (n = 0 ∧ kd μ e = 106 ∨ n ≠ 0 ∧ e = el) := by
  obtain ⟨g1, g2, g3, g4, g5, g6, g7, g8⟩ := h
  by_cases z : n = 0
  · obtain ⟨e, x1, x2, x3⟩ := g4 z
    refine ⟨e, ⟨g1, x1, g3, by omega, by omega, Or.inr ⟨x2, x3⟩, fun i hi => absurd hi (by omega), g7, fun q hq => (g8 q hq).2⟩, ?_, Or.inl ⟨z, x2⟩⟩
    rw [capA, if_pos z]; exact x3
  · obtain ⟨y1, y2, y3, y4, y5⟩ := g5 z
    have x1 : fr μ 1 1 o = some el := by rcases g2 with q | q; exact absurd q z; exact q
    refine ⟨el, ⟨g1, x1, g3, y3, y4, Or.inl ⟨y1, y2⟩, g6, g7, fun q hq => (g8 q hq).2⟩, ?_, Or.inr ⟨z, rfl⟩⟩
    rw [capA, if_neg z]
theorem AL.off {D : Nat → Prop} {μ μ' : Mem} {o el n t : Nat} {g : Nat → Nat} (h : AL μ o el n g t) (hf : Off D μ μ') (h1 : ¬ D o) (h2 : n = 0 ∨ ¬ D el) (h3 : n = 0 ∨ 0 < t) : AL μ' o el n g t := by
  obtain ⟨g1, g2, g3, g4, g5, g6, g7, g8⟩ := h
  obtain ⟨a1, a2, -⟩ := hf.2.2 o (by omega) h1
  refine ⟨hf.kd g1, by rw [a2]; exact g2, by rw [a1]; exact g3, fun z => ?_, fun z => ?_, fun i hi => ?_, g7, fun q hq => ⟨(hf.2.1 q hq).2.trans (g8 q (hf.2.1 q hq).1).1, fun q' hq' => (g8 q (hf.2.1 q hq).1).2 q' (hf.2.1 q' hq').1⟩⟩
  · obtain ⟨e, x1, x2, x3⟩ := g4 z
    refine ⟨e, by rw [a2]; exact x1, hf.kd x2, ?_⟩
    rw [(hf.2.1 e (hf.kd x2)).2]; exact x3
  · obtain ⟨y1, y2, y3, y4, y5⟩ := g5 z
    have : ¬ D el := by rcases h2 with q | q; exact absurd q z; exact q
    obtain ⟨-, -, b3, -⟩ := hf.2.2 el (by omega) this
    rw [b3]
    exact ⟨hf.kd y1, y2, y3, y4, y5⟩
  · obtain ⟨y1, -⟩ := g5 (by omega)
    have : ¬ D el := by rcases h2 with q | q; omega; exact q
    obtain ⟨-, -, -, -, -, b6⟩ := hf.2.2 el (by omega) this
    have g6i := g6 i hi
    refine ⟨by rw [b6]; exact g6i.1, ?_⟩
    rw [hf.1 _ (by omega)]; exact g6i.2
theorem AL.cap {D : Nat → Prop} {μ μ' : Mem} {o el n t : Nat} {g : Nat → Nat} (h : AL μ o el n g t) (hf : Off D μ μ') (h2 : n = 0 ∨ ¬ D el) : capA μ' el n = capA μ el n := by
  unfold capA
  by_cases z : n = 0
  · rw [if_pos z, if_pos z]
  · rw [if_neg z, if_neg z]
    have y1 := (h.2.2.2.2.1 z).1
    exact (hf.2.2 el (by omega) (by rcases h2 with q | q; exact absurd q z; exact q)).2.2.1
theorem x_lsize {μ : Mem} {o el n t : Nat} {g : Nat → Nat} {post : Int32 → Mem → Prop} (h : AL μ o el n g t) (hp : post (nI n) μ) : wp_Jx4a65c_size_8abf5 μ o post := ⟨h.1, by rw [h.2.2.1]; exact hp⟩
theorem x_lget {μ : Mem} {o el n t j : Nat} {g : Nat → Nat} {post : Option Nat → Mem → Prop} (h : AL μ o el n g t) (hj : j < n) (hp : post (some (g j)) μ) : wp_Jx4a65c_get_915e3 μ o (nI j) post := by
  obtain ⟨e, h0, -⟩ := h.zero
  exact x_lget0 h0 hj hp
theorem x_ladd {μ : Mem} {o el n t y c z : Nat} {g : Nat → Nat} {post : Int32 → Mem → Prop} (h : AL μ o el n g t) (hy : kd μ y = t) (hn : n < 60000) (hb : n < capA μ el n ∨ (1 ≤ c ∧ gcap n (capA μ el n) ≤ z))
    (hp : ∀ μ' el', AL μ' o el' (n + 1) (va_up g n y) t → Off (fun a => a = o ∨ a = el) μ μ' → (el' = el ∨ kd μ el' = 0) → capA μ' el' (n + 1) = gcap n (capA μ el n) → post 1 μ') : wp_Jx4a65c_add_9ea2d c z μ o y post := by
  have hn2 := h.n
  have hz6 := h.2.2.2.2.2.2.2
  obtain ⟨e, h0, h1, h2⟩ := h.zero
  rw [← h1] at hb hp hn2
  refine x_ladd0 h0 hy hn hb (fun μ' el' a1 a2 a3 a4 => ?_)
  obtain ⟨g1, g2, g3, g4, g5, g6, g7, g8, g9⟩ := a1
  have g6' : kd μ' el' = 105 ∧ 10 ≤ al μ' el' := by rcases g6 with q | q; exact q; omega
  refine hp μ' el' ⟨g1, Or.inr g2, g3, fun q => absurd q (by omega), fun _ => ⟨g6'.1, g6'.2, g4, g5, by rw [a4]; unfold gcap; split <;> (try split) <;> omega⟩, g7, g8, fun q hq => ⟨(a2.2.1 q hq).2.trans (hz6 q (a2.2.1 q hq).1).1, g9 q hq⟩⟩ (a2.sub (fun a _ q => ?_)) ?_ ?_
  · rcases q with q | q
    · exact Or.inl q
    · rcases h2 with r | r
      · rw [r.2] at q; cases q.2
      · exact Or.inr (q.1.trans r.2)
  · rcases a3 with q | q
    · rcases h2 with r | r
      · exfalso
        have := a2.kd r.2
        rw [← q, g6'.1] at this; cases this
      · exact Or.inl (q.trans r.2)
    · exact Or.inr q
  · rw [capA, if_neg (by omega)]; exact a4
