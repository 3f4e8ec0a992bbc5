/-! the reference's dropFrom -/
def smi3 (σ : MSt) (a b c : Int32) : MSt := smi (smi (smi σ 26 a) 47 b) 40 c
theorem smi3_ma {σ : MSt} {a b c : Int32} : ma (smi3 σ a b c) = ma σ := rfl
theorem smi3_ml {σ : MSt} {a b c : Int32} : ml (smi3 σ a b c) = ml σ := rfl
theorem smi3_mi {σ : MSt} {a b c : Int32} {k : Nat} : mi (smi3 σ a b c) k = if k = 40 then c else if k = 47 then b else if k = 26 then a else mi σ k := rfl
theorem smi_mi {σ : MSt} {k j : Nat} {v : Int32} : mi (smi σ k v) j = if j = k then v else mi σ j := rfl
theorem smi_ma {σ : MSt} {k : Nat} {v : Int32} : ma (smi σ k v) = ma σ := rfl
theorem smi_ml {σ : MSt} {k : Nat} {v : Int32} : ml (smi σ k v) = ml σ := rfl
theorem mst_ext {σ τ : MSt} (h1 : ∀ k, mi σ k = mi τ k) (h2 : ma σ = ma τ) (h3 : ml σ = ml τ) : σ = τ := Prod.ext (funext h1) (Prod.ext h2 h3)
theorem smi3_rf {σ : MSt} : smi3 σ (mi σ 26) (mi σ 47) (mi σ 40) = σ := by
  refine mst_ext (fun k => ?_) rfl rfl
  rw [smi3_mi]
  by_cases h1 : k = 40
  · rw [if_pos h1, h1]
  · rw [if_neg h1]
    by_cases h2 : k = 47
    · rw [if_pos h2, h2]
    · rw [if_neg h2]
      by_cases h3 : k = 26
      · rw [if_pos h3, h3]
      · rw [if_neg h3]
theorem smi3_26 {σ : MSt} {a b c v : Int32} : smi (smi3 σ a b c) 26 v = smi3 σ v b c := by
  refine mst_ext (fun k => ?_) rfl rfl
  simp only [smi_mi, smi3_mi]
  by_cases h1 : k = 26
  · subst h1; simp
  · simp [h1]
theorem smi3_47 {σ : MSt} {a b c v : Int32} : smi (smi3 σ a b c) 47 v = smi3 σ a v c := by
  refine mst_ext (fun k => ?_) rfl rfl
  simp only [smi_mi, smi3_mi]
  by_cases h1 : k = 47
  · subst h1; simp
  · simp [h1]
theorem smi3_40 {σ : MSt} {a b c v : Int32} : smi (smi3 σ a b c) 40 v = smi3 σ a b v := by
  refine mst_ext (fun k => ?_) rfl rfl
  simp only [smi_mi, smi3_mi]
  by_cases h1 : k = 40
  · subst h1; simp
  · simp [h1]
/-- k redo points lie below frame j: it is thing j + k -/
def FK (nr : Nat) (fb : Nat → Nat) (j k : Nat) : Prop := k ≤ nr ∧ (∀ i, i < k → fb i ≤ j) ∧ ∀ i, k ≤ i → i < nr → j < fb i
theorem RK.back {nf nr : Nat} {fb : Nat → Nat} {t k : Nat} (h : TR nf nr fb) (hk : RK nr fb (t + 1) k) : (∃ k0, k = k0 + 1 ∧ k0 < nr ∧ t = fb k0 + k0 ∧ RK nr fb t k0) ∨ ((¬ ∃ i, i < nr ∧ t = fb i + i) ∧ RK nr fb t k ∧ k ≤ t ∧ FK nr fb (t - k) k) := by
  obtain ⟨h1, h2, h3⟩ := hk
  by_cases hr : ∃ i, i < nr ∧ t = fb i + i
  · left
    obtain ⟨i, hi, ht⟩ := hr
    have hik : i < k := by
      rcases Nat.lt_or_ge i k with q | q
      · exact q
      · have := h3 i q hi; omega
    have he : k = i + 1 := by
      rcases Nat.lt_or_ge (i + 1) k with q | q
      · have a := h2 (i + 1) q
        have b := h.1 i (i + 1) (by omega) (by omega)
        omega
      · omega
    refine ⟨i, he, hi, ht, by omega, fun j hj => ?_, fun j hj hn => ?_⟩
    · have := h.1 j i hj hi; omega
    · rcases Nat.lt_or_ge i j with q | q
      · have := h.1 i j q hn; omega
      · have : j = i := by omega
        subst this; omega
  · right
    have hlt : ∀ i, i < k → fb i + i < t := fun i hi => by
      have a := h2 i hi
      rcases Nat.lt_or_ge (fb i + i) t with q | q
      · exact q
      · exact absurd ⟨i, by omega, by omega⟩ hr
    have hkt : k ≤ t := by
      rcases Nat.eq_zero_or_pos k with q | q
      · omega
      · have := hlt (k - 1) (by omega); omega
    refine ⟨hr, ⟨h1, hlt, fun i hi hn => by have := h3 i hi hn; omega⟩, hkt, h1, fun i hi => ?_, fun i hi hn => ?_⟩
    · have a := hlt (k - 1) (by omega)
      rcases Nat.lt_or_ge i (k - 1) with q | q
      · have b := h.1 i (k - 1) q (by omega); omega
      · have : i = k - 1 := by omega
        subst this; omega
    · have a := h3 k (Nat.le_refl k) (by omega)
      rcases Nat.lt_or_ge k i with q | q
      · have b := h.1 k i q hn; omega
      · have : i = k := by omega
        subst this; omega
/-- what the row of things holds of frames: procedures and where their slots start; the procedures' slots -/
def FD (σ : MSt) (nf nr : Nat) (fb pr base sl : Nat → Nat) : Prop :=
  (∀ j k, j < nf → FK nr fb j k → ma σ 28 (j + k) = nI (pr j) ∧ ma σ 29 (j + k) = nI (base j)) ∧ (∀ j, j < nf → pr j < 60 ∧ ma σ 5 (pr j) = nI (sl (pr j)) ∧ base (j + 1) = base j + sl (pr j)) ∧ base nf + 2 * nf + 3 * nr ≤ 20000
theorem base_le {nf : Nat} {pr base sl : Nat → Nat} (h : ∀ j, j < nf → base (j + 1) = base j + sl (pr j)) : ∀ d j, j + d = nf → base j ≤ base nf := by
  intro d
  induction d with
  | zero => intro j hj; rw [show j = nf by omega]; exact Nat.le_refl _
  | succ d ih =>
    intro j hj
    have a := ih (j + 1) (by omega)
    have b := h j (by omega)
    omega
theorem m_sizeOf_r {σ : MSt} {t : Nat} {post : Int32 → MSt → Prop} (ht : t < 7000) (h : ma σ 27 t = 0) (hp : post 3 σ) : wp_X11_sizeOf σ (nI t) post := by
  refine ⟨vp_in_nI ht (by omega), fun _ => hp, fun hz => absurd ?_ hz⟩
  rw [nI_clamp (by omega)]; exact h
theorem m_sizeOf_f {σ : MSt} {t p s : Nat} {post : Int32 → MSt → Prop} (ht : t < 7000) (h : ¬ ma σ 27 t = 0) (h1 : ma σ 28 t = nI p) (hp1 : p < 60) (h2 : ma σ 5 p = nI s) (hp : post (nI (2 + s)) σ) : wp_X11_sizeOf σ (nI t) post := by
  unfold wp_X11_sizeOf
  rw [nI_clamp (by omega), h1, nI_clamp (by omega), h2]
  refine ⟨vp_in_nI ht (by omega), fun hz => absurd hz h, fun _ => ⟨vp_in_nI ht (by omega), vp_in_nI hp1 (by omega), ?_⟩⟩
  rw [show (2 : Int32) = nI 2 from rfl, nI_add]; exact hp
theorem m_dropFrom {σ : MSt} {nf nr n0 k0 : Nat} {fb pr base sl : Nat → Nat} {post : MSt → Prop} (h : FL σ nf nr fb) (hd : FD σ nf nr fb pr base sl) (hs : mi σ 47 = nI (base nf + 2 * nf + 3 * nr)) (ht : mi σ 40 = nI (base nf)) (hn : n0 ≤ nf + nr) (hk0 : RK nr fb n0 k0) (hk1 : k0 ≤ n0)
    (hp : post (smi3 σ (nI n0) (nI (base (n0 - k0) + 2 * (n0 - k0) + 3 * k0)) (nI (base (n0 - k0))))) : wp_X11_dropFrom σ (nI n0) post := by
  obtain ⟨h1, h2, h3, h4⟩ := h
  obtain ⟨d1, d2, d3⟩ := hd
  have bl : ∀ j, j ≤ nf → base j ≤ base nf := fun j hj => base_le (fun j hj => (d2 j hj).2.2) (nf - j) j (by omega)
  have uq : ∀ t k k', RK nr fb t k → RK nr fb t k' → k = k' := by
    intro t k k' a b
    rcases Nat.lt_trichotomy k k' with q | q | q
    · have x := b.2.1 k q
      have y := a.2.2 k (Nat.le_refl k) (by have := b.1; omega)
      omega
    · exact q
    · have x := a.2.1 k' q
      have y := b.2.2 k' (Nat.le_refl k') (by have := a.1; omega)
      omega
  have key : ∀ d t k, t = n0 + d → t ≤ nf + nr → RK nr fb t k → k ≤ t → t - k ≤ nf → wp_X11_dropFrom_0 post (d + 1) (smi3 σ (nI t) (nI (base (t - k) + 2 * (t - k) + 3 * k)) (nI (base (t - k)))) (nI n0) := by
    intro d
    induction d with
    | zero =>
      intro t k et ht hk hkt _
      have et : t = n0 := by omega
      subst et
      rw [wp_X11_dropFrom_0]
      refine ⟨fun _ => ?_, fun hz => absurd (show mi (smi3 _ _ _ _) 26 ≤ nI t by rw [smi3_mi]; exact nI_le (Nat.le_refl _) (by omega)) hz⟩
      rw [uq t k k0 hk hk0]; exact hp
    | succ d ih =>
      intro t k et ht hk hkt hj
      obtain ⟨t, rfl⟩ : ∃ u, t = u + 1 := ⟨t - 1, by omega⟩
      rw [wp_X11_dropFrom_0]
      refine ⟨fun hz => absurd hz (by rw [smi3_mi]; exact nI_ge (by omega) (by omega)), fun _ σ1 e1 => ?_⟩
      rw [show mi (smi3 σ (nI (t + 1)) (nI (base (t + 1 - k) + 2 * (t + 1 - k) + 3 * k)) (nI (base (t + 1 - k)))) 26 = nI (t + 1) from rfl, nI_pred, smi3_26] at e1
      subst e1
      rw [show mi (smi3 σ (nI t) (nI (base (t + 1 - k) + 2 * (t + 1 - k) + 3 * k)) (nI (base (t + 1 - k)))) 26 = nI t from rfl, show mi (smi3 σ (nI t) (nI (base (t + 1 - k) + 2 * (t + 1 - k) + 3 * k)) (nI (base (t + 1 - k)))) 47 = nI (base (t + 1 - k) + 2 * (t + 1 - k) + 3 * k) from rfl]
      rcases RK.back h3 hk with ⟨k1, ek, hk1n, htk, hkb⟩ | ⟨hnr, hkb, hkt2, hfk⟩
      · subst ek
        have hz : ma σ 27 t = 0 := (h4 t (by omega)).mpr ⟨k1, hk1n, htk⟩
        refine m_sizeOf_r (by omega) hz fun σ4 e4 => ?_
        have ej : t + 1 - (k1 + 1) = t - k1 := by omega
        rw [ej, smi3_47] at e4
        have en : nI (base (t - k1) + 2 * (t - k1) + 3 * (k1 + 1)) - 3 = nI (base (t - k1) + 2 * (t - k1) + 3 * k1) := by
          rw [show (3 : Int32) = nI 3 from rfl, pk_sub (by omega)]; congr 1
        rw [en] at e4
        subst e4
        refine ⟨vp_in_nI (by omega) (by omega), fun _ => ?_, fun hq => absurd ?_ hq⟩
        · have := ih t k1 (by omega) (by omega) hkb (by omega) (by omega)
          exact this
        · show ma σ 27 (Int32.toNatClampNeg (nI t)) = 0
          rw [nI_clamp (by omega)]; exact hz
      · have hz : ¬ ma σ 27 t = 0 := fun q => hnr ((h4 t (by omega)).mp q)
        have hjt : t - k < nf := by omega
        obtain ⟨q1, q2⟩ := d1 (t - k) k hjt hfk
        rw [show t - k + k = t by omega] at q1 q2
        obtain ⟨p1, p2, p3⟩ := d2 (t - k) hjt
        refine m_sizeOf_f (by omega) hz q1 p1 p2 fun σ4 e4 => ?_
        have ej : t + 1 - k = t - k + 1 := by omega
        rw [ej, smi3_47, p3] at e4
        have en : nI (base (t - k) + sl (pr (t - k)) + 2 * (t - k + 1) + 3 * k) - nI (2 + sl (pr (t - k))) = nI (base (t - k) + 2 * (t - k) + 3 * k) := by
          rw [pk_sub (by omega)]; congr 1; omega
        rw [en] at e4
        subst e4
        refine ⟨vp_in_nI (by omega) (by omega), fun hq => absurd ?_ hz, fun _ => ⟨vp_in_nI (by omega) (by omega), fun σ5 e5 => ?_⟩⟩
        · have hq2 : ma σ 27 (Int32.toNatClampNeg (nI t)) = 0 := hq
          rw [nI_clamp (by omega)] at hq2; exact hq2
        · have e29 : ma σ 29 (Int32.toNatClampNeg (nI t)) = nI (base (t - k)) := by rw [nI_clamp (by omega)]; exact q2
          have e5' : σ5 = smi (smi3 σ (nI t) (nI (base (t - k) + 2 * (t - k) + 3 * k)) (nI (base (t - k) + sl (pr (t - k))))) 40 (nI (base (t - k))) := by rw [e5]; exact congrArg _ e29
          rw [smi3_40] at e5'
          rw [e5']
          exact ih t k (by omega) (by omega) hkb hkt2 (by omega)
  have hs0 : smi3 σ (nI (nf + nr)) (nI (base nf + 2 * nf + 3 * nr)) (nI (base nf)) = σ := by
    rw [← h1, ← hs, ← ht]; exact smi3_rf
  have hrk : RK nr fb (nf + nr) nr := ⟨Nat.le_refl _, fun i hi => by have := h3.2 i hi; omega, fun i hi hl => absurd hl (by omega)⟩
  have := key (nf + nr - n0) (nf + nr) nr (by omega) (Nat.le_refl _) hrk (by omega) (by omega)
  rw [show nf + nr - nr = nf by omega, hs0] at this
  exact ⟨_, this⟩
