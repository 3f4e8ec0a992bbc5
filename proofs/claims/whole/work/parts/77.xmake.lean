/-! the class makes a cell -/
def eW (E : Nat → Nat) (n : Nat) : Nat → (Nat → Nat)
  | 0 => E
  | k + 1 => eRow (eW E n k) 2 (n + k)
theorem eW_o {E : Nat → Nat} {n r : Nat} (hr : ¬ r = 2) : ∀ k, eW E n k r = E r := by
  intro k
  induction k with
  | zero => rfl
  | succ k ih => exact (if_neg hr).trans ih
theorem eW_U {E : Nat → Nat} {n : Nat} : ∀ k d, UC (eW E n k) ≤ UC (eW E n (k + d)) ∧ UZ (eW E n k) ≤ UZ (eW E n (k + d)) := by
  intro k d
  induction d with
  | zero => exact ⟨Nat.le_refl _, Nat.le_refl _⟩
  | succ d ih =>
    obtain ⟨a, b, -⟩ := eRow_U (E := eW E n (k + d)) (r := 2) (n := n + (k + d)) (by decide)
    exact ⟨Nat.le_trans ih.1 a, Nat.le_trans ih.2 b⟩
/-- the words' room behind a cell of n fields -/
def eMk (S : Sp) (E : Nat → Nat) (n : Nat) : Nat → Nat := if n = 0 then E else eW E (s0 S 5) (n + 1)
theorem XKt.mk {μ : Mem} {A : Ad} {S : Sp} {E tt : Nat → Nat} {i : Nat} (h : XKt μ A S E tt) (hW : WF S) : XKt μ A (mkS S i) E tt := by
  obtain ⟨h1, h2, h3, tp, tv, tq, h4, ⟨t1, t2, t3, t4, t5, t6, t7, t8, t9⟩⟩ := h
  have hc3 := hW.c3
  have cg : ∀ v, okV (s0 S 3) v → conv (mkS S i) v = conv S v := fun v hv => conv_congr (n := s0 S 3) (fun c hc => by
    have : ¬ c = s0 S 3 := by omega
    constructor
    · simp [s1, mkS, up2, this]
    · simp [s1, mkS, up2, this]) (by omega) hv
  refine ⟨h1, h2, h3, tp, tv, tq, h4, ⟨LR.congr t1 (fun k hk => ?_), t2, t3, t4, t5, t6, t7, t8, fun j hj => ⟨(t9 j hj).1, fun k hk => ?_⟩⟩⟩
  · exact cg _ (hW.2.2.2.2.1 k hk)
  · have hj : j < s0 S 7 := hj
    have hk : k < s1 S 11 (s1 S 15 j) := hk
    have hT := hW.2.2.2.1.2.2 j hj
    have hw2 := cg (sw S 0 j k) (okV_le hT.2.2.2.2.1 (hT.2.2.2.2.2.2 k hk))
    show undoX tp tv (tt j) (E 9 - tt j) (fun k => conv (mkS S i) (sv S 0 k)) k = conv (mkS S i) (sw S 0 j k)
    rw [hw2, ← (t9 j hj).2 k hk]
    refine undoX_pt _ _ _ (cg _ (hW.2.2.2.2.1 k ?_))
    have := WF.bl hW.2.2.1 (hW.2.2.2.1.1.2 j hj) (Nat.le_refl _)
    omega
theorem x_fill {nm : Nat → Nat × Nat} {μ : Mem} {A : Ad} {S : Sp} {E : Nat → Nat} {g m n c z : Nat} {w u : Nat → Int64} {v : Int64} {post : Mem → Prop} (hN : RN nm A S E) (hL : LV μ A S E) (h : XHm μ A S E g m w n u) (hm : m < 262143) (hg : g < 2 ^ 31)
    (hc : UC (eRow E 2 m) ≤ UC E + c) (hz : UZ (eRow E 2 m) ≤ UZ E + z)
    (hp : ∀ μ' A' nm', RN nm' A' S (eRow E 2 m) → LV μ' A' S (eRow E 2 m) → XHm μ' A' S (eRow E 2 m) (if g < m + 1 then m + 1 else g) (m + 1) (va_up w m v) n u → St gH E μ A nm μ' A' nm' → post μ') : wp_X2_fill c z μ (A 0 3) v post := by
  obtain ⟨g1, g2, g3, g4, g5, g6, g7, g8, g9, l1, l3⟩ := id h
  refine ⟨g1, A 0 9, g2, l1.1, c, z, Nat.le_refl _, Nat.le_refl _, x_pushW hN hL h (by omega) hc hz (fun μ1 A1 nm1 N1 L1 h1 st1 _ => ?_)⟩
  have a3 : A1 0 3 = A 0 3 := st1.2.2.2.2.1 3 (by decide)
  have a9 : A1 0 9 = A 0 9 := st1.2.2.2.2.1 9 (by decide)
  obtain ⟨y1, y2, y3, y4, y5, y6, y7, y8, y9, y10, y11⟩ := id h1
  refine ⟨A1 0 9, by rw [← a3]; exact y2, y10.1, s_size y10 fun _ μ2 e2 => ?_⟩
  rw [← a3, y5] at e2
  have ev : (if nI g < nI (m + 1) then nI (m + 1) else nI g) = nI (if g < m + 1 then m + 1 else g) := by
    by_cases q : g < m + 1
    · rw [if_pos (nI_lt q (by omega)), if_pos q]
    · rw [if_neg (nI_nlt (by omega) hg), if_neg q]
  rw [ev] at e2
  have ne : ∀ a b, a < 24 → b < 24 → a ≠ b → ¬ A1 0 a = A1 0 b := fun a b ha hb hd => N1.ne (Us0 ha) (Us0 hb) (fun z => hd z.2)
  have ho : Off (fun a => a = A1 0 3) μ1 μ2 := by rw [e2]; exact Off_sfi
  have st2 : St gH (eRow E 2 m) μ1 A1 nm1 μ2 A1 nm1 := St.of (ho.sub (fun a _ hb => gH_of N1 (by omega) hb))
  refine hp μ2 A1 nm1 N1 (L1.km ho.1) ⟨ho.kd y1, ?_, ?_, ?_, ?_, ?_, ?_, y8, y9, y10.off ho (ne 9 3 (by decide) (by decide) (by decide)) (ne 19 3 (by decide) (by decide) (by decide)), y11.off ho (ne 10 3 (by decide) (by decide) (by decide)) (ne 20 3 (by decide) (by decide) (by decide))⟩ (st1.tr st2 (Nat.le_refl _) (Nat.le_refl _))
  · rw [e2, fr_sfi]; exact y2
  · rw [e2, fr_sfi]; exact y3
  · rw [e2, fi_sfi_k (by decide)]; exact y4
  · rw [e2, fi_sfi_e]
  · rw [e2]; exact y6
  · rw [e2]; exact y7
/-- while a cell's fields are filled in: k of them stand -/
def MKi (S : Sp) (i n : Nat) (w : Nat → Int64) (k : Nat) (w' : Nat → Int64) : Prop := (∀ q, q < s0 S 5 → w' q = w q) ∧ ∀ l, l < k → w' (s0 S 5 + 1 + l) = conv S (rdS S (s2 S 2 i l))
theorem x_make_loop {S : Sp} {i cc : Nat} {E tt : Nat → Nat} {oa fa ia ra : Nat} {w : Nat → Int64} {x3 : Int64} {post : Int32 → Mem → Prop} (hW : WF S) (hw : s0 S 8 < s0 S 6) (hi : i < s0 S 2) (hk2 : s1 S 5 i = 2) (hr : ∀ j, j < s1 S 6 i → s2 S 2 i j < s1 S 1 (s1 S 10 (s0 S 8))) (h6 : s1 S 6 i ≤ 4) (h5 : s0 S 5 + s1 S 6 i < 30000) (h12 : s0 S 12 < 2 ^ 31) (hn0 : ¬ s1 S 6 i = 0) {QC QZ : Nat} (hQC : UC (eW E (s0 S 5) (s1 S 6 i + 1)) ≤ QC) (hQZ : UZ (eW E (s0 S 5) (s1 S 6 i + 1)) ≤ QZ) {μ0 : Mem} {A0 : Ad} {nm0 : Nat → Nat × Nat}
    (fin : ∀ μ A nm c z w', RN nm A S (eW E (s0 S 5) (s1 S 6 i + 1)) → LV μ A S (eW E (s0 S 5) (s1 S 6 i + 1)) → XKt μ A S (eW E (s0 S 5) (s1 S 6 i + 1)) tt → (∃ n u, XHm μ A S (eW E (s0 S 5) (s1 S 6 i + 1)) (if s0 S 12 < s0 S 5 + (s1 S 6 i + 1) then s0 S 5 + (s1 S 6 i + 1) else s0 S 12) (s0 S 5 + (s1 S 6 i + 1)) w' n u) → MKi S i (s1 S 6 i) w (s1 S 6 i) w' → XP μ A S → XEc μ A → EF μ0 A0 μ A → St gH E μ0 A0 nm0 μ A nm → QC ≤ UC (eW E (s0 S 5) (s1 S 6 i + 1)) + c → QZ ≤ UZ (eW E (s0 S 5) (s1 S 6 i + 1)) + z → A 0 1 = oa → A 1 (s0 S 8) = fa → A 4 i = ia → wp_X0_make_48 oa post 1 c z μ fa ia x3 ra (nI (s1 S 6 i)) (nI (s1 S 6 i))) :
    ∀ d k μ A nm c z w' g, k + d = s1 S 6 i → RN nm A S (eW E (s0 S 5) (k + 1)) → LV μ A S (eW E (s0 S 5) (k + 1)) → XKt μ A S (eW E (s0 S 5) (k + 1)) tt → (∃ n u, XHm μ A S (eW E (s0 S 5) (k + 1)) g (s0 S 5 + (k + 1)) w' n u) → g = (if k = 0 then s0 S 12 else if s0 S 12 < s0 S 5 + (k + 1) then s0 S 5 + (k + 1) else s0 S 12) → MKi S i (s1 S 6 i) w k w' → XP μ A S → XEc μ A → EF μ0 A0 μ A → St gH E μ0 A0 nm0 μ A nm → A 0 1 = oa → A 1 (s0 S 8) = fa → A 4 i = ia → A 8 i = ra → QC ≤ UC (eW E (s0 S 5) (k + 1)) + c → QZ ≤ UZ (eW E (s0 S 5) (k + 1)) + z → wp_X0_make_48 oa post (d + 1) c z μ fa ia x3 ra (nI (s1 S 6 i)) (nI k) := by
  intro d
  induction d with
  | zero =>
    intro k μ A nm c z w' g hkd hN hL hK hH hg hM hP hE hEF hST ho hf hia hra hc hz
    have ek : k = s1 S 6 i := by omega
    subst ek
    rw [if_neg hn0] at hg
    subst hg
    exact fin μ A nm c z w' hN hL hK hH hM hP hE hEF hST hc hz ho hf hia
  | succ d ih =>
    intro k μ A nm c z w' g hkd hN hL hK hH hg hM hP hE hEF hST ho hf hia hra hc hz
    obtain ⟨i1, i2, i3, i4, i5, i6, i7, i8, i9, i10, -⟩ := hP.2.2 i hi
    obtain ⟨n, u, x1⟩ := hH
    obtain ⟨h1, h2, h3, tp, tv, tq, h4, h5'⟩ := id hK
    subst ho; subst hf; subst hia; subst hra
    rw [wp_X0_make_48]
    refine ⟨fun q => absurd q (nI_ge (by omega) (by omega)), fun _ => ⟨i8, by rw [i9]; exact vp_in_nI (by omega) (by omega), fun v35 e35 => ⟨hE.1, A 0 3, hE.2.2, A 0 2, hE.2.1, h1.1, ?_⟩⟩⟩
    rw [nI_clamp (show k < 2 ^ 31 by omega), i10 (Or.inl hk2) k (by omega)] at e35
    subst e35
    refine x_read ⟨h1, h2, h3, h4, h5'⟩ hw (WF.sl hW.2.2.1 hw (hr k (by omega))) fun _ => ⟨x1.1, ?_⟩
    obtain ⟨u1, u2⟩ := eW_U (E := E) (n := s0 S 5) (k + 1) 1
    obtain ⟨v1, v2⟩ := eW_U (E := E) (n := s0 S 5) (k + 1 + 1) d
    rw [show k + 1 + 1 + d = s1 S 6 i + 1 by omega] at v1 v2
    refine ⟨UC (eW E (s0 S 5) (k + 1 + 1)) - UC (eW E (s0 S 5) (k + 1)), UZ (eW E (s0 S 5) (k + 1 + 1)) - UZ (eW E (s0 S 5) (k + 1)), by omega, by omega, ?_⟩
    have hg2 : g < 2 ^ 31 := by rw [hg]; split; exact h12; split <;> omega
    refine x_fill hN hL x1 (by omega) hg2 (show UC (eW E (s0 S 5) (k + 1 + 1)) ≤ _ by omega) (show UZ (eW E (s0 S 5) (k + 1 + 1)) ≤ _ by omega) (fun μ1 A1 nm1 N1 L1 y1 st1 _ v54 e54 => ?_)
    rw [e54, nI_1]
    have a4 : A1 4 i = A 4 i := st1.2.1 4 i (gH_k (by decide))
    have a8 : A1 8 i = A 8 i := st1.2.1 8 i (gH_k (by decide))
    have a1 : A1 1 (s0 S 8) = A 1 (s0 S 8) := st1.2.1 1 _ (gH_k (by decide))
    refine ih (k + 1) μ1 A1 nm1 _ _ _ _ (by omega) N1 L1 (XKt.st hK hN st1 rfl rfl rfl rfl rfl rfl rfl) ⟨n, u, y1⟩ ?_ ⟨fun q hq => ?_, fun l hl => ?_⟩ (hP.st hN st1 (fun q => gP_h)) (hE.st hN st1 (gH_n (by omega))) (hEF.tr (XZ.sts (S := S) hE.1 hN st1 (gH_n (by omega)))) (hST.tr st1 (by rw [eW_o (by decide)]; exact Nat.le_refl _) (by rw [eW_o (by decide)]; exact Nat.le_refl _)) (st1.2.2.2.2.1 1 (by decide)) a1 a4 a8 (by omega) (by omega)
    · refine Eq.trans ?_ (if_neg (show ¬ k + 1 = 0 by omega)).symm
      rw [hg]
      by_cases q0 : k = 0
      · rw [if_pos q0]
        rfl
      · rw [if_neg q0]
        show (if (if s0 S 12 < s0 S 5 + (k + 1) then s0 S 5 + (k + 1) else s0 S 12) < s0 S 5 + (k + 1) + 1 then s0 S 5 + (k + 1) + 1 else _) = (if s0 S 12 < s0 S 5 + (k + 1 + 1) then s0 S 5 + (k + 1 + 1) else s0 S 12)
        split <;> split <;> split <;> omega
    · show (if q = s0 S 5 + (k + 1) then _ else w' q) = w q
      rw [if_neg (by omega)]; exact hM.1 q hq
    · show (if s0 S 5 + 1 + l = s0 S 5 + (k + 1) then _ else w' (s0 S 5 + 1 + l)) = _
      by_cases e : l = k
      · subst e
        rw [if_pos (by omega)]; rfl
      · rw [if_neg (by omega)]; exact hM.2 l (by omega)
theorem x_make {nm : Nat → Nat × Nat} {μ : Mem} {A : Ad} {S : Sp} {E tt : Nat → Nat} {i c z : Nat} {post : Int32 → Mem → Prop} (h : XG μ A nm S E tt) (hW : WF S) (hs : s0 S 3 < s0 S 10) (hw : s0 S 8 < s0 S 6) (hi : i < s0 S 2) (hk : s1 S 5 i = 2) (ha : si S 1 i = nI (sa S 1 i)) (ha2 : sa S 1 i < s1 S 1 (s1 S 10 (s0 S 8))) (hb : si S 2 i = nI (sa S 2 i)) (hb2 : sa S 2 i < 32) (hr : ∀ j, j < s1 S 6 i → s2 S 2 i j < s1 S 1 (s1 S 10 (s0 S 8))) (h6 : s1 S 6 i ≤ 4) (h9 : E 9 < 262143) (h12 : s0 S 12 < 2 ^ 31)
    (hc : s0 S 5 + tkN (s1 S 6 i) ≤ s0 S 15 → UC (eWr S (eMk S E (s1 S 6 i)) (s1 S 11 (s0 S 8) + sa S 1 i)) ≤ UC E + c) (hz : s0 S 5 + tkN (s1 S 6 i) ≤ s0 S 15 → UZ (eWr S (eMk S E (s1 S 6 i)) (s1 S 11 (s0 S 8) + sa S 1 i)) ≤ UZ E + z)
    (h5' : ¬ s0 S 5 + tkN (s1 S 6 i) ≤ s0 S 15 → post 5 μ)
    (hp : s0 S 5 + tkN (s1 S 6 i) ≤ s0 S 15 → ∀ μ' A' nm', XG μ' A' nm' (wrS (mkS S i) (sa S 1 i) (cellV (s0 S 3))) (eWr S (eMk S E (s1 S 6 i)) (s1 S 11 (s0 S 8) + sa S 1 i)) tt → EF μ A μ' A' → St gE E μ A nm μ' A' nm' → post 0 μ') : wp_X0_make c z μ (A 0 1) (A 1 (s0 S 8)) (A 4 i) post := by
  obtain ⟨hN, hL, hK, hH, hP, hE⟩ := id h
  obtain ⟨i1, i2, i3, i4, i5, i6, i7, i8, i9, i10, -⟩ := hP.2.2 i hi
  obtain ⟨x0, w, n, u, x1, x2⟩ := id hH
  have hc3 := hW.c3
  have hl15 := hW.2.2.2.2.2.2.2.2.2
  have hle5 := hW.2.1.2.2.2.1
  obtain ⟨e1U, e2U, -, e4U⟩ := eWr_U (S := S) (E := eMk S E (s1 S 6 i)) (q := s1 S 11 (s0 S 8) + sa S 1 i)
  have hws : ∀ k, k < s1 S 6 i → okV (s0 S 3) (rdS S (s2 S 2 i k)) := fun k hk => hW.2.2.2.2.1 _ (WF.sl hW.2.2.1 hw (hr k hk))
  refine ⟨hE.1, A 0 3, hE.2.2, i1, A 8 i, i7, Or.inr (Or.inl i8), x1.1, ?_⟩
  rw [i9]
  refine x_hhasRoom x1 h6 (by omega) hl15 hle5 (fun hy _ => nz1 ?_) (fun hn _ => nz0 (h5' hn))
  have hp := hp hy
  have hc := hc hy
  have hz := hz hy
  have hWm : WF (mkS S i) := hW.mk hs hb2 h6 hy hws
  refine ⟨A 0 3, hE.2.2, A 8 i, i7, Or.inr (Or.inl i8), x1.1, ?_⟩
  rw [i9, i4, hb]
  have cgm : ∀ v, okV (s0 S 3) v → conv (mkS S i) v = conv S v := fun v hv => conv_congr (n := s0 S 3) (fun c hc => by
    have : ¬ c = s0 S 3 := by omega
    constructor
    · simp [s1, mkS, up2, this]
    · simp [s1, mkS, up2, this]) (by omega) hv
  have m8o : ∀ c, c < s0 S 3 → s1 (mkS S i) 8 c = s1 S 8 c := fun c hc => by simp [s1, mkS, up2, show ¬ c = s0 S 3 by omega]
  have m8n : s1 (mkS S i) 8 (s0 S 3) = s1 S 6 i := by simp [s1, mkS, up2]
  have m7n : s1 (mkS S i) 7 (s0 S 3) = sa S 2 i := by simp [s1, mkS, up2]
  have m9o : ∀ c, c < s0 S 3 → s1 (mkS S i) 9 c = s1 S 9 c := fun c hc => by simp [s1, mkS, up2, show ¬ c = s0 S 3 by omega]
  have m9n : s1 (mkS S i) 9 (s0 S 3) = s0 S 4 := by simp [s1, mkS, up2]
  have hpo : ∀ c, c ≤ s0 S 3 → hpS (mkS S i) c = hpS S c := fun c hc => (hpS_congr (S := S) (S' := mkS S i) c (fun d hd => m8o d (by omega))).1
  -- the cell's long
  have hcx : cellX (mkS S i) (s0 S 3) = mkX (if s1 S 6 i = 0 then 0 else s0 S 5) (s1 S 6 i) (sa S 2 i) := by
    rw [cellX_mk, m8n, m7n]
    unfold plc
    rw [m8n, hpo _ (Nat.le_refl _), ← hW.2.1.2.2.1]
  -- words of the new state
  have hHW : ∀ w', MKi S i (s1 S 6 i) w (s1 S 6 i) w' → HW (mkS S i) w' := by
    intro w' hM c k hcc hkk
    have hcc : c < s0 S 3 + 1 := hcc
    by_cases e : c = s0 S 3
    · subst e
      rw [m8n] at hkk
      rw [hpo _ (Nat.le_refl _), ← hW.2.1.2.2.1, m9n, hM.2 k hkk]
      show conv S (rdS S (s2 S 2 i k)) = conv (mkS S i) (if 1 = 1 ∧ s0 S 4 ≤ s0 S 4 + k then rdS S (s2 S 2 i (s0 S 4 + k - s0 S 4)) else _)
      rw [if_pos ⟨rfl, by omega⟩, show s0 S 4 + k - s0 S 4 = k by omega, cgm _ (hws k hkk)]
    · have hcl : c < s0 S 3 := by omega
      rw [m8o c hcl] at hkk
      obtain ⟨b1, b2, b3, b4⟩ := hW.2.1.2.2.2.2 c hcl
      have hf4 : s1 S 9 c + s1 S 8 c ≤ s0 S 4 := by
        rw [b3, hW.2.1.2.1]
        exact fsS_le (c := c + 1) (by omega)
      have hlt : hpS S c + 1 + k < s0 S 5 := by
        have := hpS_le (S := S) (c := c + 1) (e := s0 S 3) (by omega)
        have e1 : hpS S (c + 1) = hpS S c + (if s1 S 8 c = 0 then 0 else s1 S 8 c + 1) := rfl
        rw [if_neg (by omega)] at e1
        have := hW.2.1.2.2.1
        omega
      rw [hpo c (by omega), m9o c hcl, hM.1 _ hlt, x2 c k hcl hkk]
      show conv S (sv S 1 (s1 S 9 c + k)) = conv (mkS S i) (if 1 = 1 ∧ s0 S 4 ≤ s1 S 9 c + k then _ else sv S 1 (s1 S 9 c + k))
      rw [if_neg (by omega), cgm _ (okV_le (by omega) (b4 k hkk))]
  -- the write at the end
  have last : ∀ μ1 A1 nm1 E1 cc zz, XG μ1 A1 nm1 (mkS S i) E1 tt → E1 = eMk S E (s1 S 6 i) → EF μ A μ1 A1 → St gH E μ A nm μ1 A1 nm1 → UC (eWr S (eMk S E (s1 S 6 i)) (s1 S 11 (s0 S 8) + sa S 1 i)) ≤ UC E1 + cc → UZ (eWr S (eMk S E (s1 S 6 i)) (s1 S 11 (s0 S 8) + sa S 1 i)) ≤ UZ E1 + zz → kd μ1 (A 4 i) = 6 ∧ kd μ1 (A 0 1) = 3 ∧ ∃ c27 z28, c27 ≤ cc ∧ z28 ≤ zz ∧ wp_X0_become c27 z28 μ1 (A 0 1) (A 1 (s0 S 8)) (fi μ1 5 1 (A 4 i)) (cellX (mkS S i) (s0 S 3)) (fun (r30 : Int32) (μ26 : Mem) => KM μ1 μ26 → post r30 μ26) := by
    intro μ1 A1 nm1 E1 cc zz g1 eE1 ef1 st1 hcc hzz
    subst eE1
    have a0 : A1 0 1 = A 0 1 := st1.2.2.2.2.1 1 (by decide)
    have a1 : A1 1 (s0 S 8) = A 1 (s0 S 8) := st1.2.1 1 _ (gH_k (by decide))
    have a4 : A1 4 i = A 4 i := st1.2.1 4 i (gH_k (by decide))
    obtain ⟨j1, j2, j3, -⟩ := g1.2.2.2.2.1.2.2 i hi
    have j3 : fi μ1 5 1 (A1 4 i) = si S 1 i := j3
    rw [← a0, ← a1, ← a4, j3, ha]
    refine ⟨j1, g1.2.2.2.2.2.1, cc, zz, Nat.le_refl _, Nat.le_refl _, ?_⟩
    have e9' : eMk S E (s1 S 6 i) 9 = E 9 := by unfold eMk; split; rfl; exact eW_o (by decide) _
    have := x_become (v := cellV (s0 S 3)) (c := cc) (z := zz) (j := s0 S 8) (a := sa S 1 i) (post := fun r μ' => KM μ1 μ' → post r μ') g1 hWm hw ha2 (by omega) hcc hzz (fun μ' A' nm' y1 y2 _ => hp μ' A' nm' y1 (ef1.tr (g1.efk y2)) ((st1.h).tr y2.k (by unfold eMk; split; exact Nat.le_refl _; rw [eW_o (by decide)]; exact Nat.le_refl _) (by unfold eMk; split; exact Nat.le_refl _; rw [eW_o (by decide)]; exact Nat.le_refl _)))
    rw [conv_cell (show s0 S 3 < 2 ^ 31 by omega)] at this
    exact this
  by_cases hn0 : s1 S 6 i = 0
  · refine ⟨0, 0, Nat.zero_le _, Nat.zero_le _, fun _ => ?_, fun q => absurd (by rw [hn0]; rfl) q⟩
    intro _ _
    refine ⟨A 8 i, i7, Or.inr (Or.inl i8), fun v24 e24 => ?_⟩
    rw [i9] at e24
    subst e24
    have eME : eMk S E (s1 S 6 i) = E := if_pos hn0
    have tk0 : tkN (s1 S 6 i) = 0 := if_pos hn0
    have g1 : XG μ A nm (mkS S i) E tt := by
      refine ⟨hN, hL, hK.mk hW, ⟨?_, w, n, u, ?_, hHW w ⟨fun _ _ => rfl, fun l hl => absurd hl (by omega)⟩⟩, hP.pq Pq_mk, hE⟩
      · show s0 S 5 + tkN (s1 S 6 i) ≤ (if s0 S 12 < s0 S 5 + tkN (s1 S 6 i) then s0 S 5 + tkN (s1 S 6 i) else s0 S 12)
        split <;> omega
      · have e12 : s0 (mkS S i) 12 = s0 S 12 := by
          show (if s0 S 12 < s0 S 5 + tkN (s1 S 6 i) then s0 S 5 + tkN (s1 S 6 i) else s0 S 12) = s0 S 12
          rw [if_neg (by omega)]
        have e5 : s0 (mkS S i) 5 = s0 S 5 := by
          show s0 S 5 + tkN (s1 S 6 i) = s0 S 5
          omega
        rw [e12, e5]
        exact x1
    have hl := last μ A nm E c z g1 eME.symm EF.rf St.rf hc hz
    refine ⟨1, ?_⟩
    rw [wp_X0_make_48]
    refine ⟨fun _ => ?_, fun q => absurd (by rw [hn0]; exact nI_le (Nat.le_refl 0) (by decide)) q⟩
    have eX : ((((1099511627776 : Int64) ||| ((Int32.toInt64 0) <<< (Int32.toInt64 8 &&& 63))) ||| (Int32.toInt64 (0 <<< ((5 : Int32) &&& 31)))) ||| (Int32.toInt64 (nI (sa S 2 i)))) = cellX (mkS S i) (s0 S 3) := by
      rw [hcx, hn0, if_pos rfl]
      exact mkX_make (p := 0) (f := 0) (by decide) (by decide) hb2
    rw [eX]
    exact hl
  · have eME : eMk S E (s1 S 6 i) = eW E (s0 S 5) (s1 S 6 i + 1) := if_neg hn0
    have tk1 : tkN (s1 S 6 i) = s1 S 6 i + 1 := if_neg hn0
    rw [eME] at hc hz e1U e2U
    obtain ⟨u1, u2⟩ := eW_U (E := E) (n := s0 S 5) 0 1
    obtain ⟨v1, v2⟩ := eW_U (E := E) (n := s0 S 5) 1 (s1 S 6 i)
    rw [Nat.add_comm 1 (s1 S 6 i)] at v1 v2
    have u1 : UC E ≤ UC (eW E (s0 S 5) 1) := u1
    have u2 : UZ E ≤ UZ (eW E (s0 S 5) 1) := u2
    refine ⟨UC (eW E (s0 S 5) 1) - UC E, UZ (eW E (s0 S 5) 1) - UZ E, by omega, by omega, fun q => absurd ((nI_eq (by omega) (by decide)).mp q) hn0, fun _ => ⟨x1.1, A 0 9, x1.2.1, x1.2.2.2.2.2.2.2.2.2.1.1, s_size x1.2.2.2.2.2.2.2.2.2.1 fun _ => ?_⟩⟩
    intro _
    have eX : ((((1099511627776 : Int64) ||| ((Int32.toInt64 (nI (s0 S 5))) <<< (Int32.toInt64 8 &&& 63))) ||| (Int32.toInt64 (nI (s1 S 6 i) <<< ((5 : Int32) &&& 31)))) ||| (Int32.toInt64 (nI (sa S 2 i)))) = cellX (mkS S i) (s0 S 3) := by
      rw [hcx, if_neg hn0]
      exact mkX_make (by omega) (by omega) hb2
    rw [eX]
    refine ⟨A 0 9, x1.2.1, x1.2.2.2.2.2.2.2.2.2.1.1, UC (eW E (s0 S 5) 1) - UC E, UZ (eW E (s0 S 5) 1) - UZ E, Nat.le_refl _, Nat.le_refl _, ?_⟩
    refine x_pushW hN hL x1 (by omega) (show UC (eW E (s0 S 5) 1) ≤ _ by omega) (show UZ (eW E (s0 S 5) 1) ≤ _ by omega) (fun μ1 A1 nm1 N1 L1 y1 st1 _ _ => ?_)
    have P1 := hP.st hN st1 (fun q => gP_h)
    have E1 := hE.st hN st1 (gH_n (by omega))
    have K1 : XKt μ1 A1 S (eW E (s0 S 5) 1) tt := XKt.st hK hN st1 rfl rfl rfl rfl rfl rfl rfl
    have a0 : A1 0 1 = A 0 1 := st1.2.2.2.2.1 1 (by decide)
    have a1 : A1 1 (s0 S 8) = A 1 (s0 S 8) := st1.2.1 1 _ (gH_k (by decide))
    have a4 : A1 4 i = A 4 i := st1.2.1 4 i (gH_k (by decide))
    have a8 : A1 8 i = A 8 i := st1.2.1 8 i (gH_k (by decide))
    obtain ⟨j1, j2, j3, j4, j5, j6, j7, j8, j9, -⟩ := P1.2.2 i hi
    refine ⟨A 8 i, by rw [← a4, ← a8]; exact j7, by rw [← a8]; exact Or.inr (Or.inl j8), fun v24 e24 => ?_⟩
    rw [← a8, j9] at e24
    subst e24
    have hss : (s1 S 6 i) + 1 = s1 S 6 i + 1 := rfl
    refine ⟨_, x_make_loop (S := S) (i := i) (cc := 0) (E := E) (tt := tt) (w := w) (QC := UC (eWr S (eMk S E (s1 S 6 i)) (s1 S 11 (s0 S 8) + sa S 1 i))) (QZ := UZ (eWr S (eMk S E (s1 S 6 i)) (s1 S 11 (s0 S 8) + sa S 1 i))) (μ0 := μ) (A0 := A) (nm0 := nm) hW hw hi hk hr h6 (by omega) h12 hn0 (by rw [eME]; exact e1U) (by rw [eME]; exact e2U) (fun μ2 A2 nm2 c2 z2 w' N2 L2 K2 H2 M2 P2 E2 ef2 st2 hc2 hz2 b0 b1 b4 => ?_) (s1 S 6 i) 0 μ1 A1 nm1 _ _ (va_up w (s0 S 5) (Int32.toInt64 (nI (sa S 2 i)))) (s0 S 12) (Nat.zero_add _) N1 L1 K1 ⟨n, u, y1⟩ (if_pos rfl).symm ⟨fun q hq => if_neg (by omega), fun l hl => absurd hl (by omega)⟩ P1 E1 (XZ.sts (S := S) hE.1 hN st1 (gH_n (by omega))) st1 a0 a1 a4 a8 (by rw [eME]; show _ ≤ UC (eW E (s0 S 5) 1) + _; omega) (by rw [eME]; show _ ≤ UZ (eW E (s0 S 5) 1) + _; omega)⟩
    obtain ⟨n2, u2', y2⟩ := H2
    have g2 : XG μ2 A2 nm2 (mkS S i) (eW E (s0 S 5) (s1 S 6 i + 1)) tt := by
      refine ⟨N2, L2, K2.mk hW, ⟨?_, w', n2, u2', ?_, hHW w' M2⟩, P2.pq Pq_mk, E2⟩
      · show s0 S 5 + tkN (s1 S 6 i) ≤ (if s0 S 12 < s0 S 5 + tkN (s1 S 6 i) then s0 S 5 + tkN (s1 S 6 i) else s0 S 12)
        split <;> omega
      · have e12 : s0 (mkS S i) 12 = (if s0 S 12 < s0 S 5 + (s1 S 6 i + 1) then s0 S 5 + (s1 S 6 i + 1) else s0 S 12) := by
          show (if s0 S 12 < s0 S 5 + tkN (s1 S 6 i) then s0 S 5 + tkN (s1 S 6 i) else s0 S 12) = _
          rw [tk1]
        have e5 : s0 (mkS S i) 5 = s0 S 5 + (s1 S 6 i + 1) := by
          show s0 S 5 + tkN (s1 S 6 i) = _
          rw [tk1]
        rw [e12, e5]
        exact y2
    have hl := last μ2 A2 nm2 _ c2 z2 g2 eME.symm ef2 st2 hc2 hz2
    rw [wp_X0_make_48]
    exact ⟨fun _ => hl, fun q => absurd (nI_le (Nat.le_refl _) (by omega)) q⟩
