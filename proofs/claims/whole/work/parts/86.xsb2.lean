/-! the builder: characters and numbers -/
theorem getD_l {l l' : List Nat} {i : Nat} (h : i < l.length) : (l ++ l').getD i 0 = l.getD i 0 := by
  simp [List.getD, List.getElem?_append_left h]
theorem getD_r {l l' : List Nat} {i : Nat} (h : l.length ≤ i) : (l ++ l').getD i 0 = l'.getD (i - l.length) 0 := by
  simp [List.getD, List.getElem?_append_right h]
theorem x_blen {μ : Mem} {o it cap : Nat} {l : List Nat} {post : Int32 → Mem → Prop} (h : SB μ o it cap l) (hp : post (nI l.length) μ) : wp_J4_length_8abf5 μ o post := by
  refine ⟨h.1, h.1, fun _ => ?_⟩
  rw [h.2.2.2.1]; exact hp
theorem x_latin {μ : Mem} {o it cap : Nat} {l : List Nat} {post : Int32 → Mem → Prop} (h : SB μ o it cap l) (hp : post 1 μ) : wp_J5_isLatin1_aae02 μ o post :=
  ⟨fun q => absurd q (by decide), fun _ => ⟨h.1, fun _ => hp, fun q => absurd h.2.2.1 q⟩⟩
/-- some characters are written behind -/
theorem SB.grow {μ μ' : Mem} {o it cap : Nat} {l l' : List Nat} (h : SB μ o it cap l) (hl : l.length + l'.length ≤ cap) (k1 : kd μ' = kd μ) (k2 : fr μ' 0 0 o = fr μ 0 0 o) (k3 : fi μ' 0 1 o = fi μ 0 1 o) (k4 : fi μ' 0 3 o = nI (l.length + l'.length)) (k5 : al μ' it = al μ it)
    (k6 : ∀ i, i < l.length ∨ l.length + l'.length ≤ i → ai μ' it i = ai μ it i) (k7 : ∀ i, i < l'.length → ai μ' it (l.length + i) = nI (l'.getD i 0) ∧ l'.getD i 0 < 128) : SB μ' o it cap (l ++ l') := by
  obtain ⟨g1, g2, g3, g4, g5, g6, g7, g8, g9, g10, g11⟩ := h
  have hlen : (l ++ l').length = l.length + l'.length := List.length_append
  refine ⟨by rw [k1]; exact g1, by rw [k2]; exact g2, by rw [k3]; exact g3, by rw [k4, hlen], by rw [k1]; exact g5, by rw [k5]; exact g6, g7, g8, by omega, fun i hi => ?_, fun i hi => ?_⟩
  · by_cases q : i < l.length ∨ l.length + l'.length ≤ i
    · rw [k6 i q]; exact g10 i hi
    · obtain ⟨a, b⟩ := k7 (i - l.length) (by omega)
      rw [show l.length + (i - l.length) = i by omega] at a
      exact ⟨_, b, a⟩
  · rw [hlen] at hi
    rcases Nat.lt_or_ge i l.length with q | q
    · rw [k6 i (Or.inl q), getD_l q]; exact g11 i q
    · have := (k7 (i - l.length) (by omega)).1
      rw [show l.length + (i - l.length) = i by omega] at this
      rw [this, getD_r q]
theorem x_bchar {μ : Mem} {o it cap ch c z : Nat} {l : List Nat} {post : Option Nat → Mem → Prop} (h : SB μ o it cap l) (hch : ch < 128) (hm : l.length + 1 ≤ 100000) (hm2 : 2 * cap + 2 ≤ 100000) (hc : cap < l.length + 1 → 1 ≤ c ∧ bcap cap (l.length + 1) ≤ z)
    (hp : ∀ μ' it', SB μ' o it' (bcap cap (l.length + 1)) (l ++ [ch]) → Off (fun a => a = o ∨ a = it) μ μ' → (it' = it ∨ kd μ it' = 0) → post (some o) μ') : wp_J4_append_cf468 c z μ o (nI ch) post := by
  refine ⟨h.1, c, z, Nat.le_refl _, Nat.le_refl _, h.1, c, z, Nat.le_refl _, Nat.le_refl _, ?_⟩
  rw [h.2.2.2.1, nI_1]
  refine x_bens h hm hm2 hc (fun μ1 it1 h1 o1 hit _ => x_latin h1 fun _ => ?_)
  refine ⟨fun q => absurd q (by decide), fun _ => ⟨fun q => absurd q (by rw [show (255 : Int32) = nI 255 from rfl]; exact nI_nlt (by omega) (by omega)), fun _ _ => ⟨fun q => absurd q (by decide), fun _ => ⟨it1, h1.2.1, fun μ25 e25 => ?_⟩⟩⟩⟩
  obtain ⟨g1, g2, g3, g4, g5, g6, g7, g8, g9, g10, g11⟩ := id h1
  have hcap : l.length + 1 ≤ bcap cap (l.length + 1) := by unfold bcap; split <;> (try split) <;> omega
  have no : ¬ it1 = o := fun e => by rw [e, g1] at g5; cases g5
  rw [g4, nI_1] at e25
  rw [g4, nI_clamp (by omega), byteS ch hch]
  refine ⟨by rw [e25]; exact g5, by rw [e25, al_sfi, g6]; exact vp_in_nI (by omega) (by omega), fun μ29 e29 _ => ?_⟩
  refine hp μ29 it1 ?_ ?_ hit
  · rw [e29, e25]
    refine h1.grow (l' := [ch]) hcap rfl rfl ?_ ?_ rfl (fun i hi => ?_) (fun i hi => ?_)
    · show fi (sfi μ1 0 3 o (nI (l.length + 1))) 0 1 o = _
      rw [fi_sfi_k (by decide)]
    · show fi (sfi μ1 0 3 o (nI (l.length + 1))) 0 3 o = _
      rw [fi_sfi_e]; rfl
    · rw [ai_sai, if_neg (fun q => by have hi : i < l.length ∨ l.length + 1 ≤ i := hi; omega)]; rfl
    · have hi : i < 1 := hi
      have e : i = 0 := by omega
      subst e
      refine ⟨?_, hch⟩
      rw [ai_sai, if_pos ⟨rfl, rfl⟩]; rfl
  · have x1 : Off (fun a => a = o ∨ a = it) μ μ1 := o1.sub (fun a _ q => Or.inl q)
    have x2 : Off (fun a => a = o ∨ a = it1) μ1 μ25 := by rw [e25]; exact Off_sfi.sub (fun a _ q => Or.inl q)
    have x3 : Off (fun a => a = o ∨ a = it1) μ25 μ29 := by rw [e29]; exact Off_sai.sub (fun a _ q => Or.inr q)
    obtain ⟨y1, y2, y3⟩ := x2.tr x3
    refine ⟨x1.1.tr y1, fun a ha => ⟨(x1.2.1 a (y2 a ha).1).1, (y2 a ha).2.trans (x1.2.1 a (y2 a ha).1).2⟩, fun a ha hd => ?_⟩
    obtain ⟨w1, w2, w3, w4, w5, w6⟩ := x1.2.2 a ha hd
    obtain ⟨v1, v2, v3, v4, v5, v6⟩ := y3 a (by rw [x1.1 a ha]; exact ha) (fun q => by
      rcases q with q | q
      · exact hd (Or.inl q)
      · rcases hit with r | r
        · exact hd (Or.inr (q.trans r))
        · exact ha (by rw [q]; exact r))
    exact ⟨fun c k => (v1 c k).trans (w1 c k), fun c k => (v2 c k).trans (w2 c k), v3.trans w3, fun i => (v4 i).trans (w4 i), fun i => (v5 i).trans (w5 i), fun i => (v6 i).trans (w6 i)⟩
theorem x_bens0 {μ : Mem} {o it cap m c z : Nat} {l : List Nat} {post : Mem → Prop} (h : SB μ o it cap l) (hm : m ≤ cap) (hp : post μ) : wp_J5_ensureCapacityInternal_d00df c z μ o (nI m) post := by
  obtain ⟨g1, g2, g3, g4, g5, g6, g7, g8, g9, g10, g11⟩ := id h
  refine ⟨g1, it, g2, Or.inl g5, fun v3 e3 => ?_⟩
  rw [g3, sh0r, g6] at e3
  subst e3
  refine ⟨fun _ => hp, fun q => absurd ?_ q⟩
  rw [Int32.le_iff_toInt_le, Int32.toInt_sub, nI_toInt (by omega), nI_toInt (by omega)]
  have : (0 : Int32).toInt = 0 := by decide
  rw [this]
  have hb : ((m : Int) - (cap : Int)).bmod (2 ^ 32) = (m : Int) - cap := by
    apply Int.bmod_eq_of_le
    · omega
    · omega
  rw [hb]
  omega
theorem x_bset {μ : Mem} {o it cap n c z : Nat} {l : List Nat} {post : Mem → Prop} (h : SB μ o it cap l) (hn : n ≤ l.length) (hp : ∀ μ', SB μ' o it cap (l.take n) → Off (fun a => a = o) μ μ' → post μ') : wp_J4_setLength_d00df c z μ o (nI n) post := by
  obtain ⟨g1, g2, g3, g4, g5, g6, g7, g8, g9, g10, g11⟩ := id h
  refine ⟨g1, c, z, Nat.le_refl _, Nat.le_refl _, fun _ => ⟨g1, c, z, Nat.le_refl _, Nat.le_refl _, x_bens0 h (by omega) (fun _ => ?_)⟩, fun q => absurd (Int32.not_lt.mp (nI_pos (by omega))) q⟩
  have hl : (l.take n).length = n := by rw [List.length_take]; omega
  have fin : ∀ μ7, kd μ7 = kd μ → fr μ7 0 0 o = fr μ 0 0 o → fi μ7 0 1 o = fi μ 0 1 o → fi μ7 0 3 o = nI n → al μ7 = al μ → ai μ7 = ai μ → SB μ7 o it cap (l.take n) := fun μ7 e1 e3 e4 e5 e6 e7 => by
    refine ⟨by rw [e1]; exact g1, by rw [e3]; exact g2, by rw [e4]; exact g3, by rw [hl]; exact e5, by rw [e1]; exact g5, by rw [e6]; exact g6, g7, g8, by omega, by rw [e7]; exact g10, fun i hi => ?_⟩
    rw [hl] at hi
    rw [e7, g11 i (by omega)]
    simp [List.getD, hi]
  rw [g4]
  refine ⟨fun _ => ⟨fun _ μ7 e7 _ => hp μ7 (fin μ7 (by rw [e7]; rfl) (by rw [e7]; rfl) (by rw [e7, fi_sfi_k (by decide)]) (by rw [e7, fi_sfi_e]) (by rw [e7]; rfl) (by rw [e7]; rfl)) (by rw [e7]; exact Off_sfi), fun _ μ10 e10 μ13 e13 _ => hp μ13 (fin μ13 (by rw [e13, e10]; rfl) (by rw [e13, e10]; rfl) (by rw [e13, fi_sfi_k (by decide), e10, fi_sfi_k (by decide)]) (by rw [e13, fi_sfi_e]) (by rw [e13, e10]; rfl) (by rw [e13, e10]; rfl)) (by rw [e13, e10]; exact Off_sfi.tr Off_sfi)⟩, fun q => absurd (nI_le hn (by omega)) q⟩
set_option maxRecDepth 100000 in
theorem charV : ∀ b, b < 128 → UInt32.toInt32 (Int32.toUInt32 ((nI b) &&& 255) % 65536) = nI b := by decide
set_option maxRecDepth 100000 in
theorem charN : ∀ b, b < 128 → (nI b).toUInt32.toUInt16.toUInt32.toInt32 = nI b := by decide
theorem charN' {b : Nat} (h : b < 128) : narrow .char (.int (nI b)) = .int (nI b) := congrArg Value.int (charN b h)
theorem x_bat {μ : Mem} {o it cap i : Nat} {l : List Nat} {post : Int32 → Mem → Prop} (h : SB μ o it cap l) (hi : i < l.length) (hp : post (nI (l.getD i 0)) μ) : wp_J4_charAt_5068e μ o (nI i) post := by
  obtain ⟨g1, g2, g3, g4, g5, g6, g7, g8, g9, g10, g11⟩ := id h
  refine ⟨g1, g1, fun v2 e2 => ⟨it, g2, Or.inl g5, fun v4 e4 => ?_⟩⟩
  rw [g3] at e2
  subst e2
  rw [sh0r, g6, g4, if_neg (nI_nlt (by omega) (by omega))] at e4
  subst e4
  refine fun r1 => ⟨fun q => absurd q (nI_pos (by omega)), fun _ => ⟨fun _ _ _ => ⟨fun _ => ⟨g5, by rw [g6]; exact vp_in_nI (by omega) (by omega), ?_⟩, fun q => absurd rfl q⟩, fun q => absurd (nI_lt hi (by omega)) q⟩⟩
  obtain ⟨b, hb, eb⟩ := g10 i (by omega)
  rw [show nI (l.getD i 0) = nI b from (g11 i hi).symm.trans eb] at hp
  rw [nI_clamp (by omega), eb, charV _ hb]
  exact ⟨charN' hb, fun _ => ⟨charN' hb, hp⟩⟩
/-- numbers below zero -/
def ng (w : Nat) : Int32 := Int32.ofInt (-(w : Int))
theorem ng_toInt {w : Nat} (h : w ≤ 2 ^ 31) : (ng w).toInt = -(w : Int) := by
  rw [ng, Int32.toInt_ofInt, show Int32.size = 2 ^ 32 from rfl]
  apply Int.bmod_eq_of_le
  · omega
  · omega
theorem ng_le {a b : Nat} (ha : a ≤ 2 ^ 31) (hb : b ≤ 2 ^ 31) : ng a ≤ ng b ↔ b ≤ a := by
  rw [Int32.le_iff_toInt_le, ng_toInt ha, ng_toInt hb]; omega
theorem ng_10 {w : Nat} : (10 : Int32) * ng w = ng (10 * w) := by
  rw [show (10 : Int32) = Int32.ofInt 10 from rfl, ng, ng, ← Int32.ofInt_mul]
  congr 1
  omega
theorem ng_pos {x : Int32} (h : ¬ x < 0) : -x = ng x.toInt.natAbs := by
  rw [Int32.lt_iff_toInt_lt] at h
  have a : (0 : Int32).toInt = 0 := by decide
  rw [ng, show -(x.toInt.natAbs : Int) = -x.toInt by omega, Int32.ofInt_neg, Int32.ofInt_toInt]
theorem ng_neg {x : Int32} (h : x < 0) : x = ng x.toInt.natAbs := by
  rw [Int32.lt_iff_toInt_lt] at h
  have a : (0 : Int32).toInt = 0 := by decide
  rw [ng, show -(x.toInt.natAbs : Int) = x.toInt by omega, Int32.ofInt_toInt]
theorem x_ssize16 {μ : Mem} {w s : Nat} {post : Int32 → Mem → Prop} (hw : w ≤ 2 ^ 31) (hs : s ≤ 1) : ∀ f k, k + f = 10 → post (nI (ndA w f k + s)) μ → wp_J6_stringSize_0f7a4_16 post (f + 1) μ (ng w) (nI s) (ng (10 ^ k)) (nI k) := by
  intro f
  induction f with
  | zero =>
    intro k hk hp
    have e : k = 10 := by omega
    subst e
    rw [wp_J6_stringSize_0f7a4_16]
    refine ⟨fun _ => ?_, fun q => absurd (by decide) q⟩
    rw [show (10 : Int32) = nI 10 from rfl, nI_add]
    exact hp
  | succ f ih =>
    intro k hk hp
    rw [wp_J6_stringSize_0f7a4_16]
    have p9 : 10 ^ k ≤ 2 ^ 31 := by have := p10 (k := k) (by omega); omega
    refine ⟨fun q => absurd q (nI_ge (b := 10) (by omega) (by decide)), fun _ => ⟨fun q v1 e1 v2 e2 => ?_, fun q => ?_⟩⟩
    · rw [ng_le hw p9] at q
      rw [ndA, if_neg (by omega)] at hp
      rw [e1, e2, ng_10, nI_1, show 10 * 10 ^ k = 10 ^ (k + 1) by rw [Nat.pow_succ]; omega]
      exact ih (k + 1) (by omega) hp
    · rw [ng_le hw p9] at q
      rw [ndA, if_pos (by omega)] at hp
      rw [nI_add]; exact hp
theorem dgs_len {w : Nat} : ∀ k, (dgs w k).length = k := by
  intro k
  induction k with
  | zero => rfl
  | succ k ih => rw [dgs, List.length_cons, ih]
theorem x_ssize {μ : Mem} {x : Int32} {post : Int32 → Mem → Prop} (hp : post (nI (dec x).length) μ) : wp_J6_stringSize_0f7a4 μ x post := by
  have hw : x.toInt.natAbs ≤ 2 ^ 31 := by
    have a := Int32.toInt_lt x
    have b := Int32.le_toInt x
    omega
  have i0 : (0 ≤ x) ↔ ¬ x < 0 := Int32.not_lt.symm
  refine ⟨fun q => ⟨10, ?_⟩, fun q v4 e4 => ⟨10, ?_⟩⟩
  · rw [dec, if_neg (fun z => i0.mp z q), List.length_cons, dgs_len] at hp
    have := x_ssize16 (μ := μ) (s := 1) hw (by decide) 9 1 (by decide) hp
    rw [← ng_neg q] at this
    exact this
  · rw [dec, if_pos (i0.mpr q), dgs_len] at hp
    rw [e4, ng_pos q]
    exact x_ssize16 (μ := μ) (s := 0) hw (by decide) 9 1 (by decide) hp
/-- what a writing of digits leaves -/
def OnA (it : Nat) (μ μ' : Mem) : Prop := kd μ' = kd μ ∧ fi μ' = fi μ ∧ fr μ' = fr μ ∧ al μ' = al μ ∧ aj μ' = aj μ ∧ ar μ' = ar μ ∧ ∀ a i, ¬ a = it → ai μ' a i = ai μ a i
theorem OnA.sai {it i : Nat} {v : Int32} {μ : Mem} : OnA it μ (sai μ it i v) := ⟨rfl, rfl, rfl, rfl, rfl, rfl, fun a j h => by rw [ai_sai, if_neg (fun q => h q.1)]⟩
theorem OnA.tr {it : Nat} {μ μ1 μ2 : Mem} (h : OnA it μ μ1) (h' : OnA it μ1 μ2) : OnA it μ μ2 :=
  ⟨h'.1.trans h.1, h'.2.1.trans h.2.1, h'.2.2.1.trans h.2.2.1, h'.2.2.2.1.trans h.2.2.2.1, h'.2.2.2.2.1.trans h.2.2.2.2.1, h'.2.2.2.2.2.1.trans h.2.2.2.2.2.1, fun a i hn => (h'.2.2.2.2.2.2 a i hn).trans (h.2.2.2.2.2.2 a i hn)⟩
theorem OnA.off {it : Nat} {μ μ' : Mem} (h : OnA it μ μ') : Off (fun a => a = it) μ μ' :=
  ⟨fun a _ => by rw [h.1], fun a ha => ⟨by rw [← h.1]; exact ha, by rw [h.2.2.2.1]⟩, fun a _ hd => ⟨fun c k => by rw [h.2.1], fun c k => by rw [h.2.2.1], by rw [h.2.2.2.1], fun i => h.2.2.2.2.2.2 a i hd, fun i => by rw [h.2.2.2.2.1], fun i => by rw [h.2.2.2.2.2.1]⟩⟩
theorem nd_100 {w : Nat} (h : 100 ≤ w) (hw : w < 10 ^ 10) : nd w = nd (w / 100) + 2 := by
  obtain ⟨a1, a2, a3⟩ := nd_sp hw
  obtain ⟨b1, b2, b3⟩ := nd_sp (w := w / 100) (by omega)
  have l1 : w < 10 ^ (nd (w / 100) + 2) := by
    rw [Nat.pow_add]
    have : w / 100 < 10 ^ nd (w / 100) := b2
    omega
  have l2 : 10 ^ (nd (w / 100) + 1) ≤ w := by
    rcases Nat.lt_or_ge 1 (nd (w / 100)) with q | q
    · have := b3 q
      rw [show nd (w / 100) + 1 = nd (w / 100) - 1 + 2 by omega, Nat.pow_add]
      omega
    · rw [show nd (w / 100) + 1 = 2 by omega]; omega
  rcases Nat.lt_trichotomy (nd w) (nd (w / 100) + 2) with q | q | q
  · have : 10 ^ nd w ≤ 10 ^ (nd (w / 100) + 1) := Nat.pow_le_pow_right (by decide) (by omega)
    omega
  · exact q
  · have : 10 ^ (nd (w / 100) + 2) ≤ 10 ^ (nd w - 1) := Nat.pow_le_pow_right (by decide) (by omega)
    have := a3 (by omega)
    omega
theorem nd_1 {w : Nat} (h : w < 10) : nd w = 1 := by
  obtain ⟨a1, a2, a3⟩ := nd_sp (w := w) (by omega)
  rcases Nat.lt_or_ge 1 (nd w) with q | q
  · have := a3 q
    have : 10 ^ 1 ≤ 10 ^ (nd w - 1) := Nat.pow_le_pow_right (by decide) (by omega)
    omega
  · omega
theorem nd_2 {w : Nat} (h : w < 100) (h1 : 10 ≤ w) : nd w = 2 := by
  obtain ⟨a1, a2, a3⟩ := nd_sp (w := w) (by omega)
  rcases Nat.lt_trichotomy (nd w) 2 with q | q | q
  · rw [show nd w = 1 by omega] at a2; omega
  · exact q
  · have := a3 (by omega)
    have : 10 ^ 2 ≤ 10 ^ (nd w - 1) := Nat.pow_le_pow_right (by decide) (by omega)
    omega
/-- the digits from the right, and the sign before them -/
def wrote (it w s p : Nat) (μ μ' : Mem) : Prop := OnA it μ μ' ∧ (∀ j, j < nd w → ai μ' it (p - 1 - j) = nI (48 + w / 10 ^ j % 10)) ∧ (s = 1 → ai μ' it (p - 1 - nd w) = nI 45) ∧ ∀ i, i < p - nd w - s ∨ p ≤ i → ai μ' it i = ai μ it i
theorem ng_lt {a b : Nat} (ha : a ≤ 2 ^ 31) (hb : b ≤ 2 ^ 31) : ng a < ng b ↔ b < a := by
  rw [Int32.lt_iff_toInt_lt, ng_toInt ha, ng_toInt hb]; omega
theorem ng_nI {w : Nat} : -(ng w) = nI w := by
  rw [ng, ← Int32.ofInt_neg, Int.neg_neg]; rfl
theorem nI_dn {p : Nat} (h : 1 ≤ p) : nI p + (-1) = nI (p - 1) := by
  rw [← Int32.sub_eq_add_neg, show (1 : Int32) = nI 1 from rfl, pk_sub h]
theorem ng_div {w : Nat} (h : w ≤ 2 ^ 31) : ng w / 100 = ng (w / 100) := by
  apply Int32.toInt_inj.mp
  rw [Int32.toInt_div, ng_toInt h, ng_toInt (by omega), show (100 : Int32).toInt = 100 by decide, Int.neg_tdiv, show (100 : Int) = ((100 : Nat) : Int) from rfl, ← Int.ofNat_tdiv]
  apply Int.bmod_eq_of_le
  · omega
  · omega
theorem ng_rem {w : Nat} : ng (w / 100) * 100 - ng w = nI (w % 100) := by
  rw [ng, ng, show (100 : Int32) = Int32.ofInt 100 from rfl, ← Int32.ofInt_mul, ← Int32.ofInt_sub]
  have e : nI (w % 100) = Int32.ofInt ((w % 100 : Nat) : Int) := rfl
  rw [e]
  congr 1
  omega
theorem x_chars_end {it s w p n : Nat} {μ : Mem} {post : Int32 → Mem → Prop} (hs : s ≤ 1) (hw : w < 100) (hp : nd w + s ≤ p) (hal : p ≤ al μ it) (hp31 : al μ it < 2 ^ 31) (hk : kd μ it = 101) (hq : ∀ μ', wrote it w s p μ μ' → post (nI (p - nd w - s)) μ') : wp_J6_getChars_ba4f3_22 post (n + 1) μ (ng w) it (nI p) (nI s) := by
  have sz : nI s = 0 ↔ s = 0 := nI_eq (a := s) (b := 0) (by omega) (by decide)
  have one : 1 ≤ nd w := (nd_sp (w := w) (by omega)).1
  rw [wp_J6_getChars_ba4f3_22]
  refine ⟨fun _ v1 e1 q2 _ => ?_, fun q => absurd ((ng_lt (a := 100) (by omega) (by omega)).mpr hw) q⟩
  rw [nI_dn (by omega)] at e1
  subst e1
  rw [ng_nI, nI_clamp (show w < 2 ^ 31 by omega), nI_clamp (show p - 1 < 2 ^ 31 by omega)]
  refine ⟨vp_in_nI (by omega) (by omega), hk, vp_in_nI (by omega) (by omega), fun μ5 e5 => ?_⟩
  rw [show dOnes w = nI (48 + w % 10) from rfl, byteN _ (by omega)] at e5
  have i9 : (-9 : Int32) ≤ ng w ↔ w ≤ 9 := ng_le (a := 9) (b := w) (by omega) (by omega)
  refine ⟨fun q => ?_, fun q v12 e12 q13 _ => ?_⟩
  · have q := i9.mp q
    have n1 : nd w = 1 := nd_1 (by omega)
    rw [n1] at hp
    refine ⟨fun z => ?_, fun z v8 e8 => ?_⟩
    · have z := sz.mp z
      have := hq μ5
      rw [n1, z] at this
      refine this ⟨by rw [e5]; exact OnA.sai, fun j hj => ?_, fun y => absurd y (by omega), fun i hi => ?_⟩
      · rw [n1] at hj
        have : j = 0 := by omega
        subst this
        rw [e5, ai_sai, if_pos ⟨rfl, rfl⟩, Nat.pow_zero, Nat.div_one]
      · rw [n1] at hi
        rw [e5, ai_sai, if_neg (fun y => by omega)]
    · have z : s = 1 := by
        have : ¬ s = 0 := fun y => z (sz.mpr y)
        omega
      rw [nI_dn (by omega)] at e8
      subst e8
      rw [nI_clamp (show p - 1 - 1 < 2 ^ 31 by omega)]
      refine ⟨by rw [e5, al_sai]; exact vp_in_nI (by omega) (by omega), fun μ9 e9 => ?_⟩
      rw [show (45 : Int32) = nI 45 from rfl, byteN 45 (by omega)] at e9
      have := hq μ9
      rw [n1, z] at this
      refine this ⟨by rw [e9, e5]; exact OnA.sai.tr OnA.sai, fun j hj => ?_, fun _ => ?_, fun i hi => ?_⟩
      · rw [n1] at hj
        have : j = 0 := by omega
        subst this
        rw [e9, ai_sai, if_neg (fun y => by omega), e5, ai_sai, if_pos ⟨rfl, rfl⟩, Nat.pow_zero, Nat.div_one]
      · rw [n1, e9, ai_sai, if_pos ⟨rfl, rfl⟩]
      · rw [n1] at hi
        rw [e9, ai_sai, if_neg (fun y => by omega), e5, ai_sai, if_neg (fun y => by omega)]
  · have q : 10 ≤ w := by
      have : ¬ w ≤ 9 := fun y => q (i9.mpr y)
      omega
    have n2 : nd w = 2 := nd_2 hw q
    rw [n2] at hp
    rw [nI_dn (by omega)] at e12
    subst e12
    rw [nI_clamp (show p - 1 - 1 < 2 ^ 31 by omega)]
    refine ⟨vp_in_nI (by omega) (by omega), by rw [e5, al_sai]; exact vp_in_nI (by omega) (by omega), fun μ15 e15 => ?_⟩
    rw [show dTens w = nI (48 + w / 10) from rfl, byteN _ (by omega)] at e15
    have dg : ∀ j, j < 2 → ai μ15 it (p - 1 - j) = nI (48 + w / 10 ^ j % 10) := fun j hj => by
      rcases (by omega : j = 0 ∨ j = 1) with r | r
      · subst r
        rw [e15, ai_sai, if_neg (fun y => by omega), e5, ai_sai, if_pos ⟨rfl, rfl⟩, Nat.pow_zero, Nat.div_one]
      · subst r
        rw [e15, ai_sai, if_pos ⟨rfl, rfl⟩, Nat.pow_one, Nat.mod_eq_of_lt (show w / 10 < 10 by omega)]
    have ot : ∀ i, i < p - 2 ∨ p ≤ i → ai μ15 it i = ai μ it i := fun i hi => by
      rw [e15, ai_sai, if_neg (fun y => by omega), e5, ai_sai, if_neg (fun y => by omega)]
    have oa : OnA it μ μ15 := by rw [e15, e5]; exact OnA.sai.tr OnA.sai
    refine ⟨fun z => ?_, fun z v18 e18 => ?_⟩
    · have z := sz.mp z
      have := hq μ15
      rw [n2, z, show p - 2 - 0 = p - 1 - 1 by omega] at this
      refine this ⟨oa, fun j hj => dg j (by omega), fun y => absurd y (by omega), fun i hi => ot i (by omega)⟩
    · have z : s = 1 := by
        have : ¬ s = 0 := fun y => z (sz.mpr y)
        omega
      rw [nI_dn (by omega)] at e18
      subst e18
      rw [nI_clamp (show p - 1 - 1 - 1 < 2 ^ 31 by omega)]
      refine ⟨by rw [oa.2.2.2.1]; exact vp_in_nI (by omega) (by omega), fun μ19 e19 => ?_⟩
      rw [show (45 : Int32) = nI 45 from rfl, byteN 45 (by omega)] at e19
      have := hq μ19
      rw [n2, z, show p - 2 - 1 = p - 1 - 1 - 1 by omega] at this
      refine this ⟨by rw [e19]; exact oa.tr OnA.sai, fun j hj => ?_, fun _ => ?_, fun i hi => ?_⟩
      · rw [e19, ai_sai, if_neg (fun y => by omega)]; exact dg j (by omega)
      · rw [n2, e19, ai_sai, if_pos ⟨rfl, by omega⟩]
      · rw [e19, ai_sai, if_neg (fun y => by omega)]; exact ot i (by omega)
theorem x_chars {it s : Nat} {post : Int32 → Mem → Prop} (hs : s ≤ 1) : ∀ f w p μ, w ≤ 2 ^ 31 → w < 100 ^ (f + 1) → nd w + s ≤ p → p ≤ al μ it → al μ it < 2 ^ 31 → kd μ it = 101 → (∀ μ', wrote it w s p μ μ' → post (nI (p - nd w - s)) μ') → wp_J6_getChars_ba4f3_22 post (f + 1) μ (ng w) it (nI p) (nI s) := by
  intro f
  induction f with
  | zero =>
    intro w p μ hw hwf hp hal hp31 hk hq
    exact x_chars_end hs (by omega) hp hal hp31 hk hq
  | succ f ih =>
    intro w p μ hw hwf hp hal hp31 hk hq
    rcases Nat.lt_or_ge w 100 with r | r
    · exact x_chars_end hs r hp hal hp31 hk hq
    · have e2 := nd_100 r (by omega)
      rw [wp_J6_getChars_ba4f3_22]
      refine ⟨fun q => absurd ((ng_lt (a := 100) (by omega) hw).mp q) (by omega), fun _ => ⟨by decide, fun v22 e22 v23 e23 v24 e24 q25 _ => ?_⟩⟩
      rw [ng_div hw] at e22
      subst e22
      rw [ng_rem] at e23
      subst e23
      rw [nI_dn (by omega)] at e24
      subst e24
      rw [nI_clamp (show w % 100 < 2 ^ 31 by omega), nI_clamp (show p - 1 < 2 ^ 31 by omega)]
      refine ⟨vp_in_nI (by omega) (by omega), hk, vp_in_nI (by omega) (by omega), fun μ28 e28 v31 e31 q32 _ => ?_⟩
      rw [show dOnes (w % 100) = nI (48 + w % 100 % 10) from rfl, byteN _ (by omega)] at e28
      rw [nI_dn (by omega)] at e31
      subst e31
      rw [nI_clamp (show p - 1 - 1 < 2 ^ 31 by omega)]
      refine ⟨vp_in_nI (by omega) (by omega), by rw [e28, al_sai]; exact vp_in_nI (by omega) (by omega), fun μ34 e34 => ?_⟩
      rw [show dTens (w % 100) = nI (48 + w % 100 / 10) from rfl, byteN _ (by omega)] at e34
      have oa : OnA it μ μ34 := by rw [e34, e28]; exact OnA.sai.tr OnA.sai
      refine ih (w / 100) (p - 1 - 1) μ34 (by omega) (by rw [Nat.pow_succ] at hwf; omega) (by omega) (by rw [oa.2.2.2.1]; omega) (by rw [oa.2.2.2.1]; omega) (by rw [oa.1]; exact hk) (fun μ' ⟨h1, h2, h3, h4⟩ => ?_)
      have := hq μ'
      rw [e2, show p - (nd (w / 100) + 2) - s = p - 1 - 1 - nd (w / 100) - s by omega] at this
      refine this ⟨oa.tr h1, fun j hj => ?_, fun y => ?_, fun i hi => ?_⟩
      · rw [e2] at hj
        rcases Nat.lt_or_ge j 2 with y | y
        · rw [h4 _ (by omega)]
          rcases (by omega : j = 0 ∨ j = 1) with x | x
          · subst x
            rw [e34, ai_sai, if_neg (fun y => by omega), e28, ai_sai, if_pos ⟨rfl, rfl⟩, Nat.pow_zero, Nat.div_one, show w % 100 % 10 = w % 10 by omega]
          · subst x
            rw [e34, ai_sai, if_pos ⟨rfl, rfl⟩, Nat.pow_one, show w % 100 / 10 = w / 10 % 10 by omega]
        · have := h2 (j - 2) (by omega)
          rw [show p - 1 - 1 - 1 - (j - 2) = p - 1 - j by omega] at this
          rw [this, Nat.div_div_eq_div_mul, show 100 * 10 ^ (j - 2) = 10 ^ j by rw [show (100 : Nat) = 10 ^ 2 from rfl, ← Nat.pow_add, show 2 + (j - 2) = j by omega]]
      · have := h3 y
        rw [show p - 1 - 1 - 1 - nd (w / 100) = p - 1 - nd w by omega] at this
        exact this
      · rw [e2] at hi
        rw [h4 i (by omega), e34, ai_sai, if_neg (fun y => by omega), e28, ai_sai, if_neg (fun y => by omega)]
