/-! the reference fails: back to the latest redo point that isn't dead -/
def sp_back (S : Sp) (n : Nat) : Sp := (va_up (va_up (va_up (va_up (va_up (s0 S) 5 (s1 S 19 n)) 3 (s1 S 20 n)) 4 (s1 S 21 n)) 8 (s1 S 16 n)) 9 (s1 S 17 n), s1 S, s2 S, si S, fun k j => if k = 0 then sw S 0 n j else sv S k j, sw S)
def sp_failS : Nat → Sp → Sp
  | 0, S => u0 S 17 3
  | n + 1, S => if s1 S 18 n = 0 then sp_back (sp_drop S (s1 S 15 n) n) n else sp_failS n (sp_drop S (s1 S 15 n) n)
/-- what redo points keep is no more than what there is -/
def WR (S : Sp) : Prop := ∀ i, i < s0 S 7 → s1 S 18 i ≤ 1 ∧ s1 S 19 i ≤ s0 S 5 ∧ s1 S 20 i ≤ s0 S 3 ∧ s1 S 21 i ≤ s0 S 4 ∧ ∀ c, c < s1 S 20 i → s1 S 9 c + s1 S 8 c ≤ s1 S 21 i
theorem undo_split {q : Nat → Int32} {w : Nat → Int64} {n d1 : Nat} : ∀ d2 (f : Nat → Int64), undo q w n (d1 + d2) f = undo q w n d1 (undo q w (n + d1) d2 f) := by
  intro d2
  induction d2 with
  | zero => intro f; rfl
  | succ d ih =>
    intro f
    show undo q w n (d1 + d) (va_up f (q (n + (d1 + d))).toNatClampNeg (w (n + (d1 + d)))) = undo q w n d1 (undo q w (n + d1) d (va_up f (q (n + d1 + d)).toNatClampNeg (w (n + d1 + d))))
    rw [ih, Nat.add_assoc]
theorem undo_pt {q : Nat → Int32} {w : Nat → Int64} {n k : Nat} : ∀ d (f g : Nat → Int64), f k = g k → undo q w n d f k = undo q w n d g k := by
  intro d
  induction d with
  | zero => intro f g h; exact h
  | succ d ih =>
    intro f g h
    refine ih _ _ ?_
    show (if k = _ then _ else f k) = (if k = _ then _ else g k)
    rw [h]
theorem RK_at {nf nr : Nat} {fb : Nat → Nat} (h : TR nf nr fb) {i : Nat} (hi : i < nr) : RK nr fb (fb i + i) i :=
  ⟨by omega, fun l hl => by have := h.1 l i hl hi; omega, fun l hl hn => by
    rcases Nat.lt_or_ge i l with q | q
    · have := h.1 i l q hn; omega
    · have : l = i := by omega
      subst this; omega⟩
theorem sma_ne {σ : MSt} {k i j : Nat} {v : Int32} (h : ¬ j = i) : ma (sma σ k i v) k j = ma σ k j := if_neg (fun z => h z.2)
theorem sma_eq {σ : MSt} {k i : Nat} {v : Int32} : ma (sma σ k i v) k i = v := if_pos ⟨rfl, rfl⟩
theorem nI_m1 {n : Nat} (h : n < 2 ^ 31) : ¬ nI n = -1 := by
  intro q
  have e : (nI n).toInt = (-1 : Int32).toInt := by rw [q]
  rw [nI_toInt h] at e
  have z : (-1 : Int32).toInt = -1 := by decide
  omega
theorem RM_back {σ : MSt} {S : Sp} {tb n ku tn : Nat} (h : RMc σ (sp_drop S (s1 S 15 n) n) tb) (h18 : s1 S 16 n < s1 S 15 n) (hku : FK n (s1 S 15) (s1 S 16 n) ku) (hmono : ∀ i, i < n → s1 S 15 i ≤ s1 S 15 n)
    (e3 : ma σ 35 (s1 S 15 n + n) = nI (s1 S 19 n)) (e4 : ma σ 36 (s1 S 15 n + n) = nI (s1 S 20 n)) (e5 : ma σ 37 (s1 S 15 n + n) = nI (s1 S 21 n))
    (w1 : s1 S 19 n ≤ s0 S 5) (w2 : s1 S 20 n ≤ s0 S 3) (w3 : s1 S 21 n ≤ s0 S 4) (w4 : ∀ c, c < s1 S 20 n → s1 S 9 c + s1 S 8 c ≤ s1 S 21 n)
    {T0 : Nat} {tt : Nat → Nat} (t1 : mi σ 41 = nI tn) (t2 : tn ≤ tb) (t3 : ∀ m, m < tn → ∃ q, q < 20000 ∧ ma σ 42 m = nI q) (t4 : ∀ i j, i < j → j < n → tt i ≤ tt j) (t4' : ∀ i, i < n → tt i ≤ T0) (t0 : T0 ≤ tn)
    (t5 : ∀ i, i < n → tt i ≤ tn ∧ ma σ 38 (s1 S 15 i + i) = nI (tt i) ∧ ∀ k, k < s1 S 11 (s1 S 15 i) → undo (ma σ 42) (ml σ 43) (tt i) (tn - tt i) (ml σ 39) k = sw S 0 i k)
    (t6 : ∀ k, k < s1 S 11 (s1 S 15 n) → undo (ma σ 42) (ml σ 43) T0 (tn - T0) (ml σ 39) k = sw S 0 n k) :
    RMb (sma (smi (smi (smi (smi (ssl σ T0 (undo (ma σ 42) (ml σ 43) T0 (tn - T0) (ml σ 39))) 25 (ma σ 35 (s1 S 15 n + n))) 19 (ma σ 36 (s1 S 15 n + n))) 24 (ma σ 37 (s1 S 15 n + n))) 45 (nI (s1 S 16 n + ku))) 30 (s1 S 16 n + ku) (nI (s1 S 17 n))) (sp_back (sp_drop S (s1 S 15 n) n) n) tb := by
  obtain ⟨h1, h2, h3, h4, h5, h6⟩ := h
  obtain ⟨c1, c2, c3, c4, c5, c6, c7, c9⟩ := h4
  rw [e3, e4, e5]
  have g3 : s0 S 5 ≤ 20000 := h3.2.2.2.2.2.1
  have g1 : s0 S 3 ≤ 20000 := h3.2.1
  have g2 : s0 S 4 ≤ 20000 := h3.2.2.2.1
  refine ⟨h1, h2, ⟨rfl, Nat.le_trans w2 g1, rfl, Nat.le_trans w3 g2, rfl, Nat.le_trans w1 g3, fun c hc => ?_, fun f hf => ?_⟩, ⟨c1, c2, c3, c4, c5, c6, fun i k hi hk => ?_, fun _ => ⟨h18, fun k hk => ?_⟩, c9⟩, ⟨fun k hk => ?_, T0, tt, rfl, Nat.le_trans t0 t2, fun m hm => t3 m (Nat.lt_of_lt_of_le hm t0), t4, fun i hi => ?_⟩, h6⟩
  · obtain ⟨a1, a2, a3, a4, a5, -⟩ := h3.2.2.2.2.2.2.1 c (Nat.lt_of_lt_of_le hc w2)
    exact ⟨a1, a2, a3, a4, a5, w4 c hc⟩
  · exact h3.2.2.2.2.2.2.2 f (Nat.lt_of_lt_of_le hf w3)
  · have hi : i < n := hi
    have hk : FK n (s1 S 15) (s1 S 16 i) k := hk
    obtain ⟨b1, b2, b3, b4, b5, b6, b7⟩ := c7 i k hi hk
    refine ⟨b1, b2, ?_, b4, b5, b6, b7⟩
    have n2 : ¬ s1 S 15 i + i = s1 S 16 n + ku := by
      rcases Nat.lt_or_ge i ku with r | r
      · have := hku.2.1 i r; omega
      · have := hku.2.2 i r hi; omega
    exact (sma_ne n2).trans b3
  · have hk : FK n (s1 S 15) (s1 S 16 n) k := hk
    have e := FK_uq hk hku
    subst e
    refine ⟨rfl, ?_⟩
    show (if 30 = 30 ∧ s1 S 16 n + k = s1 S 16 n + k then nI (s1 S 17 n) else _) = _
    simp; rfl
  · exact t6 k hk
  · have hi : i < n := hi
    obtain ⟨a1, a2, a3⟩ := t5 i hi
    refine ⟨t4' i hi, a2, fun k hk => ?_⟩
    have es := undo_split (q := ma σ 42) (w := ml σ 43) (n := tt i) (d1 := T0 - tt i) (tn - T0) (ml σ 39)
    have hT := t4' i hi
    rw [show T0 - tt i + (tn - T0) = tn - tt i by omega, show tt i + (T0 - tt i) = T0 by omega] at es
    have := a3 k hk
    rw [es] at this
    exact this
theorem m_fail0 {post : MSt → Prop} {tb : Nat} (htb : tb ≤ 200000) : ∀ (n : Nat) (σ : MSt) (S : Sp), s0 S 7 = n → RMc σ S tb → WR S → (∀ σ', RMb σ' (sp_failS n S) tb → post σ') → wp_X11_fail_0 post (n + 1) σ := by
  intro n
  induction n with
  | zero =>
    intro σ S hn h hw hp
    obtain ⟨h1, h2, h3, ⟨c1, c2, c3, c4, c5, c6, c7, c9⟩, h5, h6⟩ := id h
    rw [wp_X11_fail_0]
    refine m_lastRedo c1 (fun _ => ⟨fun z => absurd z (by decide), fun _ σ15 e15 => ?_⟩) (fun k hk => absurd hk (by omega))
    refine hp σ15 ?_
    subst e15
    exact ⟨h1, h2, h3, ⟨c1, c2, c3, c4, c5, c6, c7, fun q => absurd q (by rintro (q | q) <;> cases q), c9⟩, h5, rfl, by show 3 ≤ 7; omega, h6.2.2⟩
  | succ n ih =>
    intro σ S hn h hw hp
    obtain ⟨h1, h2, h3, ⟨c1, c2, c3, c4, c5, c6, c7, c9⟩, h5, h6⟩ := id h
    obtain ⟨d0, tn, tt, d1, d2, d3, d4, d5⟩ := id h5
    have h7 := c1.2.1
    have hfb := c1.2.2.1.2 n (by omega)
    have hmono : ∀ i, i < n → s1 S 15 i ≤ s1 S 15 n := fun i hi => c1.2.2.1.1 i n hi (by omega)
    obtain ⟨ku, hku⟩ := FK_ex (s1 S 16 n) (s0 S 7) c1.2.2.1
    obtain ⟨b1, b2, b3, b4, b5, b6, b7⟩ := c7 n ku (by omega) hku
    obtain ⟨w0, w1, w2, w3, w4⟩ := hw n (by omega)
    have hrk := RK_at c1.2.2.1 (show n < s0 S 7 by omega)
    have hsub : s1 S 15 n + n - n = s1 S 15 n := by omega
    have hdr := RM_dropc h (show s1 S 15 n + n ≤ s0 S 6 + s0 S 7 by omega) hrk (by omega)
    rw [hsub] at hdr
    rw [wp_X11_fail_0]
    refine m_lastRedo c1 (fun z => absurd z (by omega)) (fun k hk => ?_)
    have ek : k = n := by omega
    subst ek
    have vp := vp_in_nI (n := s1 S 15 k + k) (N := 7000) (by omega) (by decide)
    refine ⟨fun _ => ⟨vp, fun v3 e3 => ⟨vp, fun v4 e4 => ⟨vp, fun v5 e5 => ?_⟩⟩⟩, fun z => absurd (by rw [← nI_0]; exact nI_le (Nat.zero_le _) (by omega)) z⟩
    rw [nI_clamp (by omega)] at e3 e4 e5
    rw [b4] at e3
    rw [b2] at e4
    rw [b3] at e5
    refine m_dropFrom c1 c2 c3 c4 (by omega) hrk (by omega) ?_
    rw [hsub]
    refine ⟨fun hz => ?_, fun hz => ?_⟩
    · have z18 : s1 S 18 k = 0 := (nI_eq (by omega) (by omega)).mp (by rw [← e3, hz]; rfl)
      rw [sp_failS, if_pos z18] at hp
      have hku2 : FK k (s1 S 15) (s1 S 16 k) ku := by
        have hle : ku ≤ k := by
          rcases Nat.lt_or_ge k ku with q | q
          · have := hku.2.1 k q; omega
          · exact q
        exact ⟨hle, hku.2.1, fun i a b => hku.2.2 i a (by omega)⟩
      subst e4; subst e5
      obtain ⟨t1, t2, t3⟩ := d5 k (by omega)
      refine m_fail49 (T0 := tt k) (tn := tn) (by omega) (by have := hku2.1; omega) t2 d1 t1 (by omega) d3 (hp _ ?_)
      exact RM_back hdr b1 hku2 hmono b5 b6 b7 w1 w2 w3 w4 d1 d2 d3 (fun i j a b => d4 i j a (by omega)) (fun i hi => d4 i k hi (by omega)) t1 (fun i hi => d5 i (by omega)) t3
    · have z18 : ¬ s1 S 18 k = 0 := fun q => hz (by rw [e3, q]; rfl)
      rw [sp_failS, if_neg z18] at hp
      refine ih _ (sp_drop S (s1 S 15 k) k) rfl hdr (fun i hi => ?_) hp
      exact hw i (by have hi : i < k := hi; omega)
theorem m_fail {σ : MSt} {S : Sp} {tb : Nat} {post : MSt → Prop} (h : RMc σ S tb) (hw : WR S) (htb : tb ≤ 200000) (hp : ∀ σ', RMb σ' (sp_failS (s0 S 7) S) tb → post σ') : wp_X11_fail σ post :=
  ⟨s0 S 7 + 1, m_fail0 htb _ σ S rfl h hw hp⟩
