/-! bits of the class's values -/
theorem l_andx (x : Int64) (k : Nat) (hk : k < 64) : x &&& lN (2 ^ k - 1) = lN (x.toBitVec.toNat % 2 ^ k) := by
  apply Int64.toBitVec_inj.mp
  rw [Int64.toBitVec_and]
  show x.toBitVec &&& BitVec.ofNat 64 (2 ^ k - 1) = BitVec.ofNat 64 (x.toBitVec.toNat % 2 ^ k)
  apply BitVec.eq_of_toNat_eq
  rw [BitVec.toNat_and, BitVec.toNat_ofNat, BitVec.toNat_ofNat]
  have h2 : 2 ^ k ≤ 2 ^ 64 := Nat.pow_le_pow_right (n := 2) (by decide) (show k ≤ 64 by omega)
  have h3 := Nat.two_pow_pos k
  have h4 := Nat.mod_lt x.toBitVec.toNat h3
  rw [Nat.mod_eq_of_lt (show 2 ^ k - 1 < 2 ^ 64 by omega), Nat.and_two_pow_sub_one_eq_mod, Nat.mod_eq_of_lt (show x.toBitVec.toNat % 2 ^ k < 2 ^ 64 by omega)]
theorem lN_tn {n : Nat} (h : n < 2 ^ 64) : (lN n).toBitVec.toNat = n := by
  show (BitVec.ofNat 64 n).toNat = n
  rw [BitVec.toNat_ofNat, Nat.mod_eq_of_lt h]
theorem l_and {n : Nat} (h : n < 2 ^ 64) (k : Nat) (hk : k < 64) : lN n &&& lN (2 ^ k - 1) = lN (n % 2 ^ k) := by rw [l_andx _ k hk, lN_tn h]
theorem l_shr {x : Int64} (k : Nat) (s : Int64) (hs : (s.toBitVec.smod 64).toNat = k) : (x >>> s).toInt = x.toInt / 2 ^ k := by
  show ((x >>> s).toBitVec).toInt = _
  rw [Int64.toBitVec_shiftRight, BitVec.sshiftRight_eq', hs, BitVec.toInt_sshiftRight, Int.shiftRight_eq_div_pow]
  rfl
theorem l_shrN {n : Nat} (h : n < 2 ^ 63) (k : Nat) (s : Int64) (hs : (s.toBitVec.smod 64).toNat = k) : lN n >>> s = lN (n / 2 ^ k) := by
  apply Int64.toInt_inj.mp
  rw [l_shr k s hs, pk_lT h, pk_lT (Nat.lt_of_le_of_lt (Nat.div_le_self _ _) h)]
  exact (Int.natCast_ediv n (2 ^ k)).symm
theorem l_shlN {n : Nat} (k : Nat) (s : Int64) (hs : (s.toBitVec.smod 64).toNat = k) : lN n <<< s = lN (n * 2 ^ k) := by
  apply Int64.toBitVec_inj.mp
  rw [Int64.toBitVec_shiftLeft, BitVec.shiftLeft_eq', hs]
  apply BitVec.eq_of_toNat_eq
  rw [BitVec.toNat_shiftLeft]
  show (BitVec.ofNat 64 n).toNat <<< k % 2 ^ 64 = (BitVec.ofNat 64 (n * 2 ^ k)).toNat
  rw [BitVec.toNat_ofNat, BitVec.toNat_ofNat, Nat.shiftLeft_eq, Nat.mod_mul_mod]
theorem l_or {a b k : Nat} (hb : b < 2 ^ k) (h : a * 2 ^ k + b < 2 ^ 64) : lN (a * 2 ^ k) ||| lN b = lN (a * 2 ^ k + b) := by
  apply Int64.toBitVec_inj.mp
  rw [Int64.toBitVec_or]
  apply BitVec.eq_of_toNat_eq
  rw [BitVec.toNat_or, lN_tn h, lN_tn (by omega), lN_tn (by omega), ← Nat.shiftLeft_eq, ← Nat.shiftLeft_add_eq_or_of_lt hb]
theorem l_encN {v : Int64} {p : Nat} (hp : p < 65536) : ((v <<< (Int32.toInt64 16 &&& 63)) ||| lN p).toBitVec.toNat = v.toBitVec.toNat * 65536 % 2 ^ 64 + p := by
  have e16 : (Int32.toInt64 16 &&& 63) = 16 := by decide
  rw [e16]
  have hlt := v.toBitVec.isLt
  rw [Int64.toBitVec_or, Int64.toBitVec_shiftLeft, BitVec.toNat_or]
  have : (v.toBitVec <<< ((16 : Int64).toBitVec.smod 64)).toNat = v.toBitVec.toNat <<< 16 % 2 ^ 64 := by
    rw [BitVec.shiftLeft_eq']
    rw [show ((16 : Int64).toBitVec.smod 64).toNat = 16 by decide]
    exact BitVec.toNat_shiftLeft
  rw [this, lN_tn (by omega)]
  have e3 : v.toBitVec.toNat <<< 16 % 2 ^ 64 = (v.toBitVec.toNat % 2 ^ 48) <<< 16 := by
    rw [Nat.shiftLeft_eq, Nat.shiftLeft_eq]; omega
  rw [e3, ← Nat.shiftLeft_add_eq_or_of_lt (by omega), Nat.shiftLeft_eq]; omega
theorem decT_enc {v : Int64} {p : Nat} (h1 : -(2 ^ 31) ≤ v.toInt) (h2 : v.toInt < 2 ^ 42) (hp : p < 20000) : decT ((v <<< (Int32.toInt64 16 &&& 63)) ||| (nI p).toInt64) p v := by
  rw [nI_l (by omega)]
  have hb := l_encN (v := v) (p := p) (by omega)
  have hV : v.toInt = if 2 * v.toBitVec.toNat < 2 ^ 64 then (v.toBitVec.toNat : Int) else (v.toBitVec.toNat : Int) - 2 ^ 64 := BitVec.toInt_eq_toNat_cond v.toBitVec
  have hlt := v.toBitVec.isLt
  refine ⟨hp, ?_, ?_⟩
  · rw [show (65535 : Int64) = lN (2 ^ 16 - 1) from rfl, l_andx _ 16 (by decide), hb, lN_i]
    congr 1
    omega
  · apply Int64.toInt_inj.mp
    rw [l_shr 16 _ (by decide)]
    have : ((v <<< (Int32.toInt64 16 &&& 63)) ||| lN p).toInt = v.toInt * 65536 + p := by
      show ((v <<< (Int32.toInt64 16 &&& 63)) ||| lN p).toBitVec.toInt = _
      rw [BitVec.toInt_eq_toNat_cond, hb]
      split at hV <;> split <;> omega
    rw [this]
    omega
/-- the parts of a cell's long -/
def mkX (p f t : Nat) : Int64 := lN (1099511627776 + p * 256 + f * 32 + t)
theorem mkX_tag {p f t : Nat} (hp : p < 65536) (hf : f < 8) (ht : t < 32) : (mkX p f t &&& 31).toInt32 = nI t := by
  rw [mkX, show (31 : Int64) = lN (2 ^ 5 - 1) from rfl, l_and (by omega) 5 (by decide), lN_i]
  congr 1; omega
theorem mkX_fields {p f t : Nat} (hp : p < 65536) (hf : f < 8) (ht : t < 32) : ((mkX p f t >>> (Int32.toInt64 5 &&& 63)) &&& 7).toInt32 = nI f := by
  rw [mkX, l_shrN (by omega) 5 _ (by decide), show (7 : Int64) = lN (2 ^ 3 - 1) from rfl, l_and (by omega) 3 (by decide), lN_i]
  congr 1; omega
theorem mkX_place {p f t : Nat} (hp : p < 65536) (hf : f < 8) (ht : t < 32) : ((mkX p f t >>> (Int32.toInt64 8 &&& 63)) &&& 65535).toInt32 = nI p := by
  rw [mkX, l_shrN (by omega) 8 _ (by decide), show (65535 : Int64) = lN (2 ^ 16 - 1) from rfl, l_and (by omega) 16 (by decide), lN_i]
  congr 1; omega
theorem mkX_shape {p f t : Nat} (hp : p < 65536) (hf : f < 8) (ht : t < 32) : mkX p f t &&& 255 = lN (f * 32 + t) := by
  rw [mkX, show (255 : Int64) = lN (2 ^ 8 - 1) from rfl, l_and (by omega) 8 (by decide)]
  congr 1; omega
theorem mkX_ge {p f t : Nat} (hp : p < 65536) (hf : f < 8) (ht : t < 32) : ¬ mkX p f t < 1099511627776 := by
  rw [mkX, show (1099511627776 : Int64) = lN 1099511627776 from rfl, pk_lLT (by omega) (by decide)]; omega
theorem mkX_make {p f t : Nat} (hp : p < 65536) (hf : f < 8) (ht : t < 32) : ((((1099511627776 : Int64) ||| ((Int32.toInt64 (nI p)) <<< (Int32.toInt64 8 &&& 63))) ||| (Int32.toInt64 (nI f <<< ((5 : Int32) &&& 31)))) ||| (Int32.toInt64 (nI t))) = mkX p f t := by
  rw [nI_l (by omega), l_shlN 8 _ (by decide), pk_shlN (n := f) ((5 : Int32) &&& 31) 5 (by decide) (by omega), nI_l (by omega), nI_l (by omega)]
  have e1 := l_or (a := 1) (b := p * 2 ^ 8) (k := 40) (by omega) (by omega)
  rw [show (1099511627776 : Int64) = lN (1 * 2 ^ 40) from rfl, e1]
  have e2 := l_or (a := 4294967296 + p) (b := f * 2 ^ 5) (k := 8) (by omega) (by omega)
  rw [show 1 * 2 ^ 40 + p * 2 ^ 8 = (4294967296 + p) * 2 ^ 8 by omega, e2]
  have e3 := l_or (a := (4294967296 + p) * 8 + f) (b := t) (k := 5) (by omega) (by omega)
  rw [show (4294967296 + p) * 2 ^ 8 + f * 2 ^ 5 = ((4294967296 + p) * 8 + f) * 2 ^ 5 by omega, e3, mkX]
  congr 1; omega
/-- a cell as the class has it; plc is its place -/
theorem cellX_mk {S : Sp} {c : Nat} : cellX S c = mkX (plc S c) (s1 S 8 c) (s1 S 7 c) := rfl
theorem conv_num {S : Sp} (x : Int32) : conv S x.toInt64 = x.toInt64 := if_pos (num_lt x)
theorem conv_cell {S : Sp} {c : Nat} (h : c < 2 ^ 31) : conv S (cellV c) = cellX S c := by rw [conv, if_neg (cell_ge h), cix_cell h]
theorem WC.pb {S : Sp} (h : WC S) (hb : s0 S 15 ≤ 20000) {c : Nat} (hc : c < s0 S 3) : plc S c < 65536 ∧ s1 S 8 c < 8 ∧ s1 S 7 c < 32 := by
  obtain ⟨-, -, C3, C4, C5⟩ := h
  obtain ⟨a, b, -⟩ := C5 c hc
  have := hpS_le (S := S) (c := c) (e := s0 S 3) (by omega)
  refine ⟨?_, by omega, a⟩
  unfold plc
  split <;> omega
theorem conv_rng {S : Sp} (h : WC S) (hb : s0 S 15 ≤ 20000) (hn : s0 S 3 ≤ 20000) {v : Int64} (hv : okV (s0 S 3) v) : -(2 ^ 31) ≤ (conv S v).toInt ∧ (conv S v).toInt < 2 ^ 42 := by
  rcases hv with ⟨x, rfl⟩ | ⟨c, hc, rfl⟩
  · rw [conv_num, Int32.toInt_toInt64]
    have a := Int32.toInt_lt x
    have b := Int32.le_toInt x
    omega
  · obtain ⟨a, b, d⟩ := h.pb hb hc
    rw [conv_cell (by omega), cellX_mk, mkX, pk_lT (by omega)]
    omega
/-- the same values over other states -/
theorem conv_congr {S S' : Sp} {n : Nat} (h : ∀ c, c < n → s1 S' 7 c = s1 S 7 c ∧ s1 S' 8 c = s1 S 8 c) (hn : n < 2 ^ 31) {v : Int64} (hv : okV n v) : conv S' v = conv S v := by
  rcases hv with ⟨x, rfl⟩ | ⟨c, hc, rfl⟩
  · rw [conv_num, conv_num]
  · rw [conv_cell (by omega), conv_cell (by omega), cellX, cellX, plc, plc, (h c hc).1, (h c hc).2, (hpS_congr (S := S) (S' := S') c (fun d hd => (h d (by omega)).2)).1]
/-- Value's methods -/
theorem x_isCell {μ : Mem} {v : Int64} {post : Int32 → Mem → Prop} (hy : ¬ v < 1099511627776 → post 1 μ) (hn : v < 1099511627776 → post 0 μ) : wp_X9_isCell μ v post := by
  unfold wp_X9_isCell
  rw [lg_cmp_lt]
  exact ⟨hn, hy⟩
theorem conv_lt {S : Sp} (h : WC S) (hb : s0 S 15 ≤ 20000) (hn : s0 S 3 ≤ 20000) {v : Int64} (hv : okV (s0 S 3) v) : conv S v < 1099511627776 ↔ v < 1099511627776 := by
  rcases hv with ⟨x, rfl⟩ | ⟨c, hc, rfl⟩
  · rw [conv_num]
  · obtain ⟨a, b, d⟩ := h.pb hb hc
    rw [conv_cell (by omega)]
    exact ⟨fun z => absurd z (mkX_ge a b d), fun z => absurd z (cell_ge (by omega))⟩
