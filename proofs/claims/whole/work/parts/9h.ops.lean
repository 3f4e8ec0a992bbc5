/-! each call: the class's answer is the reference's -/
def PW (μ : Mem) (A : Ad) (nm : Nat → Nat × Nat) (S : Sp) (E tt : Nat → Nat) (x o b : Nat) (M : Nat → Nat) (σ : MSt) : Prop :=
  XX μ A nm S E tt ∧ A 0 0 = x ∧ IM μ o M ∧ vw μ o M = σ ∧ (kd μ b = 103 ∧ al μ b = 1 ∧ ∀ k, (mk k).1 ≠ 0 → ¬ M k = b) ∧ nm o = (0, 99) ∧ nm b = (0, 99) ∧ ∀ k, (mk k).1 ≠ 0 → nm (M k) = (0, 99)
theorem LW.pw {μ μ' : Mem} {A A' : Ad} {nm nm' : Nat → Nat × Nat} {S S' : Sp} {E tt E' tt' : Nat → Nat} {x o b : Nat} {M : Nat → Nat} {σ : MSt} (h : LW μ A nm S E tt x o b M σ) (k : KP μ nm μ' nm') (hX : XX μ' A' nm' S' E' tt') (hA : A' 0 0 = A 0 0) : PW μ' A' nm' S' E' tt' x o b M σ := by
  obtain ⟨h1, h2⟩ := h.own k hX hA
  exact ⟨h1, h2⟩
theorem LW.toPW {μ : Mem} {A : Ad} {nm : Nat → Nat × Nat} {S : Sp} {E tt : Nat → Nat} {x o b : Nat} {M : Nat → Nat} {σ : MSt} (h : LW μ A nm S E tt x o b M σ) : PW μ A nm S E tt x o b M σ := by
  obtain ⟨h1, h2, h3, h4, -, h6⟩ := h
  exact ⟨h1, h2, h3, h4, h6⟩
theorem LW.bd {μ : Mem} {A : Ad} {nm : Nat → Nat × Nat} {S : Sp} {E tt : Nat → Nat} {x o b : Nat} {M : Nat → Nat} {σ : MSt} (h : LW μ A nm S E tt x o b M σ) : UC E ≤ 537396 ∧ UZ E ≤ 1181512 := h.1.1.2.2.2.2.1.U
/-- the room: what is spent, and what may still come -/
def Rk (cells slots : Nat) (E : Nat → Nat) (j : Nat) : Prop := cells + 537396 + 4 * j ≤ 601024 + UC E ∧ slots + 1181512 + 4100 * j ≤ 7293034 + UZ E
def Rt (E E' : Nat → Nat) (c z : Nat) : Prop := UC E + c ≤ 537400 ∧ UZ E + z ≤ 1185612 ∧ (EBd E' → UC E + c ≤ UC E' + 4 ∧ UZ E + z ≤ UZ E' + 4100)
theorem Rk.step {cells slots j c z : Nat} {E E' : Nat → Nat} (h : Rk cells slots E (j + 1)) (ht : Rt E E' c z) : (cells + c ≤ 601024 ∧ slots + z ≤ 7293034) ∧ (EBd E' → Rk (cells + c) (slots + z) E' j) := by
  obtain ⟨h1, h2⟩ := h
  obtain ⟨t1, t2, t3⟩ := ht
  refine ⟨by omega, fun hB => ?_⟩
  obtain ⟨t4, t5⟩ := t3 hB
  unfold Rk
  omega
theorem Rt.rf {E : Nat → Nat} {c z : Nat} (hB : UC E ≤ 537396 ∧ UZ E ≤ 1181512) (hc : c ≤ 4) (hz : z ≤ 4100) : Rt E E c z := by unfold Rt; omega
section OPS
variable {μ : Mem} {A : Ad} {nm : Nat → Nat × Nat} {S : Sp} {E tt : Nat → Nat} {x o b : Nat} {M : Nat → Nat} {σ : MSt}
theorem l_put (h : LW μ A nm S E tt x o b M σ) (a : Int32) : ∃ S' E' tt' r0, wp_X10_put μ x a (fun r μ' => r = r0 ∧ ∃ A' nm', PW μ' A' nm' S' E' tt' x o b M σ) ∧ wp_X11_put σ a (fun r σ' => r = r0 ∧ RM σ' S') ∧ Rt E E' 0 0 := by
  obtain rfl := h.2.1
  refine ⟨_, E, tt, _, ?_, m_put h.2.2.2.2.1 (fun σ' h' => ⟨rfl, h'⟩), Rt.rf h.bd (by decide) (by decide)⟩
  exact x_put h.1 (fun μ' X' kp => ⟨rfl, A, nm, h.pw kp X' rfl⟩)
theorem l_told (h : LW μ A nm S E tt x o b M σ) (a : Int32) : ∃ S' E' tt' r0, wp_X10_told μ x a (fun r μ' => r = r0 ∧ ∃ A' nm', PW μ' A' nm' S' E' tt' x o b M σ) ∧ wp_X11_told σ a (fun r σ' => r = r0 ∧ RM σ' S') ∧ Rt E E' 0 0 := by
  obtain rfl := h.2.1
  refine ⟨S, E, tt, _, ?_, m_told h.2.2.2.2.1 (fun σ' h' => ⟨rfl, h'⟩), Rt.rf h.bd (by decide) (by decide)⟩
  exact x_mtold h.1 ⟨rfl, A, nm, h.toPW⟩
theorem l_letter (h : LW μ A nm S E tt x o b M σ) (a : Int32) : ∃ S' E' tt' r0, wp_X10_letter μ x a (fun r μ' => r = r0 ∧ ∃ A' nm', PW μ' A' nm' S' E' tt' x o b M σ) ∧ wp_X11_letter σ a (fun r σ' => r = r0 ∧ RM σ' S') ∧ Rt E E' 0 0 := by
  obtain rfl := h.2.1
  refine ⟨S, E, tt, _, ?_, m_letter h.2.2.2.2.1 (fun σ' h' => ⟨rfl, h'⟩), Rt.rf h.bd (by decide) (by decide)⟩
  exact x_mletter h.1 ⟨rfl, A, nm, h.toPW⟩
theorem l_slot (h : LW μ A nm S E tt x o b M σ) (a : Int32) : ∃ S' E' tt' r0, wp_X10_slot μ x a (fun r μ' => r = r0 ∧ ∃ A' nm', PW μ' A' nm' S' E' tt' x o b M σ) ∧ wp_X11_slot σ a (fun r σ' => r = r0 ∧ RM σ' S') ∧ Rt E E' 0 0 := by
  obtain rfl := h.2.1
  refine ⟨S, E, tt, _, ?_, m_slot h.2.2.2.2.1 h.1.1.2.2.1.2.2.2.2.1 (fun σ' h' => ⟨rfl, h'⟩), Rt.rf h.bd (by decide) (by decide)⟩
  exact x_mslot h.1 ⟨rfl, A, nm, h.toPW⟩
theorem l_proc (h : LW μ A nm S E tt x o b M σ) (q : Nat) (hq : q ≤ 1) (sl ins : Int32) : ∃ S' E' tt' r0 c z, wp_X10_procedure c z μ x (nI q) sl ins (fun r μ' => r = r0 ∧ ∃ A' nm', PW μ' A' nm' S' E' tt' x o b M σ) ∧ wp_X11_procedure σ (nI q) sl ins (fun r σ' => r = r0 ∧ RM σ' S') ∧ Rt E E' c z := by
  obtain rfl := h.2.1
  have hW := h.1.1.2.2.1
  have h10 : s0 S 0 ≤ 10 := h.1.2.1.2.2.2.2.2.2.2.2.2.1
  by_cases ok : okProc S sl ins
  · refine ⟨sp_procS S q sl ins, E, tt, nI (s0 S 1), 4, 200, ?_, m_procedure h.2.2.2.2.1 hq (fun _ σ' h' => ⟨rfl, h'⟩) (fun n => absurd ok n), Rt.rf h.bd (by decide) (by decide)⟩
    exact x_mproc h.1 hq (Nat.le_refl _) (Nat.le_refl _) (fun _ => hW.proc hq ok h10) (fun _ μ' A' nm' X' e kp => ⟨rfl, A', nm', h.pw kp X' e⟩) (fun n => absurd ok n)
  · refine ⟨u0 S 0 0, E, tt, -1, 4, 200, ?_, m_procedure h.2.2.2.2.1 hq (fun y => absurd y ok) (fun _ σ' h' => ⟨rfl, h'⟩), Rt.rf h.bd (by decide) (by decide)⟩
    exact x_mproc h.1 hq (Nat.le_refl _) (Nat.le_refl _) (fun y => absurd y ok) (fun y => absurd y ok) (fun _ μ' nm' X' kp => ⟨rfl, A, nm', h.pw kp X' rfl⟩)
theorem l_add (h : LW μ A nm S E tt x o b M σ) (p k a1 a2 a3 a4 : Int32) : ∃ S' E' tt' r0 c z, wp_X10_add c z μ x p k a1 a2 a3 a4 (fun r μ' => r = r0 ∧ ∃ A' nm', PW μ' A' nm' S' E' tt' x o b M σ) ∧ wp_X11_add σ p k a1 a2 a3 a4 (fun r σ' => r = r0 ∧ RM σ' S') ∧ Rt E E' c z := by
  obtain rfl := h.2.1
  have hW := h.1.1.2.2.1
  have h10 : s0 S 0 ≤ 10 := h.1.2.1.2.2.2.2.2.2.2.2.2.1
  by_cases ok : okAdd S p k a1 a2 a3 a4
  · refine ⟨_, E, tt, nI (s1 S 4 p.toNatClampNeg), 3, 4050, ?_, m_add h.2.2.2.2.1 (fun _ σ' h' => ⟨rfl, h'⟩) (fun n => absurd ok n), Rt.rf h.bd (by decide) (by decide)⟩
    exact x_madd h.1 (Nat.le_refl _) (Nat.le_refl _) (fun _ => hW.add ok h10) (fun _ μ' A' nm' X' e kp => ⟨rfl, A', nm', h.pw kp X' e⟩) (fun n => absurd ok n)
  · refine ⟨u0 S 0 0, E, tt, -1, 3, 4050, ?_, m_add h.2.2.2.2.1 (fun y => absurd y ok) (fun _ σ' h' => ⟨rfl, h'⟩), Rt.rf h.bd (by decide) (by decide)⟩
    exact x_madd h.1 (Nat.le_refl _) (Nat.le_refl _) (fun y => absurd y ok) (fun y => absurd y ok) (fun _ μ' nm' X' kp => ⟨rfl, A, nm', h.pw kp X' rfl⟩)
theorem l_beg (h : LW μ A nm S E tt x o b M σ) (p st hp : Int32) : ∃ S' E' tt' r0 c z, wp_X10_begin c z μ x p st hp (fun r μ' => r = r0 ∧ ∃ A' nm', PW μ' A' nm' S' E' tt' x o b M σ) ∧ wp_X11_begin σ p st hp (fun r σ' => r = r0 ∧ RM σ' S') ∧ Rt E E' c z := by
  obtain rfl := h.2.1
  have hW := h.1.1.2.2.1
  have hB := h.1.1.2.2.2.2.1
  have hU := h.bd
  by_cases ok : okBeg S p st hp
  · obtain ⟨o1, o2, o3, o4, o5⟩ := id ok
    obtain ⟨p', hp', ep⟩ := inR_ex (n := s0 S 1) (by have := hW.1.1; omega) o1
    obtain ⟨ws, -, ws2, es⟩ := i32_rng (lo := 0) (hi := 20000) (by decide) (by decide) o3.1 o3.2
    obtain ⟨wh, -, wh2, eh⟩ := i32_rng (lo := 0) (hi := 20000) (by decide) (by decide) o4.1 o4.2
    have h60 := hW.1.1
    obtain ⟨-, sl1, sl2, -⟩ := hW.1.2.2.1 p' hp'
    have cp : p.toNatClampNeg = p' := by rw [ep, nI_clamp (by omega)]
    have cs : st.toNatClampNeg = ws := by rw [es, nI_clamp (by omega)]
    have ch : hp.toNatClampNeg = wh := by rw [eh, nI_clamp (by omega)]
    have hsz : 2 + s1 S 1 p' ≤ ws := by
      rw [cp] at o5
      have y := Int32.not_lt.mp o5
      rw [es, show (2 : Int32) = nI 2 from rfl, nI_add, Int32.le_iff_toInt_le, nI_toInt (by omega), nI_toInt (by omega)] at y
      omega
    obtain ⟨b1, b2⟩ := eBeg_bd (S := S) (E := E) (p := p') (st := ws) (hp := wh) hW hB hp' ws2 wh2 hsz
    have bU := b1.U
    have bM := b2.U
    refine ⟨_, eBeg S E p.toNatClampNeg st.toNatClampNeg hp.toNatClampNeg, tt, 1, UC (eBeg S E p' ws wh) - UC E + 1, UZ (eBeg S E p' ws wh) - UZ E + 10, ?_, m_begin h.2.2.2.2.1 (fun _ σ' h' => ⟨rfl, h'⟩) (fun n => absurd ok n), ?_⟩
    · exact x_mbegin h.1 (by omega) (by omega) (fun _ => by rw [cp, cs, ch]; omega) (fun _ => by rw [cp, cs, ch]; omega) (fun _ μ' A' nm' X' e kp => ⟨rfl, A', nm', h.pw kp X' e⟩) (fun n => absurd ok n)
    · rw [cp, cs, ch]
      unfold Rt
      omega
  · refine ⟨u0 S 0 0, E, tt, 0, 1, 10, ?_, m_begin h.2.2.2.2.1 (fun y => absurd y ok) (fun _ σ' h' => ⟨rfl, h'⟩), Rt.rf hU (by decide) (by decide)⟩
    exact x_mbegin h.1 (Nat.le_refl _) (Nat.le_refl _) (fun y => absurd y ok) (fun y => absurd y ok) (fun y => absurd y ok) (fun _ μ' nm' X' kp => ⟨rfl, A, nm', h.pw kp X' rfl⟩)
/-- how much to ask for, when what will be taken is known only if it is bounded -/
theorem ask {u u' n : Nat} (h1 : u ≤ u') (h2 : u ≤ n) : ∃ c, (u' ≤ u + c ∨ n ≤ u + c) ∧ u + c ≤ n ∧ (u' ≤ n → u + c = u') := by
  by_cases h : u' ≤ n
  · exact ⟨u' - u, by omega, by omega, fun _ => by omega⟩
  · exact ⟨n - u, by omega, by omega, fun z => absurd z h⟩
theorem l_run (h : LW μ A nm S E tt x o b M σ) (n : Int32) : ∃ S' E' tt' r0 c z, wp_X10_run c z μ x n (fun r μ' => r = r0 ∧ ∃ A' nm', PW μ' A' nm' S' E' tt' x o b M σ) ∧ wp_X11_run σ n (fun r σ' => r = r0 ∧ RM σ' S') ∧ Rt E E' c z := by
  obtain rfl := h.2.1
  have hW := h.1.1.2.2.1
  obtain ⟨u1, u2⟩ := h.bd
  obtain ⟨m1, m2⟩ := (eRunS_em (S := S) (E := E) (tt := tt) (n := n)).U
  obtain ⟨c, c1, c2, c3⟩ := ask m1 u1
  obtain ⟨z, z1, z2, z3⟩ := ask m2 u2
  refine ⟨sp_runS S n, (eRunS S E tt n).1, (eRunS S E tt n).2, _, c, z, ?_, m_run h.2.2.2.2.1 hW (fun σ' h' _ => ⟨rfl, h'⟩), by omega, by omega, fun hB => ?_⟩
  · exact x_mrun h.1 c1 z1 (fun μ' A' nm' X' st => ⟨rfl, A', nm', h.pw (st.kp gE_99) X' (st.2.2.2.2.1 0 (by decide))⟩)
  · have := hB.U
    have k1 := c3 this.1
    have k2 := z3 this.2
    omega
/-- tell: the answer and no throw, or a throw -/
theorem l_tell (h : LW μ A nm S E tt x o b M σ) (k : Int32) : ∃ S' E' tt' r0 c z, (∀ (post : Int32 → Mem → Prop) (postX : Mem → Prop), (okTel S k → ∀ μ' A' nm', PW μ' A' nm' S' E' tt' x o b M σ → post r0 μ') → (¬ okTel S k → postX μ) → wp_X10_tell c z μ x k post postX) ∧ wp_X11_tell σ k (fun r σ' => RM σ' S' ∧ ((okTel S k ∧ r = r0 ∧ mi σ' 0 = 0) ∨ (¬ okTel S k ∧ mi σ' 0 = 1))) ∧ Rt E E' c z ∧ (¬ okTel S k → PW μ A nm S' E' tt' x o b M σ) := by
  obtain rfl := h.2.1
  have hW := h.1.1.2.2.1
  obtain ⟨u1, u2⟩ := h.bd
  by_cases ok : okTel S k
  · obtain ⟨m1, m2⟩ := (tAll_em (S := S) (v := sv S 0 (s2 S 0 (s1 S 10 0) k.toNatClampNeg)) (E := E)).U
    obtain ⟨c, c1, c2, c3⟩ := ask m1 u1
    obtain ⟨z, z1, z2, z3⟩ := ask m2 u2
    refine ⟨sp_telS S k.toNatClampNeg, (tAll S (sv S 0 (s2 S 0 (s1 S 10 0) k.toNatClampNeg)) E).2.2.2, tt, _, c + 1, z + 6, fun post postX hy hn => ?_, m_tell h.2.2.2.2.1 hW (fun _ σ' h' t' => ⟨h', Or.inl ⟨ok, rfl, t'⟩⟩) (fun n => absurd ok n), ⟨by omega, by omega, fun hB => ?_⟩, fun n => absurd ok n⟩
    · exact x_mtell h.1 (fun _ => by omega) (fun _ => by omega) (by omega) (by omega) (fun _ μ' A' nm' X' e kp => hy ok μ' A' nm' (h.pw kp X' e)) (fun n => absurd ok n)
    · have := hB.U
      have k1 := c3 this.1
      have k2 := z3 this.2
      omega
  · refine ⟨S, E, tt, 0, 1, 6, fun post postX hy hn => ?_, m_tell h.2.2.2.2.1 hW (fun y => absurd y ok) (fun _ σ' h' t' => ⟨h', Or.inr ⟨ok, t'⟩⟩), Rt.rf h.bd (by decide) (by decide), fun _ => h.toPW⟩
    exact x_mtell h.1 (fun y => absurd y ok) (fun y => absurd y ok) (Nat.le_refl _) (Nat.le_refl _) (fun y => absurd y ok) (fun _ => hn ok)
theorem PW.out {v : Int64} (h : PW μ A nm S E tt x o b M σ) : PW (saj μ b 0 v) A nm S E tt x o b M σ := by
  obtain ⟨p1, p2, p3, p4, p5, p6, p7, p8⟩ := h
  refine ⟨p1.off99 (Off_saj.sub (fun a _ e => by rw [e]; exact p7)), p2, p3, ?_, p5, p6, p7, p8⟩
  rw [← p4]
  refine Prod.ext rfl (Prod.ext rfl (funext fun j => funext fun i => ?_))
  show (if (mk j).1 = 0 then 0 else aj (saj μ b 0 v) (M j) i) = if (mk j).1 = 0 then 0 else aj μ (M j) i
  by_cases z : (mk j).1 = 0
  · rw [if_pos z, if_pos z]
  · rw [if_neg z, if_neg z, aj_saj, if_neg (fun q => p5.2.2 j z q.1)]
end OPS
