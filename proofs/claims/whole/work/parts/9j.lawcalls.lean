/-! the law: one call -/
def LCx (l : Launch) (T : Tb) (B : Nat) (p : Program) (m : MethodId) (c : Code) (s : State) (b L : Nat) (xs : Nat → Int32) : Prop := CX T B p m c cL_law 7 s #[Value.ref b] RL ∧ va_X b L xs s s.heap ∧ b < s.heap.size ∧ ¬ Ai B b ∧ l.stackTraces = false ∧ TXs B s s.heap
def KT (l : Launch) (T : Tb) (B : Nat) (p : Program) (e : Env) (s : State) (m : MethodId) (below : List Frame) (meth : Method) (c : Code) (b x o ao : Nat) (M : Nat → Nat) (i j : Nat) : Prop :=
  ∀ (μ : Mem) (A : Ad) (nm : Nat → Nat × Nat) (S : Sp) (E tt : Nat → Nat) (σ : MSt) (H : Heap) (locs : List Loc) (cells slots : Nat) (ls : Array Slot), MS T B s μ H locs → LW μ A nm S E tt x o ao M σ → Rk cells slots E j → lv_has ls 7 [(0, .ref b), (1, .ref x), (2, .ref o), (3, .ref ao), (4, .int (nI i))] → W p l e room_1 s m #[Value.ref b] below meth c H locs cells slots (lw_Z below #[Value.ref b] s) (F0 m 475 ls [])
theorem FM.rf {μ : Mem} {o : Nat} {A : Nat → Nat} : FM μ μ o A := ⟨rfl, rfl, rfl, rfl, fun _ _ _ _ => rfl, fun _ _ _ => ⟨rfl, rfl⟩⟩
theorem PW.wm {μ : Mem} {A : Ad} {nm : Nat → Nat × Nat} {S : Sp} {E tt : Nat → Nat} {x o ao : Nat} {M : Nat → Nat} {σ : MSt} {T : Tb} {B : Nat} {s : State} {H : Heap} {locs : List Loc} (P : PW μ A nm S E tt x o ao M σ) (h : MS T B s μ H locs) : MG (WM T B μ o M) B s σ H locs := ⟨⟨μ, h.1, P.2.2.1, P.2.2.2.1, FM.rf⟩, h.2⟩
theorem PW.lw {μ μ' : Mem} {A : Ad} {nm : Nat → Nat × Nat} {S : Sp} {E tt : Nat → Nat} {x o ao : Nat} {M : Nat → Nat} {σ σ' : MSt} (P : PW μ A nm S E tt x o ao M σ) (hI : IM μ' o M) (hv : vw μ' o M = σ') (hF : FM μ μ' o M) (hR : RM σ' S) : LW μ' A nm S E tt x o ao M σ' ∧ ∀ i, aj μ' ao i = aj μ ao i := by
  obtain ⟨p1, p2, p3, p4, p5, p6, p7, p8⟩ := P
  exact LW.ref (σ := σ) p1 p2 p3 p5 p6 p7 p8 hF hI hv hR
theorem cmp_rf (x : Int64) : lg_cmp x x = 0 := by simp [lg_cmp]
theorem in_k {i L : Nat} (k : Nat) (hk : k < 7) (hi : i + 7 ≤ L) (hL : L ≤ 3584) : vp_in (nI i + nI k) L := by rw [nI_add]; exact vp_in_nI (by omega) (by omega)
section LAW
variable {l : Launch} {T : Tb} {B : Nat} {p : Program} {e : Env} {s : State} {m : MethodId} {below : List Frame} {meth : Method} {c : Code} {b L : Nat} {xs : Nat → Int32} {x o ao : Nat} {M : Nat → Nat} {i j : Nat}
variable {μ : Mem} {A : Ad} {nm : Nat → Nat × Nat} {S : Sp} {E tt : Nat → Nat} {σ : MSt} {H : Heap} {locs : List Loc} {cells slots : Nat} {ls : Array Slot}
set_option maxRecDepth 100000 in
set_option maxHeartbeats 4000000 in
theorem law_put (C : LCx l T B p m c s b L xs) (hi : i + 7 ≤ L) (hL : L ≤ 3584) (K : KT l T B p e s m below meth c b x o ao M i j) (MM : MS T B s μ H locs) (h : LW μ A nm S E tt x o ao M σ) (hr : Rk cells slots E (j + 1)) (hl : lv_has ls 7 [(0, .ref b), (1, .ref x), (2, .ref o), (3, .ref ao), (4, .int (nI i))]) : W p l e room_1 s m #[Value.ref b] below meth c H locs cells slots (lw_Z below #[Value.ref b] s) (F0 m 92 ls []) := by
  obtain ⟨X, hX, hbl, hbA, hst, hTX⟩ := C
  obtain ⟨S', E', tt', r0, w1, w2, rt⟩ := l_put h (xs (nI i + nI 1).toNatClampNeg)
  obtain ⟨⟨rc, rz⟩, rk⟩ := hr.step rt
  have kx : kd μ x = 12 := by rw [← h.2.1]; exact h.1.2.1.1
  refine lv_aload_n X.1 X.2.1 dL_law_92 rfl (lv_at hl 1 rfl) ?_
  refine lv_aload_n X.1 X.2.1 dL_law_93 rfl (lv_at hl 0 rfl) ?_
  refine lv_iload X.1 X.2.1 dL_law_94 (lv_at hl 4 rfl) ?_
  refine lv_iconst (v := nI 1) X.1 X.2.1 dL_law_96 (by decide) ?_
  refine lv_iadd X.1 X.2.1 dL_law_97 ?_
  refine va_sld X.1 X.2.1 hX hbl hbA MM.2.2 (in_k 1 (by decide) hi hL) dL_law_98 ?_
  refine mx_ci MM (mx_runV (n := 1) (As := [.int (xs (nI i + nI 1).toNatClampNeg)]) (rest := []) X MM (c_X10_put l T B μ x _ _ w1) (mx_recv (C := RX10) (F := TX10) (N := 6) (ci := 11) X MM rfl (by decide) kx) lk_xput1 lk_xput2 lk_xput3 lt_w4 lk_xput5 (by decide +kernel) rfl rfl ⟨Nat.le_of_ble_eq_true rfl, Nat.le_of_ble_eq_true rfl⟩ rfl hl.1 (Nat.le_of_ble_eq_true rfl) dL_law_99 ⟨rc, rz⟩) (fun r1 μ1 H1 locs1 hp M1 => ?_)
  obtain ⟨⟨e1, A1, nm1, P1⟩, -⟩ := hp
  have WM1 := P1.wm M1
  refine lv_aload_n X.1 X.2.1 dL_law_102 rfl (lv_at hl 2 rfl) ?_
  refine lv_aload_n X.1 X.2.1 dL_law_103 rfl (lv_at hl 0 rfl) ?_
  refine lv_iload X.1 X.2.1 dL_law_104 (lv_at hl 4 rfl) ?_
  refine lv_iconst (v := nI 1) X.1 X.2.1 dL_law_106 (by decide) ?_
  refine lv_iadd X.1 X.2.1 dL_law_107 ?_
  refine va_sld X.1 X.2.1 hX hbl hbA M1.2.2 (in_k 1 (by decide) hi hL) dL_law_108 ?_
  refine mx_ci WM1 (mx_runV (n := 1) (As := [.int (xs (nI i + nI 1).toNatClampNeg)]) (rest := [.int r1]) X WM1 (c_X11_put l T B μ1 o M σ _ _ w2) (mm_recv X WM1) lk_mput1 lk_mput2 lk_mput3 lk_ini11 lk_mput5 (by decide +kernel) rfl rfl ⟨Nat.le_of_ble_eq_true rfl, Nat.le_of_ble_eq_true rfl⟩ rfl hl.1 (Nat.le_of_ble_eq_true rfl) dL_law_109 ⟨rc, rz⟩) (fun r2 σ2 H2 locs2 hq2 M2 => ?_)
  obtain ⟨e2, R2⟩ := hq2
  obtain ⟨⟨μ2, m1, m2, m3, m4⟩, m5⟩ := M2
  have LW2 := (P1.lw m2 m3 m4 R2).1
  refine lv_icmp_eq (tgt := 475) X.1 X.2.1 dL_law_112 (by decide) (fun _ => ?_) (fun z => absurd (e1.trans e2.symm) z)
  exact K μ2 A1 nm1 S' E' tt' σ2 H2 locs2 _ _ ls ⟨m1, m5⟩ LW2 (rk P1.1.1.2.2.2.2.1) hl
set_option maxRecDepth 100000 in
set_option maxHeartbeats 4000000 in
theorem law_procedure (C : LCx l T B p m c s b L xs) (hi : i + 7 ≤ L) (hL : L ≤ 3584) (K : KT l T B p e s m below meth c b x o ao M i j) (MM : MS T B s μ H locs) (h : LW μ A nm S E tt x o ao M σ) (hr : Rk cells slots E (j + 1)) (hl : lv_has ls 7 [(0, .ref b), (1, .ref x), (2, .ref o), (3, .ref ao), (4, .int (nI i))]) : W p l e room_1 s m #[Value.ref b] below meth c H locs cells slots (lw_Z below #[Value.ref b] s) (F0 m 117 ls []) := by
  obtain ⟨X, hX, hbl, hbA, hst, hTX⟩ := C
  obtain ⟨q, hq, eq⟩ : ∃ q, q ≤ 1 ∧ nI q = (if (xs (nI i + nI 1).toNatClampNeg) = 0 then 0 else 1 : Int32) := by
    by_cases z : (xs (nI i + nI 1).toNatClampNeg) = 0
    · exact ⟨0, by decide, by rw [if_pos z]; rfl⟩
    · exact ⟨1, by decide, by rw [if_neg z]; rfl⟩
  obtain ⟨S', E', tt', r0, c0, z0, w1, w2, rt⟩ := l_proc h q hq (xs (nI i + nI 2).toNatClampNeg) (xs (nI i + nI 3).toNatClampNeg)
  obtain ⟨⟨rc, rz⟩, rk⟩ := hr.step rt
  have kx : kd μ x = 12 := by rw [← h.2.1]; exact h.1.2.1.1
  refine lv_aload_n X.1 X.2.1 dL_law_117 rfl (lv_at hl 1 rfl) ?_
  refine lv_aload_n X.1 X.2.1 dL_law_118 rfl (lv_at hl 0 rfl) ?_
  refine lv_iload X.1 X.2.1 dL_law_119 (lv_at hl 4 rfl) ?_
  refine lv_iconst (v := nI 1) X.1 X.2.1 dL_law_121 (by decide) ?_
  refine lv_iadd X.1 X.2.1 dL_law_122 ?_
  refine va_sld X.1 X.2.1 hX hbl hbA MM.2.2 (in_k 1 (by decide) hi hL) dL_law_123 ?_
  refine (fun (k : ∀ v : Int32, v = nI q → W p l e room_1 s m #[Value.ref b] below meth c H locs cells slots (lw_Z below #[Value.ref b] s) (F0 m 132 ls (.int v :: [.ref x]))) => ?_ : (∀ v : Int32, v = nI q → W p l e room_1 s m #[Value.ref b] below meth c H locs cells slots (lw_Z below #[Value.ref b] s) (F0 m 132 ls (.int v :: [.ref x]))) → _) ?_
  · refine lv_if_eq (tgt := 131) X.1 X.2.1 dL_law_124 (by decide) (fun z => ?_) (fun z => ?_)
    · refine lv_iconst (v := 0) X.1 X.2.1 dL_law_131 (by decide) ?_
      exact k 0 (by rw [eq, if_pos z])
    · refine lv_iconst (v := 1) X.1 X.2.1 dL_law_127 (by decide) ?_
      refine lv_goto (tgt := 132) X.1 X.2.1 dL_law_128 (by decide) ?_
      exact k 1 (by rw [eq, if_neg z])
  intro v ev
  subst ev
  refine lv_aload_n X.1 X.2.1 dL_law_132 rfl (lv_at hl 0 rfl) ?_
  refine lv_iload X.1 X.2.1 dL_law_133 (lv_at hl 4 rfl) ?_
  refine lv_iconst (v := nI 2) X.1 X.2.1 dL_law_135 (by decide) ?_
  refine lv_iadd X.1 X.2.1 dL_law_136 ?_
  refine va_sld X.1 X.2.1 hX hbl hbA MM.2.2 (in_k 2 (by decide) hi hL) dL_law_137 ?_
  refine lv_aload_n X.1 X.2.1 dL_law_138 rfl (lv_at hl 0 rfl) ?_
  refine lv_iload X.1 X.2.1 dL_law_139 (lv_at hl 4 rfl) ?_
  refine lv_iconst (v := nI 3) X.1 X.2.1 dL_law_141 (by decide) ?_
  refine lv_iadd X.1 X.2.1 dL_law_142 ?_
  refine va_sld X.1 X.2.1 hX hbl hbA MM.2.2 (in_k 3 (by decide) hi hL) dL_law_143 ?_
  refine mx_ci MM (mx_runV (n := 3) (As := [.int (nI q), .int (xs (nI i + nI 2).toNatClampNeg), .int (xs (nI i + nI 3).toNatClampNeg)]) (rest := []) X MM (c_X10_procedure l T B c0 z0 μ x _ _ _ _ w1) (mx_recv (C := RX10) (F := TX10) (N := 6) (ci := 11) X MM rfl (by decide) kx) lk_xprocedure1 lk_xprocedure2 lk_xprocedure3 lt_w4 lk_xprocedure5 (by decide +kernel) rfl rfl ⟨Nat.le_of_ble_eq_true rfl, Nat.le_of_ble_eq_true rfl⟩ rfl hl.1 (Nat.le_of_ble_eq_true rfl) dL_law_144 ⟨rc, rz⟩) (fun r1 μ1 H1 locs1 hp M1 => ?_)
  obtain ⟨⟨e1, A1, nm1, P1⟩, -⟩ := hp
  have WM1 := P1.wm M1
  refine lv_aload_n X.1 X.2.1 dL_law_147 rfl (lv_at hl 2 rfl) ?_
  refine lv_aload_n X.1 X.2.1 dL_law_148 rfl (lv_at hl 0 rfl) ?_
  refine lv_iload X.1 X.2.1 dL_law_149 (lv_at hl 4 rfl) ?_
  refine lv_iconst (v := nI 1) X.1 X.2.1 dL_law_151 (by decide) ?_
  refine lv_iadd X.1 X.2.1 dL_law_152 ?_
  refine va_sld X.1 X.2.1 hX hbl hbA M1.2.2 (in_k 1 (by decide) hi hL) dL_law_153 ?_
  refine (fun (k : ∀ v : Int32, v = nI q → W p l e room_1 s m #[Value.ref b] below meth c H1 locs1 (cells + c0) (slots + z0) (lw_Z below #[Value.ref b] s) (F0 m 162 ls (.int v :: [.ref o, .int r1]))) => ?_ : (∀ v : Int32, v = nI q → W p l e room_1 s m #[Value.ref b] below meth c H1 locs1 (cells + c0) (slots + z0) (lw_Z below #[Value.ref b] s) (F0 m 162 ls (.int v :: [.ref o, .int r1]))) → _) ?_
  · refine lv_if_eq (tgt := 161) X.1 X.2.1 dL_law_154 (by decide) (fun z => ?_) (fun z => ?_)
    · refine lv_iconst (v := 0) X.1 X.2.1 dL_law_161 (by decide) ?_
      exact k 0 (by rw [eq, if_pos z])
    · refine lv_iconst (v := 1) X.1 X.2.1 dL_law_157 (by decide) ?_
      refine lv_goto (tgt := 162) X.1 X.2.1 dL_law_158 (by decide) ?_
      exact k 1 (by rw [eq, if_neg z])
  intro v ev
  subst ev
  refine lv_aload_n X.1 X.2.1 dL_law_162 rfl (lv_at hl 0 rfl) ?_
  refine lv_iload X.1 X.2.1 dL_law_163 (lv_at hl 4 rfl) ?_
  refine lv_iconst (v := nI 2) X.1 X.2.1 dL_law_165 (by decide) ?_
  refine lv_iadd X.1 X.2.1 dL_law_166 ?_
  refine va_sld X.1 X.2.1 hX hbl hbA M1.2.2 (in_k 2 (by decide) hi hL) dL_law_167 ?_
  refine lv_aload_n X.1 X.2.1 dL_law_168 rfl (lv_at hl 0 rfl) ?_
  refine lv_iload X.1 X.2.1 dL_law_169 (lv_at hl 4 rfl) ?_
  refine lv_iconst (v := nI 3) X.1 X.2.1 dL_law_171 (by decide) ?_
  refine lv_iadd X.1 X.2.1 dL_law_172 ?_
  refine va_sld X.1 X.2.1 hX hbl hbA M1.2.2 (in_k 3 (by decide) hi hL) dL_law_173 ?_
  refine mx_ci WM1 (mx_runV (n := 3) (As := [.int (nI q), .int (xs (nI i + nI 2).toNatClampNeg), .int (xs (nI i + nI 3).toNatClampNeg)]) (rest := [.int r1]) X WM1 (c_X11_procedure l T B μ1 o M σ _ _ _ _ w2) (mm_recv X WM1) lk_mprocedure1 lk_mprocedure2 lk_mprocedure3 lk_ini11 lk_mprocedure5 (by decide +kernel) rfl rfl ⟨Nat.le_of_ble_eq_true rfl, Nat.le_of_ble_eq_true rfl⟩ rfl hl.1 (Nat.le_of_ble_eq_true rfl) dL_law_174 ⟨rc, rz⟩) (fun r2 σ2 H2 locs2 hq2 M2 => ?_)
  obtain ⟨e2, R2⟩ := hq2
  obtain ⟨⟨μ2, m1, m2, m3, m4⟩, m5⟩ := M2
  have LW2 := (P1.lw m2 m3 m4 R2).1
  refine lv_icmp_eq (tgt := 475) X.1 X.2.1 dL_law_177 (by decide) (fun _ => ?_) (fun z => absurd (e1.trans e2.symm) z)
  exact K μ2 A1 nm1 S' E' tt' σ2 H2 locs2 _ _ ls ⟨m1, m5⟩ LW2 (rk P1.1.1.2.2.2.2.1) hl
set_option maxRecDepth 100000 in
set_option maxHeartbeats 4000000 in
theorem law_add (C : LCx l T B p m c s b L xs) (hi : i + 7 ≤ L) (hL : L ≤ 3584) (K : KT l T B p e s m below meth c b x o ao M i j) (MM : MS T B s μ H locs) (h : LW μ A nm S E tt x o ao M σ) (hr : Rk cells slots E (j + 1)) (hl : lv_has ls 7 [(0, .ref b), (1, .ref x), (2, .ref o), (3, .ref ao), (4, .int (nI i))]) : W p l e room_1 s m #[Value.ref b] below meth c H locs cells slots (lw_Z below #[Value.ref b] s) (F0 m 182 ls []) := by
  obtain ⟨X, hX, hbl, hbA, hst, hTX⟩ := C
  obtain ⟨S', E', tt', r0, c0, z0, w1, w2, rt⟩ := l_add h (xs (nI i + nI 1).toNatClampNeg) (xs (nI i + nI 2).toNatClampNeg) (xs (nI i + nI 3).toNatClampNeg) (xs (nI i + nI 4).toNatClampNeg) (xs (nI i + nI 5).toNatClampNeg) (xs (nI i + nI 6).toNatClampNeg)
  obtain ⟨⟨rc, rz⟩, rk⟩ := hr.step rt
  have kx : kd μ x = 12 := by rw [← h.2.1]; exact h.1.2.1.1
  refine lv_aload_n X.1 X.2.1 dL_law_182 rfl (lv_at hl 1 rfl) ?_
  refine lv_aload_n X.1 X.2.1 dL_law_183 rfl (lv_at hl 0 rfl) ?_
  refine lv_iload X.1 X.2.1 dL_law_184 (lv_at hl 4 rfl) ?_
  refine lv_iconst (v := nI 1) X.1 X.2.1 dL_law_186 (by decide) ?_
  refine lv_iadd X.1 X.2.1 dL_law_187 ?_
  refine va_sld X.1 X.2.1 hX hbl hbA MM.2.2 (in_k 1 (by decide) hi hL) dL_law_188 ?_
  refine lv_aload_n X.1 X.2.1 dL_law_189 rfl (lv_at hl 0 rfl) ?_
  refine lv_iload X.1 X.2.1 dL_law_190 (lv_at hl 4 rfl) ?_
  refine lv_iconst (v := nI 2) X.1 X.2.1 dL_law_192 (by decide) ?_
  refine lv_iadd X.1 X.2.1 dL_law_193 ?_
  refine va_sld X.1 X.2.1 hX hbl hbA MM.2.2 (in_k 2 (by decide) hi hL) dL_law_194 ?_
  refine lv_aload_n X.1 X.2.1 dL_law_195 rfl (lv_at hl 0 rfl) ?_
  refine lv_iload X.1 X.2.1 dL_law_196 (lv_at hl 4 rfl) ?_
  refine lv_iconst (v := nI 3) X.1 X.2.1 dL_law_198 (by decide) ?_
  refine lv_iadd X.1 X.2.1 dL_law_199 ?_
  refine va_sld X.1 X.2.1 hX hbl hbA MM.2.2 (in_k 3 (by decide) hi hL) dL_law_200 ?_
  refine lv_aload_n X.1 X.2.1 dL_law_201 rfl (lv_at hl 0 rfl) ?_
  refine lv_iload X.1 X.2.1 dL_law_202 (lv_at hl 4 rfl) ?_
  refine lv_iconst (v := nI 4) X.1 X.2.1 dL_law_204 (by decide) ?_
  refine lv_iadd X.1 X.2.1 dL_law_205 ?_
  refine va_sld X.1 X.2.1 hX hbl hbA MM.2.2 (in_k 4 (by decide) hi hL) dL_law_206 ?_
  refine lv_aload_n X.1 X.2.1 dL_law_207 rfl (lv_at hl 0 rfl) ?_
  refine lv_iload X.1 X.2.1 dL_law_208 (lv_at hl 4 rfl) ?_
  refine lv_iconst (v := nI 5) X.1 X.2.1 dL_law_210 (by decide) ?_
  refine lv_iadd X.1 X.2.1 dL_law_211 ?_
  refine va_sld X.1 X.2.1 hX hbl hbA MM.2.2 (in_k 5 (by decide) hi hL) dL_law_212 ?_
  refine lv_aload_n X.1 X.2.1 dL_law_213 rfl (lv_at hl 0 rfl) ?_
  refine lv_iload X.1 X.2.1 dL_law_214 (lv_at hl 4 rfl) ?_
  refine lv_bipush (v := nI 6) X.1 X.2.1 dL_law_216 (by decide) ?_
  refine lv_iadd X.1 X.2.1 dL_law_218 ?_
  refine va_sld X.1 X.2.1 hX hbl hbA MM.2.2 (in_k 6 (by decide) hi hL) dL_law_219 ?_
  refine mx_ci MM (mx_runV (n := 6) (As := [.int (xs (nI i + nI 1).toNatClampNeg), .int (xs (nI i + nI 2).toNatClampNeg), .int (xs (nI i + nI 3).toNatClampNeg), .int (xs (nI i + nI 4).toNatClampNeg), .int (xs (nI i + nI 5).toNatClampNeg), .int (xs (nI i + nI 6).toNatClampNeg)]) (rest := []) X MM (c_X10_add l T B c0 z0 μ x _ _ _ _ _ _ _ w1) (mx_recv (C := RX10) (F := TX10) (N := 6) (ci := 11) X MM rfl (by decide) kx) lk_xadd1 lk_xadd2 lk_xadd3 lt_w4 lk_xadd5 (by decide +kernel) rfl rfl ⟨Nat.le_of_ble_eq_true rfl, Nat.le_of_ble_eq_true rfl⟩ rfl hl.1 (Nat.le_of_ble_eq_true rfl) dL_law_220 ⟨rc, rz⟩) (fun r1 μ1 H1 locs1 hp M1 => ?_)
  obtain ⟨⟨e1, A1, nm1, P1⟩, -⟩ := hp
  have WM1 := P1.wm M1
  refine lv_aload_n X.1 X.2.1 dL_law_223 rfl (lv_at hl 2 rfl) ?_
  refine lv_aload_n X.1 X.2.1 dL_law_224 rfl (lv_at hl 0 rfl) ?_
  refine lv_iload X.1 X.2.1 dL_law_225 (lv_at hl 4 rfl) ?_
  refine lv_iconst (v := nI 1) X.1 X.2.1 dL_law_227 (by decide) ?_
  refine lv_iadd X.1 X.2.1 dL_law_228 ?_
  refine va_sld X.1 X.2.1 hX hbl hbA M1.2.2 (in_k 1 (by decide) hi hL) dL_law_229 ?_
  refine lv_aload_n X.1 X.2.1 dL_law_230 rfl (lv_at hl 0 rfl) ?_
  refine lv_iload X.1 X.2.1 dL_law_231 (lv_at hl 4 rfl) ?_
  refine lv_iconst (v := nI 2) X.1 X.2.1 dL_law_233 (by decide) ?_
  refine lv_iadd X.1 X.2.1 dL_law_234 ?_
  refine va_sld X.1 X.2.1 hX hbl hbA M1.2.2 (in_k 2 (by decide) hi hL) dL_law_235 ?_
  refine lv_aload_n X.1 X.2.1 dL_law_236 rfl (lv_at hl 0 rfl) ?_
  refine lv_iload X.1 X.2.1 dL_law_237 (lv_at hl 4 rfl) ?_
  refine lv_iconst (v := nI 3) X.1 X.2.1 dL_law_239 (by decide) ?_
  refine lv_iadd X.1 X.2.1 dL_law_240 ?_
  refine va_sld X.1 X.2.1 hX hbl hbA M1.2.2 (in_k 3 (by decide) hi hL) dL_law_241 ?_
  refine lv_aload_n X.1 X.2.1 dL_law_242 rfl (lv_at hl 0 rfl) ?_
  refine lv_iload X.1 X.2.1 dL_law_243 (lv_at hl 4 rfl) ?_
  refine lv_iconst (v := nI 4) X.1 X.2.1 dL_law_245 (by decide) ?_
  refine lv_iadd X.1 X.2.1 dL_law_246 ?_
  refine va_sld X.1 X.2.1 hX hbl hbA M1.2.2 (in_k 4 (by decide) hi hL) dL_law_247 ?_
  refine lv_aload_n X.1 X.2.1 dL_law_248 rfl (lv_at hl 0 rfl) ?_
  refine lv_iload X.1 X.2.1 dL_law_249 (lv_at hl 4 rfl) ?_
  refine lv_iconst (v := nI 5) X.1 X.2.1 dL_law_251 (by decide) ?_
  refine lv_iadd X.1 X.2.1 dL_law_252 ?_
  refine va_sld X.1 X.2.1 hX hbl hbA M1.2.2 (in_k 5 (by decide) hi hL) dL_law_253 ?_
  refine lv_aload_n X.1 X.2.1 dL_law_254 rfl (lv_at hl 0 rfl) ?_
  refine lv_iload X.1 X.2.1 dL_law_255 (lv_at hl 4 rfl) ?_
  refine lv_bipush (v := nI 6) X.1 X.2.1 dL_law_257 (by decide) ?_
  refine lv_iadd X.1 X.2.1 dL_law_259 ?_
  refine va_sld X.1 X.2.1 hX hbl hbA M1.2.2 (in_k 6 (by decide) hi hL) dL_law_260 ?_
  refine mx_ci WM1 (mx_runV (n := 6) (As := [.int (xs (nI i + nI 1).toNatClampNeg), .int (xs (nI i + nI 2).toNatClampNeg), .int (xs (nI i + nI 3).toNatClampNeg), .int (xs (nI i + nI 4).toNatClampNeg), .int (xs (nI i + nI 5).toNatClampNeg), .int (xs (nI i + nI 6).toNatClampNeg)]) (rest := [.int r1]) X WM1 (c_X11_add l T B μ1 o M σ _ _ _ _ _ _ _ w2) (mm_recv X WM1) lk_madd1 lk_madd2 lk_madd3 lk_ini11 lk_madd5 (by decide +kernel) rfl rfl ⟨Nat.le_of_ble_eq_true rfl, Nat.le_of_ble_eq_true rfl⟩ rfl hl.1 (Nat.le_of_ble_eq_true rfl) dL_law_261 ⟨rc, rz⟩) (fun r2 σ2 H2 locs2 hq2 M2 => ?_)
  obtain ⟨e2, R2⟩ := hq2
  obtain ⟨⟨μ2, m1, m2, m3, m4⟩, m5⟩ := M2
  have LW2 := (P1.lw m2 m3 m4 R2).1
  refine lv_icmp_eq (tgt := 475) X.1 X.2.1 dL_law_264 (by decide) (fun _ => ?_) (fun z => absurd (e1.trans e2.symm) z)
  exact K μ2 A1 nm1 S' E' tt' σ2 H2 locs2 _ _ ls ⟨m1, m5⟩ LW2 (rk P1.1.1.2.2.2.2.1) hl
set_option maxRecDepth 100000 in
set_option maxHeartbeats 4000000 in
theorem law_begin (C : LCx l T B p m c s b L xs) (hi : i + 7 ≤ L) (hL : L ≤ 3584) (K : KT l T B p e s m below meth c b x o ao M i j) (MM : MS T B s μ H locs) (h : LW μ A nm S E tt x o ao M σ) (hr : Rk cells slots E (j + 1)) (hl : lv_has ls 7 [(0, .ref b), (1, .ref x), (2, .ref o), (3, .ref ao), (4, .int (nI i))]) : W p l e room_1 s m #[Value.ref b] below meth c H locs cells slots (lw_Z below #[Value.ref b] s) (F0 m 269 ls []) := by
  obtain ⟨X, hX, hbl, hbA, hst, hTX⟩ := C
  obtain ⟨S', E', tt', r0, c0, z0, w1, w2, rt⟩ := l_beg h (xs (nI i + nI 1).toNatClampNeg) (xs (nI i + nI 2).toNatClampNeg) (xs (nI i + nI 3).toNatClampNeg)
  obtain ⟨⟨rc, rz⟩, rk⟩ := hr.step rt
  have kx : kd μ x = 12 := by rw [← h.2.1]; exact h.1.2.1.1
  refine lv_aload_n X.1 X.2.1 dL_law_269 rfl (lv_at hl 1 rfl) ?_
  refine lv_aload_n X.1 X.2.1 dL_law_270 rfl (lv_at hl 0 rfl) ?_
  refine lv_iload X.1 X.2.1 dL_law_271 (lv_at hl 4 rfl) ?_
  refine lv_iconst (v := nI 1) X.1 X.2.1 dL_law_273 (by decide) ?_
  refine lv_iadd X.1 X.2.1 dL_law_274 ?_
  refine va_sld X.1 X.2.1 hX hbl hbA MM.2.2 (in_k 1 (by decide) hi hL) dL_law_275 ?_
  refine lv_aload_n X.1 X.2.1 dL_law_276 rfl (lv_at hl 0 rfl) ?_
  refine lv_iload X.1 X.2.1 dL_law_277 (lv_at hl 4 rfl) ?_
  refine lv_iconst (v := nI 2) X.1 X.2.1 dL_law_279 (by decide) ?_
  refine lv_iadd X.1 X.2.1 dL_law_280 ?_
  refine va_sld X.1 X.2.1 hX hbl hbA MM.2.2 (in_k 2 (by decide) hi hL) dL_law_281 ?_
  refine lv_aload_n X.1 X.2.1 dL_law_282 rfl (lv_at hl 0 rfl) ?_
  refine lv_iload X.1 X.2.1 dL_law_283 (lv_at hl 4 rfl) ?_
  refine lv_iconst (v := nI 3) X.1 X.2.1 dL_law_285 (by decide) ?_
  refine lv_iadd X.1 X.2.1 dL_law_286 ?_
  refine va_sld X.1 X.2.1 hX hbl hbA MM.2.2 (in_k 3 (by decide) hi hL) dL_law_287 ?_
  refine mx_ci MM (mx_runV (n := 3) (As := [.int (xs (nI i + nI 1).toNatClampNeg), .int (xs (nI i + nI 2).toNatClampNeg), .int (xs (nI i + nI 3).toNatClampNeg)]) (rest := []) X MM (c_X10_begin l T B c0 z0 μ x _ _ _ _ w1) (mx_recv (C := RX10) (F := TX10) (N := 6) (ci := 11) X MM rfl (by decide) kx) lk_xbegin1 lk_xbegin2 lk_xbegin3 lt_w4 lk_xbegin5 (by decide +kernel) rfl rfl ⟨Nat.le_of_ble_eq_true rfl, Nat.le_of_ble_eq_true rfl⟩ rfl hl.1 (Nat.le_of_ble_eq_true rfl) dL_law_288 ⟨rc, rz⟩) (fun r1 μ1 H1 locs1 hp M1 => ?_)
  obtain ⟨⟨e1, A1, nm1, P1⟩, -⟩ := hp
  have WM1 := P1.wm M1
  refine lv_aload_n X.1 X.2.1 dL_law_291 rfl (lv_at hl 2 rfl) ?_
  refine lv_aload_n X.1 X.2.1 dL_law_292 rfl (lv_at hl 0 rfl) ?_
  refine lv_iload X.1 X.2.1 dL_law_293 (lv_at hl 4 rfl) ?_
  refine lv_iconst (v := nI 1) X.1 X.2.1 dL_law_295 (by decide) ?_
  refine lv_iadd X.1 X.2.1 dL_law_296 ?_
  refine va_sld X.1 X.2.1 hX hbl hbA M1.2.2 (in_k 1 (by decide) hi hL) dL_law_297 ?_
  refine lv_aload_n X.1 X.2.1 dL_law_298 rfl (lv_at hl 0 rfl) ?_
  refine lv_iload X.1 X.2.1 dL_law_299 (lv_at hl 4 rfl) ?_
  refine lv_iconst (v := nI 2) X.1 X.2.1 dL_law_301 (by decide) ?_
  refine lv_iadd X.1 X.2.1 dL_law_302 ?_
  refine va_sld X.1 X.2.1 hX hbl hbA M1.2.2 (in_k 2 (by decide) hi hL) dL_law_303 ?_
  refine lv_aload_n X.1 X.2.1 dL_law_304 rfl (lv_at hl 0 rfl) ?_
  refine lv_iload X.1 X.2.1 dL_law_305 (lv_at hl 4 rfl) ?_
  refine lv_iconst (v := nI 3) X.1 X.2.1 dL_law_307 (by decide) ?_
  refine lv_iadd X.1 X.2.1 dL_law_308 ?_
  refine va_sld X.1 X.2.1 hX hbl hbA M1.2.2 (in_k 3 (by decide) hi hL) dL_law_309 ?_
  refine mx_ci WM1 (mx_runV (n := 3) (As := [.int (xs (nI i + nI 1).toNatClampNeg), .int (xs (nI i + nI 2).toNatClampNeg), .int (xs (nI i + nI 3).toNatClampNeg)]) (rest := [.int r1]) X WM1 (c_X11_begin l T B μ1 o M σ _ _ _ _ w2) (mm_recv X WM1) lk_mbegin1 lk_mbegin2 lk_mbegin3 lk_ini11 lk_mbegin5 (by decide +kernel) rfl rfl ⟨Nat.le_of_ble_eq_true rfl, Nat.le_of_ble_eq_true rfl⟩ rfl hl.1 (Nat.le_of_ble_eq_true rfl) dL_law_310 ⟨rc, rz⟩) (fun r2 σ2 H2 locs2 hq2 M2 => ?_)
  obtain ⟨e2, R2⟩ := hq2
  obtain ⟨⟨μ2, m1, m2, m3, m4⟩, m5⟩ := M2
  have LW2 := (P1.lw m2 m3 m4 R2).1
  refine lv_icmp_eq (tgt := 475) X.1 X.2.1 dL_law_313 (by decide) (fun _ => ?_) (fun z => absurd (e1.trans e2.symm) z)
  exact K μ2 A1 nm1 S' E' tt' σ2 H2 locs2 _ _ ls ⟨m1, m5⟩ LW2 (rk P1.1.1.2.2.2.2.1) hl
set_option maxRecDepth 100000 in
set_option maxHeartbeats 4000000 in
theorem law_run (C : LCx l T B p m c s b L xs) (hi : i + 7 ≤ L) (hL : L ≤ 3584) (K : KT l T B p e s m below meth c b x o ao M i j) (MM : MS T B s μ H locs) (h : LW μ A nm S E tt x o ao M σ) (hr : Rk cells slots E (j + 1)) (hl : lv_has ls 7 [(0, .ref b), (1, .ref x), (2, .ref o), (3, .ref ao), (4, .int (nI i))]) : W p l e room_1 s m #[Value.ref b] below meth c H locs cells slots (lw_Z below #[Value.ref b] s) (F0 m 318 ls []) := by
  obtain ⟨X, hX, hbl, hbA, hst, hTX⟩ := C
  obtain ⟨S', E', tt', r0, c0, z0, w1, w2, rt⟩ := l_run h (xs (nI i + nI 1).toNatClampNeg)
  obtain ⟨⟨rc, rz⟩, rk⟩ := hr.step rt
  have kx : kd μ x = 12 := by rw [← h.2.1]; exact h.1.2.1.1
  refine lv_aload_n X.1 X.2.1 dL_law_318 rfl (lv_at hl 1 rfl) ?_
  refine lv_aload_n X.1 X.2.1 dL_law_319 rfl (lv_at hl 0 rfl) ?_
  refine lv_iload X.1 X.2.1 dL_law_320 (lv_at hl 4 rfl) ?_
  refine lv_iconst (v := nI 1) X.1 X.2.1 dL_law_322 (by decide) ?_
  refine lv_iadd X.1 X.2.1 dL_law_323 ?_
  refine va_sld X.1 X.2.1 hX hbl hbA MM.2.2 (in_k 1 (by decide) hi hL) dL_law_324 ?_
  refine mx_ci MM (mx_runV (n := 1) (As := [.int (xs (nI i + nI 1).toNatClampNeg)]) (rest := []) X MM (c_X10_run l T B c0 z0 μ x _ _ w1) (mx_recv (C := RX10) (F := TX10) (N := 6) (ci := 11) X MM rfl (by decide) kx) lk_xrun1 lk_xrun2 lk_xrun3 lt_w4 lk_xrun5 (by decide +kernel) rfl rfl ⟨Nat.le_of_ble_eq_true rfl, Nat.le_of_ble_eq_true rfl⟩ rfl hl.1 (Nat.le_of_ble_eq_true rfl) dL_law_325 ⟨rc, rz⟩) (fun r1 μ1 H1 locs1 hp M1 => ?_)
  obtain ⟨⟨e1, A1, nm1, P1⟩, -⟩ := hp
  have WM1 := P1.wm M1
  refine lv_aload_n X.1 X.2.1 dL_law_328 rfl (lv_at hl 2 rfl) ?_
  refine lv_aload_n X.1 X.2.1 dL_law_329 rfl (lv_at hl 0 rfl) ?_
  refine lv_iload X.1 X.2.1 dL_law_330 (lv_at hl 4 rfl) ?_
  refine lv_iconst (v := nI 1) X.1 X.2.1 dL_law_332 (by decide) ?_
  refine lv_iadd X.1 X.2.1 dL_law_333 ?_
  refine va_sld X.1 X.2.1 hX hbl hbA M1.2.2 (in_k 1 (by decide) hi hL) dL_law_334 ?_
  refine mx_ci WM1 (mx_runV (n := 1) (As := [.int (xs (nI i + nI 1).toNatClampNeg)]) (rest := [.int r1]) X WM1 (c_X11_run l T B μ1 o M σ _ _ w2) (mm_recv X WM1) lk_mrun1 lk_mrun2 lk_mrun3 lk_ini11 lk_mrun5 (by decide +kernel) rfl rfl ⟨Nat.le_of_ble_eq_true rfl, Nat.le_of_ble_eq_true rfl⟩ rfl hl.1 (Nat.le_of_ble_eq_true rfl) dL_law_335 ⟨rc, rz⟩) (fun r2 σ2 H2 locs2 hq2 M2 => ?_)
  obtain ⟨e2, R2⟩ := hq2
  obtain ⟨⟨μ2, m1, m2, m3, m4⟩, m5⟩ := M2
  have LW2 := (P1.lw m2 m3 m4 R2).1
  refine lv_icmp_eq (tgt := 475) X.1 X.2.1 dL_law_338 (by decide) (fun _ => ?_) (fun z => absurd (e1.trans e2.symm) z)
  exact K μ2 A1 nm1 S' E' tt' σ2 H2 locs2 _ _ ls ⟨m1, m5⟩ LW2 (rk P1.1.1.2.2.2.2.1) hl
set_option maxRecDepth 100000 in
set_option maxHeartbeats 4000000 in
theorem law_told (C : LCx l T B p m c s b L xs) (hi : i + 7 ≤ L) (hL : L ≤ 3584) (K : KT l T B p e s m below meth c b x o ao M i j) (MM : MS T B s μ H locs) (h : LW μ A nm S E tt x o ao M σ) (hr : Rk cells slots E (j + 1)) (hl : lv_has ls 7 [(0, .ref b), (1, .ref x), (2, .ref o), (3, .ref ao), (4, .int (nI i))]) : W p l e room_1 s m #[Value.ref b] below meth c H locs cells slots (lw_Z below #[Value.ref b] s) (F0 m 343 ls []) := by
  obtain ⟨X, hX, hbl, hbA, hst, hTX⟩ := C
  obtain ⟨S', E', tt', r0, w1, w2, rt⟩ := l_told h (xs (nI i + nI 1).toNatClampNeg)
  obtain ⟨⟨rc, rz⟩, rk⟩ := hr.step rt
  have kx : kd μ x = 12 := by rw [← h.2.1]; exact h.1.2.1.1
  refine lv_aload_n X.1 X.2.1 dL_law_343 rfl (lv_at hl 1 rfl) ?_
  refine lv_aload_n X.1 X.2.1 dL_law_344 rfl (lv_at hl 0 rfl) ?_
  refine lv_iload X.1 X.2.1 dL_law_345 (lv_at hl 4 rfl) ?_
  refine lv_iconst (v := nI 1) X.1 X.2.1 dL_law_347 (by decide) ?_
  refine lv_iadd X.1 X.2.1 dL_law_348 ?_
  refine va_sld X.1 X.2.1 hX hbl hbA MM.2.2 (in_k 1 (by decide) hi hL) dL_law_349 ?_
  refine mx_ci MM (mx_runV (n := 1) (As := [.int (xs (nI i + nI 1).toNatClampNeg)]) (rest := []) X MM (c_X10_told l T B μ x _ _ w1) (mx_recv (C := RX10) (F := TX10) (N := 6) (ci := 11) X MM rfl (by decide) kx) lk_xtold1 lk_xtold2 lk_xtold3 lt_w4 lk_xtold5 (by decide +kernel) rfl rfl ⟨Nat.le_of_ble_eq_true rfl, Nat.le_of_ble_eq_true rfl⟩ rfl hl.1 (Nat.le_of_ble_eq_true rfl) dL_law_350 ⟨rc, rz⟩) (fun r1 μ1 H1 locs1 hp M1 => ?_)
  obtain ⟨⟨e1, A1, nm1, P1⟩, -⟩ := hp
  have WM1 := P1.wm M1
  refine lv_aload_n X.1 X.2.1 dL_law_353 rfl (lv_at hl 2 rfl) ?_
  refine lv_aload_n X.1 X.2.1 dL_law_354 rfl (lv_at hl 0 rfl) ?_
  refine lv_iload X.1 X.2.1 dL_law_355 (lv_at hl 4 rfl) ?_
  refine lv_iconst (v := nI 1) X.1 X.2.1 dL_law_357 (by decide) ?_
  refine lv_iadd X.1 X.2.1 dL_law_358 ?_
  refine va_sld X.1 X.2.1 hX hbl hbA M1.2.2 (in_k 1 (by decide) hi hL) dL_law_359 ?_
  refine mx_ci WM1 (mx_runV (n := 1) (As := [.int (xs (nI i + nI 1).toNatClampNeg)]) (rest := [.int r1]) X WM1 (c_X11_told l T B μ1 o M σ _ _ w2) (mm_recv X WM1) lk_mtold1 lk_mtold2 lk_mtold3 lk_ini11 lk_mtold5 (by decide +kernel) rfl rfl ⟨Nat.le_of_ble_eq_true rfl, Nat.le_of_ble_eq_true rfl⟩ rfl hl.1 (Nat.le_of_ble_eq_true rfl) dL_law_360 ⟨rc, rz⟩) (fun r2 σ2 H2 locs2 hq2 M2 => ?_)
  obtain ⟨e2, R2⟩ := hq2
  obtain ⟨⟨μ2, m1, m2, m3, m4⟩, m5⟩ := M2
  have LW2 := (P1.lw m2 m3 m4 R2).1
  refine lv_icmp_eq (tgt := 475) X.1 X.2.1 dL_law_363 (by decide) (fun _ => ?_) (fun z => absurd (e1.trans e2.symm) z)
  exact K μ2 A1 nm1 S' E' tt' σ2 H2 locs2 _ _ ls ⟨m1, m5⟩ LW2 (rk P1.1.1.2.2.2.2.1) hl
set_option maxRecDepth 100000 in
set_option maxHeartbeats 4000000 in
theorem law_letter (C : LCx l T B p m c s b L xs) (hi : i + 7 ≤ L) (hL : L ≤ 3584) (K : KT l T B p e s m below meth c b x o ao M i j) (MM : MS T B s μ H locs) (h : LW μ A nm S E tt x o ao M σ) (hr : Rk cells slots E (j + 1)) (hl : lv_has ls 7 [(0, .ref b), (1, .ref x), (2, .ref o), (3, .ref ao), (4, .int (nI i))]) : W p l e room_1 s m #[Value.ref b] below meth c H locs cells slots (lw_Z below #[Value.ref b] s) (F0 m 424 ls []) := by
  obtain ⟨X, hX, hbl, hbA, hst, hTX⟩ := C
  obtain ⟨S', E', tt', r0, w1, w2, rt⟩ := l_letter h (xs (nI i + nI 1).toNatClampNeg)
  obtain ⟨⟨rc, rz⟩, rk⟩ := hr.step rt
  have kx : kd μ x = 12 := by rw [← h.2.1]; exact h.1.2.1.1
  refine lv_aload_n X.1 X.2.1 dL_law_424 rfl (lv_at hl 1 rfl) ?_
  refine lv_aload_n X.1 X.2.1 dL_law_425 rfl (lv_at hl 0 rfl) ?_
  refine lv_iload X.1 X.2.1 dL_law_426 (lv_at hl 4 rfl) ?_
  refine lv_iconst (v := nI 1) X.1 X.2.1 dL_law_428 (by decide) ?_
  refine lv_iadd X.1 X.2.1 dL_law_429 ?_
  refine va_sld X.1 X.2.1 hX hbl hbA MM.2.2 (in_k 1 (by decide) hi hL) dL_law_430 ?_
  refine mx_ci MM (mx_runV (n := 1) (As := [.int (xs (nI i + nI 1).toNatClampNeg)]) (rest := []) X MM (c_X10_letter l T B μ x _ _ w1) (mx_recv (C := RX10) (F := TX10) (N := 6) (ci := 11) X MM rfl (by decide) kx) lk_xletter1 lk_xletter2 lk_xletter3 lt_w4 lk_xletter5 (by decide +kernel) rfl rfl ⟨Nat.le_of_ble_eq_true rfl, Nat.le_of_ble_eq_true rfl⟩ rfl hl.1 (Nat.le_of_ble_eq_true rfl) dL_law_431 ⟨rc, rz⟩) (fun r1 μ1 H1 locs1 hp M1 => ?_)
  obtain ⟨⟨e1, A1, nm1, P1⟩, -⟩ := hp
  have WM1 := P1.wm M1
  refine lv_aload_n X.1 X.2.1 dL_law_434 rfl (lv_at hl 2 rfl) ?_
  refine lv_aload_n X.1 X.2.1 dL_law_435 rfl (lv_at hl 0 rfl) ?_
  refine lv_iload X.1 X.2.1 dL_law_436 (lv_at hl 4 rfl) ?_
  refine lv_iconst (v := nI 1) X.1 X.2.1 dL_law_438 (by decide) ?_
  refine lv_iadd X.1 X.2.1 dL_law_439 ?_
  refine va_sld X.1 X.2.1 hX hbl hbA M1.2.2 (in_k 1 (by decide) hi hL) dL_law_440 ?_
  refine mx_ci WM1 (mx_runV (n := 1) (As := [.int (xs (nI i + nI 1).toNatClampNeg)]) (rest := [.int r1]) X WM1 (c_X11_letter l T B μ1 o M σ _ _ w2) (mm_recv X WM1) lk_mletter1 lk_mletter2 lk_mletter3 lk_ini11 lk_mletter5 (by decide +kernel) rfl rfl ⟨Nat.le_of_ble_eq_true rfl, Nat.le_of_ble_eq_true rfl⟩ rfl hl.1 (Nat.le_of_ble_eq_true rfl) dL_law_441 ⟨rc, rz⟩) (fun r2 σ2 H2 locs2 hq2 M2 => ?_)
  obtain ⟨e2, R2⟩ := hq2
  obtain ⟨⟨μ2, m1, m2, m3, m4⟩, m5⟩ := M2
  have LW2 := (P1.lw m2 m3 m4 R2).1
  refine lv_icmp_eq (tgt := 475) X.1 X.2.1 dL_law_444 (by decide) (fun _ => ?_) (fun z => absurd (e1.trans e2.symm) z)
  exact K μ2 A1 nm1 S' E' tt' σ2 H2 locs2 _ _ ls ⟨m1, m5⟩ LW2 (rk P1.1.1.2.2.2.2.1) hl
set_option maxRecDepth 100000 in
set_option maxHeartbeats 4000000 in
theorem law_slot (C : LCx l T B p m c s b L xs) (hi : i + 7 ≤ L) (hL : L ≤ 3584) (K : KT l T B p e s m below meth c b x o ao M i j) (MM : MS T B s μ H locs) (h : LW μ A nm S E tt x o ao M σ) (hr : Rk cells slots E (j + 1)) (hl : lv_has ls 7 [(0, .ref b), (1, .ref x), (2, .ref o), (3, .ref ao), (4, .int (nI i))]) : W p l e room_1 s m #[Value.ref b] below meth c H locs cells slots (lw_Z below #[Value.ref b] s) (F0 m 449 ls []) := by
  obtain ⟨X, hX, hbl, hbA, hst, hTX⟩ := C
  obtain ⟨S', E', tt', r0, w1, w2, rt⟩ := l_slot h (xs (nI i + nI 1).toNatClampNeg)
  obtain ⟨⟨rc, rz⟩, rk⟩ := hr.step rt
  have kx : kd μ x = 12 := by rw [← h.2.1]; exact h.1.2.1.1
  refine lv_aload_n X.1 X.2.1 dL_law_449 rfl (lv_at hl 1 rfl) ?_
  refine lv_aload_n X.1 X.2.1 dL_law_450 rfl (lv_at hl 0 rfl) ?_
  refine lv_iload X.1 X.2.1 dL_law_451 (lv_at hl 4 rfl) ?_
  refine lv_iconst (v := nI 1) X.1 X.2.1 dL_law_453 (by decide) ?_
  refine lv_iadd X.1 X.2.1 dL_law_454 ?_
  refine va_sld X.1 X.2.1 hX hbl hbA MM.2.2 (in_k 1 (by decide) hi hL) dL_law_455 ?_
  refine mx_cl MM (mx_runV (n := 1) (As := [.int (xs (nI i + nI 1).toNatClampNeg)]) (rest := []) X MM (c_X10_slot l T B μ x _ _ w1) (mx_recv (C := RX10) (F := TX10) (N := 6) (ci := 11) X MM rfl (by decide) kx) lk_xslot1 lk_xslot2 lk_xslot3 lt_w4 lk_xslot5 (by decide +kernel) rfl rfl ⟨Nat.le_of_ble_eq_true rfl, Nat.le_of_ble_eq_true rfl⟩ rfl hl.1 (Nat.le_of_ble_eq_true rfl) dL_law_456 ⟨rc, rz⟩) (fun r1 μ1 H1 locs1 hp M1 => ?_)
  obtain ⟨⟨e1, A1, nm1, P1⟩, -⟩ := hp
  have WM1 := P1.wm M1
  refine lv_aload_n X.1 X.2.1 dL_law_459 rfl (lv_at hl 2 rfl) ?_
  refine lv_aload_n X.1 X.2.1 dL_law_460 rfl (lv_at hl 0 rfl) ?_
  refine lv_iload X.1 X.2.1 dL_law_461 (lv_at hl 4 rfl) ?_
  refine lv_iconst (v := nI 1) X.1 X.2.1 dL_law_463 (by decide) ?_
  refine lv_iadd X.1 X.2.1 dL_law_464 ?_
  refine va_sld X.1 X.2.1 hX hbl hbA M1.2.2 (in_k 1 (by decide) hi hL) dL_law_465 ?_
  refine mx_cl WM1 (mx_runV (n := 1) (As := [.int (xs (nI i + nI 1).toNatClampNeg)]) (rest := [.long r1]) X WM1 (c_X11_slot l T B μ1 o M σ _ _ w2) (mm_recv X WM1) lk_mslot1 lk_mslot2 lk_mslot3 lk_ini11 lk_mslot5 (by decide +kernel) rfl rfl ⟨Nat.le_of_ble_eq_true rfl, Nat.le_of_ble_eq_true rfl⟩ rfl hl.1 (Nat.le_of_ble_eq_true rfl) dL_law_466 ⟨rc, rz⟩) (fun r2 σ2 H2 locs2 hq2 M2 => ?_)
  obtain ⟨e2, R2⟩ := hq2
  obtain ⟨⟨μ2, m1, m2, m3, m4⟩, m5⟩ := M2
  have LW2 := (P1.lw m2 m3 m4 R2).1
  rw [e1, e2]
  refine W.lcmp X.1 X.2.1 dL_law_469 ?_
  refine lv_if_eq (tgt := 475) X.1 X.2.1 dL_law_470 (by decide) (fun _ => ?_) (fun z => absurd (cmp_rf _) z)
  exact K μ2 A1 nm1 S' E' tt' σ2 H2 locs2 _ _ ls ⟨m1, m5⟩ LW2 (rk P1.1.1.2.2.2.2.1) hl
end LAW
