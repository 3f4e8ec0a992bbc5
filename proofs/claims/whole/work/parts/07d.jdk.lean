/-! rows for the library's own methods: copies of arrays, the static empty array, arrays of Object -/
def cpi (μ : Mem) (a sp b dp n : Nat) : Mem := (kd μ, fi μ, fr μ, al μ, fun x i => if x = b then va_cpy (ai μ a) (ai μ b) sp dp n i else ai μ x i, aj μ, ar μ)
def cpj (μ : Mem) (a sp b dp n : Nat) : Mem := (kd μ, fi μ, fr μ, al μ, ai μ, fun x i => if x = b then va_cpy (aj μ a) (aj μ b) sp dp n i else aj μ x i, ar μ)
def cpr (μ : Mem) (a sp b dp n : Nat) : Mem := (kd μ, fi μ, fr μ, al μ, ai μ, aj μ, fun x i => if x = b then va_cpy (ar μ a) (ar μ b) sp dp n i else ar μ x i)
/-- a copy of the array a at q -/
def cln (μ : Mem) (a q : Nat) : Mem := (va_up (kd μ) q (kd μ a), fi μ, fr μ, va_up (al μ) q (al μ a), fun x i => if x = q then ai μ a i else ai μ x i, fun x i => if x = q then aj μ a i else aj μ x i, fun x i => if x = q then ar μ a i else ar μ x i)
/-- what may lie in a list: Frame, Instruction, Procedure, Redo -/
def isEl (t : Nat) : Prop := t = 4 ∨ t = 6 ∨ t = 8 ∨ t = 9
theorem KM_cln {μ : Mem} {b q : Nat} (hq : kd μ q = 0) : KM μ (cln μ b q) := fun a ha => by
  have : a ≠ q := fun h => ha (h ▸ hq)
  simp [kd, cln, va_up, this]
section JROWS
variable {T : Tb} {B : Nat} {p : Program} {l : Launch} {e : Env} {R : Room} {s : State} {m : MethodId} {args : Array Value} {below : List Frame} {meth : Method} {c : Code} {H : Heap} {locs : List Loc} {cells slots : Nat} {Q : State → Prop}
variable {cc : ByteArray} {nL pc : Nat} {own : String} {ls : Array Slot} {rest : List Value} {μ : Mem} {a b : Nat}
abbrev okcp (own : String) (index : Nat) : Prop := Cond.methodLink own index arraycopyName ∈ G ∧ Cond.native arraycopyName ∈ G ∧ Cond.static arraycopyName ∈ G ∧ Cond.initialized "java/lang/System" ∈ G
theorem my_cpj (X : CX T B p m c cc nL s args own) (M : MS T B s μ H locs) {index : Nat} (hw : okcp own index) (hsz : ls.size = nL) (ha : kd μ a = 103) (hb2 : kd μ b = 103) {sp dp n : Int32} (h1 : ¬ sp < 0) (h2 : ¬ dp < 0) (h3 : ¬ n < 0) (h4 : sp.toNatClampNeg + n.toNatClampNeg ≤ al μ a) (h5 : dp.toNatClampNeg + n.toNatClampNeg ≤ al μ b)
    (hframes : 1 ≤ R.frames) (hlocals : (rest.map fun v => v.category).sum + (nativeFrameWords "java/lang/System" "arraycopy" 5 + 11) ≤ R.locals) (hdg : decode cc pc = .ok (.invokestatic index, 3))
    (kk : ∀ (μ1 : Mem) (H1 : Heap) (locs1 : List Loc), μ1 = cpj μ a sp.toNatClampNeg b dp.toNatClampNeg n.toNatClampNeg → MS T B s μ1 H1 locs1 → W p l e R s m args below meth c H1 locs1 cells slots Q (F0 m (pc + 3) ls rest)) : W p l e R s m args below meth c H locs cells slots Q (F0 m pc ls (.int n :: .int dp :: .ref b :: .int sp :: .ref a :: rest)) := by
  obtain ⟨hx, hb, hml, hown, hts, ⟨hK, -⟩, hSF⟩ := X
  obtain ⟨⟨L, hL, hP, hD, hRs⟩, hB, hS⟩ := M
  have hm := (hL b).mpr ⟨by omega, by omega⟩
  obtain ⟨q, hq⟩ := va_pl_get (X := []) (f := en T μ) hm
  obtain ⟨q0, hq0⟩ := va_pl_get (X := []) (f := en T μ) ((hL a).mpr ⟨by omega, by omega⟩)
  have hqs := hq
  rw [en_j hb2] at hq
  rw [en_j ha] at hq0
  refine va_copyl hx hb (hml.trans hsz.symm) hown (hts _ hw.1) (hts _ hw.2.1) (hts _ hw.2.2.1) (hts _ hw.2.2.2) hK hP hD hS q0 q 2 2 hq0 hq rfl rfl rfl h1 h2 h3 h4 h5 (fun _ _ => rfl) hframes hlocals hdg fun H1 locs1 hP1 hD1 hS1 => kk _ H1 locs1 rfl ⟨?_, hB, hS1⟩
  refine Rl.store (μ' := cpj μ a sp.toNatClampNeg b dp.toNatClampNeg n.toNatClampNeg) hL hRs (fun _ => rfl) hD hm hqs (fun _ => rfl) ?_ (fun x hx => en_congr rfl rfl rfl (by funext i; simp [aj, cpj, hx]) rfl (fun d => rfl)) hP1 hD1
  rw [en_j (show kd (cpj μ a sp.toNatClampNeg b dp.toNatClampNeg n.toNatClampNeg) b = 103 from hb2)]
  have : aj (cpj μ a sp.toNatClampNeg b dp.toNatClampNeg n.toNatClampNeg) b = va_cpy (aj μ a) (aj μ b) sp.toNatClampNeg dp.toNatClampNeg n.toNatClampNeg := by funext i; simp [aj, cpj]
  rw [this]; rfl
theorem my_cpi (X : CX T B p m c cc nL s args own) (M : MS T B s μ H locs) {index : Nat} (hw : okcp own index) (hsz : ls.size = nL) (ha : kd μ a = 102) (hb2 : kd μ b = 102) {sp dp n : Int32} (h1 : ¬ sp < 0) (h2 : ¬ dp < 0) (h3 : ¬ n < 0) (h4 : sp.toNatClampNeg + n.toNatClampNeg ≤ al μ a) (h5 : dp.toNatClampNeg + n.toNatClampNeg ≤ al μ b)
    (hframes : 1 ≤ R.frames) (hlocals : (rest.map fun v => v.category).sum + (nativeFrameWords "java/lang/System" "arraycopy" 5 + 11) ≤ R.locals) (hdg : decode cc pc = .ok (.invokestatic index, 3))
    (kk : ∀ (μ1 : Mem) (H1 : Heap) (locs1 : List Loc), μ1 = cpi μ a sp.toNatClampNeg b dp.toNatClampNeg n.toNatClampNeg → MS T B s μ1 H1 locs1 → W p l e R s m args below meth c H1 locs1 cells slots Q (F0 m (pc + 3) ls rest)) : W p l e R s m args below meth c H locs cells slots Q (F0 m pc ls (.int n :: .int dp :: .ref b :: .int sp :: .ref a :: rest)) := by
  obtain ⟨hx, hb, hml, hown, hts, ⟨hK, -⟩, hSF⟩ := X
  obtain ⟨⟨L, hL, hP, hD, hRs⟩, hB, hS⟩ := M
  have hm := (hL b).mpr ⟨by omega, by omega⟩
  obtain ⟨q, hq⟩ := va_pl_get (X := []) (f := en T μ) hm
  obtain ⟨q0, hq0⟩ := va_pl_get (X := []) (f := en T μ) ((hL a).mpr ⟨by omega, by omega⟩)
  have hqs := hq
  rw [en_i hb2] at hq
  rw [en_i ha] at hq0
  refine va_copyi hx hb (hml.trans hsz.symm) hown (hts _ hw.1) (hts _ hw.2.1) (hts _ hw.2.2.1) (hts _ hw.2.2.2) hK hP hD hS q0 q 1 1 hq0 hq rfl rfl rfl h1 h2 h3 h4 h5 (fun _ _ => rfl) hframes hlocals hdg fun H1 locs1 hP1 hD1 hS1 => kk _ H1 locs1 rfl ⟨?_, hB, hS1⟩
  refine Rl.store (μ' := cpi μ a sp.toNatClampNeg b dp.toNatClampNeg n.toNatClampNeg) hL hRs (fun _ => rfl) hD hm hqs (fun _ => rfl) ?_ (fun x hx => en_congr rfl rfl (by funext i; simp [ai, cpi, hx]) rfl rfl (fun d => rfl)) hP1 hD1
  rw [en_i (show kd (cpi μ a sp.toNatClampNeg b dp.toNatClampNeg n.toNatClampNeg) b = 102 from hb2)]
  have : ai (cpi μ a sp.toNatClampNeg b dp.toNatClampNeg n.toNatClampNeg) b = va_cpy (ai μ a) (ai μ b) sp.toNatClampNeg dp.toNatClampNeg n.toNatClampNeg := by funext i; simp [ai, cpi]
  rw [this]; rfl
theorem el_any (X : CX T B p m c cc nL s args own) (M : MS T B s μ H locs) {v : Nat} (hv : isEl (kd μ v)) (hca : ∀ C : String, C = RX1 ∨ C = RX3 ∨ C = RX5 ∨ C = RX6 → Cond.castable C "java/lang/Object" ∈ NWl) : va_Any "java/lang/Object" s H v := by
  obtain ⟨hx, hb, hml, hown, hts, ⟨hK, hNw, -⟩, hSF⟩ := X
  obtain ⟨⟨L, hL, hP, hD, hRs⟩, hB, hS⟩ := M
  have hm : v ∈ L := (hL v).mpr (by rcases hv with h | h | h | h <;> exact ⟨by omega, by omega⟩)
  obtain ⟨q, hq⟩ := va_pl_get (X := []) (f := en T μ) hm
  have key : ∀ (ci : Nat) (r : vw_C), kd μ v = ci + 1 → ci < 100 → vwCl[ci]? = some r → Cond.castable r.1 "java/lang/Object" ∈ NWl → va_Any "java/lang/Object" s H v := by
    intro ci r h hci hc hin
    rw [en_o h hci] at hq
    refine va_rAny hK hP hq hc fun comp c0 f1 f2 => ?_
    obtain ⟨c1, t1, g1, g2, g3⟩ := Cond.castable_spec (va_Nw.use (A := args) rfl (hNw _ hin))
    cases f2.symm.trans g1
    cases f1.symm.trans g2
    exact g3
  rcases hv with h | h | h | h
  · exact key 3 _ h (by decide) rfl (hca _ (Or.inl rfl))
  · exact key 5 _ h (by decide) rfl (hca _ (Or.inr (Or.inl rfl)))
  · exact key 7 _ h (by decide) rfl (hca _ (Or.inr (Or.inr (Or.inl rfl))))
  · exact key 8 _ h (by decide) rfl (hca _ (Or.inr (Or.inr (Or.inr rfl))))
theorem el_cast : ∀ C : String, C = RX1 ∨ C = RX3 ∨ C = RX5 ∨ C = RX6 → Cond.castable C "java/lang/Object" ∈ NWl := by
  intro C h
  rcases h with h | h | h | h <;> subst h <;> exact List.mem_filter.mpr ⟨by decide +kernel, by decide +kernel⟩
theorem my_rst (X : CX T B p m c cc nL s args own) (M : MS T B s μ H locs) {v : Nat} (hdg : decode cc pc = .ok (.aastore, 1)) (ha : kd μ a = 105) (hv : isEl (kd μ v)) {i : Int32} (hi : vp_in i (al μ a))
    (kk : ∀ (μ1 : Mem) (H1 : Heap) (locs1 : List Loc), μ1 = sar μ a i.toNatClampNeg (some v) → MS T B s μ1 H1 locs1 → W p l e R s m args below meth c H1 locs1 cells slots Q (F0 m (pc + 1) ls rest)) : W p l e R s m args below meth c H locs cells slots Q (F0 m pc ls (.ref v :: .int i :: .ref a :: rest)) := by
  have hany := el_any X M hv el_cast
  obtain ⟨hx, hb, -, hown, hts, ⟨hK, hNw, -⟩, hSF⟩ := X
  obtain ⟨⟨L, hL, hP, hD, hRs⟩, hB, hS⟩ := M
  have hm := (hL a).mpr ⟨by omega, by omega⟩
  obtain ⟨q, hq⟩ := va_pl_get (X := []) (f := en T μ) hm
  have hq0 := hq
  rw [en_r ha] at hq
  refine va_astqM (E := "java/lang/Object") hx hb hK hP hD hS q 4 hq rfl hany hi hdg fun H1 locs1 hP1 hD1 hS1 => kk _ H1 locs1 rfl ⟨?_, hB, hS1⟩
  refine Rl.store (μ' := sar μ a i.toNatClampNeg (some v)) hL hRs (fun _ => rfl) hD hm hq0 (fun _ => rfl) ?_ (fun b hb => en_congr rfl rfl rfl rfl (sar_o hb) (fun d => fls_sar)) hP1 hD1
  rw [en_r (show kd (sar μ a i.toNatClampNeg (some v)) a = 105 from ha), sar_s]; rfl
theorem my_newR (X : CX T B p m c cc nL s args own) (M : MS T B s μ H locs) {index : Nat} (hlink : Cond.classLink own index "java/lang/Object" ∈ G) (hdg : decode cc pc = .ok (.anewarray index, 3)) {n : Int32} (hn : ¬ n < 0) (h9 : n.toNatClampNeg ≤ 1048576) (h1 : cells + 1 ≤ R.cells) (h2 : slots + n.toNatClampNeg ≤ R.slots)
    (kk : ∀ (q : Nat) (μ1 : Mem) (H1 : Heap), kd μ q = 0 → μ1 = nar μ 105 q n.toNatClampNeg → MS T B s μ1 H1 locs → W p l e R s m args below meth c H1 locs (cells + 1) (slots + n.toNatClampNeg) Q (F0 m (pc + 3) ls (.ref q :: rest))) : W p l e R s m args below meth c H locs cells slots Q (F0 m pc ls (.int n :: rest)) := by
  obtain ⟨hx, hb, -, hown, hts, ⟨hK, -, -, hAO⟩, hSF⟩ := X
  obtain ⟨⟨L, hL, hP, hD, hRs⟩, hB, hS⟩ := M
  refine va_newq hx hb hown (hts _ hlink) hAO hK hP hD hS (fun q h => Nat.le_trans hB h) hn rfl (by omega) h1 h2 hdg fun q cA H1 hK1 hP1 hD1 hS1 => ?_
  have hcA : cA = T.2.2.2.2.2.1 := by
    obtain ⟨_, _, _, _, _, e1⟩ := (hK1.2 5 (cA, .object "java/lang/Object") rfl).2
    obtain ⟨_, _, _, _, _, e2⟩ := (hK.2 4 (T.2.2.2.2.2.1, .object "java/lang/Object") rfl).2
    exact Option.some.inj (e1.symm.trans e2)
  subst hcA
  have hq : q ∉ L := va_pl_fresh2 (X := []) hD1
  have hkq : kd μ q = 0 := Rs.fresh hSF hRs hL hq (vaD_last hD1)
  refine kk q _ H1 hkq rfl ⟨?_, hB, hS1⟩
  have hk1 : kd (nar μ 105 q n.toNatClampNeg) q = 105 := by simp [kd, nar, va_up]
  refine Rl.made (μ' := nar μ 105 q n.toNatClampNeg) hL hRs hkq (fun b hb => by simp [al, nar, va_up, hb]) hq (by decide) (by decide) hk1 (fun b hb => by simp [kd, nar, va_up, hb]) ?_ (fun b hb => nar_en hb) hP1 hD1
  rw [en_r hk1]
  have : ar (nar μ 105 q n.toNatClampNeg) q = fun _ => none := by funext j; simp [ar, nar]
  rw [this]
  simp [al, nar, va_up]
/-- the static empty array of ArrayList -/
theorem my_stE (X : CX T B p m c cc nL s args own) (M : MS T B s μ H locs) {index : Nat} (hlink : Cond.fieldLink own index "java/util/ArrayList" "DEFAULTCAPACITY_EMPTY_ELEMENTDATA" "[Ljava/lang/Object;" ∈ G) (hdg : decode cc pc = .ok (.getstatic index, 3))
    (kk : ∀ q : Nat, kd μ q = 106 → W p l e R s m args below meth c H locs cells slots Q (F0 m (pc + 3) ls (.ref q :: rest))) : W p l e R s m args below meth c H locs cells slots Q (F0 m pc ls rest) := by
  obtain ⟨hx, hb, -, hown, hts, ⟨hK, -⟩, hSF⟩ := X
  obtain ⟨⟨L, hL, hP, hD, hRs⟩, hB, hS⟩ := M
  exact va_gets hx hb (hSF.1 _ List.mem_cons_self) hS hown (hts _ hlink) (fun _ h => h) hdg (kk (st T 0) hRs.2.2.2.2.1)
theorem my_cpr (X : CX T B p m c cc nL s args own) (M : MS T B s μ H locs) {index : Nat} (hw : okcp own index) (hsz : ls.size = nL) (ha : kd μ a = 105) (hb2 : kd μ b = 105) {sp dp n : Int32} (h1 : ¬ sp < 0) (h2 : ¬ dp < 0) (h3 : ¬ n < 0) (h4 : sp.toNatClampNeg + n.toNatClampNeg ≤ al μ a) (h5 : dp.toNatClampNeg + n.toNatClampNeg ≤ al μ b) (t : Nat) (ht : isEl t) (hel : ∀ i y, i < n.toNatClampNeg → ar μ a (sp.toNatClampNeg + i) = some y → kd μ y = t)
    (hframes : 1 ≤ R.frames) (hlocals : (rest.map fun v => v.category).sum + (nativeFrameWords "java/lang/System" "arraycopy" 5 + 11) ≤ R.locals) (hdg : decode cc pc = .ok (.invokestatic index, 3))
    (kk : ∀ (μ1 : Mem) (H1 : Heap) (locs1 : List Loc), μ1 = cpr μ a sp.toNatClampNeg b dp.toNatClampNeg n.toNatClampNeg → MS T B s μ1 H1 locs1 → W p l e R s m args below meth c H1 locs1 cells slots Q (F0 m (pc + 3) ls rest)) : W p l e R s m args below meth c H locs cells slots Q (F0 m pc ls (.int n :: .int dp :: .ref b :: .int sp :: .ref a :: rest)) := by
  have key : ∀ (ci : Nat) (C : String) (F : u_T) (N : Nat), t = ci + 1 → ci < 100 → vwCl[ci]? = some (C, F, N) → Cond.castable C "java/lang/Object" ∈ NWl → W p l e R s m args below meth c H locs cells slots Q (F0 m pc ls (.int n :: .int dp :: .ref b :: .int sp :: .ref a :: rest)) := by
    intro ci C F N htc hci hc hin
    have hrec : ∀ i y, i < n.toNatClampNeg → ar μ a (sp.toNatClampNeg + i) = some y → ∃ cellV : Cell, H[y]? = some cellV ∧ cellV.vm.isStatics = false ∧ s.vm.findClass C = some cellV.cls := fun i y h g => mx_recv X M hc hci (by rw [hel i y h g]; exact htc)
    obtain ⟨hx, hb, hml, hown, hts, ⟨hK, hNw, -⟩, hSF⟩ := X
    obtain ⟨⟨L, hL, hP, hD, hRs⟩, hB, hS⟩ := M
    have hm := (hL b).mpr ⟨by omega, by omega⟩
    obtain ⟨q, hq⟩ := va_pl_get (X := []) (f := en T μ) hm
    obtain ⟨q0, hq0⟩ := va_pl_get (X := []) (f := en T μ) ((hL a).mpr ⟨by omega, by omega⟩)
    have hqs := hq
    rw [en_r hb2] at hq
    rw [en_r ha] at hq0
    refine va_copyq (C := C) hx hb (hml.trans hsz.symm) hown (hts _ hw.1) (hts _ hw.2.1) (hts _ hw.2.2.1) (hts _ hw.2.2.2) hK hP hD hS q0 q 4 4 hq0 hq rfl rfl h1 h2 h3 h4 h5 (fun i h y g => hrec i y h g) (fun comp c0 f1 f2 => ?_) hframes hlocals hdg fun H1 locs1 hP1 hD1 hS1 => kk _ H1 locs1 rfl ⟨?_, hB, hS1⟩
    · obtain ⟨c1, t1, g1, g2, g3⟩ := Cond.castable_spec (va_Nw.use (A := args) rfl (hNw _ hin))
      cases f2.symm.trans g1
      cases f1.symm.trans g2
      exact g3
    · refine Rl.store (μ' := cpr μ a sp.toNatClampNeg b dp.toNatClampNeg n.toNatClampNeg) hL hRs (fun _ => rfl) hD hm hqs (fun _ => rfl) ?_ (fun x hx => en_congr rfl rfl rfl rfl (by funext i; simp [ar, cpr, hx]) (fun d => rfl)) hP1 hD1
      rw [en_r (show kd (cpr μ a sp.toNatClampNeg b dp.toNatClampNeg n.toNatClampNeg) b = 105 from hb2)]
      have : ar (cpr μ a sp.toNatClampNeg b dp.toNatClampNeg n.toNatClampNeg) b = va_cpy (ar μ a) (ar μ b) sp.toNatClampNeg dp.toNatClampNeg n.toNatClampNeg := by funext i; simp [ar, cpr]
      rw [this]; rfl
  rcases ht with h | h | h | h
  · exact key 3 RX1 TX1 7 h (by decide) rfl (el_cast _ (Or.inl rfl))
  · exact key 5 RX3 TX3 7 h (by decide) rfl (el_cast _ (Or.inr (Or.inl rfl)))
  · exact key 7 RX5 TX5 5 h (by decide) rfl (el_cast _ (Or.inr (Or.inr (Or.inl rfl))))
  · exact key 8 RX6 TX6 7 h (by decide) rfl (el_cast _ (Or.inr (Or.inr (Or.inr rfl))))
theorem cln_en {b q x : Nat} (h : x ≠ q) : en T (cln μ b q) x = en T μ x := by
  refine en_congr ?_ ?_ ?_ ?_ ?_ (fun d => rfl)
  · simp [kd, cln, va_up, h]
  · simp [al, cln, va_up, h]
  · funext j; simp [ai, cln, h]
  · funext j; simp [aj, cln, h]
  · funext j; simp [ar, cln, h]
theorem my_clnI (X : CX T B p m c cc nL s args own) (M : MS T B s μ H locs) {index : Nat} (hlink : Cond.methodLink own index ⟨"[I", "clone", "()Ljava/lang/Object;"⟩ ∈ G) (hsame : Cond.sameMethod "[I" "java/lang/Object" "clone" "()Ljava/lang/Object;" ∈ G) (hnat : Cond.native ⟨"java/lang/Object", "clone", "()Ljava/lang/Object;"⟩ ∈ G) (hinst : Cond.instanceMethod ⟨"java/lang/Object", "clone", "()Ljava/lang/Object;"⟩ ∈ G) (hsel : Cond.selects "[I" ⟨"[I", "clone", "()Ljava/lang/Object;"⟩ ⟨"java/lang/Object", "clone", "()Ljava/lang/Object;"⟩ ∈ G) (hcl : Cond.castable "[I" "java/lang/Cloneable" ∈ NWl)
    (hsz : ls.size = nL) (ha : kd μ a = 102) (hframes : 1 ≤ R.frames) (hlocals : (rest.map fun v => v.category).sum + 14 ≤ R.locals) (h1 : cells + 1 ≤ R.cells) (h2 : slots + al μ a ≤ R.slots) (hdg : decode cc pc = .ok (.invokevirtual index, 3))
    (kk : ∀ (q : Nat) (μ1 : Mem) (H1 : Heap), kd μ q = 0 → μ1 = cln μ a q → MS T B s μ1 H1 locs → W p l e R s m args below meth c H1 locs (cells + 1) (slots + al μ a) Q (F0 m (pc + 3) ls (.ref q :: rest))) : W p l e R s m args below meth c H locs cells slots Q (F0 m pc ls (.ref a :: rest)) := by
  obtain ⟨hx, hb, hml, hown, hts, ⟨hK, hNw, -⟩, hSF⟩ := X
  obtain ⟨⟨L, hL, hP, hD, hRs⟩, hB, hS⟩ := M
  obtain ⟨q0, hq0⟩ := va_pl_get (X := []) (f := en T μ) ((hL a).mpr ⟨by omega, by omega⟩)
  rw [en_i ha] at hq0
  refine va_clone (ty := .int) hx hb (hml.trans hsz.symm) hown (hts _ hlink) (hts _ hsame) (hts _ hnat) (hts _ hinst) (hts _ hsel) (hNw _ hcl) hK hP hD hS (fun q h => Nat.le_trans hB h) q0 1 hq0 rfl ((hK.2 1 (T.2.2.1, .int) rfl).2) (fun i v hv => ?_) hframes hlocals h1 h2 hdg fun q H1 hK1 hP1 hD1 hS1 => ?_
  · have hv2 : (arrV T.2.2.1 (al μ a) (fun j => Value.int (ai μ a j))).slots[i]? = some v := hv
    have hlt : i < (arrV T.2.2.1 (al μ a) (fun j => Value.int (ai μ a j))).slots.size := (Array.getElem?_eq_some_iff.mp hv2).1
    rw [arrV_size] at hlt
    rw [arrV_read _ _ hlt] at hv2
    cases hv2
    rfl
  · have hq : q ∉ L := va_pl_fresh2 (X := []) hD1
    have hkq : kd μ q = 0 := Rs.fresh hSF hRs hL hq (vaD_last hD1)
    refine kk q _ H1 hkq rfl ⟨?_, hB, hS1⟩
    have hk1 : kd (cln μ a q) q = 102 := by simp [kd, cln, va_up]; exact ha
    refine Rl.made (μ' := cln μ a q) hL hRs hkq (fun b hb => by simp [al, cln, va_up, hb]) hq (by decide) (by decide) hk1 (fun b hb => by simp [kd, cln, va_up, hb]) ?_ (fun b hb => cln_en hb) hP1 hD1
    rw [en_i hk1]
    have : ai (cln μ a q) q = ai μ a := by funext j; simp [ai, cln]
    rw [this]
    simp [al, cln, va_up]
end JROWS
