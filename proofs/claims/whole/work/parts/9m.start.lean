/-! what holds at the law's entry -/
theorem st_G {s : State} {args : Array Value} (hts : ∀ w ∈ lw_tbl, w.before args s = true) : ∀ w ∈ G, w.before args s = true := fun w hw => by
  rcases List.mem_append.mp (List.mem_filter.mp hw).1 with h | h
  · exact hts w h
  · exact absurd h (by simp [XW])
theorem st_arr {s : State} {args : Array Value} {ty : FieldType} (h : (Cond.arrayClass ty).before args s = true) : ∃ cA, ArrOfT s cA ty ∧ s.vm.findClass ("[" ++ ty.toString) = some cA := by
  obtain ⟨c, k, comp, h1, h2, h3⟩ := Cond.arrayClass_spec h
  exact ⟨c, fun n z => ⟨fun k h => (by cases h), k, h2, comp, h3⟩, h1⟩
theorem st_obj {s : State} {args : Array Value} (h : (Cond.arrayOver (.object "java/lang/Object")).before args s = true) : ∃ cA, ArrOfT s cA (.object "java/lang/Object") ∧ va_RA s cA (.object "java/lang/Object") := by
  obtain ⟨comp, c, k, h1, h2, h3, h4, h5⟩ := Cond.arrayOver_spec h
  exact ⟨c, fun n z => ⟨fun k h => (by cases h), k, h3, comp, h4⟩, k, comp, h3, h4, h1, h5⟩
theorem sw_2 : Cond.arrayClass .char ∈ lw_tbl ∧ Cond.arrayClass .int ∈ lw_tbl ∧ Cond.arrayClass .long ∈ lw_tbl ∧ Cond.arrayClass .boolean ∈ lw_tbl ∧ Cond.arrayOver (.object "java/lang/Object") ∈ lw_tbl := by decide +kernel
theorem sw_3 : Cond.instantiable RJx4a65c 3 ∈ lw_tbl ∧ Cond.instantiable RX0 7 ∈ lw_tbl ∧ Cond.instantiable RX1 7 ∈ lw_tbl ∧ Cond.instantiable RX2 4 ∈ lw_tbl ∧ Cond.instantiable RX3 7 ∈ lw_tbl ∧ Cond.instantiable RX4 2 ∈ lw_tbl ∧ Cond.instantiable RX5 5 ∈ lw_tbl ∧ Cond.instantiable RX6 7 ∈ lw_tbl ∧ Cond.instantiable RX7 8 ∈ lw_tbl ∧ Cond.instantiable RX8 4 ∈ lw_tbl ∧ Cond.instantiable RX10 6 ∈ lw_tbl ∧ Cond.instantiable RX11 59 ∈ lw_tbl := by decide +kernel
theorem st_D {s : State} {args : Array Value} (hts : ∀ w ∈ lw_tbl, w.before args s = true) : ∃ (dC : Nat → ClassId) (dI : Nat → Nat → Nat), ∀ (k : Nat) (q : vw_C), vwCl[k]? = some q → u_Kn s q.1 q.2.1 q.2.2 (dC k) (dI k) := by
  have hG := st_G hts
  obtain ⟨w1, w2, w3, w4, w5, w6, w7, w8, w9, w10, w11, w12⟩ := sw_3
  obtain ⟨c1, i1, k1⟩ := u_known (C := RJx4a65c) (T := TJx4a65c) (N := 3) (n := 3) hG in_Jx4a65c (hts _ w1)
  obtain ⟨c2, i2, k2⟩ := u_known (C := RX0) (T := TX0) (N := 7) (n := 7) hG in_X0 (hts _ w2)
  obtain ⟨c3, i3, k3⟩ := u_known (C := RX1) (T := TX1) (N := 7) (n := 7) hG in_X1 (hts _ w3)
  obtain ⟨c4, i4, k4⟩ := u_known (C := RX2) (T := TX2) (N := 4) (n := 4) hG in_X2 (hts _ w4)
  obtain ⟨c5, i5, k5⟩ := u_known (C := RX3) (T := TX3) (N := 7) (n := 7) hG in_X3 (hts _ w5)
  obtain ⟨c6, i6, k6⟩ := u_known (C := RX4) (T := TX4) (N := 2) (n := 2) hG in_X4 (hts _ w6)
  obtain ⟨c7, i7, k7⟩ := u_known (C := RX5) (T := TX5) (N := 5) (n := 5) hG in_X5 (hts _ w7)
  obtain ⟨c8, i8, k8⟩ := u_known (C := RX6) (T := TX6) (N := 7) (n := 7) hG in_X6 (hts _ w8)
  obtain ⟨c9, i9, k9⟩ := u_known (C := RX7) (T := TX7) (N := 8) (n := 8) hG in_X7 (hts _ w9)
  obtain ⟨c10, i10, k10⟩ := u_known (C := RX8) (T := TX8) (N := 4) (n := 4) hG in_X8 (hts _ w10)
  obtain ⟨c11, i11, k11⟩ := u_known (C := RX10) (T := TX10) (N := 6) (n := 6) hG in_X10 (hts _ w11)
  obtain ⟨c12, i12, k12⟩ := u_known (C := RX11) (T := TX11) (N := 59) (n := 59) hG inX11 (hts _ w12)
  refine ⟨fun k => [c1, c1, c2, c3, c4, c5, c6, c7, c8, c9, c10, c11, c12].getD k 0, fun k => [i1, i1, i2, i3, i4, i5, i6, i7, i8, i9, i10, i11, i12].getD k (fun _ => 0), fun k q hq => ?_⟩
  match k, hq with
  | 0, hq => cases hq; exact k1
  | 1, hq => cases hq; exact k1
  | 2, hq => cases hq; exact k2
  | 3, hq => cases hq; exact k3
  | 4, hq => cases hq; exact k4
  | 5, hq => cases hq; exact k5
  | 6, hq => cases hq; exact k6
  | 7, hq => cases hq; exact k7
  | 8, hq => cases hq; exact k8
  | 9, hq => cases hq; exact k9
  | 10, hq => cases hq; exact k10
  | 11, hq => cases hq; exact k11
  | 12, hq => cases hq; exact k12
  | k + 13, hq => simp [vwCl] at hq
/-- the statement's premises on the start -/
abbrev nar1 : List Cond := flatC (Jvm.Cond.and given_1 narrow_1)
abbrev sE0 : Term := .static "java/util/ArrayList" "DEFAULTCAPACITY_EMPTY_ELEMENTDATA" "[Ljava/lang/Object;"
abbrev sVB : Term := .field (.string RX10 109) "java/lang/String" "value" "[B"
theorem sn_1 : Cond.arrayOf sE0 (.object "java/lang/Object") ∈ nar1 ∧ Cond.eq (.length sE0) (.int 0) ∈ nar1 ∧ Cond.arrayOf sVB .byte ∈ nar1 ∧ Cond.eq (.length sVB) (.int 25) ∈ nar1 := by decide +kernel
theorem sn_2 : Cond.isRef (.static Bundle.tN "UNASSIGNED_STACK" Bundle.steD) ∈ nar1 ∧ Cond.isRef (.static Bundle.tN "SUPPRESSED_SENTINEL" Bundle.listD) ∈ nar1 ∧ Cond.isRef (.mirror "[Ljava/lang/Object;") ∈ nar1 ∧ Cond.exactly (.string RX10 109) "java/lang/String" ∈ nar1 := by decide +kernel
theorem sw_4 : Cond.laysStatic "java/util/ArrayList" "DEFAULTCAPACITY_EMPTY_ELEMENTDATA" "[Ljava/lang/Object;" ∈ lw_tbl ∧ Cond.initialized "java/util/ArrayList" ∈ lw_tbl := by decide +kernel
theorem sw_6 : Cond.stringRef RX10 109 vzT ∈ lw_tbl ∧ Cond.laysStatic Bundle.tN "UNASSIGNED_STACK" Bundle.steD ∈ lw_tbl ∧ Cond.laysStatic Bundle.tN "SUPPRESSED_SENTINEL" Bundle.listD ∈ lw_tbl ∧ Cond.initialized Bundle.tN ∈ lw_tbl := by decide +kernel
theorem isNw_on {w : Cond} (h : isNw w = true) : w.onTables = true := by
  cases w <;> first | exact absurd (show false = true from h) (by decide) | rfl
theorem st_TX {s : State} {args : Array Value} (hts : ∀ w ∈ lw_tbl, w.before args s = true) (hnr : ∀ w ∈ nar1, w.before args s = true) : TXs s.heap.size s s.heap := by
  obtain ⟨a1, a2, a3, a4⟩ := sw_6
  obtain ⟨n1, n2, -, n8⟩ := sn_2
  have hA : ∀ a : Nat, a < s.heap.size → ¬ Ai s.heap.size a := fun a h z => absurd (show s.heap.size ≤ a from z) (Nat.not_le.mpr h)
  obtain ⟨a, c, cell, k, h1, -⟩ := Cond.exactly_spec (hnr _ n8)
  exact ⟨⟨a, vk_R.of (hts _ a1) h1⟩, vx_Zqof (hts _ a2) (hts _ a4) (hnr _ n1) hA, vx_Zqof (hts _ a3) (hts _ a4) (hnr _ n2) hA⟩
/-- an array whose length the premises tell -/
theorem st_ar {s : State} {args : Array Value} {tm : Term} {ty : FieldType} {N : Int32} (harr : (Cond.arrayOf tm ty).before args s = true) (hlen : (Term.length tm).eval args s none [] s = some (.int N)) : ∃ (t : Nat) (cell : Cell), s.heap[t]? = some cell ∧ s.isArrayOf cell ty := by
  obtain ⟨t, cell, ht, hat, -⟩ := Term.length_spec hlen
  obtain ⟨hcell, -⟩ := State.arrayAt?_spec hat
  exact ⟨t, cell, hcell, (Cond.arrayOf_spec harr ht hcell).1⟩
theorem st_ne {s : State} {a b : Nat} {ca cb : Cell} {ta tb : FieldType} (ha : s.heap[a]? = some ca) (hb : s.heap[b]? = some cb) (ia : s.isArrayOf ca ta) (ib : s.isArrayOf cb tb) (h : ta ≠ tb) : ¬ a = b := by
  intro e
  rw [e] at ha
  cases Option.some.inj (ha.symm.trans hb)
  obtain ⟨-, k1, z1, c1, w1⟩ := ia
  obtain ⟨-, k2, z2, c2, w2⟩ := ib
  cases Option.some.inj (z1.symm.trans z2)
  rw [w1] at w2
  cases w2
  exact h rfl
theorem st_T {s : State} {args : Array Value} {b L : Nat} {xs : Nat → Int32} (hts : ∀ w ∈ lw_tbl, w.before args s = true) (hnr : ∀ w ∈ nar1, w.before args s = true) (hX : va_X b L xs s s.heap) (hbl : b < s.heap.size) : ∃ T : Tb, KK T s ∧ SF T s.heap.size s s.heap ∧ ¬ st T 0 = st T 1 ∧ ¬ st T 0 = st T 2 ∧ ¬ st T 1 = st T 2 := by
  have hA : ∀ a : Nat, a < s.heap.size → ¬ Ai s.heap.size a := fun a h z => absurd (show s.heap.size ≤ a from z) (Nat.not_le.mpr h)
  obtain ⟨a1, a2, a3, a4, a5⟩ := sw_2
  obtain ⟨l2, i2⟩ := sw_4
  obtain ⟨m1, m2, m3, m4⟩ := sn_1
  obtain ⟨-, -, n7, -⟩ := sn_2
  obtain ⟨dC, dI, hD⟩ := st_D hts
  obtain ⟨cB, hB, hB'⟩ := st_arr (hts _ a1)
  obtain ⟨cI, hI, hI'⟩ := st_arr (hts _ a2)
  obtain ⟨cJ, hJ, hJ'⟩ := st_arr (hts _ a3)
  obtain ⟨cZ, hZ, hZ'⟩ := st_arr (hts _ a4)
  obtain ⟨cO, hO, hO'⟩ := st_obj (hts _ a5)
  obtain ⟨mi, hmi⟩ := va_Mi.of (hnr _ n7)
  obtain ⟨e0, v0, t0⟩ := va_Tof (N := 0) (f := fun _ => .null) (A := Ai s.heap.size) (by decide) (hnr _ m1) (va_eqt (hnr _ m2)) (fun j hj => absurd hj (Nat.not_lt_zero j)) hA
  obtain ⟨x0, y0, z0, -⟩ := id t0
  obtain ⟨x1, y1, z1, -⟩ := hX
  obtain ⟨e2, x2, y2, z2⟩ := st_ar (hnr _ m3) (va_eqt (hnr _ m4))
  obtain ⟨T, hT⟩ : ∃ T : Tb, T = ((dC, dI), cB, cI, cJ, cZ, cO, fun k => if k = 0 then e0 else if k = 1 then b else if k = 2 then e2 else mi) := ⟨_, rfl⟩
  have s0 : st T 0 = e0 := by rw [hT]; rfl
  have s1 : st T 1 = b := by rw [hT]; rfl
  have s2 : st T 2 = e2 := by rw [hT]; rfl
  have s3 : st T 3 = mi := by rw [hT]; rfl
  refine ⟨T, ⟨?_, fun w hw => ?_, ?_, va_AO.of (hts _ a5)⟩, ⟨fun q hq => ?_, fun q hq => ?_, by rw [s1]; exact hA b hbl, by rw [s2]; exact hA e2 (Array.getElem?_eq_some_iff.mp y2).1⟩, ?_, ?_, ?_⟩
  · rw [hT]
    refine ⟨hD, fun k q hk => ?_⟩
    match k, hk with
    | 0, hk => cases hk; exact ⟨hB, hB'⟩
    | 1, hk => cases hk; exact ⟨hI, hI'⟩
    | 2, hk => cases hk; exact ⟨hJ, hJ'⟩
    | 3, hk => cases hk; exact ⟨hZ, hZ'⟩
    | 4, hk => cases hk; exact ⟨hO, hO'⟩
    | k + 5, hk => simp [tys] at hk
  · obtain ⟨h1, h2⟩ := List.mem_filter.mp hw
    exact va_Nw.of (isNw_on h2) (hts w h1)
  · show va_Mi "[Ljava/lang/Object;" (st T 3) s
    rw [s3]; exact hmi
  · unfold SZ at hq
    rw [s0] at hq
    rcases List.mem_cons.mp hq with e | hq
    · rw [e]; exact va_Zof (hts _ l2) (hts _ i2) v0 hA
    · exact absurd hq (by simp)
  · unfold ST at hq
    rw [s0] at hq
    rcases List.mem_cons.mp hq with e | hq
    · rw [e]; exact t0
    · exact absurd hq (by simp)
  · rw [s0, s1]
    exact st_ne y0 y1 z0 z1 (by decide)
  · rw [s0, s2]
    exact st_ne y0 y2 z0 z2 (by decide)
  · rw [s1, s2]
    exact st_ne y1 y2 z1 z2 (by decide)
