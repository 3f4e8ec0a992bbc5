/-! what holds at the law's entry -/
theorem sel_priv {s : State} {args : Array Value} {C : String} {y yl : MethodName} (h1 : (Cond.selects C yl yl).before args s = true) (ec : yl.cls = y.cls) (hy : y.cls ≠ "java/lang/invoke/MethodHandle" ∧ y.cls ≠ "java/lang/invoke/VarHandle") (hpriv : (Cond.privateMethod y).before args s = true) (hinst : (Cond.instanceMethod y).before args s = true) : (Cond.selects C y y).before args s = true := by
  obtain ⟨c, r, m0, hc, hr, hm0, hs, mk, hk, hni⟩ := Cond.selects_spec h1
  obtain ⟨m1, methM, hnamed, hmethM, -, -⟩ := Cond.instanceMethod_spec hinst
  have hfound : s.methodFound? y.cls y.name y.desc = some m1 := State.methodFound?_of_named hnamed hy
  have f0 : s.vm.findClass y.cls = some m0.cls := by rw [← ec]; exact findClass_of_methodNamed hm0
  have hcls : m1.cls = m0.cls := Option.some.inj ((findClass_of_methodNamed hnamed).symm.trans f0)
  have hsel : selectMethod {} s.vm c m1 = .method m1 := selectMethod_private hmethM (Cond.privateMethod_at hpriv m1 methM hnamed hmethM)
  simp only [Cond.before, Cond.holds, Cond.value, hc, hfound, hnamed, hsel, hcls, hk]
  simp [hni]
def ySBl : MethodName := ⟨"java/lang/AbstractStringBuilder", "isLatin1", "()Z"⟩
theorem sw_1 : Cond.selects "java/lang/StringBuilder" ySBl ySBl ∈ lw_tbl ∧ Cond.privateMethod ySBe ∈ lw_tbl ∧ Cond.instanceMethod ySBe ∈ lw_tbl ∧ Cond.privateMethod ySBn ∈ lw_tbl ∧ Cond.instanceMethod ySBn ∈ lw_tbl := by decide +kernel
theorem st_G {s : State} {args : Array Value} (hts : ∀ w ∈ lw_tbl, w.before args s = true) : ∀ w ∈ G, w.before args s = true := fun w hw => by
  obtain ⟨a1, a2, a3, a4, a5⟩ := sw_1
  rcases List.mem_append.mp (List.mem_filter.mp hw).1 with h | h
  · exact hts w h
  · rcases List.mem_cons.mp h with e | h
    · rw [e]; exact sel_priv (hts _ a1) rfl (by decide) (hts _ a2) (hts _ a3)
    rcases List.mem_cons.mp h with e | h
    · rw [e]; exact sel_priv (hts _ a1) rfl (by decide) (hts _ a4) (hts _ a5)
    · exact absurd h (by simp)
theorem st_arr {s : State} {args : Array Value} {ty : FieldType} (h : (Cond.arrayClass ty).before args s = true) : ∃ cA, ArrOfT s cA ty ∧ s.vm.findClass ("[" ++ ty.toString) = some cA := by
  obtain ⟨c, k, comp, h1, h2, h3⟩ := Cond.arrayClass_spec h
  exact ⟨c, fun n z => ⟨fun k h => (by cases h), k, h2, comp, h3⟩, h1⟩
theorem st_obj {s : State} {args : Array Value} (h : (Cond.arrayOver (.object "java/lang/Object")).before args s = true) : ∃ cA, ArrOfT s cA (.object "java/lang/Object") ∧ va_RA s cA (.object "java/lang/Object") := by
  obtain ⟨comp, c, k, h1, h2, h3, h4, h5⟩ := Cond.arrayOver_spec h
  exact ⟨c, fun n z => ⟨fun k h => (by cases h), k, h3, comp, h4⟩, k, comp, h3, h4, h1, h5⟩
theorem sw_2 : Cond.arrayClass .byte ∈ lw_tbl ∧ Cond.arrayClass .int ∈ lw_tbl ∧ Cond.arrayClass .long ∈ lw_tbl ∧ Cond.arrayClass .boolean ∈ lw_tbl ∧ Cond.arrayOver (.object "java/lang/Object") ∈ lw_tbl := by decide +kernel
theorem sw_3 : Cond.instantiable RJ4 4 ∈ lw_tbl ∧ Cond.instantiable RJx4a65c 3 ∈ lw_tbl ∧ Cond.instantiable RX0 7 ∈ lw_tbl ∧ Cond.instantiable RX1 7 ∈ lw_tbl ∧ Cond.instantiable RX2 4 ∈ lw_tbl ∧ Cond.instantiable RX3 7 ∈ lw_tbl ∧ Cond.instantiable RX4 2 ∈ lw_tbl ∧ Cond.instantiable RX5 5 ∈ lw_tbl ∧ Cond.instantiable RX6 7 ∈ lw_tbl ∧ Cond.instantiable RX7 8 ∈ lw_tbl ∧ Cond.instantiable RX8 2 ∈ lw_tbl ∧ Cond.instantiable RX10 6 ∈ lw_tbl ∧ Cond.instantiable RX11 59 ∈ lw_tbl := by decide +kernel
theorem st_D {s : State} {args : Array Value} (hts : ∀ w ∈ lw_tbl, w.before args s = true) : ∃ (dC : Nat → ClassId) (dI : Nat → Nat → Nat), ∀ (k : Nat) (q : vw_C), vwCl[k]? = some q → u_Kn s q.1 q.2.1 q.2.2 (dC k) (dI k) := by
  have hG := st_G hts
  obtain ⟨w0, w1, w2, w3, w4, w5, w6, w7, w8, w9, w10, w11, w12⟩ := sw_3
  obtain ⟨c0, i0, k0⟩ := u_known (C := RJ4) (T := TJ4) (N := 4) (n := 4) hG in_J4 (hts _ w0)
  obtain ⟨c1, i1, k1⟩ := u_known (C := RJx4a65c) (T := TJx4a65c) (N := 3) (n := 3) hG in_Jx4a65c (hts _ w1)
  obtain ⟨c2, i2, k2⟩ := u_known (C := RX0) (T := TX0) (N := 7) (n := 7) hG in_X0 (hts _ w2)
  obtain ⟨c3, i3, k3⟩ := u_known (C := RX1) (T := TX1) (N := 7) (n := 7) hG in_X1 (hts _ w3)
  obtain ⟨c4, i4, k4⟩ := u_known (C := RX2) (T := TX2) (N := 4) (n := 4) hG in_X2 (hts _ w4)
  obtain ⟨c5, i5, k5⟩ := u_known (C := RX3) (T := TX3) (N := 7) (n := 7) hG in_X3 (hts _ w5)
  obtain ⟨c6, i6, k6⟩ := u_known (C := RX4) (T := TX4) (N := 2) (n := 2) hG in_X4 (hts _ w6)
  obtain ⟨c7, i7, k7⟩ := u_known (C := RX5) (T := TX5) (N := 5) (n := 5) hG in_X5 (hts _ w7)
  obtain ⟨c8, i8, k8⟩ := u_known (C := RX6) (T := TX6) (N := 7) (n := 7) hG in_X6 (hts _ w8)
  obtain ⟨c9, i9, k9⟩ := u_known (C := RX7) (T := TX7) (N := 8) (n := 8) hG in_X7 (hts _ w9)
  obtain ⟨c10, i10, k10⟩ := u_known (C := RX8) (T := TX8) (N := 2) (n := 2) hG in_X8 (hts _ w10)
  obtain ⟨c11, i11, k11⟩ := u_known (C := RX10) (T := TX10) (N := 6) (n := 6) hG in_X10 (hts _ w11)
  obtain ⟨c12, i12, k12⟩ := u_known (C := RX11) (T := TX11) (N := 59) (n := 59) hG inX11 (hts _ w12)
  refine ⟨fun k => [c0, c1, c2, c3, c4, c5, c6, c7, c8, c9, c10, c11, c12].getD k 0, fun k => [i0, i1, i2, i3, i4, i5, i6, i7, i8, i9, i10, i11, i12].getD k (fun _ => 0), fun k q hq => ?_⟩
  match k, hq with
  | 0, hq => cases hq; exact k0
  | 1, hq => cases hq; exact k1
  | 2, hq => cases hq; exact k2
  | 3, hq => cases hq; exact k3
  | 4, hq => cases hq; exact k4
  | 5, hq => cases hq; exact k5
  | 6, hq => cases hq; exact k6
  | 7, hq => cases hq; exact k7
  | 8, hq => cases hq; exact k8
  | 9, hq => cases hq; exact k9
  | 10, hq => cases hq; exact k10
  | 11, hq => cases hq; exact k11
  | 12, hq => cases hq; exact k12
  | k + 13, hq => simp [vwCl] at hq
/-- the statement's premises on the start -/
abbrev nar1 : List Cond := flatC (Jvm.Cond.and given_1 narrow_1)
abbrev sE0 : Term := .static "java/util/ArrayList" "DEFAULTCAPACITY_EMPTY_ELEMENTDATA" "[Ljava/lang/Object;"
abbrev sDT : Term := .static "java/lang/Integer" "DigitTens" "[B"
abbrev sDO : Term := .static "java/lang/Integer" "DigitOnes" "[B"
theorem sn_1 : Cond.arrayOf sE0 (.object "java/lang/Object") ∈ nar1 ∧ Cond.eq (.length sE0) (.int 0) ∈ nar1 ∧ Cond.eq (.static "java/lang/String" "COMPACT_STRINGS" "Z") (.int 1) ∈ nar1 ∧ Cond.isRef (.static "jdk/internal/util/Preconditions" "SIOOBE_FORMATTER" "Ljava/util/function/BiFunction;") ∈ nar1 := by decide +kernel
theorem sn_2 : Cond.isRef (.static Bundle.tN "UNASSIGNED_STACK" Bundle.steD) ∈ nar1 ∧ Cond.isRef (.static Bundle.tN "SUPPRESSED_SENTINEL" Bundle.listD) ∈ nar1 ∧ Cond.arrayOf sDT .byte ∈ nar1 ∧ Cond.eq (.length sDT) (.int 100) ∈ nar1 ∧ Cond.arrayOf sDO .byte ∈ nar1 ∧ Cond.eq (.length sDO) (.int 100) ∈ nar1 ∧ Cond.isRef (.mirror "[Ljava/lang/Object;") ∈ nar1 ∧ Cond.exactly (.string RX10 109) "java/lang/String" ∈ nar1 := by decide +kernel
theorem sn_3s : (nar1.drop 121).take 100 = (List.range 100).map (fun j => Cond.eq (.elem sDT (.int (Int32.ofNat j))) (.int (dTens j))) := by decide +kernel
theorem sn_4s : (nar1.drop 18).take 100 = (List.range 100).map (fun j => Cond.eq (.elem sDO (.int (Int32.ofNat j))) (.int (dOnes j))) := by decide +kernel
theorem sn_3 (j : Nat) (hj : j < 100) : Cond.eq (.elem sDT (.int (Int32.ofNat j))) (.int (dTens j)) ∈ nar1 := List.mem_of_mem_drop (List.mem_of_mem_take (by rw [sn_3s]; exact List.mem_map.mpr ⟨j, List.mem_range.mpr hj, rfl⟩))
theorem sn_4 (j : Nat) (hj : j < 100) : Cond.eq (.elem sDO (.int (Int32.ofNat j))) (.int (dOnes j)) ∈ nar1 := List.mem_of_mem_drop (List.mem_of_mem_take (by rw [sn_4s]; exact List.mem_map.mpr ⟨j, List.mem_range.mpr hj, rfl⟩))
theorem sw_4 : Cond.laysStatic "java/lang/String" "COMPACT_STRINGS" "Z" ∈ lw_tbl ∧ Cond.laysStatic "java/util/ArrayList" "DEFAULTCAPACITY_EMPTY_ELEMENTDATA" "[Ljava/lang/Object;" ∈ lw_tbl ∧ Cond.laysStatic "java/lang/Integer" "DigitTens" "[B" ∈ lw_tbl ∧ Cond.laysStatic "java/lang/Integer" "DigitOnes" "[B" ∈ lw_tbl ∧ Cond.laysStatic "jdk/internal/util/Preconditions" "SIOOBE_FORMATTER" "Ljava/util/function/BiFunction;" ∈ lw_tbl := by decide +kernel
theorem sw_5 : Cond.initialized "java/lang/String" ∈ lw_tbl ∧ Cond.initialized "java/util/ArrayList" ∈ lw_tbl ∧ Cond.initialized "java/lang/Integer" ∈ lw_tbl ∧ Cond.initialized "jdk/internal/util/Preconditions" ∈ lw_tbl := by decide +kernel
theorem sw_6 : Cond.stringRef RX10 109 vzT ∈ lw_tbl ∧ Cond.laysStatic Bundle.tN "UNASSIGNED_STACK" Bundle.steD ∈ lw_tbl ∧ Cond.laysStatic Bundle.tN "SUPPRESSED_SENTINEL" Bundle.listD ∈ lw_tbl ∧ Cond.initialized Bundle.tN ∈ lw_tbl := by decide +kernel
theorem isNw_on {w : Cond} (h : isNw w = true) : w.onTables = true := by
  cases w <;> first | exact absurd (show false = true from h) (by decide) | rfl
theorem st_TX {s : State} {args : Array Value} (hts : ∀ w ∈ lw_tbl, w.before args s = true) (hnr : ∀ w ∈ nar1, w.before args s = true) : TXs s.heap.size s s.heap := by
  obtain ⟨a1, a2, a3, a4⟩ := sw_6
  obtain ⟨n1, n2, -, -, -, -, -, n8⟩ := sn_2
  have hA : ∀ a : Nat, a < s.heap.size → ¬ Ai s.heap.size a := fun a h z => absurd (show s.heap.size ≤ a from z) (Nat.not_le.mpr h)
  obtain ⟨a, c, cell, k, h1, -⟩ := Cond.exactly_spec (hnr _ n8)
  exact ⟨⟨a, vk_R.of (hts _ a1) h1⟩, vx_Zqof (hts _ a2) (hts _ a4) (hnr _ n1) hA, vx_Zqof (hts _ a3) (hts _ a4) (hnr _ n2) hA⟩
theorem st_T {s : State} {args : Array Value} (hts : ∀ w ∈ lw_tbl, w.before args s = true) (hnr : ∀ w ∈ nar1, w.before args s = true) : ∃ T : Tb, KK T s ∧ SF T s.heap.size s s.heap ∧ ¬ st T 0 = st T 1 ∧ ¬ st T 0 = st T 2 ∧ ¬ st T 1 = st T 2 := by
  have hA : ∀ a : Nat, a < s.heap.size → ¬ Ai s.heap.size a := fun a h z => absurd (show s.heap.size ≤ a from z) (Nat.not_le.mpr h)
  obtain ⟨a1, a2, a3, a4, a5⟩ := sw_2
  obtain ⟨l1, l2, l3, l4, l5⟩ := sw_4
  obtain ⟨i1, i2, i3, i4⟩ := sw_5
  obtain ⟨m1, m2, m3, m4⟩ := sn_1
  obtain ⟨-, -, n3, n4, n5, n6, n7, -⟩ := sn_2
  obtain ⟨dC, dI, hD⟩ := st_D hts
  obtain ⟨cB, hB, hB'⟩ := st_arr (hts _ a1)
  obtain ⟨cI, hI, hI'⟩ := st_arr (hts _ a2)
  obtain ⟨cJ, hJ, hJ'⟩ := st_arr (hts _ a3)
  obtain ⟨cZ, hZ, hZ'⟩ := st_arr (hts _ a4)
  obtain ⟨cO, hO, hO'⟩ := st_obj (hts _ a5)
  obtain ⟨mi, hmi⟩ := va_Mi.of (hnr _ n7)
  obtain ⟨e0, v0, t0⟩ := va_Tof (N := 0) (f := fun _ => .null) (A := Ai s.heap.size) (by decide) (hnr _ m1) (va_eqt (hnr _ m2)) (fun j hj => absurd hj (Nat.not_lt_zero j)) hA
  obtain ⟨e1, v1, t1⟩ := va_Tof (N := 100) (f := fun i => .int (dTens i)) (A := Ai s.heap.size) (by decide) (hnr _ n3) (va_eqt (hnr _ n4)) (fun j hj => va_eqt (hnr _ (sn_3 j hj))) hA
  obtain ⟨e2, v2, t2⟩ := va_Tof (N := 100) (f := fun i => .int (dOnes i)) (A := Ai s.heap.size) (by decide) (hnr _ n5) (va_eqt (hnr _ n6)) (fun j hj => va_eqt (hnr _ (sn_4 j hj))) hA
  obtain ⟨T, hT⟩ : ∃ T : Tb, T = ((dC, dI), cB, cI, cJ, cZ, cO, fun k => if k = 0 then e0 else if k = 1 then e1 else if k = 2 then e2 else mi) := ⟨_, rfl⟩
  have s0 : st T 0 = e0 := by rw [hT]; rfl
  have s1 : st T 1 = e1 := by rw [hT]; rfl
  have s2 : st T 2 = e2 := by rw [hT]; rfl
  have s3 : st T 3 = mi := by rw [hT]; rfl
  refine ⟨T, ⟨?_, fun w hw => ?_, ?_, va_AO.of (hts _ a5)⟩, ⟨fun q hq => ?_, fun q hq => ?_, va_Zqof (hts _ l5) (hts _ i4) (hnr _ m4) hA⟩, ?_, ?_, ?_⟩
  · rw [hT]
    refine ⟨hD, fun k q hk => ?_⟩
    match k, hk with
    | 0, hk => cases hk; exact ⟨hB, hB'⟩
    | 1, hk => cases hk; exact ⟨hI, hI'⟩
    | 2, hk => cases hk; exact ⟨hJ, hJ'⟩
    | 3, hk => cases hk; exact ⟨hZ, hZ'⟩
    | 4, hk => cases hk; exact ⟨hO, hO'⟩
    | k + 5, hk => simp [tys] at hk
  · obtain ⟨h1, h2⟩ := List.mem_filter.mp hw
    exact va_Nw.of (isNw_on h2) (hts w h1)
  · show va_Mi "[Ljava/lang/Object;" (st T 3) s
    rw [s3]; exact hmi
  · unfold SZ at hq
    rw [s0, s1, s2] at hq
    rcases List.mem_cons.mp hq with e | hq
    · rw [e]; exact va_Zof (hts _ l1) (hts _ i1) (va_eqi (hnr _ m3)) hA
    rcases List.mem_cons.mp hq with e | hq
    · rw [e]; exact va_Zof (hts _ l2) (hts _ i2) v0 hA
    rcases List.mem_cons.mp hq with e | hq
    · rw [e]; exact va_Zof (hts _ l3) (hts _ i3) v1 hA
    rcases List.mem_cons.mp hq with e | hq
    · rw [e]; exact va_Zof (hts _ l4) (hts _ i3) v2 hA
    · exact absurd hq (by simp)
  · unfold ST at hq
    rw [s0, s1, s2] at hq
    rcases List.mem_cons.mp hq with e | hq
    · rw [e]; exact t0
    rcases List.mem_cons.mp hq with e | hq
    · rw [e]; exact t1
    rcases List.mem_cons.mp hq with e | hq
    · rw [e]; exact t2
    · exact absurd hq (by simp)
  · rw [s0, s1]
    intro e
    obtain ⟨x1, y1, ⟨-, k1, z1, c1, w1⟩, -⟩ := t0
    obtain ⟨x2, y2, ⟨-, k2, z2, c2, w2⟩, -⟩ := t1
    rw [e] at y1
    cases Option.some.inj (y1.symm.trans y2)
    cases Option.some.inj (z1.symm.trans z2)
    rw [w1] at w2
    cases w2
  · rw [s0, s2]
    intro e
    obtain ⟨x1, y1, ⟨-, k1, z1, c1, w1⟩, -⟩ := t0
    obtain ⟨x2, y2, ⟨-, k2, z2, c2, w2⟩, -⟩ := t2
    rw [e] at y1
    cases Option.some.inj (y1.symm.trans y2)
    cases Option.some.inj (z1.symm.trans z2)
    rw [w1] at w2
    cases w2
  · rw [s1, s2]
    intro e
    obtain ⟨x1, y1, -, -, -, -, u1, -⟩ := t1
    obtain ⟨x2, y2, -, -, -, -, u2, -⟩ := t2
    rw [e] at y1
    cases Option.some.inj (y1.symm.trans y2)
    have a := u1 1 (by decide)
    have b := u2 1 (by decide)
    rw [a] at b
    have : Value.int (dTens 1) = .int (dOnes 1) := Option.some.inj b
    exact absurd (Value.int.inj this) (by decide)
