/-! the class's tell: it answers, or throws -/
theorem kw_849 : Cond.methodLink "RedoMachine" 104 ⟨"RedoMachine$Engine", "hasOut", "(I)Z"⟩ ∈ G := inG 849 (by decide +kernel) (by decide +kernel)
theorem kw_919 : Cond.methodLink "RedoMachine" 114 ⟨"RedoMachine$Engine", "outValue", "(I)J"⟩ ∈ G := inG 919 (by decide +kernel) (by decide +kernel)
theorem kw_922 : Cond.code ⟨"RedoMachine$Engine", "outValue", "(I)J"⟩ prog_2_method_6_code 2 (Option.some FieldType.long) ∈ G := inG 922 (by decide +kernel) (by decide +kernel)
theorem kw_920 : Cond.instanceMethod ⟨"RedoMachine$Engine", "outValue", "(I)J"⟩ ∈ G := inG 920 (by decide +kernel) (by decide +kernel)
theorem kw_921 : Cond.selects "RedoMachine$Engine" ⟨"RedoMachine$Engine", "outValue", "(I)J"⟩ ⟨"RedoMachine$Engine", "outValue", "(I)J"⟩ ∈ G := inG 921 (by decide +kernel) (by decide +kernel)
theorem kw_205 : Cond.fieldLink "RedoMachine" 118 "RedoMachine$Engine" "heap" "LRedoMachine$Heap;" ∈ G := inG 205 (by decide +kernel) (by decide +kernel)
theorem kw_924 : Cond.methodLink "RedoMachine" 122 ⟨"RedoMachine$Text", "write", "(JLRedoMachine$Heap;)I"⟩ ∈ G := inG 924 (by decide +kernel) (by decide +kernel)
theorem kw_927 : Cond.code ⟨"RedoMachine$Text", "write", "(JLRedoMachine$Heap;)I"⟩ prog_10_method_2_code 5 (Option.some FieldType.int) ∈ G := inG 927 (by decide +kernel) (by decide +kernel)
theorem kw_925 : Cond.instanceMethod ⟨"RedoMachine$Text", "write", "(JLRedoMachine$Heap;)I"⟩ ∈ G := inG 925 (by decide +kernel) (by decide +kernel)
theorem kw_926 : Cond.selects "RedoMachine$Text" ⟨"RedoMachine$Text", "write", "(JLRedoMachine$Heap;)I"⟩ ⟨"RedoMachine$Text", "write", "(JLRedoMachine$Heap;)I"⟩ ∈ G := inG 926 (by decide +kernel) (by decide +kernel)
abbrev vzE : String := "java/util/NoSuchElementException"
abbrev vzT : String := "no such OUT of a SOLUTION"
abbrev vzB : ByteArray := ⟨#[42, 43, 183, 0, 13, 177]⟩
abbrev vzL : List Cond := (vzO RX10 111 vzE 13 vzB "java/lang/RuntimeException" ["java/lang/Exception"]).filter vx_no
theorem vz_w1 : ∀ w ∈ vzL.filter goodWord, w ∈ lw_tbl := by decide +kernel
theorem vz_w2 : ∀ w ∈ vzL.filter (fun w => !goodWord w), w ∈ lw_tbl ∧ isNw w = true ∧ w.onTables = true := by decide +kernel
theorem vz_w3 : ∀ w ∈ Cond.classLink RX10 107 vzE :: Cond.initialized vzE :: vzL, vx_ot w = true := by decide +kernel
theorem vz_w4 : Cond.classLink RX10 107 vzE ∈ G := List.mem_filter.mpr ⟨List.mem_append_left _ (by decide +kernel), by decide +kernel⟩
theorem vz_w5 : Cond.initialized vzE ∈ G := List.mem_filter.mpr ⟨List.mem_append_left _ (by decide +kernel), by decide +kernel⟩
theorem vz_words {T : Tb} {B : Nat} {p : Program} {m : MethodId} {c : Code} {cc : ByteArray} {nL : Nat} {s : State} {args : Array Value} {own : String} (X : CX T B p m c cc nL s args own) : ∀ w ∈ vzL, w.before args s = true := fun w hw => by
  by_cases g : goodWord w = true
  · exact X.2.2.2.2.1 w (List.mem_filter.mpr ⟨List.mem_append_left _ (vz_w1 w (List.mem_filter.mpr ⟨hw, g⟩)), g⟩)
  · obtain ⟨h1, h2, h3⟩ := vz_w2 w (List.mem_filter.mpr ⟨hw, by cases hg : goodWord w; rfl; exact absurd hg g⟩)
    exact va_Nw.use h3 (X.2.2.2.2.2.1.2.1 w (List.mem_filter.mpr ⟨h1, h2⟩))
theorem Rl.grow {T : Tb} {B : Nat} {μ : Mem} {H H1 : Heap} (h : Rl T B μ H) (hq : ∀ q : Nat, q < H.size → H1[q]? = H[q]?) : Rl T B μ H1 := by
  obtain ⟨L, h1, h2, h3, h4⟩ := h
  exact ⟨L, h1, h2.kept (fun k q hk => hq q.1 (vx_lt h2 hk)), h3, h4⟩
/-- what a throw wants of the state -/
def TXs (B : Nat) (U : State) (H : Heap) : Prop := (∃ sa, vk_R RX10 109 vzT sa U) ∧ vx_Zq Bundle.tN "UNASSIGNED_STACK" Bundle.steD (Ai B) U H ∧ vx_Zq Bundle.tN "SUPPRESSED_SENTINEL" Bundle.listD (Ai B) U H
theorem TXs.same {B : Nat} {u U : State} {H : Heap} (h : TXs B u H) (hv : U.vm = u.vm) : TXs B U H := by
  obtain ⟨⟨sa, h1⟩, h2, h3⟩ := h
  have ha : u.vm.Alike U.vm := by rw [hv]; exact Vm.Alike.refl _
  exact ⟨⟨sa, vk_R.same hv h1⟩, h2.moved ha, h3.moved ha⟩
theorem TXs.warm {B : Nat} {s U : State} {H : Heap} (h : TXs B s H) (hW : s.WarmedH U.vm) : TXs B U H := by
  obtain ⟨⟨sa, h1⟩, h2, h3⟩ := h
  exact ⟨⟨sa, vk_R.warm hW h1⟩, h2.moved hW.alike, h3.moved hW.alike⟩
theorem TXs.kept {B : Nat} {U : State} {H H1 : Heap} (h : TXs B U H) (hq : ∀ a : Nat, a < H.size → ¬ Ai B a → H1[a]? = H[a]?) : TXs B U H1 := ⟨h.1, h.2.1.kept hq, h.2.2.kept hq⟩
abbrev Px (T : Tb) (B : Nat) (μ : Mem) (As : List Value) : Array Value → State → Prop := va_Pc As (fun U => Rl T B μ U.heap ∧ B ≤ U.heap.size ∧ KK T U ∧ SF T B U U.heap ∧ TXs B U U.heap)
theorem Px.blind {T : Tb} {B : Nat} {μ : Mem} {As : List Value} : FrameBlind (Px T B μ As) := fun a U g mk q => by
  obtain ⟨q0, q1, q2, q3, q4, q5⟩ := q
  exact ⟨q0, q1, q2, KK.alike (V := U.calling g mk a) q3 rfl, SF.moved (U := U.calling g mk a) (Vm.Alike.refl U.vm) q4, TXs.same (U := U.calling g mk a) q5 rfl⟩
theorem Px.pre {T : Tb} {B : Nat} {p : Program} {m : MethodId} {c : Code} {cc : ByteArray} {nL : Nat} {s : State} {args : Array Value} {own : String} {μ : Mem} {H : Heap} {locs : List Loc} {As : List Value} (X : CX T B p m c cc nL s args own) (hT : TXs B s s.heap) (M : MS T B s μ H locs) : ∀ U : State, U.heap = H → s.WarmedH U.vm → Px T B μ As As.toArray U := fun U hU hW => by
  obtain ⟨-, -, -, -, -, hK, hF⟩ := X
  refine ⟨rfl, by rw [hU]; exact M.1, by rw [hU]; exact Nat.le_trans M.2.1 M.2.2.1, hK.warm hW, ?_, ?_⟩
  · rw [hU]
    exact SF.moved hW.alike (hF.kept (fun a h1 h2 => M.2.2.2.1 a h1 h2))
  · rw [hU]
    exact (hT.warm hW).kept (fun a h1 h2 => M.2.2.2.1 a h1 h2)
theorem mv_of {l : Launch} {y : MethodName} {cc : ByteArray} {nL : Nat} {ret : Option FieldType} {rm : Room} {Qc : Array Value → State → Outcome → State → Prop} {XC : String → State → State → Prop} {mc ms : Nat} {T : Tb} {B : Nat} {μ : Mem} {As : List Value} (own : String) (ho : y.cls = own) (hy : plainName y.cls = true) (hlen : (lg_sl As).length ≤ nL)
    (body : ∀ (p : Program) (e : Env) (s : State) (m : MethodId) (below : List Frame) (meth : Method) (c : Code), CX T B p m c cc nL s As.toArray own → meth.sig.returnType = ret → meth.locks = false → (∀ x ∈ c.exceptionTable.toList, False) → MS T B s μ s.heap [] → TXs B s s.heap → ∀ ls : Array Slot, lv_has ls nL (lv_args 0 As) →
      W p l e rm s m As.toArray below meth c s.heap [] 0 0 (vx_MQ below Qc XC As.toArray s mc ms (Ai B)) (F0 m 0 ls [])) : vx_Met l y (.code y cc nL ret :: G) rm (Px T B μ As) Qc XC mc ms (Ai B) := by
  refine vx_ofW (cc := cc) (maxL := nL) (ret := ret) hy rfl ?_
  intro p e s m args below meth c s₁ Y hml hno hv
  obtain ⟨rfl, hR, hB, hK, hF, hT⟩ := hv
  have hts := atoms_spec (ws := Cond.code y cc nL ret :: G) Y.pre
  have hown : s.vm.findClass own = some m.cls := by rw [← ho]; exact findClass_of_methodNamed Y.named
  have hl := lv_entry As (n := nL) hlen
  rw [lg_entry_eq]
  exact body p e s m below meth c ⟨Y.exec, Y.bytes, hml, hown, fun w hw => hts w (List.mem_cons_of_mem _ hw), hK, hF⟩ Y.returns Y.notSynchronized hno ⟨hR, hB, va_S.rf⟩ hT _ hl
abbrev rm_X10_tell (c z : Nat) : Room := { frames := 9, cells := c, slots := z, locals := 198 }
def wp_X10_tell (c z : Nat) (μ : Mem) (o : Nat) (a1 : Int32) (post : Int32 → Mem → Prop) (postX : Mem → Prop) : Prop :=
  kd μ o = 12 ∧
  ∃ x2, fr μ 11 4 o = some x2 ∧
  kd μ x2 = 3 ∧
  wp_X0_hasOut μ x2 a1 (fun (r5 : Int32) (μ3 : Mem) =>
  KM μ μ3 →
  (r5 = 0 →
   1 ≤ c ∧ 6 ≤ z ∧ postX μ3) ∧ (¬ r5 = 0 →
   ∃ x9, fr μ3 11 5 o = some x9 ∧
   ∃ x10, fr μ3 11 4 o = some x10 ∧
   kd μ3 x10 = 3 ∧
   wp_X0_outValue μ3 x10 a1 (fun (r13 : Int64) (μ11 : Mem) =>
   KM μ3 μ11 →
   ∃ x17, fr μ11 11 4 o = some x17 ∧
   kd μ11 x17 = 3 ∧
   ∃ x19, fr μ11 2 1 x17 = some x19 ∧
   kd μ11 x9 = 11 ∧
   ∃ c21 z22, c21 ≤ c ∧ z22 ≤ z ∧
   wp_X8_write c21 z22 μ11 x9 r13 x19 (fun (r24 : Int32) (μ20 : Mem) =>
   KM μ11 μ20 →
   post r24 μ20))))
set_option maxRecDepth 100000 in
set_option maxHeartbeats 4000000 in
theorem c_X10_tell (l : Launch) (hst : l.stackTraces = false) (T : Tb) (B : Nat) (c z : Nat) (μ : Mem) (o : Nat) (a1 : Int32) (post : Int32 → Mem → Prop) (postX : Mem → Prop) (hw : wp_X10_tell c z μ o a1 post postX) : vx_Met l yX10_tell (.code yX10_tell cX10_tell 2 (some .int) :: G) (rm_X10_tell c z) (Px T B μ [.ref o, .int a1]) (va_Qi (fun r9 μ9 => post r9 μ9 ∧ KM μ μ9) (Bm (Rl T B)) (Ai B)) (vx_X (fun μ9 => postX μ9 ∧ KM μ μ9) (fun E μ9 t => E = vzE ∧ Rl T B μ9 t.heap) (Ai B)) c z (Ai B) := by
  refine mv_of RX10 rfl (by decide) (Nat.le_of_ble_eq_true rfl) ?_
  intro p e s m below meth c0 X hr hk hno M hTX ls hl
  have hl : lv_has ls 2 [(0, .ref o), (1, .int a1)] := hl
  unfold wp_X10_tell at hw
  have hKM : KM μ μ := KM.rf μ
  have hc : 0 + c ≤ c := by omega
  have hz : 0 + z ≤ z := by omega
  refine lv_aload_n X.1 X.2.1 dX10_tell_0 rfl (lv_at hl 0 rfl) ?_
  obtain ⟨hk1, hw⟩ := hw
  obtain ⟨x2, ex2, hw⟩ := hw
  refine mx_getr (C := RX10) (F := TX10) (N := 6) (ci := 11) X M 4 rfl in_X10 (by decide) rfl (by decide) kw_252 dX10_tell_1 hk1 ?_
  rw [ex2]
  refine lv_iload_n X.1 X.2.1 dX10_tell_4 rfl (lv_at hl 1 rfl) ?_
  obtain ⟨hk6, hw⟩ := hw
  have hw4 := hw
  clear hw
  refine mx_ci M (mx_runV (n := 1) (As := [.int a1]) (rest := []) X M (c_X0_hasOut l T B μ x2 a1 _ hw4) (mx_recv (C := RX0) (F := TX0) (N := 7) (ci := 2) X M rfl (by decide) hk6) kw_849 kw_850 kw_851 kw_69 kw_852 (by decide +kernel) rfl rfl ⟨Nat.le_of_ble_eq_true rfl, Nat.le_of_ble_eq_true rfl⟩ rfl hl.1 (Nat.le_of_ble_eq_true rfl) dX10_tell_5 ⟨(show 0 + 0 ≤ c by omega), (show 0 + 0 ≤ z by omega)⟩) (fun r5 μ3 H locs ⟨hw, hKM3⟩ M => ?_)
  replace hw := hw hKM3
  have hKM3_ := hKM.tr hKM3
  have hk7 := hKM3.at hk1
  have hk8 := hKM3.at hk6
  have hc : (0 + 0) + (c) ≤ c := by omega
  have hz : (0 + 0) + (z) ≤ z := by omega
  obtain ⟨hwf, hwt⟩ := hw
  refine lv_if_ne (tgt := 21) X.1 X.2.1 dX10_tell_8 (by decide) (fun hq => ?_) (fun hq => ?_)
  · have hw := hwt hq
    refine lv_aload_n X.1 X.2.1 dX10_tell_21 rfl (lv_at hl 0 rfl) ?_
    obtain ⟨x9, ex9, hw⟩ := hw
    refine mx_getr (C := RX10) (F := TX10) (N := 6) (ci := 11) X M 5 rfl in_X10 (by decide) rfl (by decide) kw_253 dX10_tell_22 hk7 ?_
    rw [ex9]
    refine lv_aload_n X.1 X.2.1 dX10_tell_25 rfl (lv_at hl 0 rfl) ?_
    obtain ⟨x10, ex10, hw⟩ := hw
    refine mx_getr (C := RX10) (F := TX10) (N := 6) (ci := 11) X M 4 rfl in_X10 (by decide) rfl (by decide) kw_252 dX10_tell_26 hk7 ?_
    rw [ex10]
    refine lv_iload_n X.1 X.2.1 dX10_tell_29 rfl (lv_at hl 1 rfl) ?_
    obtain ⟨hk14, hw⟩ := hw
    have hw12 := hw
    clear hw
    refine mx_cl M (mx_runV (n := 1) (As := [.int a1]) (rest := [.ref x9]) X M (c_X0_outValue l T B μ3 x10 a1 _ hw12) (mx_recv (C := RX0) (F := TX0) (N := 7) (ci := 2) X M rfl (by decide) hk14) kw_919 kw_920 kw_921 kw_69 kw_922 (by decide +kernel) rfl rfl ⟨Nat.le_of_ble_eq_true rfl, Nat.le_of_ble_eq_true rfl⟩ rfl hl.1 (Nat.le_of_ble_eq_true rfl) dX10_tell_30 ⟨(show (0 + 0) + 0 ≤ c by omega), (show (0 + 0) + 0 ≤ z by omega)⟩) (fun r13 μ11 H locs ⟨hw, hKM11⟩ M => ?_)
    replace hw := hw hKM11
    have hKM11_ := hKM3_.tr hKM11
    have hk15 := hKM11.at hk7
    have hk16 := hKM11.at hk14
    have hc : ((0 + 0) + 0) + (c) ≤ c := by omega
    have hz : ((0 + 0) + 0) + (z) ≤ z := by omega
    refine lv_aload_n X.1 X.2.1 dX10_tell_33 rfl (lv_at hl 0 rfl) ?_
    obtain ⟨x17, ex17, hw⟩ := hw
    refine mx_getr (C := RX10) (F := TX10) (N := 6) (ci := 11) X M 4 rfl in_X10 (by decide) rfl (by decide) kw_252 dX10_tell_34 hk15 ?_
    rw [ex17]
    obtain ⟨hk18, hw⟩ := hw
    obtain ⟨x19, ex19, hw⟩ := hw
    refine mx_getr (C := RX0) (F := TX0) (N := 7) (ci := 2) X M 1 rfl in_X0 (by decide) rfl (by decide) kw_205 dX10_tell_37 hk18 ?_
    rw [ex19]
    obtain ⟨hk25, hw⟩ := hw
    obtain ⟨c21, z22, hc21, hz22, hw⟩ := hw
    have hw23 := hw
    clear hw
    refine mx_ci M (mx_runV (n := 2) (As := [.long r13, .ref x19]) (rest := []) X M (c_X8_write l T B c21 z22 μ11 x9 r13 x19 _ hw23) (mx_recv (C := RX8) (F := TX8) (N := 4) (ci := 10) X M rfl (by decide) hk25) kw_924 kw_925 kw_926 kw_73 kw_927 (by decide +kernel) rfl rfl ⟨Nat.le_of_ble_eq_true rfl, Nat.le_of_ble_eq_true rfl⟩ rfl hl.1 (Nat.le_of_ble_eq_true rfl) dX10_tell_40 ⟨(show ((0 + 0) + 0) + c21 ≤ c by omega), (show ((0 + 0) + 0) + z22 ≤ z by omega)⟩) (fun r24 μ20 H locs ⟨hw, hKM20⟩ M => ?_)
    replace hw := hw hKM20
    have hKM20_ := hKM11_.tr hKM20
    have hk26 := hKM20.at hk15
    have hk27 := hKM20.at hk25
    have hc : (((0 + 0) + 0) + c21) + (c - c21) ≤ c := by omega
    have hz : (((0 + 0) + 0) + z22) + (z - z22) ≤ z := by omega
    exact vx_ret (mx_iret X hr hk M dX10_tell_43 (by omega) (by omega) ⟨hw, hKM20_⟩)
  · have hw := hwf hq
    obtain ⟨w1, w2, w3⟩ := hw
    obtain ⟨⟨sa, hsa⟩, hU, hN⟩ := hTX
    refine vz_throw (own := RX10) (cls := vzE) (text := vzT) (Y0 := "java/lang/RuntimeException") (r0 := ["java/lang/Exception"]) (ik := 107) (is := 109) (ic := 111) (ix := 13) (rx := vzB) (sa := sa) (A := Ai B) X.1 X.2.1 hst (by decide +kernel) (by decide +kernel) (by decide +kernel) (by decide +kernel) X.2.2.2.1 (by decide +kernel) (by decide +kernel) (by decide +kernel) (X.2.2.2.2.1 _ vz_w4) (X.2.2.2.2.1 _ vz_w5) hsa (vz_words X) vz_w3 hU hN M.2.2 (hl.1.trans X.2.2.1.symm) dX10_tell_11 dX10_tell_14 dX10_tell_15 dX10_tell_17 dX10_tell_20 (fun x hx => (hno x hx).elim) (show 1 + 4 < 9 by decide) (show 0 + (13 * (1 + 2) + 43) ≤ 198 by decide) (by show 0 + 0 + 1 ≤ c; omega) (by show 0 + 0 + 6 ≤ z; omega) hk (fun t hA hz hq => ⟨μ3, ⟨w3, hKM3_⟩, ⟨rfl, Rl.grow M.1 hq⟩, ?_⟩) (fun z hz => M.2.2.2.2 z hz) (by omega) (by omega)
    exact ⟨Nat.le_trans M.2.2.1 hz, fun q h1 h2 => (hq q (Nat.lt_of_lt_of_le h1 M.2.2.1)).trans (M.2.2.2.1 q h1 h2)⟩

