/-! references that may be null; stores with a name for what is held afterwards -/
theorem mq_cat (r : Option Nat) : (va_rf r).category = 1 := by cases r <;> rfl
theorem mq_no (n : String) (r : Option Nat) : narrow (.object n) (va_rf r) = va_rf r := by cases r <;> rfl
theorem mq_na (t : FieldType) (r : Option Nat) : narrow (.array t) (va_rf r) = va_rf r := by cases r <;> rfl
theorem mq_fo (n : String) (r : Option Nat) : fits (.object n) (va_rf r) = true := by cases r <;> rfl
theorem mq_fa (t : FieldType) (r : Option Nat) : fits (.array t) (va_rf r) = true := by cases r <;> rfl
theorem kd_nob {μ : Mem} {c q : Nat} : kd (nob μ c q) q = c + 1 := by simp [kd, nob, va_up]
theorem kd_nar {μ : Mem} {t q n : Nat} : kd (nar μ t q n) q = t := by simp [kd, nar, va_up]
section QROWS
variable {T : Tb} {B : Nat} {p : Program} {l : Launch} {e : Env} {R : Room} {s : State} {m : MethodId} {args : Array Value} {below : List Frame} {meth : Method} {c : Code} {H : Heap} {locs : List Loc} {cells slots : Nat} {Q : State → Prop}
variable {cc : ByteArray} {nL pc : Nat} {own : String} {ls : Array Slot} {rest : List Value} {μ : Mem} {a : Nat}
theorem mq_aload_n (hexec : p.tables.exec = Jvm.exec) (hb : c.code = cc) {k : Fin 4} {i : Nat} {r : Option Nat} (hdg : decode cc pc = .ok (.aload_n k, 1)) (hi : (k : Nat) = i) (hl : ls[i]? = some (.val (va_rf r)))
    (kk : W p l e R s m args below meth c H locs cells slots Q (F0 m (pc + 1) ls (va_rf r :: rest))) : W p l e R s m args below meth c H locs cells slots Q (F0 m pc ls (rest)) := by
  cases r with
  | none => exact lv_aload_nN hexec hb hdg hi hl kk
  | some x => exact lv_aload_n hexec hb hdg hi hl kk
theorem mq_aload (hexec : p.tables.exec = Jvm.exec) (hb : c.code = cc) {i : Nat} {r : Option Nat} (hdg : decode cc pc = .ok (.aload i, 2)) (hl : ls[i]? = some (.val (va_rf r)))
    (kk : W p l e R s m args below meth c H locs cells slots Q (F0 m (pc + 2) ls (va_rf r :: rest))) : W p l e R s m args below meth c H locs cells slots Q (F0 m pc ls (rest)) := by
  cases r with
  | none => exact lv_aloadN hexec hb hdg hl kk
  | some x => exact lv_aload hexec hb hdg hl kk
theorem mq_astore_n (hexec : p.tables.exec = Jvm.exec) (hb : c.code = cc) {k : Fin 4} {i nL : Nat} {r : Option Nat} {lv lv' : List (Nat × Value)} (hdg : decode cc pc = .ok (.astore_n k, 1)) (hi : (k : Nat) = i) (h : lv_has ls nL lv) (hn : i < nL) (hl : (i, va_rf r) :: lv.filter (fun q => !(q.1 == i) && !(q.1 + 1 == i && q.2.category == 2)) = lv')
    (kk : ∀ ls' : Array Slot, lv_has ls' nL lv' → W p l e R s m args below meth c H locs cells slots Q (F0 m (pc + 1) ls' rest)) : W p l e R s m args below meth c H locs cells slots Q (F0 m pc ls (va_rf r :: rest)) := by
  cases r with
  | none => exact lv_astore_nN hexec hb hdg hi h hn hl kk
  | some x => exact lv_astore_n hexec hb hdg hi h hn hl kk
theorem mq_astore (hexec : p.tables.exec = Jvm.exec) (hb : c.code = cc) {i nL : Nat} {r : Option Nat} {lv lv' : List (Nat × Value)} (hdg : decode cc pc = .ok (.astore i, 2)) (h : lv_has ls nL lv) (hn : i < nL) (hl : (i, va_rf r) :: lv.filter (fun q => !(q.1 == i) && !(q.1 + 1 == i && q.2.category == 2)) = lv')
    (kk : ∀ ls' : Array Slot, lv_has ls' nL lv' → W p l e R s m args below meth c H locs cells slots Q (F0 m (pc + 2) ls' rest)) : W p l e R s m args below meth c H locs cells slots Q (F0 m pc ls (va_rf r :: rest)) := by
  cases r with
  | none => exact lv_astoreN hexec hb hdg h hn hl kk
  | some x => exact lv_astore hexec hb hdg h hn hl kk
theorem my_puti (X : CX T B p m c cc nL s args own) (M : MS T B s μ H locs) {C : String} {F : u_T} {N ci index : Nat} (k : Nat) (hc : vwCl[ci]? = some (C, F, N)) (hin : ∀ w ∈ u_ws C F N, w ∈ G) (ty : Nat → FieldType) (hty : ∀ k, k < N → parseFieldDescriptor (F k).2.2.1 = some (ty k)) (hnm : ∀ a, a < N → ∀ b, b < N → a ≠ b → (F a).2.1 ≠ (F b).2.1) (hN : k < N) (hs : (sg ci)[k]? = some false) (hci : ci < 100)
    (hlink : Cond.fieldLink own index (F k).1 (F k).2.1 (F k).2.2.1 ∈ G) (hfin : (F k).2.2.2 = false ∨ (meth.name = "<init>" ∧ (F k).1 = own)) (hdg : decode cc pc = .ok (.putfield index, 3)) (ha : kd μ a = ci + 1) {v : Int32} (hn : narrow (ty k) (.int v) = .int v) (hf : fits (ty k) (.int v) = true)
    (kk : ∀ (μ1 : Mem) (H1 : Heap) (locs1 : List Loc), μ1 = sfi μ ci k a v → MS T B s μ1 H1 locs1 → W p l e R s m args below meth c H1 locs1 cells slots Q (F0 m (pc + 3) ls rest)) : W p l e R s m args below meth c H locs cells slots Q (F0 m pc ls (.int v :: .ref a :: rest)) := by
  by_cases h : (F k).2.2.2 = false
  · exact mx_puti X M k hc hin ty hty hnm hN hs hci hlink h hdg ha hn hf (fun H1 locs1 M1 => kk _ H1 locs1 rfl M1)
  · have h2 : (F k).2.2.2 = true := by simpa using h
    rcases hfin with q | q
    · exact absurd q h
    · exact mx_putiF X M k hc hin ty hty hnm hN hs hci hlink h2 q.1 q.2 hdg ha hn hf (fun H1 locs1 M1 => kk _ H1 locs1 rfl M1)
theorem my_putr (X : CX T B p m c cc nL s args own) (M : MS T B s μ H locs) {C : String} {F : u_T} {N ci index : Nat} (k : Nat) (hc : vwCl[ci]? = some (C, F, N)) (hin : ∀ w ∈ u_ws C F N, w ∈ G) (ty : Nat → FieldType) (hty : ∀ k, k < N → parseFieldDescriptor (F k).2.2.1 = some (ty k)) (hnm : ∀ a, a < N → ∀ b, b < N → a ≠ b → (F a).2.1 ≠ (F b).2.1) (hN : k < N) (hs : (sg ci)[k]? = some true) (hci : ci < 100)
    (hlink : Cond.fieldLink own index (F k).1 (F k).2.1 (F k).2.2.1 ∈ G) (hfin : (F k).2.2.2 = false ∨ (meth.name = "<init>" ∧ (F k).1 = own)) (hdg : decode cc pc = .ok (.putfield index, 3)) (ha : kd μ a = ci + 1) (v : Option Nat) (hn : narrow (ty k) (va_rf v) = va_rf v) (hf : fits (ty k) (va_rf v) = true)
    (kk : ∀ (μ1 : Mem) (H1 : Heap) (locs1 : List Loc), μ1 = sfr μ ci k a v → MS T B s μ1 H1 locs1 → W p l e R s m args below meth c H1 locs1 cells slots Q (F0 m (pc + 3) ls rest)) : W p l e R s m args below meth c H locs cells slots Q (F0 m pc ls (va_rf v :: .ref a :: rest)) := by
  by_cases h : (F k).2.2.2 = false
  · exact mx_putr X M k hc hin ty hty hnm hN hs hci hlink h hdg ha hn hf (fun H1 locs1 M1 => kk _ H1 locs1 rfl M1)
  · have h2 : (F k).2.2.2 = true := by simpa using h
    rcases hfin with q | q
    · exact absurd q h
    · exact mx_putrF X M k hc hin ty hty hnm hN hs hci hlink h2 q.1 q.2 hdg ha hn hf (fun H1 locs1 M1 => kk _ H1 locs1 rfl M1)
theorem my_new (X : CX T B p m c cc nL s args own) (M : MS T B s μ H locs) {C : String} {F : u_T} {N ci index : Nat} (hc : vwCl[ci]? = some (C, F, N)) (hin : ∀ w ∈ u_ws C F N, w ∈ G) (ty : Nat → FieldType) (hty : ∀ k, k < N → parseFieldDescriptor (F k).2.2.1 = some (ty k)) (hfs : ∀ j, j < N → defaultValue (ty j) = vp_V (fs0 ci) j) (hci : ci < 100)
    (hlink : Cond.classLink own index C ∈ G) (hinst : Cond.instantiable C N ∈ G) (hini : Cond.initialized C ∈ G) (hdg : decode cc pc = .ok (.new index, 3)) (h1 : cells + 1 ≤ R.cells) (h2 : slots + N ≤ R.slots)
    (kk : ∀ (q : Nat) (μ1 : Mem) (H1 : Heap), kd μ q = 0 → μ1 = nob μ ci q → MS T B s μ1 H1 locs → W p l e R s m args below meth c H1 locs (cells + 1) (slots + N) Q (F0 m (pc + 3) ls (.ref q :: rest))) : W p l e R s m args below meth c H locs cells slots Q (F0 m pc ls rest) :=
  mx_new X M hc hin ty hty hfs hci hlink hinst hini hdg h1 h2 (fun q H1 h M1 => kk q _ H1 h rfl M1)
theorem my_newI (X : CX T B p m c cc nL s args own) (M : MS T B s μ H locs) (harr : Cond.arrayClass .int ∈ G) (hdg : decode cc pc = .ok (.newarray .int, 2)) {n : Int32} (hn : ¬ n < 0) (h9 : n.toNatClampNeg ≤ 1048576) (h1 : cells + 1 ≤ R.cells) (h2 : slots + n.toNatClampNeg ≤ R.slots)
    (kk : ∀ (q : Nat) (μ1 : Mem) (H1 : Heap), kd μ q = 0 → μ1 = nar μ 102 q n.toNatClampNeg → MS T B s μ1 H1 locs → W p l e R s m args below meth c H1 locs (cells + 1) (slots + n.toNatClampNeg) Q (F0 m (pc + 2) ls (.ref q :: rest))) : W p l e R s m args below meth c H locs cells slots Q (F0 m pc ls (.int n :: rest)) :=
  mx_newI X M harr hdg hn h9 h1 h2 (fun q H1 h M1 => kk q _ H1 h rfl M1)
theorem my_newJ (X : CX T B p m c cc nL s args own) (M : MS T B s μ H locs) (harr : Cond.arrayClass .long ∈ G) (hdg : decode cc pc = .ok (.newarray .long, 2)) {n : Int32} (hn : ¬ n < 0) (h9 : n.toNatClampNeg ≤ 1048576) (h1 : cells + 1 ≤ R.cells) (h2 : slots + n.toNatClampNeg ≤ R.slots)
    (kk : ∀ (q : Nat) (μ1 : Mem) (H1 : Heap), kd μ q = 0 → μ1 = nar μ 103 q n.toNatClampNeg → MS T B s μ1 H1 locs → W p l e R s m args below meth c H1 locs (cells + 1) (slots + n.toNatClampNeg) Q (F0 m (pc + 2) ls (.ref q :: rest))) : W p l e R s m args below meth c H locs cells slots Q (F0 m pc ls (.int n :: rest)) :=
  mx_newJ X M harr hdg hn h9 h1 h2 (fun q H1 h M1 => kk q _ H1 h rfl M1)
theorem my_newB (X : CX T B p m c cc nL s args own) (M : MS T B s μ H locs) (harr : Cond.arrayClass .char ∈ G) (hdg : decode cc pc = .ok (.newarray .char, 2)) {n : Int32} (hn : ¬ n < 0) (h9 : n.toNatClampNeg ≤ 1048576) (h1 : cells + 1 ≤ R.cells) (h2 : slots + n.toNatClampNeg ≤ R.slots)
    (kk : ∀ (q : Nat) (μ1 : Mem) (H1 : Heap), kd μ q = 0 → μ1 = nar μ 101 q n.toNatClampNeg → MS T B s μ1 H1 locs → W p l e R s m args below meth c H1 locs (cells + 1) (slots + n.toNatClampNeg) Q (F0 m (pc + 2) ls (.ref q :: rest))) : W p l e R s m args below meth c H locs cells slots Q (F0 m pc ls (.int n :: rest)) :=
  mx_newB X M harr hdg hn h9 h1 h2 (fun q H1 h M1 => kk q _ H1 h rfl M1)
theorem my_newZ (X : CX T B p m c cc nL s args own) (M : MS T B s μ H locs) (harr : Cond.arrayClass .boolean ∈ G) (hdg : decode cc pc = .ok (.newarray .boolean, 2)) {n : Int32} (hn : ¬ n < 0) (h9 : n.toNatClampNeg ≤ 1048576) (h1 : cells + 1 ≤ R.cells) (h2 : slots + n.toNatClampNeg ≤ R.slots)
    (kk : ∀ (q : Nat) (μ1 : Mem) (H1 : Heap), kd μ q = 0 → μ1 = nar μ 104 q n.toNatClampNeg → MS T B s μ1 H1 locs → W p l e R s m args below meth c H1 locs (cells + 1) (slots + n.toNatClampNeg) Q (F0 m (pc + 2) ls (.ref q :: rest))) : W p l e R s m args below meth c H locs cells slots Q (F0 m pc ls (.int n :: rest)) :=
  mx_newZ X M harr hdg hn h9 h1 h2 (fun q H1 h M1 => kk q _ H1 h rfl M1)
theorem my_ast (X : CX T B p m c cc nL s args own) (M : MS T B s μ H locs) (hdg : decode cc pc = .ok (.iastore, 1)) (ha : kd μ a = 102) {i x : Int32} (hi : vp_in i (al μ a))
    (kk : ∀ (μ1 : Mem) (H1 : Heap) (locs1 : List Loc), μ1 = sai μ a i.toNatClampNeg x → MS T B s μ1 H1 locs1 → W p l e R s m args below meth c H1 locs1 cells slots Q (F0 m (pc + 1) ls rest)) : W p l e R s m args below meth c H locs cells slots Q (F0 m pc ls (.int x :: .int i :: .ref a :: rest)) :=
  mx_ast X M hdg ha hi (fun H1 locs1 M1 => kk _ H1 locs1 rfl M1)
theorem my_bst (X : CX T B p m c cc nL s args own) (M : MS T B s μ H locs) (hdg : decode cc pc = .ok (.castore, 1)) (ha : kd μ a = 101) {i x : Int32} (hi : vp_in i (al μ a))
    (kk : ∀ (μ1 : Mem) (H1 : Heap) (locs1 : List Loc), μ1 = sai μ a i.toNatClampNeg (vp_nar .char x) → MS T B s μ1 H1 locs1 → W p l e R s m args below meth c H1 locs1 cells slots Q (F0 m (pc + 1) ls rest)) : W p l e R s m args below meth c H locs cells slots Q (F0 m pc ls (.int x :: .int i :: .ref a :: rest)) :=
  mx_bst X M hdg ha hi (fun H1 locs1 M1 => kk _ H1 locs1 rfl M1)
theorem my_jst (X : CX T B p m c cc nL s args own) (M : MS T B s μ H locs) (hdg : decode cc pc = .ok (.lastore, 1)) (ha : kd μ a = 103) {i : Int32} {x : Int64} (hi : vp_in i (al μ a))
    (kk : ∀ (μ1 : Mem) (H1 : Heap) (locs1 : List Loc), μ1 = saj μ a i.toNatClampNeg x → MS T B s μ1 H1 locs1 → W p l e R s m args below meth c H1 locs1 cells slots Q (F0 m (pc + 1) ls rest)) : W p l e R s m args below meth c H locs cells slots Q (F0 m pc ls (.long x :: .int i :: .ref a :: rest)) :=
  mx_jst X M hdg ha hi (fun H1 locs1 M1 => kk _ H1 locs1 rfl M1)
theorem my_max (X : CX T B p m c cc nL s args own) {index : Nat} (hl : Cond.methodLink own index Lib.Math.max.name ∈ G) (hst : Cond.static Lib.Math.max.name ∈ G) (hini : Cond.initialized "java/lang/Math" ∈ G) (hco : Cond.code Lib.Math.max.name Lib.Math.max.code 2 (some .int) ∈ G) (hsz : ls.size = nL)
    (hframes : 1 ≤ R.frames) (hlocals : (rest.map fun v => v.category).sum + 13 ≤ R.locals) (hc : cells ≤ R.cells) (hs : slots ≤ R.slots) {x y : Int32} (hdg : decode cc pc = .ok (.invokestatic index, 3))
    (kk : W p l e R s m args below meth c H locs cells slots Q (F0 m (pc + 3) ls (.int (if x < y then y else x) :: rest))) : W p l e R s m args below meth c H locs cells slots Q (F0 m pc ls (.int y :: .int x :: rest)) := by
  obtain ⟨hx, hb, hml, hown, hts, -⟩ := X
  exact va_mmax hx hb (hml.trans hsz.symm) hown (hts _ hl) (hts _ hst) (hts _ hini) (hts _ hco) hframes hlocals hc hs hdg kk
theorem my_min (X : CX T B p m c cc nL s args own) {index : Nat} (hl : Cond.methodLink own index Lib.Math.min.name ∈ G) (hst : Cond.static Lib.Math.min.name ∈ G) (hini : Cond.initialized "java/lang/Math" ∈ G) (hco : Cond.code Lib.Math.min.name Lib.Math.min.code 2 (some .int) ∈ G) (hsz : ls.size = nL)
    (hframes : 1 ≤ R.frames) (hlocals : (rest.map fun v => v.category).sum + 13 ≤ R.locals) (hc : cells ≤ R.cells) (hs : slots ≤ R.slots) {x y : Int32} (hdg : decode cc pc = .ok (.invokestatic index, 3))
    (kk : W p l e R s m args below meth c H locs cells slots Q (F0 m (pc + 3) ls (.int (if y < x then y else x) :: rest))) : W p l e R s m args below meth c H locs cells slots Q (F0 m pc ls (.int y :: .int x :: rest)) := by
  obtain ⟨hx, hb, hml, hown, hts, -⟩ := X
  exact va_mmin hx hb (hml.trans hsz.symm) hown (hts _ hl) (hts _ hst) (hts _ hini) (hts _ hco) hframes hlocals hc hs hdg kk
theorem my_absL (X : CX T B p m c cc nL s args own) {index : Nat} (hl : Cond.methodLink own index Lib.MathLoose.abs_long.x ∈ G) (hst : Cond.static Lib.MathLoose.abs_long.x ∈ G) (hini : Cond.initialized "java/lang/Math" ∈ G) (hco : Cond.code Lib.MathLoose.abs_long.x Lib.MathLoose.abs_long.code 2 (some .long) ∈ G) (hsz : ls.size = nL)
    (hframes : 1 ≤ R.frames) (hlocals : (rest.map fun v => v.category).sum + 13 ≤ R.locals) (hc : cells ≤ R.cells) (hs : slots ≤ R.slots) {x : Int64} (hdg : decode cc pc = .ok (.invokestatic index, 3))
    (kk : W p l e R s m args below meth c H locs cells slots Q (F0 m (pc + 3) ls (.long (if 0 < x then x else -x) :: rest))) : W p l e R s m args below meth c H locs cells slots Q (F0 m pc ls (.long x :: rest)) := by
  obtain ⟨hx, hb, hml, hown, hts, -⟩ := X
  exact va_mabs_long hx hb (hml.trans hsz.symm) hown (hts _ hl) (hts _ hst) (hts _ hini) (hts _ hco) hframes hlocals hc hs hdg kk
theorem my_obj (X : CX T B p m c cc nL s args own) {index : Nat} (hl : Cond.methodLink own index objectInit ∈ G) (hst : Cond.instanceMethod objectInit ∈ G) (hco : Cond.code objectInit ⟨#[0xb1]⟩ 1 none ∈ G) (hsz : ls.size = nL)
    (hframes : 1 ≤ R.frames) (hlocals : 8 + 12 ≤ R.locals) (hcat : (rest.map fun v => v.category).sum ≤ 8) (hdg : decode cc pc = .ok (.invokespecial index, 3))
    (kk : W p l e R s m args below meth c H locs cells slots Q (F0 m (pc + 3) ls rest)) : W p l e R s m args below meth c H locs cells slots Q (F0 m pc ls (.ref a :: rest)) := by
  obtain ⟨hx, hb, hml, hown, hts, -⟩ := X
  exact W.objInit hx hb hown (hts _ hl) (hts _ hst) (hts _ hco) rfl (hsz.trans hml.symm) rfl hdg hframes (Nat.le_trans (Nat.add_le_add_right (lv_room hcat) 12) hlocals) kk
end QROWS
