/-! getClass of an array of Object, the class constant; ArrayList's inherited counter -/
section JROWS2
variable {T : Tb} {B : Nat} {p : Program} {l : Launch} {e : Env} {R : Room} {s : State} {m : MethodId} {args : Array Value} {below : List Frame} {meth : Method} {c : Code} {H : Heap} {locs : List Loc} {cells slots : Nat} {Q : State → Prop}
variable {cc : ByteArray} {nL pc : Nat} {own : String} {ls : Array Slot} {rest : List Value} {μ : Mem} {a b : Nat}
theorem my_ldcC (X : CX T B p m c cc nL s args own) {index : Nat} (hlink : Cond.classLink own index "[Ljava/lang/Object;" ∈ G) (hdg : decode cc pc = .ok (.ldc index, 2))
    (kk : W p l e R s m args below meth c H locs cells slots Q (F0 m (pc + 2) ls (.ref (st T 3) :: rest))) : W p l e R s m args below meth c H locs cells slots Q (F0 m pc ls rest) := by
  obtain ⟨hx, hb, hml, hown, hts, ⟨hK, hNw, hMi, -⟩, hSF⟩ := X
  exact va_ldcM hx hb hown (hts _ hlink) hMi hdg kk
theorem my_getC (X : CX T B p m c cc nL s args own) (M : MS T B s μ H locs) {index : Nat} (hlink : Cond.methodLink own index ⟨"java/lang/Object", "getClass", "()Ljava/lang/Class;"⟩ ∈ G) (hdecl : Cond.declares ⟨"java/lang/Object", "getClass", "()Ljava/lang/Class;"⟩ ∈ NWl) (hsel : Cond.selects "[Ljava/lang/Object;" ⟨"java/lang/Object", "getClass", "()Ljava/lang/Class;"⟩ ⟨"java/lang/Object", "getClass", "()Ljava/lang/Class;"⟩ ∈ G) (hinst : Cond.instanceMethod ⟨"java/lang/Object", "getClass", "()Ljava/lang/Class;"⟩ ∈ G) (hnat : Cond.native ⟨"java/lang/Object", "getClass", "()Ljava/lang/Class;"⟩ ∈ G)
    (hsz : ls.size = nL) (ha : kd μ a = 105) (hframes : 1 ≤ R.frames) (hlocals : (rest.map fun v => v.category).sum + 14 ≤ R.locals) (hdg : decode cc pc = .ok (.invokevirtual index, 3))
    (kk : W p l e R s m args below meth c H locs cells slots Q (F0 m (pc + 3) ls (.ref (st T 3) :: rest))) : W p l e R s m args below meth c H locs cells slots Q (F0 m pc ls (.ref a :: rest)) := by
  obtain ⟨hx, hb, hml, hown, hts, ⟨hK, hNw, hMi, -⟩, hSF⟩ := X
  obtain ⟨⟨L, hL, hP, hD, hRs⟩, hB, hS⟩ := M
  obtain ⟨q0, hq0⟩ := va_pl_get (X := []) (f := en T μ) ((hL a).mpr ⟨by omega, by omega⟩)
  rw [en_r ha] at hq0
  have hc : H[a]? = some (vp_cell T.2.2.2.2.2.1 (al μ a, .inr (.inr (.inr (.inr (ar μ a)))))) := hP q0 _ hq0
  exact va_getC (C := "[Ljava/lang/Object;") hx hb (hml.trans hsz.symm) hown (hts _ hlink) (va_Nw.use rfl (hNw _ hdecl)) (hts _ hsel) (hts _ hinst) (hts _ hnat) hMi ⟨_, hc, rfl, va_nmO (hK.2 4 (T.2.2.2.2.2.1, .object "java/lang/Object") rfl).2 rfl⟩ hframes hlocals hdg kk
theorem my_getm (X : CX T B p m c cc nL s args own) (M : MS T B s μ H locs) {index : Nat} (hin : ∀ w ∈ u_ws RJx4a65c TJx4a65c 3, w ∈ G) (hlink : Cond.fieldLink own index "java/util/ArrayList" "modCount" "I" ∈ G) (hsf : Cond.sameField "java/util/ArrayList" "java/util/AbstractList" "modCount" "I" ∈ G) (hdg : decode cc pc = .ok (.getfield index, 3)) (ha : kd μ a = 2)
    (kk : W p l e R s m args below meth c H locs cells slots Q (F0 m (pc + 3) ls (.int (fi μ 1 0 a) :: rest))) : W p l e R s m args below meth c H locs cells slots Q (F0 m pc ls (.ref a :: rest)) := by
  obtain ⟨hx, hb, -, hown, hts, ⟨hK, -⟩, hSF⟩ := X
  obtain ⟨⟨L, hL, hP, hD, hRs⟩, -, hS⟩ := M
  obtain ⟨q, hq⟩ := va_pl_get (X := []) (f := en T μ) ((hL a).mpr ⟨by omega, by omega⟩)
  rw [en_o (c := 1) ha (by decide)] at hq
  exact va_get (C := RJx4a65c) (T := TJx4a65c) (N := 3) (ref := "java/util/ArrayList") hx hb hts hin hown hK hP q hq rfl 0 (by decide) (hts _ hlink) (fun x h => u_same (hts _ hsf) x h) (v := .int (fi μ 1 0 a)) (by rw [fls_get (show (sg 1)[0]? = some false from rfl)]; rfl) hdg kk
theorem my_putm (X : CX T B p m c cc nL s args own) (M : MS T B s μ H locs) {index : Nat} (hin : ∀ w ∈ u_ws RJx4a65c TJx4a65c 3, w ∈ G) (hlink : Cond.fieldLink own index "java/util/ArrayList" "modCount" "I" ∈ G) (hsf : Cond.sameField "java/util/ArrayList" "java/util/AbstractList" "modCount" "I" ∈ G) (hdg : decode cc pc = .ok (.putfield index, 3)) (ha : kd μ a = 2) {v : Int32}
    (kk : ∀ (μ1 : Mem) (H1 : Heap) (locs1 : List Loc), μ1 = sfi μ 1 0 a v → MS T B s μ1 H1 locs1 → W p l e R s m args below meth c H1 locs1 cells slots Q (F0 m (pc + 3) ls rest)) : W p l e R s m args below meth c H locs cells slots Q (F0 m pc ls (.int v :: .ref a :: rest)) := by
  obtain ⟨hx, hb, -, hown, hts, ⟨hK, -⟩, hSF⟩ := X
  obtain ⟨⟨L, hL, hP, hD, hRs⟩, hB, hS⟩ := M
  have hm := (hL a).mpr ⟨by omega, by omega⟩
  obtain ⟨q, hq⟩ := va_pl_get (X := []) (f := en T μ) hm
  have hq0 := hq
  rw [en_o (c := 1) ha (by decide)] at hq
  refine va_put (C := RJx4a65c) (T := TJx4a65c) (N := 3) (ref := "java/util/ArrayList") hx hb hts hin tyJx4a65c tyJx4a65c_ok nmJx4a65c hown hK hP hD hS q hq rfl 0 (by decide) (hts _ hlink) (fun x h => u_same (hts _ hsf) x h) rfl (tyJx4a65c_ok 0 (by decide)) rfl rfl (by rw [fls_len]; decide) hdg fun H1 locs1 hP1 hD1 hS1 => kk _ H1 locs1 rfl ⟨?_, hB, hS1⟩
  refine Rl.store (μ' := sfi μ 1 0 a v) hL hRs (fun _ => rfl) hD hm hq0 (fun _ => rfl) ?_ (fun b hb => en_congr rfl rfl rfl rfl rfl (fun d => fls_oi hb)) hP1 hD1
  rw [en_o (show kd (sfi μ 1 0 a v) a = 1 + 1 from ha) (by decide), fls_seti rfl]
end JROWS2
theorem my_castI {T : Tb} {B : Nat} {p : Program} {l : Launch} {e : Env} {R : Room} {s : State} {m : MethodId} {args : Array Value} {below : List Frame} {meth : Method} {c : Code} {H : Heap} {locs : List Loc} {cells slots : Nat} {Q : State → Prop} {cc : ByteArray} {nL pc : Nat} {own : String} {ls : Array Slot} {rest : List Value} {μ : Mem} {a : Nat} (X : CX T B p m c cc nL s args own) (M : MS T B s μ H locs) {index : Nat} (hlink : Cond.classLink own index "[I" ∈ G) (ha : kd μ a = 102) (hdg : decode cc pc = .ok (.checkcast index, 3))
    (kk : W p l e R s m args below meth c H locs cells slots Q (F0 m (pc + 3) ls (.ref a :: rest))) : W p l e R s m args below meth c H locs cells slots Q (F0 m pc ls (.ref a :: rest)) := by
  obtain ⟨hx, hb, -, hown, hts, ⟨hK, -⟩, hSF⟩ := X
  obtain ⟨⟨L, hL, hP, hD, hRs⟩, -, hS⟩ := M
  obtain ⟨q, hq⟩ := va_pl_get (X := []) (f := en T μ) ((hL a).mpr ⟨by omega, by omega⟩)
  rw [en_i ha] at hq
  exact va_castA hx hb hown (hts _ hlink) hP q hq ((hK.2 1 (T.2.2.1, .int) rfl).2) hdg kk
