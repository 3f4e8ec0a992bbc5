/-! a method's start, its ends, its calls -/
abbrev Pm {S : Type} (Wd : S → Heap → Prop) (T : Tb) (B : Nat) (μ : S) (As : List Value) : Array Value → State → Prop := va_Pc As (fun U => Wd μ U.heap ∧ B ≤ U.heap.size ∧ KK T U ∧ SF T B U U.heap)
abbrev Bm {S : Type} (Wd : S → Heap → Prop) : S → State → Prop := fun μ t => Wd μ t.heap
theorem mx_of {l : Launch} {y : MethodName} {cc : ByteArray} {nL : Nat} {ret : Option FieldType} {rm : Room} {Qc : Array Value → State → Outcome → State → Prop} {mc ms : Nat} {S : Type} {Wd : S → Heap → Prop} {T : Tb} {B : Nat} {μ : S} {As : List Value} (own : String) (ho : y.cls = own) (hy : plainName y.cls = true) (hlen : (lg_sl As).length ≤ nL)
    (body : ∀ (p : Program) (e : Env) (s : State) (m : MethodId) (below : List Frame) (meth : Method) (c : Code), CX T B p m c cc nL s As.toArray own → meth.sig.returnType = ret → meth.locks = false → meth.name = y.name → MG Wd B s μ s.heap [] → ∀ ls : Array Slot, lv_has ls nL (lv_args 0 As) →
      W p l e rm s m As.toArray below meth c s.heap [] 0 0 (MQ below Qc As.toArray s mc ms (Ai B)) (F0 m 0 ls [])) : Met l y (.code y cc nL ret :: G) rm (Pm Wd T B μ As) Qc mc ms (Ai B) := by
  refine Met.ofW (cc := cc) (maxL := nL) (ret := ret) hy rfl ?_
  intro p e s m args below meth c s₁ Y hml hv
  obtain ⟨rfl, hR, hB, hK, hF⟩ := hv
  have hts := atoms_spec (ws := Cond.code y cc nL ret :: G) Y.pre
  have hown : s.vm.findClass own = some m.cls := by rw [← ho]; exact findClass_of_methodNamed Y.named
  have hl := lv_entry As (n := nL) hlen
  rw [lg_entry_eq]
  exact body p e s m below meth c ⟨Y.exec, Y.bytes, hml, hown, fun w hw => hts w (List.mem_cons_of_mem _ hw), hK, hF⟩ Y.returns Y.notSynchronized (name_of_methodNamed Y.named Y.method).1 ⟨hR, hB, va_S.rf⟩ _ hl
section ENDS
variable {S : Type} {Wd : S → Heap → Prop} {T : Tb} {B : Nat} {p : Program} {l : Launch} {e : Env} {R : Room} {s : State} {m : MethodId} {args : Array Value} {below : List Frame} {meth : Method} {c : Code} {H : Heap} {locs : List Loc} {cells slots mc ms : Nat}
variable {cc : ByteArray} {nL pc : Nat} {own : String} {ls : Array Slot} {rest : List Value} {μ : S}
theorem mx_iret {post : Int32 → S → Prop} {r : Int32} (X : CX T B p m c cc nL s args own) (hr : meth.sig.returnType = some .int) (hk : meth.locks = false) (M : MG Wd B s μ H locs) (hdg : decode cc pc = .ok (.ireturn, 1)) (h1 : cells ≤ mc) (h2 : slots ≤ ms) (hp : post r μ) :
    W p l e R s m args below meth c H locs cells slots (MQ below (va_Qi post (Bm Wd) (Ai B)) args s mc ms (Ai B)) (F0 m pc ls [.int r]) :=
  W.widen h1 h2 (W.iret X.1 X.2.1 hr (fun t ht _ => ⟨⟨r, μ, rfl, hp, by show Wd μ t.heap; rw [ht]; exact M.1⟩, M.2.2.F ht⟩) M.2.2.2.2 hdg hk)
theorem mx_zret {post : Int32 → S → Prop} {r : Int32} {ty : FieldType} (X : CX T B p m c cc nL s args own) (hr : meth.sig.returnType = some ty) (hk : meth.locks = false) (M : MG Wd B s μ H locs) (hdg : decode cc pc = .ok (.ireturn, 1)) (h1 : cells ≤ mc) (h2 : slots ≤ ms) (hn : narrow ty (.int r) = .int r) (hp : post r μ) :
    W p l e R s m args below meth c H locs cells slots (MQ below (va_Qi post (Bm Wd) (Ai B)) args s mc ms (Ai B)) (F0 m pc ls [.int r]) :=
  W.widen h1 h2 (W.zret X.1 X.2.1 hr hn (fun t ht _ => ⟨⟨r, μ, rfl, hp, by show Wd μ t.heap; rw [ht]; exact M.1⟩, M.2.2.F ht⟩) M.2.2.2.2 hdg hk)
theorem mx_lret {post : Int64 → S → Prop} {r : Int64} (X : CX T B p m c cc nL s args own) (hr : meth.sig.returnType = some .long) (hk : meth.locks = false) (M : MG Wd B s μ H locs) (hdg : decode cc pc = .ok (.lreturn, 1)) (h1 : cells ≤ mc) (h2 : slots ≤ ms) (hp : post r μ) :
    W p l e R s m args below meth c H locs cells slots (MQ below (va_Ql post (Bm Wd) (Ai B)) args s mc ms (Ai B)) (F0 m pc ls [.long r]) :=
  W.widen h1 h2 (W.lret X.1 X.2.1 hr (fun t ht _ => ⟨⟨r, μ, rfl, hp, by show Wd μ t.heap; rw [ht]; exact M.1⟩, M.2.2.F ht⟩) M.2.2.2.2 hdg hk)
theorem mx_vret {post : S → Prop} (X : CX T B p m c cc nL s args own) (hr : meth.sig.returnType = none) (hk : meth.locks = false) (M : MG Wd B s μ H locs) (hdg : decode cc pc = .ok (.return_, 1)) (h1 : cells ≤ mc) (h2 : slots ≤ ms) (hp : post μ) :
    W p l e R s m args below meth c H locs cells slots (MQ below (va_Qv post (Bm Wd) (Ai B)) args s mc ms (Ai B)) (F0 m pc ls []) :=
  W.widen h1 h2 (W.vret X.1 X.2.1 hr (fun t ht _ => ⟨⟨μ, rfl, hp, by show Wd μ t.heap; rw [ht]; exact M.1⟩, M.2.2.F ht⟩) M.2.2.2.2 hdg hk)
theorem va_rf_ok (r : Option Nat) : va_rf r = .null ∨ ∃ a, va_rf r = .ref a := by cases r <;> simp [va_rf]
theorem mx_aret {post : Option Nat → S → Prop} {r : Option Nat} {rt : FieldType} (X : CX T B p m c cc nL s args own) (hr : meth.sig.returnType = some rt) (hrt : (∃ n, rt = .object n) ∨ ∃ t, rt = .array t) (hk : meth.locks = false) (M : MG Wd B s μ H locs) (hdg : decode cc pc = .ok (.areturn, 1)) (h1 : cells ≤ mc) (h2 : slots ≤ ms) (hp : post r μ) :
    W p l e R s m args below meth c H locs cells slots (MQ below (va_Qq post (Bm Wd) (Ai B)) args s mc ms (Ai B)) (F0 m pc ls [va_rf r]) :=
  W.widen h1 h2 (W.aret X.1 X.2.1 hr hrt (va_rf_ok r) (fun t ht _ => ⟨⟨r, μ, rfl, hp, by show Wd μ t.heap; rw [ht]; exact M.1⟩, M.2.2.F ht⟩) M.2.2.2.2 hdg hk)
variable {y : MethodName} {bytes : ByteArray} {maxL n index : Nat} {ret : Option FieldType} {rm : Room} {Qc : Array Value → State → Outcome → State → Prop} {As : List Value}
theorem mx_blind : FrameBlind (Pm Wd T B μ As) := fun a U g mk q => by
  obtain ⟨q0, q1, q2, q3, q4⟩ := q
  exact ⟨q0, q1, q2, KK.alike (V := U.calling g mk a) q3 rfl, SF.moved (U := U.calling g mk a) (Vm.Alike.refl U.vm) q4⟩
theorem mx_pre (X : CX T B p m c cc nL s args own) (M : MG Wd B s μ H locs) : ∀ U : State, U.heap = H → s.WarmedH U.vm → Pm Wd T B μ As As.toArray U := fun U hU hW => by
  obtain ⟨-, -, -, -, -, hK, hF⟩ := X
  refine ⟨rfl, by rw [hU]; exact M.1, by rw [hU]; exact Nat.le_trans M.2.1 M.2.2.1, hK.warm hW, ?_⟩
  rw [hU]
  exact SF.moved hW.alike (hF.kept (fun a h1 h2 => M.2.2.2.1 a h1 h2))
abbrev okd (y : MethodName) (n : Nat) : Prop := y.cls ≠ "java/lang/invoke/MethodHandle" ∧ y.cls ≠ "java/lang/invoke/VarHandle" ∧ (parseMethodDescriptor y.desc).map (fun d => d.parameters.length) = some n
abbrev okR (R rm : Room) (maxL : Nat) : Prop := rm.frames + 1 ≤ R.frames ∧ 8 + (maxL + 11) + rm.locals ≤ R.locals
theorem mx_runS (X : CX T B p m c cc nL s args own) (M : MG Wd B s μ H locs) (hM : Met l y (.code y bytes maxL ret :: G) rm (Pm Wd T B μ As) Qc mc ms (Ai B)) (hl : Cond.methodLink own index y ∈ G) (hst : Cond.static y ∈ G) (hini : Cond.initialized y.cls ∈ G) (hco : Cond.code y bytes maxL ret ∈ G) (hd : okd y n) (hrc : rm.cells = mc) (hrs : rm.slots = ms) (hR : okR R rm maxL)
    (hn : As.length = n) (hsz : ls.size = nL) (hcat : (rest.map fun v => v.category).sum ≤ 8) (hdg : decode cc pc = .ok (.invokestatic index, 3)) (hf : cells + mc ≤ R.cells ∧ slots + ms ≤ R.slots) : va_Run p l e R s m args below meth c H locs cells slots mc ms (F0 m pc ls (As.reverse ++ rest)) rest (Qc As.toArray) (Ai B) := by
  obtain ⟨hx, hb, hml, hown, hts, -⟩ := id X
  exact va_runS ⟨hx, hb, hml, hown, hts⟩ hM ⟨callB_of n hts (gG hco) rfl hrc hrs (hts _ hini) (hts _ hl) hd hR, hts _ hst⟩ ⟨mx_blind, mx_pre X M⟩ rfl hn hsz rfl (lv_room hcat) hdg hf
theorem mx_runV {b : Nat} {C : String} (X : CX T B p m c cc nL s args own) (M : MG Wd B s μ H locs) (hM : Met l y (.code y bytes maxL ret :: G) rm (Pm Wd T B μ (.ref b :: As)) Qc mc ms (Ai B)) (hrv : ∃ cell : Cell, H[b]? = some cell ∧ cell.vm.isStatics = false ∧ s.vm.findClass C = some cell.cls) (hl : Cond.methodLink own index y ∈ G) (hst : Cond.instanceMethod y ∈ G) (hse : Cond.selects C y y ∈ G) (hini : Cond.initialized y.cls ∈ G) (hco : Cond.code y bytes maxL ret ∈ G) (hd : okd y n) (hrc : rm.cells = mc) (hrs : rm.slots = ms) (hR : okR R rm maxL)
    (hn : As.length = n) (hsz : ls.size = nL) (hcat : (rest.map fun v => v.category).sum ≤ 8) (hdg : decode cc pc = .ok (.invokevirtual index, 3)) (hf : cells + mc ≤ R.cells ∧ slots + ms ≤ R.slots) : va_Run p l e R s m args below meth c H locs cells slots mc ms (F0 m pc ls (As.reverse ++ .ref b :: rest)) rest (Qc (.ref b :: As).toArray) (Ai B) := by
  obtain ⟨hx, hb, hml, hown, hts, -⟩ := id X
  exact va_runV ⟨hx, hb, hml, hown, hts⟩ hM ⟨callB_of n hts (gG hco) rfl hrc hrs (hts _ hini) (hts _ hl) hd hR, hts _ hst, hts _ hse⟩ ⟨mx_blind, hrv, mx_pre X M⟩ rfl hn hsz rfl (lv_room hcat) hdg hf
theorem mx_runI {b : Nat} (X : CX T B p m c cc nL s args own) (M : MG Wd B s μ H locs) (hM : Met l y (.code y bytes maxL none :: G) rm (Pm Wd T B μ (.ref b :: As)) Qc mc ms (Ai B)) (hl : Cond.methodLink own index y ∈ G) (hst : Cond.instanceMethod y ∈ G) (hy1 : y.name = "<init>") (hini : Cond.initialized y.cls ∈ G) (hco : Cond.code y bytes maxL none ∈ G) (hd : okd y n) (hrc : rm.cells = mc) (hrs : rm.slots = ms) (hR : okR R rm maxL)
    (hn : As.length = n) (hsz : ls.size = nL) (hcat : (rest.map fun v => v.category).sum ≤ 8) (hdg : decode cc pc = .ok (.invokespecial index, 3)) (hf : cells + mc ≤ R.cells ∧ slots + ms ≤ R.slots) : va_Run p l e R s m args below meth c H locs cells slots mc ms (F0 m pc ls (As.reverse ++ .ref b :: rest)) rest (Qc (.ref b :: As).toArray) (Ai B) := by
  obtain ⟨hx, hb, hml, hown, hts, -⟩ := id X
  exact va_runI ⟨hx, hb, hml, hown, hts⟩ hM ⟨callB_of n hts (gG hco) rfl hrc hrs (hts _ hini) (hts _ hl) hd hR, hy1, hts _ hst⟩ ⟨mx_blind, mx_pre X M⟩ rfl hn hsz rfl (lv_room hcat) hdg hf
theorem mx_runSN {host : String} (X : CX T B p m c cc nL s args own) (M : MG Wd B s μ H locs) (hM : Met l y (.code y bytes maxL ret :: G) rm (Pm Wd T B μ As) Qc mc ms (Ai B)) (hl : Cond.methodLinkNest own index y host ∈ NWl) (hst : Cond.static y ∈ G) (hini : Cond.initialized y.cls ∈ G) (hco : Cond.code y bytes maxL ret ∈ G) (hd : okd y n) (hrc : rm.cells = mc) (hrs : rm.slots = ms) (hR : okR R rm maxL)
    (hn : As.length = n) (hsz : ls.size = nL) (hcat : (rest.map fun v => v.category).sum ≤ 8) (hdg : decode cc pc = .ok (.invokestatic index, 3)) (hf : cells + mc ≤ R.cells ∧ slots + ms ≤ R.slots) : va_Run p l e R s m args below meth c H locs cells slots mc ms (F0 m pc ls (As.reverse ++ rest)) rest (Qc As.toArray) (Ai B) := by
  obtain ⟨hx, hb, hml, hown, hts, ⟨-, hNw, -⟩, -⟩ := id X
  exact va_runSN ⟨hx, hb, hml, hown, hts⟩ hM ⟨va_cnB n hts (gG hco) rfl hrc hrs (hNw _ hl) (hts _ hini) hd hR, hts _ hst, trivial⟩ ⟨mx_blind, mx_pre X M⟩ rfl hn hsz rfl (lv_room hcat) hdg hf
theorem mx_runIN {b : Nat} {host : String} (X : CX T B p m c cc nL s args own) (M : MG Wd B s μ H locs) (hM : Met l y (.code y bytes maxL none :: G) rm (Pm Wd T B μ (.ref b :: As)) Qc mc ms (Ai B)) (hl : Cond.methodLinkNest own index y host ∈ NWl) (hst : Cond.instanceMethod y ∈ G) (hy1 : y.name = "<init>") (hini : Cond.initialized y.cls ∈ G) (hco : Cond.code y bytes maxL none ∈ G) (hd : okd y n) (hrc : rm.cells = mc) (hrs : rm.slots = ms) (hR : okR R rm maxL)
    (hn : As.length = n) (hsz : ls.size = nL) (hcat : (rest.map fun v => v.category).sum ≤ 8) (hdg : decode cc pc = .ok (.invokespecial index, 3)) (hf : cells + mc ≤ R.cells ∧ slots + ms ≤ R.slots) : va_Run p l e R s m args below meth c H locs cells slots mc ms (F0 m pc ls (As.reverse ++ .ref b :: rest)) rest (Qc (.ref b :: As).toArray) (Ai B) := by
  obtain ⟨hx, hb, hml, hown, hts, ⟨-, hNw, -⟩, -⟩ := id X
  exact va_runIN ⟨hx, hb, hml, hown, hts⟩ hM ⟨va_cnB n hts (gG hco) rfl hrc hrs (hNw _ hl) (hts _ hini) hd hR, hy1, hts _ hst⟩ ⟨mx_blind, mx_pre X M⟩ rfl hn hsz rfl (lv_room hcat) hdg hf
variable {Q : State → Prop} {a : Array Value} {st0 : List Value}
theorem mx_ci {post : Int32 → S → Prop} (M : MG Wd B s μ H locs) (hr : va_Run p l e R s m args below meth c H locs cells slots mc ms (F0 m pc ls st0) rest (va_Qi post (Bm Wd) (Ai B) a) (Ai B))
    (kk : ∀ (r : Int32) (μ : S) (H1 : Heap) (locs1 : List Loc), post r μ → MG Wd B s μ H1 locs1 → W p l e R s m args below meth c H1 locs1 (cells + mc) (slots + ms) Q (F0 m (pc + 3) ls (.int r :: rest))) : W p l e R s m args below meth c H locs cells slots Q (F0 m pc ls st0) :=
  va_calli hr M.2.2 (fun _ _ h => h) (fun _ h => h) (fun r u t H1 locs1 ht _ hp hB _ _ hS => kk r u H1 locs1 hp ⟨by rw [← ht]; exact hB, M.2.1, hS⟩)
theorem mx_cl {post : Int64 → S → Prop} (M : MG Wd B s μ H locs) (hr : va_Run p l e R s m args below meth c H locs cells slots mc ms (F0 m pc ls st0) rest (va_Ql post (Bm Wd) (Ai B) a) (Ai B))
    (kk : ∀ (r : Int64) (μ : S) (H1 : Heap) (locs1 : List Loc), post r μ → MG Wd B s μ H1 locs1 → W p l e R s m args below meth c H1 locs1 (cells + mc) (slots + ms) Q (F0 m (pc + 3) ls (.long r :: rest))) : W p l e R s m args below meth c H locs cells slots Q (F0 m pc ls st0) :=
  va_calll hr M.2.2 (fun _ _ h => h) (fun _ h => h) (fun r u t H1 locs1 ht _ hp hB _ _ hS => kk r u H1 locs1 hp ⟨by rw [← ht]; exact hB, M.2.1, hS⟩)
theorem mx_cv {post : S → Prop} (M : MG Wd B s μ H locs) (hr : va_Run p l e R s m args below meth c H locs cells slots mc ms (F0 m pc ls st0) rest (va_Qv post (Bm Wd) (Ai B) a) (Ai B))
    (kk : ∀ (μ : S) (H1 : Heap) (locs1 : List Loc), post μ → MG Wd B s μ H1 locs1 → W p l e R s m args below meth c H1 locs1 (cells + mc) (slots + ms) Q (F0 m (pc + 3) ls rest)) : W p l e R s m args below meth c H locs cells slots Q (F0 m pc ls st0) :=
  va_callv hr M.2.2 (fun _ _ h => h) (fun _ h => h) (fun u t H1 locs1 ht _ hp hB _ _ hS => kk u H1 locs1 hp ⟨by rw [← ht]; exact hB, M.2.1, hS⟩)
theorem mx_cq {post : Option Nat → S → Prop} (M : MG Wd B s μ H locs) (hr : va_Run p l e R s m args below meth c H locs cells slots mc ms (F0 m pc ls st0) rest (va_Qq post (Bm Wd) (Ai B) a) (Ai B))
    (kk : ∀ (r : Option Nat) (μ : S) (H1 : Heap) (locs1 : List Loc), post r μ → MG Wd B s μ H1 locs1 → W p l e R s m args below meth c H1 locs1 (cells + mc) (slots + ms) Q (F0 m (pc + 3) ls (va_rf r :: rest))) : W p l e R s m args below meth c H locs cells slots Q (F0 m pc ls st0) :=
  va_callq hr M.2.2 (fun _ _ h => h) (fun _ h => h) (fun r u t H1 locs1 ht _ hp hB _ _ hS => kk r u H1 locs1 hp ⟨by rw [← ht]; exact hB, M.2.1, hS⟩)
end ENDS
theorem mx_recv {T : Tb} {B : Nat} {p : Program} {s : State} {m : MethodId} {args : Array Value} {c : Code} {H : Heap} {locs : List Loc} {cc : ByteArray} {nL : Nat} {own : String} {μ : Mem} {b ci : Nat} {C : String} {F : u_T} {N : Nat} (X : CX T B p m c cc nL s args own) (M : MS T B s μ H locs) (hc : vwCl[ci]? = some (C, F, N)) (hci : ci < 100) (hb : kd μ b = ci + 1) : ∃ cell : Cell, H[b]? = some cell ∧ cell.vm.isStatics = false ∧ s.vm.findClass C = some cell.cls := by
  obtain ⟨-, -, -, -, -, ⟨hK, -⟩, -⟩ := X
  obtain ⟨⟨L, hL, hP, hD, -⟩, -, hS⟩ := M
  obtain ⟨q, hq⟩ := va_pl_get (X := []) (f := en T μ) ((hL b).mpr ⟨by omega, by omega⟩)
  rw [en_o hb hci] at hq
  exact va_recv hK hP hc hq
