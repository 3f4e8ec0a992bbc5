/-! rows for StringBuilder: statics, calls of the superclass's methods -/
section TROWS
variable {T : Tb} {B : Nat} {p : Program} {l : Launch} {e : Env} {R : Room} {s : State} {m : MethodId} {args : Array Value} {below : List Frame} {meth : Method} {c : Code} {H : Heap} {locs : List Loc} {cells slots mc ms : Nat} {Q : State → Prop}
variable {cc : ByteArray} {nL pc : Nat} {own : String} {ls : Array Slot} {rest : List Value} {μ : Mem} {a b : Nat}
theorem my_stC (X : CX T B p m c cc nL s args own) (M : MS T B s μ H locs) {index : Nat} (hlink : Cond.fieldLink own index "java/lang/String" "COMPACT_STRINGS" "Z" ∈ G) (hdg : decode cc pc = .ok (.getstatic index, 3))
    (kk : W p l e R s m args below meth c H locs cells slots Q (F0 m (pc + 3) ls (.int 1 :: rest))) : W p l e R s m args below meth c H locs cells slots Q (F0 m pc ls rest) := by
  obtain ⟨hx, hb, -, hown, hts, ⟨hK, -⟩, hSF⟩ := X
  exact va_gets hx hb (hSF.1 _ List.mem_cons_self) M.2.2 hown (hts _ hlink) (fun _ h => h) hdg kk
theorem my_stT (X : CX T B p m c cc nL s args own) (M : MS T B s μ H locs) {index : Nat} (hlink : Cond.fieldLink own index "java/lang/Integer" "DigitTens" "[B" ∈ G) (hdg : decode cc pc = .ok (.getstatic index, 3))
    (kk : ∀ q : Nat, kd μ q = 107 → W p l e R s m args below meth c H locs cells slots Q (F0 m (pc + 3) ls (.ref q :: rest))) : W p l e R s m args below meth c H locs cells slots Q (F0 m pc ls rest) := by
  obtain ⟨hx, hb, -, hown, hts, ⟨hK, -⟩, hSF⟩ := X
  obtain ⟨⟨L, hL, hP, hD, hRs⟩, hB, hS⟩ := M
  exact va_gets hx hb (hSF.1 _ (List.mem_cons_of_mem _ (List.mem_cons_of_mem _ List.mem_cons_self))) hS hown (hts _ hlink) (fun _ h => h) hdg (kk (st T 1) hRs.2.2.2.2.2.1)
theorem my_stO (X : CX T B p m c cc nL s args own) (M : MS T B s μ H locs) {index : Nat} (hlink : Cond.fieldLink own index "java/lang/Integer" "DigitOnes" "[B" ∈ G) (hdg : decode cc pc = .ok (.getstatic index, 3))
    (kk : ∀ q : Nat, kd μ q = 108 → W p l e R s m args below meth c H locs cells slots Q (F0 m (pc + 3) ls (.ref q :: rest))) : W p l e R s m args below meth c H locs cells slots Q (F0 m pc ls rest) := by
  obtain ⟨hx, hb, -, hown, hts, ⟨hK, -⟩, hSF⟩ := X
  obtain ⟨⟨L, hL, hP, hD, hRs⟩, hB, hS⟩ := M
  exact va_gets hx hb (hSF.1 _ (List.mem_cons_of_mem _ (List.mem_cons_of_mem _ (List.mem_cons_of_mem _ List.mem_cons_self)))) hS hown (hts _ hlink) (fun _ h => h) hdg (kk (st T 2) hRs.2.2.2.2.2.2.1)
theorem my_tlT (X : CX T B p m c cc nL s args own) (M : MS T B s μ H locs) (hdg : decode cc pc = .ok (.baload, 1)) (ha : kd μ a = 107) {i : Int32} (hi : vp_in i 100)
    (kk : W p l e R s m args below meth c H locs cells slots Q (F0 m (pc + 1) ls (.int (dTens i.toNatClampNeg) :: rest))) : W p l e R s m args below meth c H locs cells slots Q (F0 m pc ls (.int i :: .ref a :: rest)) := by
  obtain ⟨hx, hb, -, hown, hts, ⟨hK, -⟩, hSF⟩ := X
  obtain ⟨⟨L, hL, hP, hD, hRs⟩, hB, hS⟩ := M
  rw [hRs.2.2.1 a ha]
  exact va_tb hx hb (hSF.2.1 _ (List.mem_cons_of_mem _ List.mem_cons_self)) hS hi rfl hdg kk
theorem my_tlO (X : CX T B p m c cc nL s args own) (M : MS T B s μ H locs) (hdg : decode cc pc = .ok (.baload, 1)) (ha : kd μ a = 108) {i : Int32} (hi : vp_in i 100)
    (kk : W p l e R s m args below meth c H locs cells slots Q (F0 m (pc + 1) ls (.int (dOnes i.toNatClampNeg) :: rest))) : W p l e R s m args below meth c H locs cells slots Q (F0 m pc ls (.int i :: .ref a :: rest)) := by
  obtain ⟨hx, hb, -, hown, hts, ⟨hK, -⟩, hSF⟩ := X
  obtain ⟨⟨L, hL, hP, hD, hRs⟩, hB, hS⟩ := M
  rw [hRs.2.2.2.1 a ha]
  exact va_tb hx hb (hSF.2.1 _ (List.mem_cons_of_mem _ (List.mem_cons_of_mem _ List.mem_cons_self))) hS hi rfl hdg kk
theorem my_stF (X : CX T B p m c cc nL s args own) (M : MS T B s μ H locs) {index : Nat} (hlink : Cond.fieldLink own index "jdk/internal/util/Preconditions" "SIOOBE_FORMATTER" "Ljava/util/function/BiFunction;" ∈ G) (hdg : decode cc pc = .ok (.getstatic index, 3))
    (kk : ∀ r : Option Nat, W p l e R s m args below meth c H locs cells slots Q (F0 m (pc + 3) ls (va_rf r :: rest))) : W p l e R s m args below meth c H locs cells slots Q (F0 m pc ls rest) := by
  obtain ⟨hx, hb, -, hown, hts, ⟨hK, -⟩, hSF⟩ := X
  rcases hSF.2.2 with h | ⟨t, h⟩
  · exact va_gets hx hb h M.2.2 hown (hts _ hlink) (fun _ h => h) hdg (kk none)
  · exact va_gets hx hb h M.2.2 hown (hts _ hlink) (fun _ h => h) hdg (kk (some t))
theorem mx_runSU {y : MethodName} {bytes : ByteArray} {maxL n index : Nat} {ret : Option FieldType} {rm : Room} {Qc : Array Value → State → Outcome → State → Prop} {As : List Value} (X : CX T B p m c cc nL s args own) (M : MS T B s μ H locs) (hM : Met l y (.code y bytes maxL ret :: G) rm (Pm (Rl T B) T B μ (.ref b :: As)) Qc mc ms (Ai B)) (hb2 : kd μ b = 1) (hl : Cond.methodLink own index y ∈ G) (hsm : Cond.sameMethod y.cls y.cls y.name y.desc ∈ G) (hsu : Cond.superclass own y.cls ∈ G) (hst : Cond.instanceMethod y ∈ G) (hini : Cond.initialized y.cls ∈ G) (hco : Cond.code y bytes maxL ret ∈ G) (hd : y.name ≠ "<init>" ∧ (parseMethodDescriptor y.desc).map (fun d => d.parameters.length) = some n) (hrc : rm.cells = mc) (hrs : rm.slots = ms) (hR : okR R rm maxL)
    (hn : As.length = n) (hsz : ls.size = nL) (hcat : (rest.map fun v => v.category).sum ≤ 8) (hdg : decode cc pc = .ok (.invokespecial index, 3)) (hf : cells + mc ≤ R.cells ∧ slots + ms ≤ R.slots) : va_Run p l e R s m args below meth c H locs cells slots mc ms (F0 m pc ls (As.reverse ++ .ref b :: rest)) rest (Qc (.ref b :: As).toArray) (Ai B) := by
  have hrv := mx_recv (ci := 0) (C := RJ4) (F := TJ4) (N := 4) X M rfl (by decide) hb2
  obtain ⟨hx, hb, hml, hown, hts, ⟨hK, -⟩, -⟩ := id X
  have hat := (hK.1 0 (RJ4, TJ4, 4) rfl).2
  refine va_runSU hat ⟨hx, hb, hml, hown, hts⟩ hM ⟨⟨hrc, hrs, hR.1, hR.2, pay_in hts (gG hco), List.mem_cons_self⟩, hts _ hl, hts _ hsm, hts _ hsu, hts _ hst, hts _ hini, hts _ hco, hd.1, fun sig h => ?_⟩ ⟨mx_blind, hrv, mx_pre X M⟩ rfl hn hsz rfl (lv_room hcat) hdg hf
  have h2 := hd.2
  rw [h] at h2
  exact (Option.some.inj h2).symm
theorem kx_0 : Cond.selects "java/lang/StringBuilder" ySBe ySBe ∈ G := inGx List.mem_cons_self (by decide +kernel)
theorem kx_1 : Cond.selects "java/lang/StringBuilder" ySBn ySBn ∈ G := inGx (List.mem_cons_of_mem _ List.mem_cons_self) (by decide +kernel)
end TROWS
