/-! one row an instruction over the memory -/
section ROWS
variable {T : Tb} {B : Nat} {p : Program} {l : Launch} {e : Env} {R : Room} {s : State} {m : MethodId} {args : Array Value} {below : List Frame} {meth : Method} {c : Code} {H : Heap} {locs : List Loc} {cells slots : Nat} {Q : State → Prop}
variable {cc : ByteArray} {nL pc : Nat} {own : String} {ls : Array Slot} {rest : List Value} {μ : Mem} {a : Nat}
theorem mx_geti (X : CX T B p m c cc nL s args own) (M : MS T B s μ H locs) {C : String} {F : u_T} {N ci index : Nat} (k : Nat) (hc : vwCl[ci]? = some (C, F, N)) (hin : ∀ w ∈ u_ws C F N, w ∈ G) (hN : k < N) (hs : (sg ci)[k]? = some false) (hci : ci < 100)
    (hlink : Cond.fieldLink own index (F k).1 (F k).2.1 (F k).2.2.1 ∈ G) (hdg : decode cc pc = .ok (.getfield index, 3)) (ha : kd μ a = ci + 1)
    (kk : W p l e R s m args below meth c H locs cells slots Q (F0 m (pc + 3) ls (.int (fi μ ci k a) :: rest))) : W p l e R s m args below meth c H locs cells slots Q (F0 m pc ls (.ref a :: rest)) := by
  obtain ⟨hx, hb, -, hown, hts, ⟨hK, -⟩, hSF⟩ := X
  obtain ⟨⟨L, hL, hP, hD, hRs⟩, -, hS⟩ := M
  obtain ⟨q, hq⟩ := va_pl_get (X := []) (f := en T μ) ((hL a).mpr ⟨by omega, by omega⟩)
  rw [en_o ha hci] at hq
  exact va_get hx hb hts hin hown hK hP q hq hc k hN (hts _ hlink) (fun _ h => h) (v := .int (fi μ ci k a)) (by rw [fls_get hs]; rfl) hdg kk
theorem mx_getr (X : CX T B p m c cc nL s args own) (M : MS T B s μ H locs) {C : String} {F : u_T} {N ci index : Nat} (k : Nat) (hc : vwCl[ci]? = some (C, F, N)) (hin : ∀ w ∈ u_ws C F N, w ∈ G) (hN : k < N) (hs : (sg ci)[k]? = some true) (hci : ci < 100)
    (hlink : Cond.fieldLink own index (F k).1 (F k).2.1 (F k).2.2.1 ∈ G) (hdg : decode cc pc = .ok (.getfield index, 3)) (ha : kd μ a = ci + 1)
    (kk : W p l e R s m args below meth c H locs cells slots Q (F0 m (pc + 3) ls (va_rf (fr μ ci k a) :: rest))) : W p l e R s m args below meth c H locs cells slots Q (F0 m pc ls (.ref a :: rest)) := by
  obtain ⟨hx, hb, -, hown, hts, ⟨hK, -⟩, hSF⟩ := X
  obtain ⟨⟨L, hL, hP, hD, hRs⟩, -, hS⟩ := M
  obtain ⟨q, hq⟩ := va_pl_get (X := []) (f := en T μ) ((hL a).mpr ⟨by omega, by omega⟩)
  rw [en_o ha hci] at hq
  exact va_get hx hb hts hin hown hK hP q hq hc k hN (hts _ hlink) (fun _ h => h) (v := va_rf (fr μ ci k a)) (by rw [fls_get hs]; rfl) hdg kk
theorem fls_seti {μ : Mem} {c k a : Nat} {v : Int32} (hs : (sg c)[k]? = some false) : (fls μ c a).set k (.int v) = fls (sfi μ c k a v) c a := by
  apply List.ext_getElem?
  intro i
  rw [List.getElem?_set]
  by_cases hi : k = i
  · subst hi
    have hl : k < (fls μ c a).length := by rw [fls_len]; exact (List.getElem?_eq_some_iff.mp hs).1
    simp [hl, fls_get hs, sfi, fi, up3]
  · rw [if_neg hi]
    cases hb : (sg c)[i]? with
    | none => simp [fls, List.getElem?_map, List.getElem?_zipIdx, hb]
    | some b =>
      rw [fls_get hb, fls_get hb]
      have hi' : ¬ i = k := fun h => hi h.symm
      simp [sfi, fi, fr, up3, hi']
theorem fls_setr {μ : Mem} {c k a : Nat} {v : Option Nat} (hs : (sg c)[k]? = some true) : (fls μ c a).set k (va_rf v) = fls (sfr μ c k a v) c a := by
  apply List.ext_getElem?
  intro i
  rw [List.getElem?_set]
  by_cases hi : k = i
  · subst hi
    have hl : k < (fls μ c a).length := by rw [fls_len]; exact (List.getElem?_eq_some_iff.mp hs).1
    simp [hl, fls_get hs, sfr, fr, up3]
  · rw [if_neg hi]
    cases hb : (sg c)[i]? with
    | none => simp [fls, List.getElem?_map, List.getElem?_zipIdx, hb]
    | some b =>
      rw [fls_get hb, fls_get hb]
      have hi' : ¬ i = k := fun h => hi h.symm
      simp [sfr, fi, fr, up3, hi']
theorem fls_oi {μ : Mem} {c d k a b : Nat} {v : Int32} (h : b ≠ a) : fls (sfi μ c k a v) d b = fls μ d b := by simp [fls, sfi, fi, fr, up3, h]
theorem fls_or {μ : Mem} {c d k a b : Nat} {v : Option Nat} (h : b ≠ a) : fls (sfr μ c k a v) d b = fls μ d b := by simp [fls, sfr, fi, fr, up3, h]
theorem en_congr {T : Tb} {μ μ' : Mem} {b : Nat} (h0 : kd μ' b = kd μ b) (h1 : al μ' b = al μ b) (h2 : ai μ' b = ai μ b) (h3 : aj μ' b = aj μ b) (h4 : ar μ' b = ar μ b) (h5 : ∀ d, fls μ' d b = fls μ d b) : en T μ' b = en T μ b := by
  unfold en; rw [h0, h1, h2, h3, h4, h5]
theorem mx_puti (X : CX T B p m c cc nL s args own) (M : MS T B s μ H locs) {C : String} {F : u_T} {N ci index : Nat} (k : Nat) (hc : vwCl[ci]? = some (C, F, N)) (hin : ∀ w ∈ u_ws C F N, w ∈ G) (ty : Nat → FieldType) (hty : ∀ k, k < N → parseFieldDescriptor (F k).2.2.1 = some (ty k)) (hnm : ∀ a, a < N → ∀ b, b < N → a ≠ b → (F a).2.1 ≠ (F b).2.1) (hN : k < N) (hs : (sg ci)[k]? = some false) (hci : ci < 100)
    (hlink : Cond.fieldLink own index (F k).1 (F k).2.1 (F k).2.2.1 ∈ G) (hfin : (F k).2.2.2 = false) (hdg : decode cc pc = .ok (.putfield index, 3)) (ha : kd μ a = ci + 1) {v : Int32} (hn : narrow (ty k) (.int v) = .int v) (hf : fits (ty k) (.int v) = true)
    (kk : ∀ (H1 : Heap) (locs1 : List Loc), MS T B s (sfi μ ci k a v) H1 locs1 → W p l e R s m args below meth c H1 locs1 cells slots Q (F0 m (pc + 3) ls rest)) : W p l e R s m args below meth c H locs cells slots Q (F0 m pc ls (.int v :: .ref a :: rest)) := by
  obtain ⟨hx, hb, -, hown, hts, ⟨hK, -⟩, hSF⟩ := X
  obtain ⟨⟨L, hL, hP, hD, hRs⟩, hB, hS⟩ := M
  have hm := (hL a).mpr ⟨by omega, by omega⟩
  obtain ⟨q, hq⟩ := va_pl_get (X := []) (f := en T μ) hm
  have hq0 := hq
  rw [en_o ha hci] at hq
  refine va_put hx hb hts hin ty hty hnm hown hK hP hD hS q hq hc k hN (hts _ hlink) (fun _ h => h) hfin (hty k hN) hn hf (by rw [fls_len]; exact (List.getElem?_eq_some_iff.mp hs).1) hdg fun H1 locs1 hP1 hD1 hS1 => kk H1 locs1 ⟨?_, hB, hS1⟩
  refine Rl.store (μ' := sfi μ ci k a v) hL hRs (fun _ => rfl) hD hm hq0 (fun _ => rfl) ?_ (fun b hb => en_congr rfl rfl rfl rfl rfl (fun d => fls_oi hb)) hP1 hD1
  rw [en_o (show kd (sfi μ ci k a v) a = ci + 1 from ha) hci, fls_seti hs]
theorem mx_putr (X : CX T B p m c cc nL s args own) (M : MS T B s μ H locs) {C : String} {F : u_T} {N ci index : Nat} (k : Nat) (hc : vwCl[ci]? = some (C, F, N)) (hin : ∀ w ∈ u_ws C F N, w ∈ G) (ty : Nat → FieldType) (hty : ∀ k, k < N → parseFieldDescriptor (F k).2.2.1 = some (ty k)) (hnm : ∀ a, a < N → ∀ b, b < N → a ≠ b → (F a).2.1 ≠ (F b).2.1) (hN : k < N) (hs : (sg ci)[k]? = some true) (hci : ci < 100)
    (hlink : Cond.fieldLink own index (F k).1 (F k).2.1 (F k).2.2.1 ∈ G) (hfin : (F k).2.2.2 = false) (hdg : decode cc pc = .ok (.putfield index, 3)) (ha : kd μ a = ci + 1) {v : Option Nat} (hn : narrow (ty k) (va_rf v) = va_rf v) (hf : fits (ty k) (va_rf v) = true)
    (kk : ∀ (H1 : Heap) (locs1 : List Loc), MS T B s (sfr μ ci k a v) H1 locs1 → W p l e R s m args below meth c H1 locs1 cells slots Q (F0 m (pc + 3) ls rest)) : W p l e R s m args below meth c H locs cells slots Q (F0 m pc ls (va_rf v :: .ref a :: rest)) := by
  obtain ⟨hx, hb, -, hown, hts, ⟨hK, -⟩, hSF⟩ := X
  obtain ⟨⟨L, hL, hP, hD, hRs⟩, hB, hS⟩ := M
  have hm := (hL a).mpr ⟨by omega, by omega⟩
  obtain ⟨q, hq⟩ := va_pl_get (X := []) (f := en T μ) hm
  have hq0 := hq
  rw [en_o ha hci] at hq
  refine va_put hx hb hts hin ty hty hnm hown hK hP hD hS q hq hc k hN (hts _ hlink) (fun _ h => h) hfin (hty k hN) hn hf (by rw [fls_len]; exact (List.getElem?_eq_some_iff.mp hs).1) hdg fun H1 locs1 hP1 hD1 hS1 => kk H1 locs1 ⟨?_, hB, hS1⟩
  refine Rl.store (μ' := sfr μ ci k a v) hL hRs (fun _ => rfl) hD hm hq0 (fun _ => rfl) ?_ (fun b hb => en_congr rfl rfl rfl rfl rfl (fun d => fls_or hb)) hP1 hD1
  rw [en_o (show kd (sfr μ ci k a v) a = ci + 1 from ha) hci, fls_setr hs]
/-- a final field, in a constructor -/
theorem mx_putrF (X : CX T B p m c cc nL s args own) (M : MS T B s μ H locs) {C : String} {F : u_T} {N ci index : Nat} (k : Nat) (hc : vwCl[ci]? = some (C, F, N)) (hin : ∀ w ∈ u_ws C F N, w ∈ G) (ty : Nat → FieldType) (hty : ∀ k, k < N → parseFieldDescriptor (F k).2.2.1 = some (ty k)) (hnm : ∀ a, a < N → ∀ b, b < N → a ≠ b → (F a).2.1 ≠ (F b).2.1) (hN : k < N) (hs : (sg ci)[k]? = some true) (hci : ci < 100)
    (hlink : Cond.fieldLink own index (F k).1 (F k).2.1 (F k).2.2.1 ∈ G) (hfin : (F k).2.2.2 = true) (hin2 : meth.name = "<init>") (hdecl : (F k).1 = own) (hdg : decode cc pc = .ok (.putfield index, 3)) (ha : kd μ a = ci + 1) {v : Option Nat} (hn : narrow (ty k) (va_rf v) = va_rf v) (hf : fits (ty k) (va_rf v) = true)
    (kk : ∀ (H1 : Heap) (locs1 : List Loc), MS T B s (sfr μ ci k a v) H1 locs1 → W p l e R s m args below meth c H1 locs1 cells slots Q (F0 m (pc + 3) ls rest)) : W p l e R s m args below meth c H locs cells slots Q (F0 m pc ls (va_rf v :: .ref a :: rest)) := by
  obtain ⟨hx, hb, -, hown, hts, ⟨hK, -⟩, hSF⟩ := X
  obtain ⟨⟨L, hL, hP, hD, hRs⟩, hB, hS⟩ := M
  have hm := (hL a).mpr ⟨by omega, by omega⟩
  obtain ⟨q, hq⟩ := va_pl_get (X := []) (f := en T μ) hm
  have hq0 := hq
  rw [en_o ha hci] at hq
  refine va_putF hx hb hts hin ty hty hnm hown hK hP hD hS q hq hc k hN (hts _ hlink) (fun _ h => h) hfin hin2 hdecl (hty k hN) hn hf (by rw [fls_len]; exact (List.getElem?_eq_some_iff.mp hs).1) hdg fun H1 locs1 hP1 hD1 hS1 => kk H1 locs1 ⟨?_, hB, hS1⟩
  refine Rl.store (μ' := sfr μ ci k a v) hL hRs (fun _ => rfl) hD hm hq0 (fun _ => rfl) ?_ (fun b hb => en_congr rfl rfl rfl rfl rfl (fun d => fls_or hb)) hP1 hD1
  rw [en_o (show kd (sfr μ ci k a v) a = ci + 1 from ha) hci, fls_setr hs]
theorem mx_putiF (X : CX T B p m c cc nL s args own) (M : MS T B s μ H locs) {C : String} {F : u_T} {N ci index : Nat} (k : Nat) (hc : vwCl[ci]? = some (C, F, N)) (hin : ∀ w ∈ u_ws C F N, w ∈ G) (ty : Nat → FieldType) (hty : ∀ k, k < N → parseFieldDescriptor (F k).2.2.1 = some (ty k)) (hnm : ∀ a, a < N → ∀ b, b < N → a ≠ b → (F a).2.1 ≠ (F b).2.1) (hN : k < N) (hs : (sg ci)[k]? = some false) (hci : ci < 100)
    (hlink : Cond.fieldLink own index (F k).1 (F k).2.1 (F k).2.2.1 ∈ G) (hfin : (F k).2.2.2 = true) (hin2 : meth.name = "<init>") (hdecl : (F k).1 = own) (hdg : decode cc pc = .ok (.putfield index, 3)) (ha : kd μ a = ci + 1) {v : Int32} (hn : narrow (ty k) (.int v) = .int v) (hf : fits (ty k) (.int v) = true)
    (kk : ∀ (H1 : Heap) (locs1 : List Loc), MS T B s (sfi μ ci k a v) H1 locs1 → W p l e R s m args below meth c H1 locs1 cells slots Q (F0 m (pc + 3) ls rest)) : W p l e R s m args below meth c H locs cells slots Q (F0 m pc ls (.int v :: .ref a :: rest)) := by
  obtain ⟨hx, hb, -, hown, hts, ⟨hK, -⟩, hSF⟩ := X
  obtain ⟨⟨L, hL, hP, hD, hRs⟩, hB, hS⟩ := M
  have hm := (hL a).mpr ⟨by omega, by omega⟩
  obtain ⟨q, hq⟩ := va_pl_get (X := []) (f := en T μ) hm
  have hq0 := hq
  rw [en_o ha hci] at hq
  refine va_putF hx hb hts hin ty hty hnm hown hK hP hD hS q hq hc k hN (hts _ hlink) (fun _ h => h) hfin hin2 hdecl (hty k hN) hn hf (by rw [fls_len]; exact (List.getElem?_eq_some_iff.mp hs).1) hdg fun H1 locs1 hP1 hD1 hS1 => kk H1 locs1 ⟨?_, hB, hS1⟩
  refine Rl.store (μ' := sfi μ ci k a v) hL hRs (fun _ => rfl) hD hm hq0 (fun _ => rfl) ?_ (fun b hb => en_congr rfl rfl rfl rfl rfl (fun d => fls_oi hb)) hP1 hD1
  rw [en_o (show kd (sfi μ ci k a v) a = ci + 1 from ha) hci, fls_seti hs]
def fs0 (c : Nat) : List Value := (sg c).map (fun b => if b = true then .null else .int 0)
theorem fls_nob {μ : Mem} {c a : Nat} : fls (nob μ c a) c a = fs0 c := by
  apply List.ext_getElem?
  intro i
  cases hb : (sg c)[i]? with
  | none => simp [fls, fs0, List.getElem?_map, List.getElem?_zipIdx, hb]
  | some b =>
    rw [fls_get hb]
    simp [fs0, List.getElem?_map, hb, nob, fi, fr, va_rf]
theorem fls_nobo {μ : Mem} {c d a b : Nat} (h : b ≠ a) : fls (nob μ c a) d b = fls μ d b := by simp [fls, nob, fi, fr, h]
theorem mx_new (X : CX T B p m c cc nL s args own) (M : MS T B s μ H locs) {C : String} {F : u_T} {N ci index : Nat} (hc : vwCl[ci]? = some (C, F, N)) (hin : ∀ w ∈ u_ws C F N, w ∈ G) (ty : Nat → FieldType) (hty : ∀ k, k < N → parseFieldDescriptor (F k).2.2.1 = some (ty k)) (hfs : ∀ j, j < N → defaultValue (ty j) = vp_V (fs0 ci) j) (hci : ci < 100)
    (hlink : Cond.classLink own index C ∈ G) (hinst : Cond.instantiable C N ∈ G) (hini : Cond.initialized C ∈ G) (hdg : decode cc pc = .ok (.new index, 3)) (h1 : cells + 1 ≤ R.cells) (h2 : slots + N ≤ R.slots)
    (kk : ∀ (q : Nat) (H1 : Heap), kd μ q = 0 → MS T B s (nob μ ci q) H1 locs → W p l e R s m args below meth c H1 locs (cells + 1) (slots + N) Q (F0 m (pc + 3) ls (.ref q :: rest))) : W p l e R s m args below meth c H locs cells slots Q (F0 m pc ls rest) := by
  obtain ⟨hx, hb, -, hown, hts, ⟨hK, -⟩, hSF⟩ := X
  obtain ⟨⟨L, hL, hP, hD, hRs⟩, hB, hS⟩ := M
  refine va_new hx hb hts hin ty hty hown (hts _ hlink) (hts _ hinst) (hts _ hini) hK hP hD hS (fun q h => Nat.le_trans hB h) hc hfs h1 h2 hdg fun q H1 hP1 hD1 hS1 => ?_
  have hq : q ∉ L := va_pl_fresh2 (X := []) hD1
  have hAq : Ai B q := vaD_last hD1
  have hkq : kd μ q = 0 := Rs.fresh hSF hRs hL hq hAq
  refine kk q H1 hkq ⟨?_, hB, hS1⟩
  have hk1 : kd (nob μ ci q) q = ci + 1 := by simp [kd, nob, va_up]
  refine Rl.made (μ' := nob μ ci q) hL hRs hkq (fun _ _ => rfl) hq (Nat.succ_ne_zero ci) (by omega) hk1 (fun b hb => by simp [kd, nob, va_up, hb]) ?_ (fun b hb => en_congr (by simp [kd, nob, va_up, hb]) rfl rfl rfl rfl (fun d => fls_nobo hb)) hP1 hD1
  rw [en_o hk1 hci, fls_nob]
theorem mx_ald (X : CX T B p m c cc nL s args own) (M : MS T B s μ H locs) (hdg : decode cc pc = .ok (.iaload, 1)) (ha : kd μ a = 102) {i : Int32} (hi : vp_in i (al μ a))
    (kk : W p l e R s m args below meth c H locs cells slots Q (F0 m (pc + 1) ls (.int (ai μ a i.toNatClampNeg) :: rest))) : W p l e R s m args below meth c H locs cells slots Q (F0 m pc ls (.int i :: .ref a :: rest)) := by
  obtain ⟨hx, hb, -, hown, hts, ⟨hK, -⟩, hSF⟩ := X
  obtain ⟨⟨L, hL, hP, hD, hRs⟩, -, hS⟩ := M
  obtain ⟨q, hq⟩ := va_pl_get (X := []) (f := en T μ) ((hL a).mpr ⟨by omega, by omega⟩)
  rw [en_i ha] at hq
  exact va_iald hx hb hK hP q 1 hq rfl hi hdg kk
theorem mx_bld (X : CX T B p m c cc nL s args own) (M : MS T B s μ H locs) (hdg : decode cc pc = .ok (.caload, 1)) (ha : kd μ a = 101) {i : Int32} (hi : vp_in i (al μ a))
    (kk : W p l e R s m args below meth c H locs cells slots Q (F0 m (pc + 1) ls (.int (ai μ a i.toNatClampNeg) :: rest))) : W p l e R s m args below meth c H locs cells slots Q (F0 m pc ls (.int i :: .ref a :: rest)) := by
  obtain ⟨hx, hb, -, hown, hts, ⟨hK, -⟩, hSF⟩ := X
  obtain ⟨⟨L, hL, hP, hD, hRs⟩, -, hS⟩ := M
  obtain ⟨q, hq⟩ := va_pl_get (X := []) (f := en T μ) ((hL a).mpr ⟨by omega, by omega⟩)
  rw [en_b ha] at hq
  exact va_cald hx hb hK hP q 0 hq rfl hi hdg kk
theorem mx_zld (X : CX T B p m c cc nL s args own) (M : MS T B s μ H locs) (hdg : decode cc pc = .ok (.baload, 1)) (ha : kd μ a = 104) {i : Int32} (hi : vp_in i (al μ a))
    (kk : W p l e R s m args below meth c H locs cells slots Q (F0 m (pc + 1) ls (.int (ai μ a i.toNatClampNeg) :: rest))) : W p l e R s m args below meth c H locs cells slots Q (F0 m pc ls (.int i :: .ref a :: rest)) := by
  obtain ⟨hx, hb, -, hown, hts, ⟨hK, -⟩, hSF⟩ := X
  obtain ⟨⟨L, hL, hP, hD, hRs⟩, -, hS⟩ := M
  obtain ⟨q, hq⟩ := va_pl_get (X := []) (f := en T μ) ((hL a).mpr ⟨by omega, by omega⟩)
  rw [en_z ha] at hq
  exact va_zald hx hb hK hP q 3 hq rfl hi hdg kk
theorem mx_jld (X : CX T B p m c cc nL s args own) (M : MS T B s μ H locs) (hdg : decode cc pc = .ok (.laload, 1)) (ha : kd μ a = 103) {i : Int32} (hi : vp_in i (al μ a))
    (kk : W p l e R s m args below meth c H locs cells slots Q (F0 m (pc + 1) ls (.long (aj μ a i.toNatClampNeg) :: rest))) : W p l e R s m args below meth c H locs cells slots Q (F0 m pc ls (.int i :: .ref a :: rest)) := by
  obtain ⟨hx, hb, -, hown, hts, ⟨hK, -⟩, hSF⟩ := X
  obtain ⟨⟨L, hL, hP, hD, hRs⟩, -, hS⟩ := M
  obtain ⟨q, hq⟩ := va_pl_get (X := []) (f := en T μ) ((hL a).mpr ⟨by omega, by omega⟩)
  rw [en_j ha] at hq
  exact va_lald hx hb hK hP q 2 hq rfl hi hdg kk
theorem mx_rld (X : CX T B p m c cc nL s args own) (M : MS T B s μ H locs) (hdg : decode cc pc = .ok (.aaload, 1)) (ha : kd μ a = 105) {i : Int32} (hi : vp_in i (al μ a))
    (kk : W p l e R s m args below meth c H locs cells slots Q (F0 m (pc + 1) ls (va_rf (ar μ a i.toNatClampNeg) :: rest))) : W p l e R s m args below meth c H locs cells slots Q (F0 m pc ls (.int i :: .ref a :: rest)) := by
  obtain ⟨hx, hb, -, hown, hts, ⟨hK, -⟩, hSF⟩ := X
  obtain ⟨⟨L, hL, hP, hD, hRs⟩, -, hS⟩ := M
  obtain ⟨q, hq⟩ := va_pl_get (X := []) (f := en T μ) ((hL a).mpr ⟨by omega, by omega⟩)
  rw [en_r ha] at hq
  exact va_aldq hx hb hK hP q 4 hq rfl hi hdg kk
def isArr (t : Nat) : Prop := t = 101 ∨ t = 102 ∨ t = 103 ∨ t = 104 ∨ t = 105 ∨ t = 106
theorem mx_len (X : CX T B p m c cc nL s args own) (M : MS T B s μ H locs) (hdg : decode cc pc = .ok (.arraylength, 1)) (ha : isArr (kd μ a))
    (kk : W p l e R s m args below meth c H locs cells slots Q (F0 m (pc + 1) ls (.int (nI (al μ a)) :: rest))) : W p l e R s m args below meth c H locs cells slots Q (F0 m pc ls (.ref a :: rest)) := by
  obtain ⟨hx, hb, -, hown, hts, ⟨hK, -⟩, hSF⟩ := X
  obtain ⟨⟨L, hL, hP, hD, hRs⟩, -, hS⟩ := M
  by_cases h6 : kd μ a = 106
  · have ha0 : a = st T 0 := hRs.2.1 a h6
    rw [show al μ a = 0 by rw [ha0]; exact hRs.2.2.2.2.2.2.2.1] at kk
    rw [ha0]
    exact va_tlen hx hb (hSF.2.1 _ List.mem_cons_self) hS rfl hdg kk
  have ha : kd μ a = 101 ∨ kd μ a = 102 ∨ kd μ a = 103 ∨ kd μ a = 104 ∨ kd μ a = 105 := by rcases ha with h | h | h | h | h | h <;> omega
  obtain ⟨q, hq⟩ := va_pl_get (X := []) (f := en T μ) ((hL a).mpr (by rcases ha with h | h | h | h | h <;> exact ⟨by omega, by omega⟩))
  rcases ha with h | h | h | h | h
  · rw [en_b h] at hq; exact va_alen hx hb hK hP q 0 hq rfl rfl hdg kk
  · rw [en_i h] at hq; exact va_alen hx hb hK hP q 1 hq rfl rfl hdg kk
  · rw [en_j h] at hq; exact va_alen hx hb hK hP q 2 hq rfl rfl hdg kk
  · rw [en_z h] at hq; exact va_alen hx hb hK hP q 3 hq rfl rfl hdg kk
  · rw [en_r h] at hq; exact va_alen hx hb hK hP q 4 hq rfl rfl hdg kk
theorem fls_sai {μ : Mem} {a i d b : Nat} {v : Int32} : fls (sai μ a i v) d b = fls μ d b := rfl
theorem fls_saj {μ : Mem} {a i d b : Nat} {v : Int64} : fls (saj μ a i v) d b = fls μ d b := rfl
theorem fls_sar {μ : Mem} {a i d b : Nat} {v : Option Nat} : fls (sar μ a i v) d b = fls μ d b := rfl
theorem sai_o {μ : Mem} {a i b : Nat} {v : Int32} (h : b ≠ a) : ai (sai μ a i v) b = ai μ b := by funext j; simp [sai, ai, up2, h]
theorem saj_o {μ : Mem} {a i b : Nat} {v : Int64} (h : b ≠ a) : aj (saj μ a i v) b = aj μ b := by funext j; simp [saj, aj, up2, h]
theorem sar_o {μ : Mem} {a i b : Nat} {v : Option Nat} (h : b ≠ a) : ar (sar μ a i v) b = ar μ b := by funext j; simp [sar, ar, up2, h]
theorem sai_s {μ : Mem} {a i : Nat} {v : Int32} : ai (sai μ a i v) a = upd (ai μ a) i v := by funext j; simp [sai, ai, up2, upd]
theorem saj_s {μ : Mem} {a i : Nat} {v : Int64} : aj (saj μ a i v) a = vp_updL (aj μ a) i v := by funext j; simp [saj, aj, up2, vp_updL]
theorem sar_s {μ : Mem} {a i : Nat} {v : Option Nat} : ar (sar μ a i v) a = va_up (ar μ a) i v := by funext j; simp [sar, ar, up2, va_up]
theorem mx_ast (X : CX T B p m c cc nL s args own) (M : MS T B s μ H locs) (hdg : decode cc pc = .ok (.iastore, 1)) (ha : kd μ a = 102) {i x : Int32} (hi : vp_in i (al μ a))
    (kk : ∀ (H1 : Heap) (locs1 : List Loc), MS T B s (sai μ a i.toNatClampNeg x) H1 locs1 → W p l e R s m args below meth c H1 locs1 cells slots Q (F0 m (pc + 1) ls rest)) : W p l e R s m args below meth c H locs cells slots Q (F0 m pc ls (.int x :: .int i :: .ref a :: rest)) := by
  obtain ⟨hx, hb, -, hown, hts, ⟨hK, -⟩, hSF⟩ := X
  obtain ⟨⟨L, hL, hP, hD, hRs⟩, hB, hS⟩ := M
  have hm := (hL a).mpr ⟨by omega, by omega⟩
  obtain ⟨q, hq⟩ := va_pl_get (X := []) (f := en T μ) hm
  have hq0 := hq
  rw [en_i ha] at hq
  refine va_iast hx hb hK hP hD hS q 1 hq rfl hi hdg fun H1 locs1 hP1 hD1 hS1 => kk H1 locs1 ⟨?_, hB, hS1⟩
  refine Rl.store (μ' := sai μ a i.toNatClampNeg x) hL hRs (fun _ => rfl) hD hm hq0 (fun _ => rfl) ?_ (fun b hb => en_congr rfl rfl (sai_o hb) rfl rfl (fun d => fls_sai)) hP1 hD1
  rw [en_i (show kd (sai μ a i.toNatClampNeg x) a = 102 from ha), sai_s]; rfl
theorem mx_bst (X : CX T B p m c cc nL s args own) (M : MS T B s μ H locs) (hdg : decode cc pc = .ok (.castore, 1)) (ha : kd μ a = 101) {i x : Int32} (hi : vp_in i (al μ a))
    (kk : ∀ (H1 : Heap) (locs1 : List Loc), MS T B s (sai μ a i.toNatClampNeg (vp_nar .char x)) H1 locs1 → W p l e R s m args below meth c H1 locs1 cells slots Q (F0 m (pc + 1) ls rest)) : W p l e R s m args below meth c H locs cells slots Q (F0 m pc ls (.int x :: .int i :: .ref a :: rest)) := by
  obtain ⟨hx, hb, -, hown, hts, ⟨hK, -⟩, hSF⟩ := X
  obtain ⟨⟨L, hL, hP, hD, hRs⟩, hB, hS⟩ := M
  have hm := (hL a).mpr ⟨by omega, by omega⟩
  obtain ⟨q, hq⟩ := va_pl_get (X := []) (f := en T μ) hm
  have hq0 := hq
  rw [en_b ha] at hq
  refine va_cast hx hb hK hP hD hS q 0 hq rfl hi hdg fun H1 locs1 hP1 hD1 hS1 => kk H1 locs1 ⟨?_, hB, hS1⟩
  refine Rl.store (μ' := sai μ a i.toNatClampNeg (vp_nar .char x)) hL hRs (fun _ => rfl) hD hm hq0 (fun _ => rfl) ?_ (fun b hb => en_congr rfl rfl (sai_o hb) rfl rfl (fun d => fls_sai)) hP1 hD1
  rw [en_b (show kd (sai μ a i.toNatClampNeg (vp_nar .char x)) a = 101 from ha), sai_s]; rfl
theorem mx_zst (X : CX T B p m c cc nL s args own) (M : MS T B s μ H locs) (hdg : decode cc pc = .ok (.bastore, 1)) (ha : kd μ a = 104) {i x : Int32} (hi : vp_in i (al μ a))
    (kk : ∀ (H1 : Heap) (locs1 : List Loc), MS T B s (sai μ a i.toNatClampNeg (vp_nar .boolean x)) H1 locs1 → W p l e R s m args below meth c H1 locs1 cells slots Q (F0 m (pc + 1) ls rest)) : W p l e R s m args below meth c H locs cells slots Q (F0 m pc ls (.int x :: .int i :: .ref a :: rest)) := by
  obtain ⟨hx, hb, -, hown, hts, ⟨hK, -⟩, hSF⟩ := X
  obtain ⟨⟨L, hL, hP, hD, hRs⟩, hB, hS⟩ := M
  have hm := (hL a).mpr ⟨by omega, by omega⟩
  obtain ⟨q, hq⟩ := va_pl_get (X := []) (f := en T μ) hm
  have hq0 := hq
  rw [en_z ha] at hq
  refine va_zast hx hb hK hP hD hS q 3 hq rfl hi hdg fun H1 locs1 hP1 hD1 hS1 => kk H1 locs1 ⟨?_, hB, hS1⟩
  refine Rl.store (μ' := sai μ a i.toNatClampNeg (vp_nar .boolean x)) hL hRs (fun _ => rfl) hD hm hq0 (fun _ => rfl) ?_ (fun b hb => en_congr rfl rfl (sai_o hb) rfl rfl (fun d => fls_sai)) hP1 hD1
  rw [en_z (show kd (sai μ a i.toNatClampNeg (vp_nar .boolean x)) a = 104 from ha), sai_s]; rfl
theorem mx_jst (X : CX T B p m c cc nL s args own) (M : MS T B s μ H locs) (hdg : decode cc pc = .ok (.lastore, 1)) (ha : kd μ a = 103) {i : Int32} {x : Int64} (hi : vp_in i (al μ a))
    (kk : ∀ (H1 : Heap) (locs1 : List Loc), MS T B s (saj μ a i.toNatClampNeg x) H1 locs1 → W p l e R s m args below meth c H1 locs1 cells slots Q (F0 m (pc + 1) ls rest)) : W p l e R s m args below meth c H locs cells slots Q (F0 m pc ls (.long x :: .int i :: .ref a :: rest)) := by
  obtain ⟨hx, hb, -, hown, hts, ⟨hK, -⟩, hSF⟩ := X
  obtain ⟨⟨L, hL, hP, hD, hRs⟩, hB, hS⟩ := M
  have hm := (hL a).mpr ⟨by omega, by omega⟩
  obtain ⟨q, hq⟩ := va_pl_get (X := []) (f := en T μ) hm
  have hq0 := hq
  rw [en_j ha] at hq
  refine va_last hx hb hK hP hD hS q 2 hq rfl hi hdg fun H1 locs1 hP1 hD1 hS1 => kk H1 locs1 ⟨?_, hB, hS1⟩
  refine Rl.store (μ' := saj μ a i.toNatClampNeg x) hL hRs (fun _ => rfl) hD hm hq0 (fun _ => rfl) ?_ (fun b hb => en_congr rfl rfl rfl (saj_o hb) rfl (fun d => fls_saj)) hP1 hD1
  rw [en_j (show kd (saj μ a i.toNatClampNeg x) a = 103 from ha), saj_s]; rfl
/-- an object of ours into an array of Object -/
theorem mx_rst (X : CX T B p m c cc nL s args own) (M : MS T B s μ H locs) {C : String} {F : u_T} {N ci v : Nat} (hc : vwCl[ci]? = some (C, F, N)) (hca : Cond.castable C "java/lang/Object" ∈ NWl) (hci : ci < 100) (hdg : decode cc pc = .ok (.aastore, 1)) (ha : kd μ a = 105) (hv : kd μ v = ci + 1) {i : Int32} (hi : vp_in i (al μ a))
    (kk : ∀ (H1 : Heap) (locs1 : List Loc), MS T B s (sar μ a i.toNatClampNeg (some v)) H1 locs1 → W p l e R s m args below meth c H1 locs1 cells slots Q (F0 m (pc + 1) ls rest)) : W p l e R s m args below meth c H locs cells slots Q (F0 m pc ls (.ref v :: .int i :: .ref a :: rest)) := by
  obtain ⟨hx, hb, -, hown, hts, ⟨hK, hNw, -⟩, hSF⟩ := X
  obtain ⟨⟨L, hL, hP, hD, hRs⟩, hB, hS⟩ := M
  have hm := (hL a).mpr ⟨by omega, by omega⟩
  obtain ⟨q, hq⟩ := va_pl_get (X := []) (f := en T μ) hm
  obtain ⟨q2, hq2⟩ := va_pl_get (X := []) (f := en T μ) ((hL v).mpr ⟨by omega, by omega⟩)
  have hq0 := hq
  rw [en_r ha] at hq
  rw [en_o hv hci] at hq2
  refine va_astqO (E := "java/lang/Object") hx hb hK hP hD hS q 4 q2 ci hq rfl (hNw _ hca) hq2 hc hi hdg fun H1 locs1 hP1 hD1 hS1 => kk H1 locs1 ⟨?_, hB, hS1⟩
  refine Rl.store (μ' := sar μ a i.toNatClampNeg (some v)) hL hRs (fun _ => rfl) hD hm hq0 (fun _ => rfl) ?_ (fun b hb => en_congr rfl rfl rfl rfl (sar_o hb) (fun d => fls_sar)) hP1 hD1
  rw [en_r (show kd (sar μ a i.toNatClampNeg (some v)) a = 105 from ha), sar_s]; rfl
theorem fls_nar {μ : Mem} {t a n d b : Nat} : fls (nar μ t a n) d b = fls μ d b := rfl
theorem nar_en {μ : Mem} {t a n b : Nat} (h : b ≠ a) : en T (nar μ t a n) b = en T μ b := by
  refine en_congr ?_ ?_ ?_ ?_ ?_ (fun d => fls_nar)
  · simp [kd, nar, va_up, h]
  · simp [al, nar, va_up, h]
  · funext j; simp [ai, nar, h]
  · funext j; simp [aj, nar, h]
  · funext j; simp [ar, nar, h]
theorem mx_newI (X : CX T B p m c cc nL s args own) (M : MS T B s μ H locs) (harr : Cond.arrayClass .int ∈ G) (hdg : decode cc pc = .ok (.newarray .int, 2)) {n : Int32} (hn : ¬ n < 0) (h9 : n.toNatClampNeg ≤ 1048576) (h1 : cells + 1 ≤ R.cells) (h2 : slots + n.toNatClampNeg ≤ R.slots)
    (kk : ∀ (q : Nat) (H1 : Heap), kd μ q = 0 → MS T B s (nar μ 102 q n.toNatClampNeg) H1 locs → W p l e R s m args below meth c H1 locs (cells + 1) (slots + n.toNatClampNeg) Q (F0 m (pc + 2) ls (.ref q :: rest))) : W p l e R s m args below meth c H locs cells slots Q (F0 m pc ls (.int n :: rest)) := by
  obtain ⟨hx, hb, -, hown, hts, ⟨hK, -⟩, hSF⟩ := X
  obtain ⟨⟨L, hL, hP, hD, hRs⟩, hB, hS⟩ := M
  refine va_newa (atype := .int) (ty := .int) (a0 := (n.toNatClampNeg, .inl (fun _ => 0))) hx hb (hts _ harr) rfl hK hP hD hS (fun q h => Nat.le_trans hB h) (fun _ => rfl) hn rfl (by show _ * 4 ≤ _; omega) h1 h2 hdg fun q cA H1 hK1 hP1 hD1 hS1 => ?_
  have hcA : cA = T.2.2.1 := by
    have e1 : s.vm.findClass ("[" ++ FieldType.int.toString) = some cA := (hK1.2 5 (cA, .int) rfl).2
    have e2 : s.vm.findClass ("[" ++ FieldType.int.toString) = some T.2.2.1 := (hK.2 1 (T.2.2.1, .int) rfl).2
    exact Option.some.inj (e1.symm.trans e2)
  subst hcA
  have hq : q ∉ L := va_pl_fresh2 (X := []) hD1
  have hAq : Ai B q := vaD_last hD1
  have hkq : kd μ q = 0 := Rs.fresh hSF hRs hL hq hAq
  refine kk q H1 hkq ⟨?_, hB, hS1⟩
  have hk1 : kd (nar μ 102 q n.toNatClampNeg) q = 102 := by simp [kd, nar, va_up]
  refine Rl.made (μ' := nar μ 102 q n.toNatClampNeg) hL hRs hkq (fun b hb => by simp [al, nar, va_up, hb]) hq (by decide) (by decide) hk1 (fun b hb => by simp [kd, nar, va_up, hb]) ?_ (fun b hb => nar_en hb) hP1 hD1
  rw [en_i hk1]
  have : ai (nar μ 102 q n.toNatClampNeg) q = fun _ => 0 := by funext j; simp [ai, nar]
  rw [this]
  simp [al, nar, va_up]
theorem mx_newJ (X : CX T B p m c cc nL s args own) (M : MS T B s μ H locs) (harr : Cond.arrayClass .long ∈ G) (hdg : decode cc pc = .ok (.newarray .long, 2)) {n : Int32} (hn : ¬ n < 0) (h9 : n.toNatClampNeg ≤ 1048576) (h1 : cells + 1 ≤ R.cells) (h2 : slots + n.toNatClampNeg ≤ R.slots)
    (kk : ∀ (q : Nat) (H1 : Heap), kd μ q = 0 → MS T B s (nar μ 103 q n.toNatClampNeg) H1 locs → W p l e R s m args below meth c H1 locs (cells + 1) (slots + n.toNatClampNeg) Q (F0 m (pc + 2) ls (.ref q :: rest))) : W p l e R s m args below meth c H locs cells slots Q (F0 m pc ls (.int n :: rest)) := by
  obtain ⟨hx, hb, -, hown, hts, ⟨hK, -⟩, hSF⟩ := X
  obtain ⟨⟨L, hL, hP, hD, hRs⟩, hB, hS⟩ := M
  refine va_newa (atype := .long) (ty := .long) (a0 := (n.toNatClampNeg, .inr (.inl (fun _ => 0)))) hx hb (hts _ harr) rfl hK hP hD hS (fun q h => Nat.le_trans hB h) (fun _ => rfl) hn rfl (by show _ * 8 ≤ _; omega) h1 h2 hdg fun q cA H1 hK1 hP1 hD1 hS1 => ?_
  have hcA : cA = T.2.2.2.1 := by
    have e1 : s.vm.findClass ("[" ++ FieldType.long.toString) = some cA := (hK1.2 5 (cA, .long) rfl).2
    have e2 : s.vm.findClass ("[" ++ FieldType.long.toString) = some T.2.2.2.1 := (hK.2 2 (T.2.2.2.1, .long) rfl).2
    exact Option.some.inj (e1.symm.trans e2)
  subst hcA
  have hq : q ∉ L := va_pl_fresh2 (X := []) hD1
  have hAq : Ai B q := vaD_last hD1
  have hkq : kd μ q = 0 := Rs.fresh hSF hRs hL hq hAq
  refine kk q H1 hkq ⟨?_, hB, hS1⟩
  have hk1 : kd (nar μ 103 q n.toNatClampNeg) q = 103 := by simp [kd, nar, va_up]
  refine Rl.made (μ' := nar μ 103 q n.toNatClampNeg) hL hRs hkq (fun b hb => by simp [al, nar, va_up, hb]) hq (by decide) (by decide) hk1 (fun b hb => by simp [kd, nar, va_up, hb]) ?_ (fun b hb => nar_en hb) hP1 hD1
  rw [en_j hk1]
  have : aj (nar μ 103 q n.toNatClampNeg) q = fun _ => 0 := by funext j; simp [aj, nar]
  rw [this]
  simp [al, nar, va_up]
theorem mx_newB (X : CX T B p m c cc nL s args own) (M : MS T B s μ H locs) (harr : Cond.arrayClass .char ∈ G) (hdg : decode cc pc = .ok (.newarray .char, 2)) {n : Int32} (hn : ¬ n < 0) (h9 : n.toNatClampNeg ≤ 1048576) (h1 : cells + 1 ≤ R.cells) (h2 : slots + n.toNatClampNeg ≤ R.slots)
    (kk : ∀ (q : Nat) (H1 : Heap), kd μ q = 0 → MS T B s (nar μ 101 q n.toNatClampNeg) H1 locs → W p l e R s m args below meth c H1 locs (cells + 1) (slots + n.toNatClampNeg) Q (F0 m (pc + 2) ls (.ref q :: rest))) : W p l e R s m args below meth c H locs cells slots Q (F0 m pc ls (.int n :: rest)) := by
  obtain ⟨hx, hb, -, hown, hts, ⟨hK, -⟩, hSF⟩ := X
  obtain ⟨⟨L, hL, hP, hD, hRs⟩, hB, hS⟩ := M
  refine va_newa (atype := .char) (ty := .char) (a0 := (n.toNatClampNeg, .inl (fun _ => 0))) hx hb (hts _ harr) rfl hK hP hD hS (fun q h => Nat.le_trans hB h) (fun _ => rfl) hn rfl (by show _ * 2 ≤ _; omega) h1 h2 hdg fun q cA H1 hK1 hP1 hD1 hS1 => ?_
  have hcA : cA = T.2.1 := by
    have e1 : s.vm.findClass ("[" ++ FieldType.char.toString) = some cA := (hK1.2 5 (cA, .char) rfl).2
    have e2 : s.vm.findClass ("[" ++ FieldType.char.toString) = some T.2.1 := (hK.2 0 (T.2.1, .char) rfl).2
    exact Option.some.inj (e1.symm.trans e2)
  subst hcA
  have hq : q ∉ L := va_pl_fresh2 (X := []) hD1
  have hAq : Ai B q := vaD_last hD1
  have hkq : kd μ q = 0 := Rs.fresh hSF hRs hL hq hAq
  refine kk q H1 hkq ⟨?_, hB, hS1⟩
  have hk1 : kd (nar μ 101 q n.toNatClampNeg) q = 101 := by simp [kd, nar, va_up]
  refine Rl.made (μ' := nar μ 101 q n.toNatClampNeg) hL hRs hkq (fun b hb => by simp [al, nar, va_up, hb]) hq (by decide) (by decide) hk1 (fun b hb => by simp [kd, nar, va_up, hb]) ?_ (fun b hb => nar_en hb) hP1 hD1
  rw [en_b hk1]
  have : ai (nar μ 101 q n.toNatClampNeg) q = fun _ => 0 := by funext j; simp [ai, nar]
  rw [this]
  simp [al, nar, va_up]
theorem mx_newZ (X : CX T B p m c cc nL s args own) (M : MS T B s μ H locs) (harr : Cond.arrayClass .boolean ∈ G) (hdg : decode cc pc = .ok (.newarray .boolean, 2)) {n : Int32} (hn : ¬ n < 0) (h9 : n.toNatClampNeg ≤ 1048576) (h1 : cells + 1 ≤ R.cells) (h2 : slots + n.toNatClampNeg ≤ R.slots)
    (kk : ∀ (q : Nat) (H1 : Heap), kd μ q = 0 → MS T B s (nar μ 104 q n.toNatClampNeg) H1 locs → W p l e R s m args below meth c H1 locs (cells + 1) (slots + n.toNatClampNeg) Q (F0 m (pc + 2) ls (.ref q :: rest))) : W p l e R s m args below meth c H locs cells slots Q (F0 m pc ls (.int n :: rest)) := by
  obtain ⟨hx, hb, -, hown, hts, ⟨hK, -⟩, hSF⟩ := X
  obtain ⟨⟨L, hL, hP, hD, hRs⟩, hB, hS⟩ := M
  refine va_newa (atype := .boolean) (ty := .boolean) (a0 := (n.toNatClampNeg, .inl (fun _ => 0))) hx hb (hts _ harr) rfl hK hP hD hS (fun q h => Nat.le_trans hB h) (fun _ => rfl) hn rfl (by show _ * 1 ≤ _; omega) h1 h2 hdg fun q cA H1 hK1 hP1 hD1 hS1 => ?_
  have hcA : cA = T.2.2.2.2.1 := by
    have e1 : s.vm.findClass ("[" ++ FieldType.boolean.toString) = some cA := (hK1.2 5 (cA, .boolean) rfl).2
    have e2 : s.vm.findClass ("[" ++ FieldType.boolean.toString) = some T.2.2.2.2.1 := (hK.2 3 (T.2.2.2.2.1, .boolean) rfl).2
    exact Option.some.inj (e1.symm.trans e2)
  subst hcA
  have hq : q ∉ L := va_pl_fresh2 (X := []) hD1
  have hAq : Ai B q := vaD_last hD1
  have hkq : kd μ q = 0 := Rs.fresh hSF hRs hL hq hAq
  refine kk q H1 hkq ⟨?_, hB, hS1⟩
  have hk1 : kd (nar μ 104 q n.toNatClampNeg) q = 104 := by simp [kd, nar, va_up]
  refine Rl.made (μ' := nar μ 104 q n.toNatClampNeg) hL hRs hkq (fun b hb => by simp [al, nar, va_up, hb]) hq (by decide) (by decide) hk1 (fun b hb => by simp [kd, nar, va_up, hb]) ?_ (fun b hb => nar_en hb) hP1 hD1
  rw [en_z hk1]
  have : ai (nar μ 104 q n.toNatClampNeg) q = fun _ => 0 := by funext j; simp [ai, nar]
  rw [this]
  simp [al, nar, va_up]
end ROWS
