/-! The reference's object as a state of numbers: its fields and its rows, by their places -/
abbrev MSt : Type := (Nat → Int32) × (Nat → Nat → Int32) × (Nat → Nat → Int64)
def mi (σ : MSt) : Nat → Int32 := σ.1
def ma (σ : MSt) : Nat → Nat → Int32 := σ.2.1
def ml (σ : MSt) : Nat → Nat → Int64 := σ.2.2
def smi (σ : MSt) (k : Nat) (v : Int32) : MSt := (va_up σ.1 k v, σ.2.1, σ.2.2)
def sma (σ : MSt) (k i : Nat) (v : Int32) : MSt := (σ.1, up2 σ.2.1 k i v, σ.2.2)
def sml (σ : MSt) (k i : Nat) (v : Int64) : MSt := (σ.1, σ.2.1, up2 σ.2.2 k i v)
/-- the row fields: kind and length -/
def mk : Nat → Nat × Nat := fun k => match k with
  | 1 => (102, 10) -- row
  | 4 => (104, 60) -- again
  | 5 => (102, 60) -- slots
  | 6 => (102, 60) -- ins
  | 7 => (102, 60) -- outMany
  | 8 => (102, 480) -- out
  | 9 => (102, 60) -- count
  | 10 => (102, 120000) -- spot
  | 12 => (102, 2000) -- what
  | 13 => (102, 2000) -- one
  | 14 => (102, 2000) -- two
  | 15 => (102, 2000) -- three
  | 16 => (102, 2000) -- four
  | 17 => (102, 2000) -- many
  | 18 => (102, 20000) -- rows
  | 20 => (102, 20100) -- tag
  | 21 => (102, 20100) -- cellMany
  | 22 => (102, 20100) -- cellFirst
  | 23 => (103, 20100) -- field
  | 27 => (104, 7000) -- isFrame
  | 28 => (102, 7000) -- procedure
  | 29 => (102, 7000) -- from
  | 30 => (102, 7000) -- next
  | 31 => (102, 7000) -- caller
  | 32 => (102, 7000) -- callAt
  | 33 => (102, 7000) -- redosThen
  | 34 => (104, 7000) -- dead
  | 35 => (102, 7000) -- heapThen
  | 36 => (102, 7000) -- cellsThen
  | 37 => (102, 7000) -- fieldsThen
  | 38 => (102, 7000) -- trailThen
  | 39 => (103, 20100) -- slot
  | 42 => (102, 200000) -- trailSlot
  | 43 => (103, 200000) -- trailValue
  | 53 => (102, 1000) -- letters
  | 55 => (103, 20100) -- left
  | 56 => (103, 20100) -- right
  | 57 => (102, 7000) -- moved
  | _ => (0, 0)
def IM (μ : Mem) (o : Nat) (A : Nat → Nat) : Prop := kd μ o = 13 ∧ (∀ k, (mk k).1 ≠ 0 → fr μ 12 k o = some (A k) ∧ kd μ (A k) = (mk k).1 ∧ al μ (A k) = (mk k).2) ∧ ∀ j k, (mk j).1 ≠ 0 → (mk k).1 ≠ 0 → A j = A k → j = k
def vw (μ : Mem) (o : Nat) (A : Nat → Nat) : MSt := (fun k => fi μ 12 k o, fun k i => if (mk k).1 = 0 then 0 else ai μ (A k) i, fun k i => if (mk k).1 = 0 then 0 else aj μ (A k) i)
def FM (μ0 μ : Mem) (o : Nat) (A : Nat → Nat) : Prop := kd μ = kd μ0 ∧ fr μ = fr μ0 ∧ al μ = al μ0 ∧ ar μ = ar μ0 ∧ (∀ c k a, ¬ (c = 12 ∧ a = o) → fi μ c k a = fi μ0 c k a) ∧ ∀ a, (∀ k, (mk k).1 ≠ 0 → a ≠ A k) → ∀ i, ai μ a i = ai μ0 a i ∧ aj μ a i = aj μ0 a i
def WM (T : Tb) (B : Nat) (μ0 : Mem) (o : Nat) (A : Nat → Nat) : MSt → Heap → Prop := fun σ H => ∃ μ, Rl T B μ H ∧ IM μ o A ∧ vw μ o A = σ ∧ FM μ0 μ o A
theorem vw_i {μ : Mem} {o : Nat} {A : Nat → Nat} {σ : MSt} (h : vw μ o A = σ) (k : Nat) : fi μ 12 k o = mi σ k := by subst h; rfl
theorem vw_a {μ : Mem} {o : Nat} {A : Nat → Nat} {σ : MSt} (h : vw μ o A = σ) {k : Nat} (hk : (mk k).1 ≠ 0) (i : Nat) : ai μ (A k) i = ma σ k i := by subst h; simp [ma, vw, hk]
theorem vw_l {μ : Mem} {o : Nat} {A : Nat → Nat} {σ : MSt} (h : vw μ o A = σ) {k : Nat} (hk : (mk k).1 ≠ 0) (i : Nat) : aj μ (A k) i = ml σ k i := by subst h; simp [ml, vw, hk]
theorem IM_puti {μ : Mem} {o : Nat} {A : Nat → Nat} {σ : MSt} {μ0 : Mem} (k : Nat) (v : Int32) (hI : IM μ o A) (hv : vw μ o A = σ) (hF : FM μ0 μ o A) : IM (sfi μ 12 k o v) o A ∧ vw (sfi μ 12 k o v) o A = smi σ k v ∧ FM μ0 (sfi μ 12 k o v) o A := by
  refine ⟨hI, ?_, hF.1, hF.2.1, hF.2.2.1, hF.2.2.2.1, ?_, hF.2.2.2.2.2⟩
  · subst hv
    refine Prod.ext ?_ rfl
    funext j
    by_cases hj : j = k
    · simp [vw, smi, sfi, fi, up3, va_up, hj]
    · simp [vw, smi, sfi, fi, up3, va_up, hj]
  · intro c j a h
    rw [← hF.2.2.2.2.1 c j a h]
    simp only [sfi, fi, up3]
    rw [if_neg (fun q => h ⟨q.1, q.2.2⟩)]
theorem IM_puta {μ : Mem} {o : Nat} {A : Nat → Nat} {σ : MSt} {μ0 : Mem} (k i : Nat) (v : Int32) (hk : (mk k).1 ≠ 0) (hI : IM μ o A) (hv : vw μ o A = σ) (hF : FM μ0 μ o A) : IM (sai μ (A k) i v) o A ∧ vw (sai μ (A k) i v) o A = sma σ k i v ∧ FM μ0 (sai μ (A k) i v) o A := by
  refine ⟨hI, ?_, hF.1, hF.2.1, hF.2.2.1, hF.2.2.2.1, hF.2.2.2.2.1, ?_⟩
  · subst hv
    refine Prod.ext rfl (Prod.ext ?_ rfl)
    funext j n
    by_cases hj : (mk j).1 = 0
    · have hne : ¬ j = k := fun e => hk (e ▸ hj)
      simp [vw, sma, up2, hj, hne]
    · by_cases he : j = k
      · subst he; simp [vw, sma, sai, ai, up2, hj]
      · have hA : ¬ A j = A k := fun e => he (hI.2.2 j k hj hk e)
        simp [vw, sma, sai, ai, up2, hj, he, hA]
  · intro a h n
    have := hF.2.2.2.2.2 a h n
    have hne := h k hk
    simp only [sai, ai, aj, up2] at this ⊢
    rw [if_neg (fun q => hne q.1)]
    exact this
theorem IM_putl {μ : Mem} {o : Nat} {A : Nat → Nat} {σ : MSt} {μ0 : Mem} (k i : Nat) (v : Int64) (hk : (mk k).1 ≠ 0) (hI : IM μ o A) (hv : vw μ o A = σ) (hF : FM μ0 μ o A) : IM (saj μ (A k) i v) o A ∧ vw (saj μ (A k) i v) o A = sml σ k i v ∧ FM μ0 (saj μ (A k) i v) o A := by
  refine ⟨hI, ?_, hF.1, hF.2.1, hF.2.2.1, hF.2.2.2.1, hF.2.2.2.2.1, ?_⟩
  · subst hv
    refine Prod.ext rfl (Prod.ext rfl ?_)
    funext j n
    by_cases hj : (mk j).1 = 0
    · have hne : ¬ j = k := fun e => hk (e ▸ hj)
      simp [vw, sml, up2, hj, hne]
    · by_cases he : j = k
      · subst he; simp [vw, sml, saj, aj, up2, hj]
      · have hA : ¬ A j = A k := fun e => he (hI.2.2 j k hj hk e)
        simp [vw, sml, saj, aj, up2, hj, he, hA]
  · intro a h n
    have := hF.2.2.2.2.2 a h n
    have hne := h k hk
    simp only [saj, ai, aj, up2] at this ⊢
    rw [if_neg (fun q => hne q.1)]
    exact this
section MROWS
variable {T : Tb} {B : Nat} {p : Program} {l : Launch} {e : Env} {R : Room} {s : State} {m : MethodId} {args : Array Value} {below : List Frame} {meth : Method} {c : Code} {H : Heap} {locs : List Loc} {cells slots : Nat} {Q : State → Prop}
variable {cc : ByteArray} {nL pc : Nat} {own : String} {ls : Array Slot} {rest : List Value} {μ0 : Mem} {o : Nat} {A : Nat → Nat} {σ : MSt}
theorem inX11 : ∀ w ∈ u_ws RX11 TX11 59, w ∈ G := fun w hw => List.mem_filter.mpr ⟨List.mem_append_left _ ((by decide +kernel : ∀ w ∈ u_ws RX11 TX11 59, w ∈ lw_tbl) w hw), (by decide +kernel : ∀ w ∈ u_ws RX11 TX11 59, goodWord w = true) w hw⟩
theorem mm_recv (X : CX T B p m c cc nL s args own) (M : MG (WM T B μ0 o A) B s σ H locs) : ∃ cell : Cell, H[o]? = some cell ∧ cell.vm.isStatics = false ∧ s.vm.findClass RX11 = some cell.cls := by
  obtain ⟨⟨μ, hR, hI, hv, hF⟩, hB, hS⟩ := M
  exact mx_recv (μ := μ) (ci := 12) (F := TX11) (N := 59) X ⟨hR, hB, hS⟩ rfl (by decide) hI.1
theorem mm_geti (X : CX T B p m c cc nL s args own) (M : MG (WM T B μ0 o A) B s σ H locs) {index : Nat} (k : Nat) (hN : k < 59) (hs : (sg 12)[k]? = some false) (hlink : Cond.fieldLink own index (TX11 k).1 (TX11 k).2.1 (TX11 k).2.2.1 ∈ G) (hdg : decode cc pc = .ok (.getfield index, 3))
    (kk : W p l e R s m args below meth c H locs cells slots Q (F0 m (pc + 3) ls (.int (mi σ k) :: rest))) : W p l e R s m args below meth c H locs cells slots Q (F0 m pc ls (.ref o :: rest)) := by
  obtain ⟨⟨μ, hR, hI, hv, hF⟩, hB, hS⟩ := M
  exact mx_geti (μ := μ) (ci := 12) (C := RX11) (F := TX11) (N := 59) X ⟨hR, hB, hS⟩ k rfl inX11 hN hs (by decide) hlink hdg hI.1 (by rw [vw_i hv k]; exact kk)
theorem mm_geta (X : CX T B p m c cc nL s args own) (M : MG (WM T B μ0 o A) B s σ H locs) {index : Nat} (k : Nat) (hN : k < 59) (hs : (sg 12)[k]? = some true) (hk : (mk k).1 ≠ 0) (hlink : Cond.fieldLink own index (TX11 k).1 (TX11 k).2.1 (TX11 k).2.2.1 ∈ G) (hdg : decode cc pc = .ok (.getfield index, 3))
    (kk : W p l e R s m args below meth c H locs cells slots Q (F0 m (pc + 3) ls (.ref (A k) :: rest))) : W p l e R s m args below meth c H locs cells slots Q (F0 m pc ls (.ref o :: rest)) := by
  obtain ⟨⟨μ, hR, hI, hv, hF⟩, hB, hS⟩ := M
  exact mx_getr (μ := μ) (ci := 12) (C := RX11) (F := TX11) (N := 59) X ⟨hR, hB, hS⟩ k rfl inX11 hN hs (by decide) hlink hdg hI.1 (by rw [(hI.2.1 k hk).1]; exact kk)
theorem mm_puti (X : CX T B p m c cc nL s args own) (M : MG (WM T B μ0 o A) B s σ H locs) {index : Nat} (k : Nat) (hN : k < 59) (hs : (sg 12)[k]? = some false) (hlink : Cond.fieldLink own index (TX11 k).1 (TX11 k).2.1 (TX11 k).2.2.1 ∈ G) (hfin : (TX11 k).2.2.2 = false) (hdg : decode cc pc = .ok (.putfield index, 3)) {v : Int32} (hn : narrow (tyX11 k) (.int v) = .int v) (hf : fits (tyX11 k) (.int v) = true)
    (kk : ∀ (σ1 : MSt) (H1 : Heap) (locs1 : List Loc), σ1 = smi σ k v → MG (WM T B μ0 o A) B s σ1 H1 locs1 → W p l e R s m args below meth c H1 locs1 cells slots Q (F0 m (pc + 3) ls rest)) : W p l e R s m args below meth c H locs cells slots Q (F0 m pc ls (.int v :: .ref o :: rest)) := by
  obtain ⟨⟨μ, hR, hI, hv, hF⟩, hB, hS⟩ := M
  refine mx_puti (μ := μ) (ci := 12) (C := RX11) (F := TX11) (N := 59) X ⟨hR, hB, hS⟩ k rfl inX11 tyX11 tyX11_ok nmX11 hN hs (by decide) hlink hfin hdg hI.1 hn hf fun H1 locs1 M1 => ?_
  obtain ⟨g1, g2, g3⟩ := IM_puti k v hI hv hF
  exact kk _ H1 locs1 rfl ⟨⟨_, M1.1, g1, g2, g3⟩, M1.2⟩
theorem mm_ald (X : CX T B p m c cc nL s args own) (M : MG (WM T B μ0 o A) B s σ H locs) (k : Nat) (hk : (mk k).1 = 102) (hdg : decode cc pc = .ok (.iaload, 1)) {i : Int32} (hi : vp_in i (mk k).2)
    (kk : W p l e R s m args below meth c H locs cells slots Q (F0 m (pc + 1) ls (.int (ma σ k i.toNatClampNeg) :: rest))) : W p l e R s m args below meth c H locs cells slots Q (F0 m pc ls (.int i :: .ref (A k) :: rest)) := by
  obtain ⟨⟨μ, hR, hI, hv, hF⟩, hB, hS⟩ := M
  have hk0 : (mk k).1 ≠ 0 := by omega
  exact mx_ald (μ := μ) X ⟨hR, hB, hS⟩ hdg (by rw [(hI.2.1 k hk0).2.1, hk]) (by rw [(hI.2.1 k hk0).2.2]; exact hi) (by rw [vw_a hv hk0]; exact kk)
theorem mm_zld (X : CX T B p m c cc nL s args own) (M : MG (WM T B μ0 o A) B s σ H locs) (k : Nat) (hk : (mk k).1 = 104) (hdg : decode cc pc = .ok (.baload, 1)) {i : Int32} (hi : vp_in i (mk k).2)
    (kk : W p l e R s m args below meth c H locs cells slots Q (F0 m (pc + 1) ls (.int (ma σ k i.toNatClampNeg) :: rest))) : W p l e R s m args below meth c H locs cells slots Q (F0 m pc ls (.int i :: .ref (A k) :: rest)) := by
  obtain ⟨⟨μ, hR, hI, hv, hF⟩, hB, hS⟩ := M
  have hk0 : (mk k).1 ≠ 0 := by omega
  exact mx_zld (μ := μ) X ⟨hR, hB, hS⟩ hdg (by rw [(hI.2.1 k hk0).2.1, hk]) (by rw [(hI.2.1 k hk0).2.2]; exact hi) (by rw [vw_a hv hk0]; exact kk)
theorem mm_jld (X : CX T B p m c cc nL s args own) (M : MG (WM T B μ0 o A) B s σ H locs) (k : Nat) (hk : (mk k).1 = 103) (hdg : decode cc pc = .ok (.laload, 1)) {i : Int32} (hi : vp_in i (mk k).2)
    (kk : W p l e R s m args below meth c H locs cells slots Q (F0 m (pc + 1) ls (.long (ml σ k i.toNatClampNeg) :: rest))) : W p l e R s m args below meth c H locs cells slots Q (F0 m pc ls (.int i :: .ref (A k) :: rest)) := by
  obtain ⟨⟨μ, hR, hI, hv, hF⟩, hB, hS⟩ := M
  have hk0 : (mk k).1 ≠ 0 := by omega
  exact mx_jld (μ := μ) X ⟨hR, hB, hS⟩ hdg (by rw [(hI.2.1 k hk0).2.1, hk]) (by rw [(hI.2.1 k hk0).2.2]; exact hi) (by rw [vw_l hv hk0]; exact kk)
theorem mm_ast (X : CX T B p m c cc nL s args own) (M : MG (WM T B μ0 o A) B s σ H locs) (k : Nat) (hk : (mk k).1 = 102) (hdg : decode cc pc = .ok (.iastore, 1)) {i x : Int32} (hi : vp_in i (mk k).2)
    (kk : ∀ (σ1 : MSt) (H1 : Heap) (locs1 : List Loc), σ1 = sma σ k i.toNatClampNeg x → MG (WM T B μ0 o A) B s σ1 H1 locs1 → W p l e R s m args below meth c H1 locs1 cells slots Q (F0 m (pc + 1) ls rest)) : W p l e R s m args below meth c H locs cells slots Q (F0 m pc ls (.int x :: .int i :: .ref (A k) :: rest)) := by
  obtain ⟨⟨μ, hR, hI, hv, hF⟩, hB, hS⟩ := M
  have hk0 : (mk k).1 ≠ 0 := by omega
  refine mx_ast (μ := μ) X ⟨hR, hB, hS⟩ hdg (by rw [(hI.2.1 k hk0).2.1, hk]) (by rw [(hI.2.1 k hk0).2.2]; exact hi) fun H1 locs1 M1 => ?_
  obtain ⟨g1, g2, g3⟩ := IM_puta k i.toNatClampNeg x hk0 hI hv hF
  exact kk _ H1 locs1 rfl ⟨⟨_, M1.1, g1, g2, g3⟩, M1.2⟩
theorem mm_zst (X : CX T B p m c cc nL s args own) (M : MG (WM T B μ0 o A) B s σ H locs) (k : Nat) (hk : (mk k).1 = 104) (hdg : decode cc pc = .ok (.bastore, 1)) {i x : Int32} (hi : vp_in i (mk k).2)
    (kk : ∀ (σ1 : MSt) (H1 : Heap) (locs1 : List Loc), σ1 = sma σ k i.toNatClampNeg (vp_nar .boolean x) → MG (WM T B μ0 o A) B s σ1 H1 locs1 → W p l e R s m args below meth c H1 locs1 cells slots Q (F0 m (pc + 1) ls rest)) : W p l e R s m args below meth c H locs cells slots Q (F0 m pc ls (.int x :: .int i :: .ref (A k) :: rest)) := by
  obtain ⟨⟨μ, hR, hI, hv, hF⟩, hB, hS⟩ := M
  have hk0 : (mk k).1 ≠ 0 := by omega
  refine mx_zst (μ := μ) X ⟨hR, hB, hS⟩ hdg (by rw [(hI.2.1 k hk0).2.1, hk]) (by rw [(hI.2.1 k hk0).2.2]; exact hi) fun H1 locs1 M1 => ?_
  obtain ⟨g1, g2, g3⟩ := IM_puta k i.toNatClampNeg (vp_nar .boolean x) hk0 hI hv hF
  exact kk _ H1 locs1 rfl ⟨⟨_, M1.1, g1, g2, g3⟩, M1.2⟩
theorem mm_jst (X : CX T B p m c cc nL s args own) (M : MG (WM T B μ0 o A) B s σ H locs) (k : Nat) (hk : (mk k).1 = 103) (hdg : decode cc pc = .ok (.lastore, 1)) {i : Int32} {x : Int64} (hi : vp_in i (mk k).2)
    (kk : ∀ (σ1 : MSt) (H1 : Heap) (locs1 : List Loc), σ1 = sml σ k i.toNatClampNeg x → MG (WM T B μ0 o A) B s σ1 H1 locs1 → W p l e R s m args below meth c H1 locs1 cells slots Q (F0 m (pc + 1) ls rest)) : W p l e R s m args below meth c H locs cells slots Q (F0 m pc ls (.long x :: .int i :: .ref (A k) :: rest)) := by
  obtain ⟨⟨μ, hR, hI, hv, hF⟩, hB, hS⟩ := M
  have hk0 : (mk k).1 ≠ 0 := by omega
  refine mx_jst (μ := μ) X ⟨hR, hB, hS⟩ hdg (by rw [(hI.2.1 k hk0).2.1, hk]) (by rw [(hI.2.1 k hk0).2.2]; exact hi) fun H1 locs1 M1 => ?_
  obtain ⟨g1, g2, g3⟩ := IM_putl k i.toNatClampNeg x hk0 hI hv hF
  exact kk _ H1 locs1 rfl ⟨⟨_, M1.1, g1, g2, g3⟩, M1.2⟩
end MROWS
