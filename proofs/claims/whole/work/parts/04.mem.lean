/-! The memory as a pure picture: kinds, fields by class and slot, arrays; how a heap holds it; one row an instruction over it. -/
abbrev Mem : Type := (Nat → Nat) × (Nat → Nat → Nat → Int32) × (Nat → Nat → Nat → Option Nat) × (Nat → Nat) × (Nat → Nat → Int32) × (Nat → Nat → Int64) × (Nat → Nat → Option Nat)
def kd (μ : Mem) : Nat → Nat := μ.1
def fi (μ : Mem) : Nat → Nat → Nat → Int32 := μ.2.1
def fr (μ : Mem) : Nat → Nat → Nat → Option Nat := μ.2.2.1
def al (μ : Mem) : Nat → Nat := μ.2.2.2.1
def ai (μ : Mem) : Nat → Nat → Int32 := μ.2.2.2.2.1
def aj (μ : Mem) : Nat → Nat → Int64 := μ.2.2.2.2.2.1
def ar (μ : Mem) : Nat → Nat → Option Nat := μ.2.2.2.2.2.2
def up3 {α : Type} (f : Nat → Nat → Nat → α) (c k a : Nat) (v : α) : Nat → Nat → Nat → α := fun c' k' a' => if c' = c ∧ k' = k ∧ a' = a then v else f c' k' a'
def up2 {α : Type} (f : Nat → Nat → α) (a i : Nat) (v : α) : Nat → Nat → α := fun a' i' => if a' = a ∧ i' = i then v else f a' i'
def sfi (μ : Mem) (c k a : Nat) (v : Int32) : Mem := (kd μ, up3 (fi μ) c k a v, fr μ, al μ, ai μ, aj μ, ar μ)
def sfr (μ : Mem) (c k a : Nat) (v : Option Nat) : Mem := (kd μ, fi μ, up3 (fr μ) c k a v, al μ, ai μ, aj μ, ar μ)
def sai (μ : Mem) (a i : Nat) (v : Int32) : Mem := (kd μ, fi μ, fr μ, al μ, up2 (ai μ) a i v, aj μ, ar μ)
def saj (μ : Mem) (a i : Nat) (v : Int64) : Mem := (kd μ, fi μ, fr μ, al μ, ai μ, up2 (aj μ) a i v, ar μ)
def sar (μ : Mem) (a i : Nat) (v : Option Nat) : Mem := (kd μ, fi μ, fr μ, al μ, ai μ, aj μ, up2 (ar μ) a i v)
/-- a new object of class c, a new array of kind t and n places, at a -/
def nob (μ : Mem) (c a : Nat) : Mem := (va_up (kd μ) a (c + 1), fun c' k' a' => if c' = c ∧ a' = a then 0 else fi μ c' k' a', fun c' k' a' => if c' = c ∧ a' = a then none else fr μ c' k' a', al μ, ai μ, aj μ, ar μ)
def nar (μ : Mem) (t a n : Nat) : Mem := (va_up (kd μ) a t, fi μ, fr μ, va_up (al μ) a n, fun a' i' => if a' = a then 0 else ai μ a' i', fun a' i' => if a' = a then 0 else aj μ a' i', fun a' i' => if a' = a then none else ar μ a' i')
/-- which fields of a class are references -/
def sg : Nat → List Bool := fun c => match c with
  | 0 => [false, true, false]
  | 1 => [false, true, false]
  | 2 => [true, true, false, false, false, true, false]
  | 3 => [false, true, false, true, true, false, false]
  | 4 => [true, true, false, false]
  | 5 => [false, false, false, false, false, true, true]
  | 6 => [true, false]
  | 7 => [false, false, false, true, true]
  | 8 => [true, false, false, false, false, false, false]
  | 9 => [true, false, true, false, true, true, false, false]
  | 10 => [true, false, true, true]
  | 11 => [true, false, true, false, true, true]
  | 12 => [false, true, false, false, true, true, true, true, true, true, true, false, true, true, true, true, true, true, true, false, true, true, true, true, false, false, false, true, true, true, true, true, true, true, true, true, true, true, true, true, false, false, true, true, false, false, false, false, false, false, false, false, false, true, false, true, true, true, false]
  | _ => []
/-- where the tables have the classes, the slots, the five array classes (char, int, long, boolean, Object) and the static arrays -/
abbrev Tb : Type := va_G × ClassId × ClassId × ClassId × ClassId × ClassId × (Nat → Nat)
def fls (μ : Mem) (c a : Nat) : List Value := (sg c).zipIdx.map (fun q => if q.1 = true then va_rf (fr μ c q.2 a) else .int (fi μ c q.2 a))
def en (T : Tb) (μ : Mem) (a : Nat) : va_E :=
  if kd μ a = 101 then .inl (T.2.1, al μ a, .inl (ai μ a)) else if kd μ a = 102 then .inl (T.2.2.1, al μ a, .inl (ai μ a)) else
  if kd μ a = 103 then .inl (T.2.2.2.1, al μ a, .inr (.inl (aj μ a))) else if kd μ a = 104 then .inl (T.2.2.2.2.1, al μ a, .inl (ai μ a)) else
  if kd μ a = 105 then .inl (T.2.2.2.2.2.1, al μ a, .inr (.inr (.inr (.inr (ar μ a))))) else .inr (kd μ a - 1, fls μ (kd μ a - 1) a)
abbrev tys (T : Tb) : List (ClassId × FieldType) := [(T.2.1, .char), (T.2.2.1, .int), (T.2.2.2.1, .long), (T.2.2.2.2.1, .boolean), (T.2.2.2.2.2.1, .object "java/lang/Object")]
abbrev Ai (B : Nat) : Nat → Prop := fun q => B ≤ q
/-- the heap holds the memory, from B on; e1 and e2 are two other addresses below B, which nobody reads or makes -/
def Rs (e0 e1 e2 : Nat) (μ : Mem) : Prop := (∀ a, kd μ a < 109) ∧ (∀ a, kd μ a = 106 → a = e0) ∧ (∀ a, kd μ a = 107 → a = e1) ∧ (∀ a, kd μ a = 108 → a = e2) ∧ kd μ e0 = 106 ∧ kd μ e1 = 107 ∧ kd μ e2 = 108 ∧ al μ e0 = 0 ∧ al μ e1 = 100 ∧ al μ e2 = 100
def Rl (T : Tb) (B : Nat) (μ : Mem) (H : Heap) : Prop := ∃ L : List Nat, (∀ a, a ∈ L ↔ (kd μ a ≠ 0 ∧ kd μ a < 106)) ∧ va_P T.1 vwCl ([] ++ va_pl L (en T μ)) H ∧ va_D (Ai B) ([] ++ va_pl L (en T μ)) ∧ Rs (T.2.2.2.2.2.2 0) (T.2.2.2.2.2.2 1) (T.2.2.2.2.2.2 2) μ
/-- the steady words of the tables, and those that a state carries -/
def XW : List Cond := []
def G : List Cond := (lw_tbl ++ XW).filter goodWord
def isNw : Cond → Bool
  | .methodLinkNest _ _ _ _ => true
  | .castable _ _ => true
  | .declares _ => true
  | _ => false
def NWl : List Cond := lw_tbl.filter isNw
def KK (T : Tb) (U : State) : Prop := va_K T.1 vwCl (tys T) U ∧ (∀ w ∈ NWl, va_Nw w U) ∧ va_Mi "[Ljava/lang/Object;" (T.2.2.2.2.2.2 3) U ∧ va_AO "java/lang/Object" U
theorem isNw_warm {w : Cond} (h : isNw w = true) {s U : State} (hW : s.WarmedH U.vm) (hz : va_Nw w s) : va_Nw w U := by
  cases w <;> first | exact absurd (show false = true from h) (by decide) | exact va_Nw.warmM hW hz | exact va_Nw.warmC hW hz | exact va_Nw.warmD hW hz
theorem KK.warm {T : Tb} {s U : State} (h : KK T s) (hW : s.WarmedH U.vm) : KK T U := ⟨va_K.moved hW.alike h.1, fun w hw => isNw_warm (List.mem_filter.mp hw).2 hW (h.2.1 w hw), h.2.2.1.moved hW.alike, h.2.2.2.moved hW.alike⟩
theorem KK.alike {T : Tb} {U V : State} (h : KK T U) (hv : U.vm = V.vm) : KK T V := by
  have ha : U.vm.Alike V.vm := by rw [hv]; exact Vm.Alike.refl _
  refine ⟨va_K.moved ha h.1, fun w hw => va_Nw.same ?_ hv (h.2.1 w hw), h.2.2.1.moved ha, h.2.2.2.moved ha⟩
  have := (List.mem_filter.mp hw).2
  cases w <;> first | exact absurd (show false = true from this) (by decide) | rfl
theorem gG {w : Cond} (h : w ∈ G) : GoodIn G (w :: G) := fun v hv => by
  have hm : v ∈ G := by rcases List.mem_cons.mp hv with e | e <;> simp_all
  exact ⟨hm, good_of_word (List.mem_filter.mp hm).2⟩
theorem inG {w : Cond} (i : Nat) (h : lw_tbl[i]? = some w) (hg : goodWord w = true) : w ∈ G := List.mem_filter.mpr ⟨List.mem_append_left _ (List.mem_of_getElem? h), hg⟩
theorem inGx {w : Cond} (h : w ∈ XW) (hg : goodWord w = true) : w ∈ G := List.mem_filter.mpr ⟨List.mem_append_right _ h, hg⟩
theorem inN {w : Cond} (i : Nat) (h : lw_tbl[i]? = some w) (hg : isNw w = true) : w ∈ NWl := List.mem_filter.mpr ⟨List.mem_of_getElem? h, hg⟩
/-- statics that nobody writes: what they hold, and the arrays that they name -/
abbrev st (T : Tb) : Nat → Nat := T.2.2.2.2.2.2
def SZ (T : Tb) : List (String × String × String × Value) := [("java/util/ArrayList", "DEFAULTCAPACITY_EMPTY_ELEMENTDATA", "[Ljava/lang/Object;", .ref (st T 0))]
def ST (T : Tb) : List (FieldType × Nat × Nat × (Nat → Value)) := [(.object "java/lang/Object", st T 0, 0, fun _ => .null)]
def SF (T : Tb) (B : Nat) (U : State) (H : Heap) : Prop := (∀ q ∈ SZ T, va_Z q.1 q.2.1 q.2.2.1 q.2.2.2 (Ai B) U H) ∧ (∀ q ∈ ST T, va_T q.1 q.2.1 q.2.2.1 q.2.2.2 (Ai B) U H) ∧ ¬ Ai B (st T 1) ∧ ¬ Ai B (st T 2)
theorem SF.out {T : Tb} {B : Nat} {U : State} {H : Heap} (h : SF T B U H) : ¬ Ai B (st T 0) ∧ ¬ Ai B (st T 1) ∧ ¬ Ai B (st T 2) := ⟨(h.2.1 _ List.mem_cons_self).out, h.2.2⟩
theorem vaD_last {A : Nat → Prop} {ws : va_W} {q : Nat} {e : va_E} (h : va_D A (ws ++ [(q, e)])) : A q := h.2 ws.length (q, e) (by simp)
theorem Rs.fresh {T : Tb} {B : Nat} {U : State} {H : Heap} {μ : Mem} {L : List Nat} {q : Nat} (h : SF T B U H) (hRs : Rs (T.2.2.2.2.2.2 0) (T.2.2.2.2.2.2 1) (T.2.2.2.2.2.2 2) μ) (hL : ∀ b, b ∈ L ↔ (kd μ b ≠ 0 ∧ kd μ b < 106)) (hq : q ∉ L) (hA : Ai B q) : kd μ q = 0 := by
  have h1 := hRs.1 q
  by_cases h0 : kd μ q = 0
  · exact h0
  · by_cases h6 : kd μ q < 106
    · exact absurd ((hL q).mpr ⟨h0, h6⟩) hq
    · obtain ⟨o0, o1, o2⟩ := h.out
      rcases (show kd μ q = 106 ∨ kd μ q = 107 ∨ kd μ q = 108 by omega) with k | k | k
      · exact absurd (show Ai B (st T 0) by rw [show st T 0 = q from (hRs.2.1 q k).symm]; exact hA) o0
      · exact absurd (show Ai B (st T 1) by rw [show st T 1 = q from (hRs.2.2.1 q k).symm]; exact hA) o1
      · exact absurd (show Ai B (st T 2) by rw [show st T 2 = q from (hRs.2.2.2.1 q k).symm]; exact hA) o2
theorem SF.moved {T : Tb} {B : Nat} {u U : State} {H : Heap} (hvm : u.vm.Alike U.vm) (h : SF T B u H) : SF T B U H := ⟨fun q hq => va_Z.moved hvm (h.1 q hq), fun q hq => va_T.moved hvm (h.2.1 q hq), h.2.2⟩
theorem SF.kept {T : Tb} {B : Nat} {U : State} {H H1 : Heap} (h : SF T B U H) (hq : ∀ a : Nat, a < H.size → ¬ Ai B a → H1[a]? = H[a]?) : SF T B U H1 := ⟨fun q hz => va_Z.kept (h.1 q hz) hq, fun q hz => va_T.kept (h.2.1 q hz) hq, h.2.2⟩
/-- what a walk knows of its method -/
def CX (T : Tb) (B : Nat) (p : Program) (m : MethodId) (c : Code) (cc : ByteArray) (nL : Nat) (s : State) (args : Array Value) (own : String) : Prop :=
  p.tables.exec = Jvm.exec ∧ c.code = cc ∧ c.maxLocals = nL ∧ s.vm.findClass own = some m.cls ∧ (∀ w ∈ G, w.before args s = true) ∧ KK T s ∧ SF T B s s.heap
/-- where a walk stands: the heap holds the world σ, nothing below B has changed -/
def MG {S : Type} (Wd : S → Heap → Prop) (B : Nat) (s : State) (σ : S) (H : Heap) (locs : List Loc) : Prop := Wd σ H ∧ B ≤ s.heap.size ∧ va_S (Ai B) s.heap H locs
abbrev MS (T : Tb) (B : Nat) (s : State) (μ : Mem) (H : Heap) (locs : List Loc) : Prop := MG (Rl T B) B s μ H locs
/-- no cell becomes another's kind -/
def KM (μ0 μ : Mem) : Prop := ∀ a, kd μ0 a ≠ 0 → kd μ a = kd μ0 a
theorem KM.rf (μ : Mem) : KM μ μ := fun _ _ => rfl
theorem KM.tr {μ0 μ1 μ2 : Mem} (h : KM μ0 μ1) (k : KM μ1 μ2) : KM μ0 μ2 := fun a ha => by rw [k a (by rw [h a ha]; exact ha), h a ha]
theorem KM.at {μ0 μ : Mem} (h : KM μ0 μ) {a t : Nat} (ha : kd μ0 a = t + 1) : kd μ a = t + 1 := by rw [h a (by omega), ha]
theorem KM_nob {μ : Mem} {c q : Nat} (hq : kd μ q = 0) : KM μ (nob μ c q) := fun a ha => by
  have : a ≠ q := fun h => ha (h ▸ hq)
  simp [kd, nob, va_up, this]
theorem KM_nar {μ : Mem} {t q n : Nat} (hq : kd μ q = 0) : KM μ (nar μ t q n) := fun a ha => by
  have : a ≠ q := fun h => ha (h ▸ hq)
  simp [kd, nar, va_up, this]
theorem fls_get {μ : Mem} {c a k : Nat} {b : Bool} (h : (sg c)[k]? = some b) : (fls μ c a)[k]? = some (if b = true then va_rf (fr μ c k a) else .int (fi μ c k a)) := by
  simp [fls, List.getElem?_map, List.getElem?_zipIdx, h]
theorem fls_len {μ : Mem} {c a : Nat} : (fls μ c a).length = (sg c).length := by simp [fls]
theorem en_o {T : Tb} {μ : Mem} {a c : Nat} (h : kd μ a = c + 1) (hc : c < 100) : en T μ a = .inr (c, fls μ c a) := by
  unfold en
  rw [h, if_neg (by omega), if_neg (by omega), if_neg (by omega), if_neg (by omega), if_neg (by omega)]
  rfl
theorem en_b {T : Tb} {μ : Mem} {a : Nat} (h : kd μ a = 101) : en T μ a = .inl (T.2.1, al μ a, .inl (ai μ a)) := by unfold en; rw [h]; rfl
theorem en_i {T : Tb} {μ : Mem} {a : Nat} (h : kd μ a = 102) : en T μ a = .inl (T.2.2.1, al μ a, .inl (ai μ a)) := by unfold en; rw [h]; rfl
theorem en_j {T : Tb} {μ : Mem} {a : Nat} (h : kd μ a = 103) : en T μ a = .inl (T.2.2.2.1, al μ a, .inr (.inl (aj μ a))) := by unfold en; rw [h]; rfl
theorem en_z {T : Tb} {μ : Mem} {a : Nat} (h : kd μ a = 104) : en T μ a = .inl (T.2.2.2.2.1, al μ a, .inl (ai μ a)) := by unfold en; rw [h]; rfl
theorem en_r {T : Tb} {μ : Mem} {a : Nat} (h : kd μ a = 105) : en T μ a = .inl (T.2.2.2.2.2.1, al μ a, .inr (.inr (.inr (.inr (ar μ a))))) := by unfold en; rw [h]; rfl
/-- what a store does to the picture: only the entry of one cell is another -/
theorem Rl.store {T : Tb} {B : Nat} {μ μ' : Mem} {H1 : Heap} {L : List Nat} {a k : Nat} {e : va_E} (hL : ∀ b, b ∈ L ↔ (kd μ b ≠ 0 ∧ kd μ b < 106)) (hRs : Rs (T.2.2.2.2.2.2 0) (T.2.2.2.2.2.2 1) (T.2.2.2.2.2.2 2) μ) (hal : ∀ b, al μ' b = al μ b) (hD : va_D (Ai B) ([] ++ va_pl L (en T μ))) (ha : a ∈ L) (hk : ([] ++ va_pl L (en T μ))[k]? = some (a, en T μ a))
    (hkd : ∀ b, kd μ' b = kd μ b) (he : en T μ' a = e) (ho : ∀ b, b ≠ a → en T μ' b = en T μ b) (hP1 : va_P T.1 vwCl (([] ++ va_pl L (en T μ)).set k (a, e)) H1) (hD1 : va_D (Ai B) (([] ++ va_pl L (en T μ)).set k (a, e))) : Rl T B μ' H1 := by
  have e1 : ([] ++ va_pl L (en T μ)).set k (a, e) = [] ++ va_pl L (en T μ') := by
    rw [va_pl_set hD ha hk]
    congr 1
    refine va_pl_congr fun b => ?_
    by_cases hb : b = a
    · subst hb; simp [va_up, he]
    · simp [va_up, hb, ho b hb]
  rw [e1] at hP1 hD1
  refine ⟨L, fun b => by rw [hkd]; exact hL b, hP1, hD1, ?_⟩
  unfold Rs
  simp only [hkd, hal]
  exact hRs
/-- what a making does to it -/
theorem Rl.made {T : Tb} {B : Nat} {μ μ' : Mem} {H1 : Heap} {L : List Nat} {q t : Nat} {e : va_E} (hL : ∀ b, b ∈ L ↔ (kd μ b ≠ 0 ∧ kd μ b < 106)) (hRs : Rs (T.2.2.2.2.2.2 0) (T.2.2.2.2.2.2 1) (T.2.2.2.2.2.2 2) μ) (hq0 : kd μ q = 0) (hal : ∀ b, b ≠ q → al μ' b = al μ b) (hq : q ∉ L) (ht : t ≠ 0) (ht6 : t < 106) (hkq : kd μ' q = t) (hko : ∀ b, b ≠ q → kd μ' b = kd μ b) (he : en T μ' q = e) (ho : ∀ b, b ≠ q → en T μ' b = en T μ b)
    (hP1 : va_P T.1 vwCl (([] ++ va_pl L (en T μ)) ++ [(q, e)]) H1) (hD1 : va_D (Ai B) (([] ++ va_pl L (en T μ)) ++ [(q, e)])) : Rl T B μ' H1 := by
  have e1 : ([] ++ va_pl L (en T μ)) ++ [(q, e)] = [] ++ va_pl (L ++ [q]) (en T μ') := by
    show va_pl L (en T μ) ++ [(q, e)] = va_pl (L ++ [q]) (en T μ')
    rw [va_pl_push hq]
    refine va_pl_congr fun b => ?_
    by_cases hb : b = q
    · subst hb; simp [va_up, he]
    · simp [va_up, hb, ho b hb]
  rw [e1] at hP1 hD1
  refine ⟨L ++ [q], fun b => ?_, hP1, hD1, ?_⟩
  · by_cases hb : b = q
    · subst hb; simp [hkq, ht, ht6]
    · rw [hko b hb, ← hL b]; simp [hb]
  · obtain ⟨g0, g1, g2, g3, g4, g5, g6, g7, g8, g9⟩ := hRs
    have n0 : T.2.2.2.2.2.2 0 ≠ q := fun h => by rw [h] at g4; omega
    have n1 : T.2.2.2.2.2.2 1 ≠ q := fun h => by rw [h] at g5; omega
    have n2 : T.2.2.2.2.2.2 2 ≠ q := fun h => by rw [h] at g6; omega
    have k : ∀ a, kd μ' a = kd μ a ∨ (a = q ∧ kd μ' a = t) := fun a => by
      by_cases h : a = q
      · exact Or.inr ⟨h, by rw [h]; exact hkq⟩
      · exact Or.inl (hko a h)
    refine ⟨fun a => ?_, fun a h => ?_, fun a h => ?_, fun a h => ?_, by rw [hko _ n0]; exact g4, by rw [hko _ n1]; exact g5, by rw [hko _ n2]; exact g6, by rw [hal _ n0]; exact g7, by rw [hal _ n1]; exact g8, by rw [hal _ n2]; exact g9⟩
    · rcases k a with h | h
      · rw [h]; exact g0 a
      · omega
    · rcases k a with h2 | h2
      · exact g1 a (by omega)
      · omega
    · rcases k a with h2 | h2
      · exact g2 a (by omega)
      · omega
    · rcases k a with h2 | h2
      · exact g3 a (by omega)
      · omega
