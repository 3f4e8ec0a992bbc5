/-! new arrays of a written length -/
section KROWS
variable {T : Tb} {B : Nat} {p : Program} {l : Launch} {e : Env} {R : Room} {s : State} {m : MethodId} {args : Array Value} {below : List Frame} {meth : Method} {c : Code} {H : Heap} {locs : List Loc} {cells slots : Nat} {Q : State → Prop}
variable {cc : ByteArray} {nL pc : Nat} {own : String} {ls : Array Slot} {rest : List Value} {μ : Mem} {a : Nat}
theorem my_newIk (X : CX T B p m c cc nL s args own) (M : MS T B s μ H locs) (harr : Cond.arrayClass .int ∈ G) (hdg : decode cc pc = .ok (.newarray .int, 2)) {n : Int32} (N : Nat) (hN : n.toNatClampNeg = N) (hn : ¬ n < 0) (h9 : N ≤ 1048576) (h1 : cells + 1 ≤ R.cells) (h2 : slots + N ≤ R.slots)
    (kk : ∀ (q : Nat) (μ1 : Mem) (H1 : Heap) (cells1 slots1 : Nat), cells1 = cells + 1 → slots1 = slots + N → kd μ q = 0 → μ1 = nar μ 102 q N → MS T B s μ1 H1 locs → W p l e R s m args below meth c H1 locs cells1 slots1 Q (F0 m (pc + 2) ls (.ref q :: rest))) : W p l e R s m args below meth c H locs cells slots Q (F0 m pc ls (.int n :: rest)) := by
  subst hN
  exact my_newI X M harr hdg hn h9 h1 h2 (fun q μ1 H1 h e M1 => kk q μ1 H1 _ _ rfl rfl h e M1)
theorem my_newJk (X : CX T B p m c cc nL s args own) (M : MS T B s μ H locs) (harr : Cond.arrayClass .long ∈ G) (hdg : decode cc pc = .ok (.newarray .long, 2)) {n : Int32} (N : Nat) (hN : n.toNatClampNeg = N) (hn : ¬ n < 0) (h9 : N ≤ 1048576) (h1 : cells + 1 ≤ R.cells) (h2 : slots + N ≤ R.slots)
    (kk : ∀ (q : Nat) (μ1 : Mem) (H1 : Heap) (cells1 slots1 : Nat), cells1 = cells + 1 → slots1 = slots + N → kd μ q = 0 → μ1 = nar μ 103 q N → MS T B s μ1 H1 locs → W p l e R s m args below meth c H1 locs cells1 slots1 Q (F0 m (pc + 2) ls (.ref q :: rest))) : W p l e R s m args below meth c H locs cells slots Q (F0 m pc ls (.int n :: rest)) := by
  subst hN
  exact my_newJ X M harr hdg hn h9 h1 h2 (fun q μ1 H1 h e M1 => kk q μ1 H1 _ _ rfl rfl h e M1)
theorem my_newZk (X : CX T B p m c cc nL s args own) (M : MS T B s μ H locs) (harr : Cond.arrayClass .boolean ∈ G) (hdg : decode cc pc = .ok (.newarray .boolean, 2)) {n : Int32} (N : Nat) (hN : n.toNatClampNeg = N) (hn : ¬ n < 0) (h9 : N ≤ 1048576) (h1 : cells + 1 ≤ R.cells) (h2 : slots + N ≤ R.slots)
    (kk : ∀ (q : Nat) (μ1 : Mem) (H1 : Heap) (cells1 slots1 : Nat), cells1 = cells + 1 → slots1 = slots + N → kd μ q = 0 → μ1 = nar μ 104 q N → MS T B s μ1 H1 locs → W p l e R s m args below meth c H1 locs cells1 slots1 Q (F0 m (pc + 2) ls (.ref q :: rest))) : W p l e R s m args below meth c H locs cells slots Q (F0 m pc ls (.int n :: rest)) := by
  subst hN
  exact my_newZ X M harr hdg hn h9 h1 h2 (fun q μ1 H1 h e M1 => kk q μ1 H1 _ _ rfl rfl h e M1)
end KROWS
