section GRID
variable {p : Program} {l : Launch} {e : Env} {R : Room} {s : State} {m : MethodId} {args : Array Value} {below : List Frame} {meth : Method} {c : Code} {H : Heap} {locs : List Loc} {cells slots : Nat} {Q : State → Prop}
variable {cc : ByteArray} {pc : Nat} {ls : Array Slot} {rest : List Value} {D : va_G} {tys : List (ClassId × FieldType)} {H0 : Heap} {n j : Nat} {E : Nat → va_E}
/-- the rows of a grid at places from j on -/
def eG (E : Nat → va_E) (j N : Nat) (x y : va_E) : Nat → va_E := fun i => if i = j then x else if j < i ∧ i < j + 1 + N then y else E i
theorem b_grid (hexec : p.tables.exec = Jvm.exec) (hb : c.code = cc) {own : String} {index : Nat} (hown : s.vm.findClass own = some m.cls) (hclink : (Cond.classLink own index ("[" ++ (FieldType.array .int).toString)).before args s = true) (hover : aov s) (harr : (Cond.arrayClass .int).before args s = true) {cI cG : ClassId} (hcI : s.vm.findClass (FieldType.array .int).toString = some cI) (hcG : s.vm.findClass ("[" ++ (FieldType.array .int).toString) = some cG) (hP : bP D n j E H) (hS : va_S (fun q => n ≤ q) H0 H locs) {x y : Int32} {N K : Nat} (hn : ¬ x < 0) (hk : ¬ y < 0) (hN : x.toNatClampNeg = N) (hM : y.toNatClampNeg = K) (hb1 : N * 4 ≤ 536870912) (hb2 : K * componentBytes .int ≤ 536870912) (hb3 : K ≤ 536870912) (hcells : cells + (1 + N) ≤ R.cells) (hslots : slots + (N + N * K) ≤ R.slots) (hdg : decode cc pc = .ok (.multianewarray index 2, 4))
    (kk : ∀ H1 : Heap, bP D n (j + 1 + N) (eG E j N (.inl (cG, N, .inr (.inr (.inr (.inr (fun i => some (n + (j + 1 + i)))))))) (.inl (cI, K, .inl (fun _ => 0)))) H1 → va_S (fun q => n ≤ q) H0 H1 locs → W p l e R s m args below meth c H1 locs (cells + 1 + N) (slots + N + N * K) Q (F0 m (pc + 4) ls (.ref (n + j) :: rest))) : W p l e R s m args below meth c H locs cells slots Q (F0 m pc ls (.int y :: .int x :: rest)) := by
  intro T hT Xs
  obtain ⟨V, c1, c2, fI, fG, X', step⟩ := mg_make Xs hexec hown hclink (show (Cond.arrayOver (.array .int)).before args s = true from hover) harr (g := F0 m pc ls (.int y :: .int x :: rest)) rfl (by rw [hb]; exact hdg) rfl hn hk hN hM hb1 hb2 hb3 hcells hslots
  have ec : c1 = cI := Option.some.inj (fI.symm.trans hcI)
  have ea : c2 = cG := Option.some.inj (fG.symm.trans hcG)
  subst ec
  subst ea
  have hTh : (T.setVm V).heap = H := hT
  have f1 := mg_size (T.setVm V) c2 c1 N K N
  have f2 := mg_out (T.setVm V) c2 c1 N K N
  have hold : ∀ q : Nat, q < (T.setVm V).heap.size → (mg_U (T.setVm V) c2 c1 N K N).heap[q]? = (T.setVm V).heap[q]? := fun q hq => mg_old (T.setVm V) c2 c1 N K hq N
  have hrow : ∀ i : Nat, i < N → (mg_U (T.setVm V) c2 c1 N K N).heap[(T.setVm V).heap.size + 1 + i]? = some (mg_i c1 K) := fun i hi => mg_in (T.setVm V) c2 c1 N K (j := i) N hi
  generalize mg_U (T.setVm V) c2 c1 N K N = F at f1 f2 hold hrow X' step
  rw [hTh] at f1 f2 hold hrow
  have hsz := hP.1
  obtain ⟨t, a1, b1⟩ := kk F.heap ⟨by rw [f1, hsz]; omega, fun i hi => by
      unfold eG
      by_cases e1 : i = j
      · subst e1
        rw [if_pos rfl]
        show F.heap[n + i]? = some (vp_cell _ _)
        rw [← hsz, f2, vp_cell_q]
        refine congrArg some ?_
        unfold mg_o arrV
        refine congrArg (fun z => ({ cls := c2, slots := z, vm := .none } : Cell)) ?_
        apply Array.ext
        · simp
        · intro q h1 h2
          simp only [Array.size_ofFn] at h1
          simp only [Array.getElem_ofFn]
          rw [if_pos h1, hsz, show n + i + 1 + q = n + (i + 1 + q) by omega]
          first | done | rfl
      · rw [if_neg e1]
        by_cases e2 : j < i ∧ i < j + 1 + N
        · rw [if_pos e2]
          show F.heap[n + i]? = some (vp_cell _ _)
          have := hrow (i - j - 1) (by omega)
          rw [hsz, show n + j + 1 + (i - j - 1) = n + i by omega] at this
          rw [this, vp_cell_i]
          rfl
        · rw [if_neg e2]
          exact va_at_kept (hP.2 i (by omega)) (hold (n + i) (by omega))⟩ (hS.add (by rw [f1]; omega) hold) F rfl X'
  refine ⟨t, step t ?_, b1⟩
  have e : T.heap.size = n + j := by rw [hT, hsz]
  rw [e]
  exact a1
end GRID
