section GRID
variable {p : Program} {l : Launch} {e : Env} {R : Room} {s : State} {m : MethodId} {args : Array Value} {below : List Frame} {meth : Method} {c : Code} {H : Heap} {locs : List Loc} {cells slots : Nat} {Q : State → Prop}
variable {cc : ByteArray} {pc : Nat} {ls : Array Slot} {rest : List Value} {D : va_G} {tys : List (ClassId × FieldType)} {H0 : Heap} {n j : Nat} {E : Nat → va_E}
/-- the rows of a grid at places from j on -/
def eG (E : Nat → va_E) (j N : Nat) (x y : va_E) : Nat → va_E := fun i => if i = j then x else if j < i ∧ i < j + 1 + N then y else E i
theorem b_grid (hexec : p.tables.exec = Jvm.exec) (hb : c.code = cc) {own : String} {index : Nat} (hown : s.vm.findClass own = some m.cls) (hclink : (Cond.classLink own index ("[" ++ (FieldType.array .int).toString)).before args s = true) (hover : aov s) (harr : (Cond.arrayClass .int).before args s = true) {cI cG : ClassId} (hcI : s.vm.findClass (FieldType.array .int).toString = some cI) (hcG : s.vm.findClass ("[" ++ (FieldType.array .int).toString) = some cG) (hP : bP D n j E H) (hS : va_S (fun q => n ≤ q) H0 H locs) {x y : Int32} {N K : Nat} (hn : ¬ x < 0) (hk : ¬ y < 0) (hN : x.toNatClampNeg = N) (hM : y.toNatClampNeg = K) (hb1 : N * 4 ≤ 536870912) (hb2 : K * componentBytes .int ≤ 536870912) (hb3 : K ≤ 536870912) (hcells : cells + (1 + N) ≤ R.cells) (hslots : slots + (N + N * K) ≤ R.slots) (hdg : decode cc pc = .ok (.multianewarray index 2, 4))
    (kk : ∀ H1 : Heap, bP D n (j + 1 + N) (eG E j N (.inl (cG, N, .inr (.inr (.inr (.inr (fun i => some (n + (j + 1 + i)))))))) (.inl (cI, K, .inl (fun _ => 0)))) H1 → va_S (fun q => n ≤ q) H0 H1 locs → W p l e R s m args below meth c H1 locs (cells + 1 + N) (slots + N + N * K) Q (F0 m (pc + 4) ls (.ref (n + j) :: rest))) : W p l e R s m args below meth c H locs cells slots Q (F0 m pc ls (.int y :: .int x :: rest)) := by
  subst hN
  subst hM
  intro T hT Xs
  obtain ⟨vm₁, cA, comp, -, fA, fC, hO, -, X', step⟩ := Xs.multianewarray2F hexec hown hclink (show (Cond.arrayOver (.array .int)).before args s = true from hover) harr (g := F0 m pc ls (.int y :: .int x :: rest)) rfl (by rw [hb]; exact hdg) rfl hn hk hb1 hb2 hb3 rfl rfl hcells hslots
  have ec : comp = cI := Option.some.inj (fC.symm.trans hcI)
  have ea : cA = cG := Option.some.inj (fA.symm.trans hcG)
  subst ec
  subst ea
  generalize hF : Jvm.Free.Multi.fill (T.setVm vm₁) cA comp x.toNatClampNeg y.toNatClampNeg (defaultValue .int) x.toNatClampNeg = F at X' step
  have hTh : (T.setVm vm₁).heap = H := hT
  obtain ⟨f1, f2, -, -⟩ := Jvm.Free.Multi.fill_facts (T.setVm vm₁) cA comp x.toNatClampNeg y.toNatClampNeg (defaultValue .int) x.toNatClampNeg
  rw [hF, hTh] at f1 f2
  have hold : ∀ q : Nat, q < H.size → F.heap[q]? = H[q]? := fun q hq => by
    have := Jvm.Free.Multi.fill_old (T.setVm vm₁) cA comp x.toNatClampNeg y.toNatClampNeg (defaultValue .int) (a := q) (by rw [hTh]; exact hq) x.toNatClampNeg
    rw [hF, hTh] at this
    exact this
  have hrow : ∀ i : Nat, i < x.toNatClampNeg → F.heap[H.size + 1 + i]? = some (Jvm.Free.Multi.innerC comp y.toNatClampNeg (defaultValue .int)) := fun i hi => by
    have := Jvm.Free.Multi.fill_inner (T.setVm vm₁) cA comp x.toNatClampNeg y.toNatClampNeg (defaultValue .int) x.toNatClampNeg i hi
    rw [hF, hTh] at this
    exact this
  rw [gr_outer] at f2
  have hsz := hP.1
  generalize x.toNatClampNeg = N at *
  generalize y.toNatClampNeg = K at *
  obtain ⟨t, a1, b1⟩ := kk F.heap ⟨by rw [f1, hsz]; omega, fun i hi => by
      unfold eG
      by_cases e1 : i = j
      · subst e1
        rw [if_pos rfl]
        show F.heap[n + i]? = some (vp_cell _ _)
        rw [← hsz, f2, vp_cell_q]
        refine congrArg some ?_
        unfold arrV
        refine congrArg (fun z => ({ cls := cA, slots := z, vm := .none } : Cell)) ?_
        apply Array.ext
        · simp
        · intro q h1 h2
          simp only [Array.size_ofFn] at h1
          simp only [Array.getElem_ofFn]
          rw [if_pos h1, hsz]
          exact congrArg (fun z => va_rf (some z)) (by omega)
      · rw [if_neg e1]
        by_cases e2 : j < i ∧ i < j + 1 + N
        · rw [if_pos e2]
          show F.heap[n + i]? = some (vp_cell _ _)
          have := hrow (i - j - 1) (by omega)
          rw [hsz, show n + j + 1 + (i - j - 1) = n + i by omega] at this
          rw [this, vp_cell_i]
          exact congrArg some (arrV_new _ _ _)
        · rw [if_neg e2]
          exact va_at_kept (hP.2 i (by omega)) (hold (n + i) (by omega))⟩ (hS.add (by rw [f1]; omega) hold) F rfl X'
  refine ⟨t, step t ?_, b1⟩
  have e : T.heap.size = n + j := by rw [hT, hsz]
  rw [e]
  exact a1
end GRID
