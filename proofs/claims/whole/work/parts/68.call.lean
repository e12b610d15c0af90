/-! a call out of the law -/
theorem goodTW {y : MethodName} {b : ByteArray} {n : Nat} {r : Option FieldType} (h : inW (.code y b n r)) : GoodIn lw_tbl (.code y b n r :: mW) := by
  intro w hw
  rcases List.mem_cons.mp hw with q | q
  · rw [q]; exact ⟨h.1, good_of_word h.2⟩
  · exact ⟨(List.mem_filter.mp q).1, good_of_word (List.mem_filter.mp q).2⟩
theorem adK_inj (n : Nat) (kc : Nat → Nat) : ∀ i j, i < 68 → j < 68 → adK n kc i = adK n kc j → i = j := by
  intro i j hi hj e
  unfold adK at e
  rw [if_pos hi, if_pos hj] at e
  omega
theorem lw_call {p : Program} {l : Launch} {e : Env} {R : Room} {s : State} {m : MethodId} {args : Array Value} {below : List Frame} {meth : Method} {c : Code} {H : Heap} {locs : List Loc} {cells slots : Nat} {Q : State → Prop} {cc : ByteArray} {pc nL index b nn : Nat} {own : String} {lsm : Array Slot} {rest as : List Value} {D : va_G} {cs : ClassId × ClassId × ClassId} {kc : Nat → Nat} {fv : Value} {E : mE} {h h' : mH} {r : Option Value} (S : CallFix p m c cc nL s args lw_tbl own) (hfv : fv = .null ∨ ∃ a, fv = .ref a) (F : wFx D cs (adK s.heap.size kc) fv s s.heap) (hP : va_P D vwCl (wL cs (adK s.heap.size kc) h) H) (hS : va_S (fun q => s.heap.size ≤ q) s.heap H locs) (hE : okE E) (hb : b < 68) (htg : tg b = E.1) (h56 : E.1 = 5 ∨ E.1 = 6) (hlk : inW (.methodLink own index (eY E))) (hin : inW (.instanceMethod (eY E))) (hsel : inW (.selects (eY E).cls (eY E) (eY E))) (hnp : (parseMethodDescriptor (eY E).desc).map (fun d => d.parameters.length) = some nn) (hnn : as.length = nn) (hC : Cal 11 E (.ref b :: as) h r h') (has : as.map (cnc (adK s.heap.size kc) fv) = as) (hR : 12 ≤ R.frames ∧ 8 + (eL E + 11) + 440 ≤ R.locals) (hsize : lsm.size = nL) (hW : 2 * (F0 m pc lsm (as.reverse ++ .ref (adK s.heap.size kc b) :: rest)).monitorRoom + (rest.map fun v => v.category).sum ≤ 8) (hcl : cells ≤ R.cells) (hsl : slots ≤ R.slots) (hdg : decode cc pc = .ok (.invokevirtual index, 3))
    (kk : ∀ (H1 : Heap) (locs1 : List Loc), va_P D vwCl (wL cs (adK s.heap.size kc) h') H1 → va_S (fun q => s.heap.size ≤ q) s.heap H1 locs1 → W p l e R s m args below meth c H1 locs1 cells slots Q (F0 m (pc + 3) lsm ((r.map (cnc (adK s.heap.size kc) fv)).toList ++ rest))) : W p l e R s m args below meth c H locs cells slots Q (F0 m pc lsm (as.reverse ++ .ref (adK s.heap.size kc b) :: rest)) := by
  subst hnn
  obtain ⟨hx, hbb, hml, hown, hts⟩ := S
  have hM := sim (l := l) (D := D) (cs := cs) hfv (adK_inj s.heap.size kc) 11 E _ h r h' hE hC
  obtain ⟨pl, hcode, hini, hcls, hne, -⟩ := hE
  have hSw : va_S (wA (adK s.heap.size kc)) s.heap H [] := ⟨hS.1, fun q h1 _ => hS.2.1 q h1 (Nat.not_le.mpr h1), fun q hq => absurd hq List.not_mem_nil⟩
  have hrecv : ∃ cell : Cell, H[adK s.heap.size kc b]? = some cell ∧ cell.vm.isStatics = false ∧ s.vm.findClass (eY E).cls = some cell.cls := by
    have h6 : E.1 ≤ 6 := by omega
    have h2 : 2 ≤ E.1 := by omega
    rw [hcls]
    exact va_recv F.1 hP (ci := E.1 - 2) (q0 := b) (vwCl_at h2 h6) (by rw [wL_get hb, wE_obj htg h6])
  refine mm_call (va_runV (As := as) (rest := rest) (b := adK s.heap.size kc b) (C := (eY E).cls) ⟨hx, hbb, hml, hown, hts⟩ hM
      ⟨callB_of as.length hts (goodTW hcode) rfl rfl rfl (hts _ hini.1) (hts _ hlk.1) ⟨hne.1, hne.2, hnp⟩ hR, hts _ hin.1, hts _ hsel.1⟩
      ⟨mPc_blind, hrecv, fun U hU hW => ⟨?_, by rw [hU]; exact hP, by rw [hU]; exact F.warm hW hSw⟩⟩ rfl rfl hsize rfl hW hdg ⟨hcl, hsl⟩) (fun q z => ?_) hS (fun r2 h2 H1 locs1 hq hP1 hS1 => ?_)
  · rw [mapr, has]
  · obtain ⟨k, hk, rfl⟩ := z
    unfold adK
    rw [if_pos hk]
    exact Nat.le_add_right _ _
  · obtain ⟨rfl, rfl⟩ := hq
    exact kk H1 locs1 hP1 hS1
