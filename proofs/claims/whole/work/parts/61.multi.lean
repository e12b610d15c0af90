/-! A GRID: the rows of the one instruction that makes an array of N arrays of K numbers. They stand on the library's general rows alone. -/
/-- what the table's word tells of an array of arrays -/
theorem mg_over {args : Array Value} {f s : State} {o : Option Outcome} {idx : List Nat} {t : FieldType} (h : (Cond.arrayOver (.array t)).holds args f o s idx = true) :
    ∃ (cI cG : ClassId) (k : Class), s.vm.findClass (FieldType.array t).toString = some cI ∧ s.vm.findClass ("[" ++ (FieldType.array t).toString) = some cG ∧ s.vm.classes[cG]? = some k ∧ k.kind = .array cI (.array t) := by
  simp only [Cond.holds, Cond.value, beq_iff_eq, Option.bind_eq_some_iff, Option.map_eq_some_iff] at h
  obtain ⟨cI, hI, cG, hf, k, hk, hb⟩ := h
  have hp := (Array.findIdx?_eq_some_iff_getElem.mp hf).2.1
  rw [(Array.getElem?_eq_some_iff.mp hk).2] at hp
  cases hkind : k.kind with
  | array c1 ty =>
    rw [hkind] at hb hp
    simp only [Bool.and_eq_true, decide_eq_true_eq, beq_iff_eq] at hb hp
    exact ⟨cI, cG, k, hI, hb.2, hk, by rw [hkind, hp, hb.1]⟩
  | _ =>
    rw [hkind] at hb
    simp at hb
/-- the outer cell when its first i places are filled; an inner cell -/
def mg_o (cG : ClassId) (N z i : Nat) : Cell := arrV cG N (fun j => if j < i then .ref (z + 1 + j) else .null)
def mg_i (cI : ClassId) (K : Nat) : Cell := arrV cI K (fun _ => .int 0)
theorem mg_o0 (cG : ClassId) (N z : Nat) : ({ cls := cG, slots := Array.replicate N .null, vm := .none } : Cell) = mg_o cG N z 0 :=
  (arrV_new cG N .null).trans (congrArg (arrV cG N) (funext fun j => (if_neg (Nat.not_lt_zero j)).symm))
theorem mg_oS (cG : ClassId) (N z i : Nat) : (mg_o cG N z i).setSlot i (.ref (z + 1 + i)) = mg_o cG N z (i + 1) := by
  unfold mg_o
  rw [arrV_store]
  refine congrArg (arrV cG N) (funext fun j => ?_)
  unfold updV
  by_cases e : j = i
  · rw [if_pos e, if_pos (by omega), e]
  · rw [if_neg e]
    show (if j < i then Value.ref (z + 1 + j) else Value.null) = _
    by_cases h : j < i
    · rw [if_pos h, if_pos (by omega)]
    · rw [if_neg h, if_neg (by omega)]
theorem mg_oN (cG : ClassId) (N z i : Nat) : (mg_o cG N z i).slots.size = N := arrV_size cG N _
theorem mg_iN (cI : ClassId) (K : Nat) : (mg_i cI K).slots.size = K := arrV_size cI K _
/-- the world when i rows are there -/
def mg_U (U : State) (cG cI : ClassId) (N K : Nat) : Nat → State
  | 0 => U.pushCell (mg_o cG N U.heap.size 0)
  | i + 1 => ((mg_U U cG cI N K i).pushCell (mg_i cI K)).setCell U.heap.size (mg_o cG N U.heap.size (i + 1))
section GD
variable (U : State) (cG cI : ClassId) (N K : Nat)
theorem mg_vm : ∀ i : Nat, (mg_U U cG cI N K i).vm = U.vm
  | 0 => rfl
  | i + 1 => mg_vm i
theorem mg_size : ∀ i : Nat, (mg_U U cG cI N K i).heap.size = U.heap.size + 1 + i
  | 0 => by simp [mg_U]
  | i + 1 => by
    have h := mg_size i
    simp [mg_U, State.setCell, h]
    omega
theorem mg_used : ∀ i : Nat, (mg_U U cG cI N K i).slotsUsed = U.slotsUsed + N + i * K
  | 0 => by simp [mg_U, mg_oN]
  | i + 1 => by
    have h := mg_used i
    simp [mg_U, h, mg_iN, Nat.succ_mul]
    omega
theorem mg_grown (i : Nat) : U.heap.size < (mg_U U cG cI N K i).heap.size := by
  rw [mg_size]
  omega
theorem mg_out : ∀ i : Nat, (mg_U U cG cI N K i).heap[U.heap.size]? = some (mg_o cG N U.heap.size i)
  | 0 => State.heap_pushCell_size _ _
  | i + 1 => State.heap_setCell_self (c := mg_o cG N U.heap.size i) (by
      rw [State.heap_pushCell_of_lt (h := mg_grown U cG cI N K i)]
      exact mg_out i)
theorem mg_old {q : Nat} (hq : q < U.heap.size) : ∀ i : Nat, (mg_U U cG cI N K i).heap[q]? = U.heap[q]?
  | 0 => State.heap_pushCell_of_lt _ _ hq
  | i + 1 => by
    show (((mg_U U cG cI N K i).pushCell (mg_i cI K)).setCell U.heap.size _).heap[q]? = _
    rw [State.heap_setCell_other (Nat.ne_of_gt hq), State.heap_pushCell_of_lt (h := Nat.lt_trans hq (mg_grown U cG cI N K i))]
    exact mg_old hq i
theorem mg_in {j : Nat} : ∀ i : Nat, j < i → (mg_U U cG cI N K i).heap[U.heap.size + 1 + j]? = some (mg_i cI K)
  | 0, h => absurd h (Nat.not_lt_zero _)
  | i + 1, h => by
    show (((mg_U U cG cI N K i).pushCell (mg_i cI K)).setCell U.heap.size _).heap[U.heap.size + 1 + j]? = _
    rw [State.heap_setCell_other (show U.heap.size ≠ U.heap.size + 1 + j by omega)]
    by_cases hj : j < i
    · rw [State.heap_pushCell_of_lt (h := show U.heap.size + 1 + j < (mg_U U cG cI N K i).heap.size by rw [mg_size]; omega)]
      exact mg_in i hj
    · rw [show U.heap.size + 1 + j = (mg_U U cG cI N K i).heap.size by rw [mg_size]; omega]
      exact State.heap_pushCell_size _ _
end GD
section GDW
variable {E : CtlPost} {e : Env} {d : Bool} {acts : List Action} {U : State}
theorem mg_wp1 {cI cc : ClassId} {kI : Class} {y : Int32} {K : Nat} (hkI : U.vm.classes[cI]? = some kI) (hI : kI.kind = .array cc .int) (hy : ¬ y < 0) (hK : y.toNatClampNeg = K)
    (l2 : ¬ K > e.platform.arrayLengthLimit) (m2 : ¬ K * componentBytes .int > e.platform.maxHeapBytes) (h1 : U.heap.size < e.platform.maxCells) (h2 : U.slotsUsed + K ≤ e.platform.maxSlots)
    {Q : Addr → Pre} (hq : ∀ a1, Q U.heap.size d a1 (U.pushCell (mg_i cI K))) : wp (multianewarray.make cI [y]) Q E e d acts U := by
  subst hK
  rw [multianewarray.make]
  simp only [wp_bind', Jvm.W.ite, hy, if_false, wp_pure', Jvm.W.theClass, hkI, hI, Option.some.injEq, exists_eq_left']
  refine Jvm.W.newArray_of hkI hI l2 m2 h1 h2 rfl (fun a1 => ?_)
  have h := hq a1
  unfold mg_i at h
  rw [← arrV_new] at h
  exact h
theorem mg_wp2 {f : JFrame} {cG cI cc : ClassId} {kG kI : Class} {x y : Int32} {N K : Nat} (hkG : U.vm.classes[cG]? = some kG) (hG : kG.kind = .array cI (.array .int)) (hkI : U.vm.classes[cI]? = some kI) (hI : kI.kind = .array cc .int)
    (hx : ¬ x < 0) (hy : ¬ y < 0) (hN : x.toNatClampNeg = N) (hK : y.toNatClampNeg = K)
    (l1 : ¬ N > e.platform.arrayLengthLimit) (m1 : ¬ N * componentBytes (.array .int) > e.platform.maxHeapBytes) (l2 : ¬ K > e.platform.arrayLengthLimit) (m2 : ¬ K * componentBytes .int > e.platform.maxHeapBytes)
    (r1 : U.heap.size + (1 + N) ≤ e.platform.maxCells) (r2 : U.slotsUsed + (N + N * K) ≤ e.platform.maxSlots)
    {Q : Addr → Pre} (hq : ∀ d1 a1, Q U.heap.size d1 a1 ((mg_U U cG cI N K N).setTop f)) : wp (multianewarray.make cG [x, y]) Q E e d acts (U.setTop f) := by
  subst hN
  have hkG' : (U.setTop f).vm.classes[cG]? = some kG := hkG
  have hfi : ([y].find? (· < 0)) = none := by simp [hy]
  have r3 : U.slotsUsed + x.toNatClampNeg ≤ e.platform.maxSlots := Nat.le_trans (Nat.add_le_add_left (Nat.le_add_right _ _) _) r2
  have hfr : ∀ a : Addr, fits (FieldType.array .int) (.ref a) = true := fun _ => rfl
  rw [multianewarray.make]
  simp only [wp_bind', Jvm.W.ite, hx, if_false, wp_pure', Jvm.W.theClass, hkG', hG, Option.some.injEq, exists_eq_left']
  refine Jvm.W.newArray_of hkG' hG l1 m1 (show U.heap.size < _ by omega) r3 rfl (fun a0 => ?_)
  simp only [hfi]
  rw [ite_self, wp_bind', Std.Legacy.Range.forIn_eq_forIn_range']
  have hsz : ([:x.toNatClampNeg] : Std.Legacy.Range).size = x.toNatClampNeg := by simp [Std.Legacy.Range.size]
  rw [hsz]
  show wp (forIn (List.range' 0 x.toNatClampNeg 1) PUnit.unit _) _ E e d a0 _
  generalize x.toNatClampNeg = N at *
  refine wp_forIn_inv (fun r s1 => ∃ i, i ≤ N ∧ r = List.range' i (N - i) ∧ s1 = (mg_U U cG cI N K i).setTop f) _ _ ⟨0, Nat.zero_le _, rfl, ?_⟩ ?_ ?_
  · show (U.setTop f).pushCell _ = (U.pushCell _).setTop f
    rw [mg_o0 cG N U.heap.size]
    rfl
  · rintro w r s1 d1 a2 Q1 ⟨i, hi, hl, rfl⟩ hnext
    obtain ⟨k, hk⟩ : ∃ k, N - i = k + 1 := by
      cases hz : N - i with
      | zero => rw [hz] at hl; simp at hl
      | succ k => exact ⟨k, rfl⟩
    rw [hk, List.range'_succ] at hl
    obtain ⟨hw, hr⟩ := List.cons.inj hl
    subst hw
    subst hr
    have hb : w * K + K ≤ N * K := by
      have h := Nat.mul_le_mul_right K (show w + 1 ≤ N by omega)
      rw [Nat.succ_mul] at h
      exact h
    have hz := mg_size U cG cI N K w
    have hu := mg_used U cG cI N K w
    simp only [wp_bind']
    refine mg_wp1 (U := (mg_U U cG cI N K w).setTop f) (K := K) (by show (mg_U U cG cI N K w).vm.classes[cI]? = _; rw [mg_vm]; exact hkI) hI hy hK l2 m2 (by show (mg_U U cG cI N K w).heap.size < _; omega) (by show (mg_U U cG cI N K w).slotsUsed + K ≤ _; omega) (fun a3 => ?_)
    simp only [wp_bind', Jvm.W.writeLoc, wp_pure']
    refine ⟨mg_o cG N U.heap.size w, ?_, by simp [mg_o, arrV], by rw [mg_oN]; omega, ?_, hnext _ _ _ ⟨w + 1, by omega, by rw [show N - (w + 1) = k by omega], ?_⟩⟩
    · show ((mg_U U cG cI N K w).pushCell (mg_i cI K)).heap[U.heap.size]? = _
      rw [State.heap_pushCell_of_lt (h := mg_grown U cG cI N K w)]
      exact mg_out U cG cI N K w
    · simp [State.fitsSlot, State.slotType?, mg_o, arrV, mg_vm, hkG, hG, hfr]
    · rw [show ((mg_U U cG cI N K w).setTop f).heap.size = U.heap.size + 1 + w from hz, mg_oS]
      rfl
  · rintro s1 d1 a2 ⟨i, hi, hl, rfl⟩
    have hiN : i = N := by
      cases hz : N - i with
      | zero => omega
      | succ k => rw [hz, List.range'_succ] at hl; cases hl
    subst hiN
    simp only [wp_pure']
    exact hq _ _
end GDW
section GDS
variable {p : Program} {l : Launch} {e : Env} {R : Room} {s : State} {m : MethodId} {args : Array Value} {below : List Frame} {meth : Method} {c : Code} {T : State} {locs : List Loc} {cells slots : Nat}
theorem mg_stand (cG cI : ClassId) (N K : Nat) (X : Stand p l e R s m args below meth c T locs cells slots) : ∀ i : Nat, Stand p l e R s m args below meth c (mg_U T cG cI N K i) locs (cells + 1 + i) (slots + N + i * K)
  | 0 => by
    have h := X.pushed (mg_o cG N T.heap.size 0)
    rw [mg_oN] at h
    rw [Nat.zero_mul]
    exact h
  | i + 1 => by
    have hc : ((mg_U T cG cI N K i).pushCell (mg_i cI K)).heap[T.heap.size]? = some (mg_o cG N T.heap.size i) := by
      rw [State.heap_pushCell_of_lt (h := mg_grown T cG cI N K i)]
      exact mg_out T cG cI N K i
    have h := ((mg_stand cG cI N K X i).pushed (mg_i cI K)).stored hc i (.ref (T.heap.size + 1 + i))
    rw [mg_oS, mg_iN] at h
    rw [show slots + N + (i + 1) * K = slots + N + i * K + K by rw [Nat.succ_mul]; omega]
    exact h.dropFresh (fun z hz => by
      rw [List.mem_singleton.mp hz]
      exact X.heapGrown)
theorem mg_make (X : Stand p l e R s m args below meth c T locs cells slots) (hexec : p.tables.exec = Jvm.exec) {own : String} {index : Nat} (hown : s.vm.findClass own = some m.cls) (hclink : (Cond.classLink own index ("[" ++ (FieldType.array .int).toString)).before args s = true)
    (hover : (Cond.arrayOver (.array .int)).before args s = true) (harr : (Cond.arrayClass .int).before args s = true) {g : JFrame} (hg : g.method = m) (hdg : decode c.code g.pc = .ok (.multianewarray index 2, 4)) {x y : Int32} {rest : List Value} (hstack : g.stack = .int y :: .int x :: rest)
    (hx : ¬ x < 0) (hy : ¬ y < 0) {N K : Nat} (hN : x.toNatClampNeg = N) (hK : y.toNatClampNeg = K) (hb1 : N * 4 ≤ 536870912) (hb2 : K * componentBytes .int ≤ 536870912) (hb3 : K ≤ 536870912) (hcells : cells + (1 + N) ≤ R.cells) (hslots : slots + (N + N * K) ≤ R.slots) :
    ∃ (V : Vm) (cI cG : ClassId), s.vm.findClass (FieldType.array .int).toString = some cI ∧ s.vm.findClass ("[" ++ (FieldType.array .int).toString) = some cG ∧
      Stand p l e R s m args below meth c (mg_U (T.setVm V) cG cI N K N) locs (cells + 1 + N) (slots + N + N * K) ∧
      ∀ target, Steps p.tables e below ((mg_U (T.setVm V) cG cI N K N).setTop { g with pc := g.pc + 4, stack := .ref T.heap.size :: rest }) target → Steps p.tables e below (T.setTop g) target := by
  subst hg
  have hpl : e.platform.magicAccessors = ({} : Platform).magicAccessors := by rw [X.admits.platform]
  obtain ⟨cI, cG, kG, hI, hG, hkG, hkindG⟩ := mg_over hover
  obtain ⟨cI1, kI, cc, hI1, hkI, hkindI⟩ := Cond.arrayClass_spec harr
  obtain ⟨cG1, hG1, hcl⟩ := Cond.classLink_spec hown hclink e.platform hpl
  have e1 : cI1 = cI := Option.some.inj (hI1.symm.trans hI)
  have e2 : cG1 = cG := Option.some.inj (hG1.symm.trans hG)
  subst e1
  subst e2
  obtain ⟨hgv, hwv, hrv⟩ := State.classEntry (e := e) X.warmed hcl
  generalize T.vm.noted g.method.cls index (.cls cG1) = V at hgv hwv hrv
  have hal : s.vm.Alike V := hwv.alike
  obtain ⟨kG2, hkG2, heG⟩ := hal.2.2 _ _ hkG
  obtain ⟨kI2, hkI2, heI⟩ := hal.2.2 _ _ hkI
  have hkindG2 : kG2.kind = .array cI1 (.array .int) := by rw [heG]; exact hkindG
  have hkindI2 : kI2.kind = .array cc .int := by rw [heI]; exact hkindI
  have XV := X.noted hwv
  have XF := mg_stand cG1 cI1 N K XV N
  obtain ⟨hr1, hr2⟩ := X.roomAbove hcells hslots
  refine ⟨V, cI1, cG1, hI, hG, XF, fun target hrest => ?_⟩
  have l1 : ¬ N > e.platform.arrayLengthLimit := by rw [Launch.admits_arrayLengthLimit X.admits]; omega
  have m1 : ¬ N * componentBytes (.array .int) > e.platform.maxHeapBytes := by
    rw [Launch.admits_maxHeapBytes X.admits]
    show ¬ N * 4 > 536870912
    omega
  have l2 : ¬ K > e.platform.arrayLengthLimit := by rw [Launch.admits_arrayLengthLimit X.admits]; omega
  have m2 : ¬ K * componentBytes .int > e.platform.maxHeapBytes := by rw [Launch.admits_maxHeapBytes X.admits]; omega
  jvm_step X.here [hexec, hdg]
  simp only [multianewarray.sem, wp_bind', Jvm.W.resolveClassAt_links (State.method?_setTop g X.here.top) hgv]
  rw [Jvm.W.popN, if_neg (by decide)]
  refine ⟨g, State.topJava?_setTop' (s := T.setVm V) g X.here.top, [.int x, .int y], rest, rfl, hstack, ?_⟩
  simp only [List.mapM_cons, List.mapM_nil, wp_bind', wp_pure']
  have eS : ((T.setTop g).setVm V).setTop { g with stack := rest } = (T.setVm V).setTop { g with stack := rest } := by
    show ((T.setVm V).setTop g).setTop _ = _
    rw [State.setTop_setTop]
  rw [eS]
  refine mg_wp2 (U := T.setVm V) (kG := kG2) (kI := kI2) (cI := cI1) (cc := cc) hkG2 hkindG2 hkI2 hkindI2 hx hy hN hK l1 m1 l2 m2 hr1 hr2 (fun d1 a1 => ?_)
  simp only [wp_bind', Jvm.W.mark, Jvm.W.pushRef, State.topJava?_setTop' _ XF.here.top, Option.some.injEq, exists_eq_left', State.setTop_setTop, State.heap_setTop]
  intro a2
  simp [jvm, XF.here.top]
  exact hrest
end GDS
