/-! MAKING THE WORLD: cells one behind the other, from n on -/
def bW (n j : Nat) (E : Nat → va_E) : va_W := (List.range j).map (fun k => (n + k, E k))
def eU (E : Nat → va_E) (k : Nat) (x : va_E) : Nat → va_E := fun i => if i = k then x else E i
theorem eU_i (E : Nat → va_E) (k : Nat) (x : va_E) : eU E k x k = x := if_pos rfl
theorem eU_o (E : Nat → va_E) {i k : Nat} (x : va_E) (h : ¬ i = k) : eU E k x i = E i := if_neg h
def bP (D : va_G) (n j : Nat) (E : Nat → va_E) (H : Heap) : Prop := H.size = n + j ∧ ∀ k, k < j → va_at D vwCl (n + k, E k) H
theorem bW_get {n j k : Nat} {E : Nat → va_E} (hk : k < j) : (bW n j E)[k]? = some (n + k, E k) := by
  unfold bW
  rw [List.getElem?_map, List.getElem?_range hk]
  rfl
theorem bW_of {n j k : Nat} {E : Nat → va_E} {q : Nat × va_E} (h : (bW n j E)[k]? = some q) : k < j ∧ q = (n + k, E k) := by
  have hk : k < j := by
    have := (List.getElem?_eq_some_iff.mp h).1
    simpa [bW] using this
  rw [bW_get hk] at h
  exact ⟨hk, (Option.some.inj h).symm⟩
theorem bP.P {D : va_G} {n j : Nat} {E : Nat → va_E} {H : Heap} (h : bP D n j E H) : va_P D vwCl (bW n j E) H := fun k q hq => by
  obtain ⟨hk, rfl⟩ := bW_of hq
  exact h.2 k hk
theorem bW_D {n j : Nat} {E : Nat → va_E} : va_D (fun q => n ≤ q) (bW n j E) := by
  refine ⟨fun i k p q hi hk hpq => ?_, fun k q hk => ?_⟩
  · obtain ⟨-, rfl⟩ := bW_of hi
    obtain ⟨-, rfl⟩ := bW_of hk
    have hpq : n + i = n + k := hpq
    omega
  · obtain ⟨-, rfl⟩ := bW_of hk
    exact Nat.le_add_right n k
theorem va_at_kept {D : va_G} {q : Nat × va_E} {H H1 : Heap} (h : va_at D vwCl q H) (hq : H1[q.1]? = H[q.1]?) : va_at D vwCl q H1 := by
  have h1 : va_P D vwCl [q] H := fun k x hx => by
    have hz : k < 1 := (List.getElem?_eq_some_iff.mp hx).1
    rw [show k = 0 by omega] at hx
    cases hx
    exact h
  exact (h1.kept (H1 := H1) (fun k x hx => by
    have hz : k < 1 := (List.getElem?_eq_some_iff.mp hx).1
    rw [show k = 0 by omega] at hx
    cases hx
    exact hq)) 0 q rfl
theorem bP.set {D : va_G} {n j k : Nat} {E : Nat → va_E} {x : va_E} {H H1 : Heap} (h : bP D n j E H) (hz : H1.size = H.size) (ho : ∀ q, q ≠ n + k → H1[q]? = H[q]?) (hx : va_at D vwCl (n + k, x) H1) : bP D n j (eU E k x) H1 := by
  refine ⟨hz.trans h.1, fun i hi => ?_⟩
  by_cases e : i = k
  · subst e; rw [eU_i]; exact hx
  · rw [eU_o _ _ e]
    exact va_at_kept (h.2 i hi) (ho (n + i) (by omega))
theorem bP.add {D : va_G} {n j : Nat} {E : Nat → va_E} {x : va_E} {H H1 : Heap} (h : bP D n j E H) (hz : H1.size = n + j + 1) (ho : ∀ q, q < n + j → H1[q]? = H[q]?) (hx : va_at D vwCl (n + j, x) H1) : bP D n (j + 1) (eU E j x) H1 := by
  refine ⟨by omega, fun i hi => ?_⟩
  by_cases e : i = j
  · subst e; rw [eU_i]; exact hx
  · rw [eU_o _ _ e]
    exact va_at_kept (h.2 i (by omega)) (ho (n + i) (by omega))
theorem va_S.add {A : Nat → Prop} {H0 H H1 : Heap} {locs : List Loc} (h : va_S A H0 H locs) (hz : H.size ≤ H1.size) (ho : ∀ q, q < H.size → H1[q]? = H[q]?) : va_S A H0 H1 locs :=
  ⟨Nat.le_trans h.1 hz, fun q h1 h2 => (ho q (Nat.lt_of_lt_of_le h1 h.1)).trans (h.2.1 q h1 h2), h.2.2⟩
def aov (U : State) : Prop := (Cond.arrayOver (.array .int)).before #[] U = true
theorem aov.moved {u U : State} (hvm : u.vm.Alike U.vm) (h : aov u) : aov U := by
  have h1 := Cond.arrayOver_setVmC (args := #[]) (s := u) hvm (.array .int)
  have h2 : (Cond.arrayOver (.array .int)).before #[] (u.setVm U.vm) = true := h1.trans h
  exact h2
section MK
variable {p : Program} {l : Launch} {e : Env} {R : Room} {s : State} {m : MethodId} {args : Array Value} {below : List Frame} {meth : Method} {c : Code} {H : Heap} {locs : List Loc} {cells slots : Nat} {Q : State → Prop}
variable {cc : ByteArray} {pc : Nat} {ls : Array Slot} {rest : List Value} {D : va_G} {tys : List (ClassId × FieldType)} {H0 : Heap} {n j : Nat} {E : Nat → va_E}
theorem b_arr (hexec : p.tables.exec = Jvm.exec) (hb : c.code = cc) {atype : ArrayType} (harr : (Cond.arrayClass (newarray.typeOf atype)).before args s = true) {cA : ClassId} (hcA : s.vm.findClass ("[" ++ (newarray.typeOf atype).toString) = some cA) (hP : bP D n j E H) (hS : va_S (fun q => n ≤ q) H0 H locs) {x : Int32} {N : Nat} (hn : ¬ x < 0) (hN : x.toNatClampNeg = N) (hdef : defaultValue (newarray.typeOf atype) = .int 0) (hbytes : N * componentBytes (newarray.typeOf atype) ≤ 536870912) (hcells : cells + 1 ≤ R.cells) (hslots : slots + N ≤ R.slots) (hdg : decode cc pc = .ok (.newarray atype, 2))
    (kk : ∀ H1 : Heap, bP D n (j + 1) (eU E j (.inl (cA, N, .inl (fun _ => 0)))) H1 → va_S (fun q => n ≤ q) H0 H1 locs → W p l e R s m args below meth c H1 locs (cells + 1) (slots + N) Q (F0 m (pc + 2) ls (.ref (n + j) :: rest))) : W p l e R s m args below meth c H locs cells slots Q (F0 m pc ls (.int x :: rest)) := by
  refine va_newaK hexec hb harr rfl hdg rfl hn hN hbytes hcells hslots hP.1 fun H1 cB e1 z1 o1 hAr hNm => ?_
  have ec : cB = cA := Option.some.inj (hNm.symm.trans hcA)
  subst ec
  refine kk H1 (hP.add z1 o1 ?_) (hS.add (by rw [hP.1, z1]; omega) (fun q hq => o1 q (by rw [← hP.1]; exact hq)))
  show H1[n + j]? = some (vp_cell cB (N, .inl (fun _ => 0)))
  rw [e1, vp_cell_i, hdef]
theorem b_new (hexec : p.tables.exec = Jvm.exec) (hb : c.code = cc) {own : String} {t index : Nat} {Ts : List Cond} (h2 : 2 ≤ t) (h6 : t ≤ 6) (hts : ∀ w ∈ Ts, w.before args s = true) (hin : ∀ w ∈ u_ws (ownS t) (TT t) (NN t), w ∈ Ts) (hown : s.vm.findClass own = some m.cls) (hcl : (Cond.classLink own index (ownS t)).before args s = true) (hinst : (Cond.instantiable (ownS t) (NN t)).before args s = true) (hini : (Cond.initialized (ownS t)).before args s = true) (hK : va_K D vwCl tys s) (hP : bP D n j E H) (hS : va_S (fun q => n ≤ q) H0 H locs) {fs : List Value} (hfs : ∀ j, j < NN t → defaultValue (tyT t j) = vp_V fs j) (hcells : cells + 1 ≤ R.cells) (hslots : slots + NN t ≤ R.slots) (hdg : decode cc pc = .ok (.new index, 3))
    (kk : ∀ H1 : Heap, bP D n (j + 1) (eU E j (.inr (t - 2, fs))) H1 → va_S (fun q => n ≤ q) H0 H1 locs → W p l e R s m args below meth c H1 locs (cells + 1) (slots + NN t) Q (F0 m (pc + 3) ls (.ref (n + j) :: rest))) : W p l e R s m args below meth c H locs cells slots Q (F0 m pc ls rest) := by
  have hc := vwCl_at h2 h6
  have hKn := hK.1 (t - 2) _ hc
  refine W.newcK hexec hb hown hcl hinst hini rfl hdg hcells hslots hKn.2.1 hP.1 fun H1 kC hkC e1 z1 o1 => ?_
  exact kk H1 (hP.add z1 o1 ⟨_, hc, (u_born (tyT t) hts hin hKn hkC e1 (kTy h2 h6)).to hfs⟩) (hS.add (by rw [hP.1, z1]; omega) (fun q hq => o1 q (by rw [← hP.1]; exact hq)))
theorem b_put (hexec : p.tables.exec = Jvm.exec) (hb : c.code = cc) {t k i index : Nat} {Ts : List Cond} (h2 : 2 ≤ t) (h6 : t ≤ 6) (hts : ∀ w ∈ Ts, w.before args s = true) (hin : ∀ w ∈ u_ws (ownS t) (TT t) (NN t), w ∈ Ts) (hown : s.vm.findClass (ownS t) = some m.cls) (hK : va_K D vwCl tys s) (hP : bP D n j E H) (hS : va_S (fun q => n ≤ q) H0 H locs) (hk : k < j) {fs : List Value} (hE : E k = .inr (t - 2, fs)) (hi : i < NN t) (hlink : (Cond.fieldLink (ownS t) index (ownS t) (TT t i).2.1 (TT t i).2.2.1).before args s = true) (hfin : (TT t i).2.2.2 = false) {ty : FieldType} {v : Value} (hd : parseFieldDescriptor (TT t i).2.2.1 = some ty) (hn : narrow ty v = v) (hfit : fits ty v = true) (hl : i < fs.length) (hdg : decode cc pc = .ok (.putfield index, 3)) {a : Nat} (ha : a = n + k)
    (kk : ∀ (H1 : Heap) (locs1 : List Loc), bP D n j (eU E k (.inr (t - 2, fs.set i v))) H1 → va_S (fun q => n ≤ q) H0 H1 locs1 → W p l e R s m args below meth c H1 locs1 cells slots Q (F0 m (pc + 3) ls rest)) : W p l e R s m args below meth c H locs cells slots Q (F0 m pc ls (v :: .ref a :: rest)) := by
  subst ha
  have hc := vwCl_at h2 h6
  have hap := va_apart (own := ownS t) hts hin (tyT t) (kTy h2 h6) (kNm h2 h6) hK hc
  have h0 := hP.2 k hk
  rw [hE] at h0
  obtain ⟨r, h1, cell, q1, q2, q3, q4⟩ := h0
  have hr : r = (ownS t, TT t, NN t) := Option.some.inj (h1.symm.trans hc)
  subst hr
  obtain ⟨hSl, hfc, kC, hkC, hkind⟩ := hK.1 (t - 2) _ hc
  obtain ⟨cf, kf, fi, f, hi', hsl⟩ := hSl i hi
  have hlay := hts _ (hin _ (u_in_lay hi))
  unfold u_lay at hlay
  rw [if_neg (by rw [hfin]; decide)] at hlay
  have hst := (u_facts hfc hkC (u_lays hts hin hi) hi').1
  have h6' := u_store hfc hkC hkind hlay hi' hd hn hfit
  have hsame : s.fieldFound? (TT t i).1 (TT t i).2.1 (TT t i).2.2.1 = some (cf, kf, fi, f) := hi'
  rw [(kT0 h2 h6 i hi).1] at hsame
  refine W.putK hexec hb (f := f) ⟨hown, hlink, ⟨_, _, _, hsame⟩, hst⟩ (by rw [q2]; exact h6') q1 q3 (by rw [hsl]; exact k2_hasslot (q4 i hi)) rfl rfl hdg fun H' e1 e2 e3 => ?_
  rw [hsl] at e1 ⊢
  exact kk H' _ (hP.set e2 e3 ⟨_, hc, t_OB.to (V := updV (vp_V fs) i v) ⟨_, e1, q2, q3, t_set q4 hap hi v⟩ (fun j _ => vp_updV_set hl v j)⟩) (hS.put e2 e3 (Nat.le_add_right n k))
theorem b_putF (hexec : p.tables.exec = Jvm.exec) (hb : c.code = cc) {t k i index : Nat} {Ts : List Cond} (h2 : 2 ≤ t) (h6 : t ≤ 6) (hts : ∀ w ∈ Ts, w.before args s = true) (hin : ∀ w ∈ u_ws (ownS t) (TT t) (NN t), w ∈ Ts) (hown : s.vm.findClass (ownS t) = some m.cls) (hK : va_K D vwCl tys s) (hP : bP D n j E H) (hS : va_S (fun q => n ≤ q) H0 H locs) (hk : k < j) {fs : List Value} (hE : E k = .inr (t - 2, fs)) (hi : i < NN t) (hlink : (Cond.fieldLink (ownS t) index (ownS t) (TT t i).2.1 (TT t i).2.2.1).before args s = true) (hfin : (TT t i).2.2.2 = true) (hin2 : meth.name = "<init>") {ty : FieldType} {v : Value} (hd : parseFieldDescriptor (TT t i).2.2.1 = some ty) (hn : narrow ty v = v) (hfit : fits ty v = true) (hl : i < fs.length) (hdg : decode cc pc = .ok (.putfield index, 3)) {a : Nat} (ha : a = n + k)
    (kk : ∀ (H1 : Heap) (locs1 : List Loc), bP D n j (eU E k (.inr (t - 2, fs.set i v))) H1 → va_S (fun q => n ≤ q) H0 H1 locs1 → W p l e R s m args below meth c H1 locs1 cells slots Q (F0 m (pc + 3) ls rest)) : W p l e R s m args below meth c H locs cells slots Q (F0 m pc ls (v :: .ref a :: rest)) := by
  subst ha
  have hc := vwCl_at h2 h6
  have hap := va_apart (own := ownS t) hts hin (tyT t) (kTy h2 h6) (kNm h2 h6) hK hc
  have h0 := hP.2 k hk
  rw [hE] at h0
  obtain ⟨r, h1, cell, q1, q2, q3, q4⟩ := h0
  have hr : r = (ownS t, TT t, NN t) := Option.some.inj (h1.symm.trans hc)
  subst hr
  obtain ⟨hSl, hfc, kC, hkC, hkind⟩ := hK.1 (t - 2) _ hc
  obtain ⟨cf, kf, fi, f, hi', hsl⟩ := hSl i hi
  have hlay := hts _ (hin _ (u_in_lay hi))
  unfold u_lay at hlay
  rw [if_pos hfin] at hlay
  have hst := (u_facts hfc hkC (u_lays hts hin hi) hi').1
  have hcf : m.cls = cf := by
    obtain ⟨_, _, c', _, _, _, -, -, hf', -, -, -, hown2, -⟩ := Cond.laysFinal_spec hlay
    have e1 : c' = cf := by have := hi'.symm.trans hf'; simp at this; exact this.1.symm
    rw [(kT0 h2 h6 i hi).1] at hown2
    rw [← e1]; exact Option.some.inj (hown.symm.trans hown2)
  have h6' := u_fits hfc hkC hkind (Or.inr hlay) hi' hd hn hfit
  have hsame : s.fieldFound? (TT t i).1 (TT t i).2.1 (TT t i).2.2.1 = some (cf, kf, fi, f) := hi'
  rw [(kT0 h2 h6 i hi).1] at hsame
  refine W.putFinK hexec hb hown hlink hsame hst hcf hin2 (by rw [q2]; exact h6') q1 q3 (by rw [hsl]; exact k2_hasslot (q4 i hi)) rfl rfl hdg fun H' e1 e2 e3 => ?_
  rw [hsl] at e1 ⊢
  exact kk H' _ (hP.set e2 e3 ⟨_, hc, t_OB.to (V := updV (vp_V fs) i v) ⟨_, e1, q2, q3, t_set q4 hap hi v⟩ (fun j _ => vp_updV_set hl v j)⟩) (hS.put e2 e3 (Nat.le_add_right n k))
theorem b_ast (hexec : p.tables.exec = Jvm.exec) (hb : c.code = cc) (hK : va_K D vwCl tys s) (hP : bP D n j E H) (hS : va_S (fun q => n ≤ q) H0 H locs) {k t0 : Nat} (hk : k < j) {cA : ClassId} {N : Nat} {f : Nat → Int32} (hE : E k = .inl (cA, N, .inl f)) (ht : tys[t0]? = some (cA, .int)) {i x : Int32} (hin : vp_in i N) (hdg : decode cc pc = .ok (.iastore, 1)) {a : Nat} (ha : a = n + k)
    (kk : ∀ (H1 : Heap) (locs1 : List Loc), bP D n j (eU E k (.inl (cA, N, .inl (upd f i.toNatClampNeg x)))) H1 → va_S (fun q => n ≤ q) H0 H1 locs1 → W p l e R s m args below meth c H1 locs1 cells slots Q (F0 m (pc + 1) ls rest)) : W p l e R s m args below meth c H locs cells slots Q (F0 m pc ls (.int x :: .int i :: .ref a :: rest)) := by
  subst ha
  have h0 := hP.2 k hk
  rw [hE] at h0
  refine W.iast hexec hb (show H[n + k]? = some (vp_cell cA (N, .inl f)) from h0) ((hK.2 t0 _ ht).1 N (fun j => .int (f j))) (fun q => by cases q) (by show ¬ (i < 0 ∨ (arrV _ _ _).slots.size ≤ _); rw [arrV_size]; exact hin) rfl rfl hdg fun H1 e z oq => ?_
  refine kk H1 _ (hP.set z oq ?_) (hS.put z oq (Nat.le_add_right n k))
  show H1[n + k]? = some (vp_cell _ _)
  rw [e, vp_cell_i, vp_cell_i, arrV_store]
  congr 2
  funext q
  by_cases hq : q = i.toNatClampNeg
  · subst hq
    simp [updV, upd]
  · simp [updV, upd, hq]
end MK
