theorem mU_i {x : Int32} : ¬ Value.int x = mU := by unfold mU; exact fun z => by cases z
theorem mU_l {x : Int64} : ¬ Value.long x = mU := by unfold mU; exact fun z => by cases z
theorem mU_r {x : Nat} : ¬ Value.ref x = mU := by unfold mU; exact fun z => by cases z
theorem rf_all : (List.range 68).all (fun a => (rfL.getD a []).all (fun q => decide (q < 68))) = true := by decide +kernel
theorem rf_lt {a : Nat} (ha : a < 68) (k : Nat) : rf a k < 68 := by
  unfold rf
  rw [if_pos ha]
  have h1 := List.all_eq_true.mp rf_all a (List.mem_range.mpr ha)
  rw [List.getD_eq_getElem?_getD]
  cases e : (rfL.getD a [])[k]? with
  | none => simp
  | some v => simpa using List.all_eq_true.mp h1 v (List.mem_of_getElem? e)
theorem cat_set {E : mE} {ls : List Value} {i : Nat} {v : Value} (h : E.2.1 = false → ∀ v ∈ ls, v.category = 1) (hv : E.2.1 = false → v.category = 1) : E.2.1 = false → ∀ u ∈ ls.set i v, u.category = 1 := by
  intro e u hu
  rcases List.mem_or_eq_of_mem_set hu with q | q
  · exact h e u q
  · rw [q]; exact hv e
theorem goodMW {y : MethodName} {b : ByteArray} {n : Nat} {r : Option FieldType} (h : inW (.code y b n r)) : GoodIn mW (.code y b n r :: mW) := by
  intro w hw
  rcases List.mem_cons.mp hw with q | q
  · rw [q]; exact ⟨h.m, good_of_word h.2⟩
  · exact ⟨q, good_of_word (List.mem_filter.mp q).2⟩
theorem wFx.warm {D : va_G} {cs : ClassId × ClassId × ClassId} {ad : Nat → Nat} {fv : Value} {s U : State} {H : Heap} {locs : List Loc} (F : wFx D cs ad fv s s.heap) (hW : s.WarmedH U.vm) (hS : va_S (wA ad) s.heap H locs) : wFx D cs ad fv U H := by
  obtain ⟨h1, h2, h3, h4, h5, h6⟩ := F
  refine ⟨va_K.moved hW.alike h1, (vk_S.moved hW.alike h2).kept hS.2.1, fun j hj => vk_R.warm hW (h3 j hj), (va_Z.moved hW.alike h4).kept hS.2.1, (va_Z.moved hW.alike h5).kept hS.2.1, fun w hw => ?_⟩
  have h := h6 w hw
  simp only [nestW, List.mem_cons, List.not_mem_nil, or_false] at hw
  rcases hw with rfl | rfl | rfl | rfl <;> exact va_Nw.warmM hW h
theorem wFx.call {D : va_G} {cs : ClassId × ClassId × ClassId} {ad : Nat → Nat} {fv : Value} {U U' : State} {H : Heap} (hv : U'.vm = U.vm) (F : wFx D cs ad fv U H) : wFx D cs ad fv U' H := by
  obtain ⟨h1, h2, h3, h4, h5, h6⟩ := F
  have ha : U.vm.Alike U'.vm := by rw [hv]; exact Vm.Alike.refl _
  refine ⟨va_K.moved ha h1, vk_S.moved ha h2, fun j hj => vk_R.same hv (h3 j hj), va_Z.moved ha h4, va_Z.moved ha h5, fun w hw => ?_⟩
  have h := h6 w hw
  simp only [nestW, List.mem_cons, List.not_mem_nil, or_false] at hw
  rcases hw with rfl | rfl | rfl | rfl <;> exact va_Nw.same rfl hv.symm h
theorem mPc_blind {D : va_G} {cs : ClassId × ClassId × ClassId} {ad : Nat → Nat} {fv : Value} {as : List Value} {h : mH} : FrameBlind (mPc D cs ad fv as h) := by
  intro a U g mk hp
  obtain ⟨h1, h2, h3⟩ := hp
  exact ⟨h1, h2, wFx.call (U := U) (U' := U.calling g mk a) rfl h3⟩
section SIM
variable {p : Program} {l : Launch} {e : Env} {R : Room} {s : State} {m : MethodId} {args : Array Value} {below : List Frame} {meth : Method} {c : Code} {H : Heap} {locs : List Loc} {cells slots : Nat} {QQ : State → Prop}
variable {cc : ByteArray} {pc : Nat} {lsm : Array Slot} {rest st0 : List Value}
theorem lv_ifc (hx : p.tables.exec = Jvm.exec) (hb : c.code = cc) {cd : ClassFile.Cond} {x : Int32} {off : Int} {tgt : Nat} (hd : decode cc pc = .ok (.ifCond cd off, 3)) (ht : (pc : Int) + off = (tgt : Int)) (k : W p l e R s m args below meth c H locs cells slots QQ (F0 m (if cnd cd x 0 = true then tgt else pc + 3) lsm rest)) : W p l e R s m args below meth c H locs cells slots QQ (F0 m pc lsm (.int x :: rest)) := by
  cases cd
  · exact lv_if_eq hx hb hd ht (fun q => by simpa [cnd, q] using k) (fun q => by simpa [cnd, q] using k)
  · exact lv_if_ne hx hb hd ht (fun q => by simpa [cnd, q] using k) (fun q => by simpa [cnd, q] using k)
  · exact lv_if_lt hx hb hd ht (fun q => by simpa [cnd, q] using k) (fun q => by simpa only [cnd, q, decide_false, Bool.false_eq_true, if_false] using k)
  · exact lv_if_ge hx hb hd ht (fun q => by simpa [cnd, q] using k) (fun q => by simpa only [cnd, q, decide_false, Bool.false_eq_true, if_false] using k)
  · exact lv_if_gt hx hb hd ht (fun q => by simpa [cnd, q] using k) (fun q => by simpa only [cnd, q, decide_false, Bool.false_eq_true, if_false] using k)
  · exact lv_if_le hx hb hd ht (fun q => by simpa [cnd, q] using k) (fun q => by simpa only [cnd, q, decide_false, Bool.false_eq_true, if_false] using k)
theorem lv_icmpc (hx : p.tables.exec = Jvm.exec) (hb : c.code = cc) {cd : ClassFile.Cond} {x y : Int32} {off : Int} {tgt : Nat} (hd : decode cc pc = .ok (.if_icmp cd off, 3)) (ht : (pc : Int) + off = (tgt : Int)) (k : W p l e R s m args below meth c H locs cells slots QQ (F0 m (if cnd cd x y = true then tgt else pc + 3) lsm rest)) : W p l e R s m args below meth c H locs cells slots QQ (F0 m pc lsm (.int y :: .int x :: rest)) := by
  cases cd
  · exact lv_icmp_eq hx hb hd ht (fun q => by simpa [cnd, q] using k) (fun q => by simpa [cnd, q] using k)
  · exact lv_icmp_ne hx hb hd ht (fun q => by simpa [cnd, q] using k) (fun q => by simpa [cnd, q] using k)
  · exact lv_icmp_lt hx hb hd ht (fun q => by simpa [cnd, q] using k) (fun q => by simpa only [cnd, q, decide_false, Bool.false_eq_true, if_false] using k)
  · exact lv_icmp_ge hx hb hd ht (fun q => by simpa [cnd, q] using k) (fun q => by simpa only [cnd, q, decide_false, Bool.false_eq_true, if_false] using k)
  · exact lv_icmp_gt hx hb hd ht (fun q => by simpa [cnd, q] using k) (fun q => by simpa only [cnd, q, decide_false, Bool.false_eq_true, if_false] using k)
  · exact lv_icmp_le hx hb hd ht (fun q => by simpa [cnd, q] using k) (fun q => by simpa only [cnd, q, decide_false, Bool.false_eq_true, if_false] using k)
theorem mm_call {D : va_G} {cs : ClassId × ClassId × ClassId} {ad : Nat → Nat} {fv : Value} {Q1 : Option Value → mH → Prop} {a : Array Value} {A0 : Nat → Prop} {H0 : Heap} (hr : va_Run p l e R s m args below meth c H locs cells slots 0 0 (F0 m pc lsm st0) rest (mQ D cs ad fv Q1 a) (wA ad)) (hA : ∀ q, wA ad q → A0 q) (hS : va_S A0 H0 H locs)
    (kk : ∀ (r : Option Value) (h' : mH) (H1 : Heap) (locs1 : List Loc), Q1 r h' → va_P D vwCl (wL cs ad h') H1 → va_S A0 H0 H1 locs1 → W p l e R s m args below meth c H1 locs1 cells slots QQ (F0 m (pc + 3) lsm ((r.map (cnc ad fv)).toList ++ rest))) : W p l e R s m args below meth c H locs cells slots QQ (F0 m pc lsm st0) := by
  intro T hT X
  obtain ⟨v, st₀, t, T', L, h0, X', hL, e1, e2, ⟨⟨r, h', hv, hq, hp⟩, hz, hk⟩, st⟩ := hr T hT X
  cases hv
  rw [h0] at hz hk
  obtain ⟨t2, a1, b1⟩ := kk r h' T'.heap (locs ++ L) hq (by rw [e1]; exact hp)
    ⟨Nat.le_trans hS.1 (by rw [e1]; exact hz), fun q h1 h2 => by rw [e1, hk q (Nat.lt_of_lt_of_le h1 hS.1) (fun z => h2 (hA q z))]; exact hS.2.1 q h1 h2, fun q hq => by
      rcases List.mem_append.mp hq with h | h
      · exact hS.2.2 q h
      · exact hA _ (hL q h)⟩ T' rfl X'
  exact ⟨t2, st t2 a1, b1⟩
end SIM
def wPd (p : Program) (l : Launch) (e : Env) (d : Nat) (s : State) (m : MethodId) (args : Array Value) (below : List Frame) (meth : Method) (c : Code) (D : va_G) (cs : ClassId × ClassId × ClassId) (ad : Nat → Nat) (fv : Value) (E : mE) (Q : Option Value → mH → Prop) : mK := fun pc ls st h =>
  (E.2.1 = false → ∀ v ∈ ls, v.category = 1) → ∀ (H : Heap) (locs : List Loc) (lsm : Array Slot), va_P D vwCl (wL cs ad h) H → va_S (wA ad) s.heap H locs → lvR ad fv lsm (eL E) ls → W p l e (rmD (d + 1)) s m args below meth c H locs 0 0 (MQ below (mQ D cs ad fv Q) args s 0 0 (wA ad)) (F0 m pc lsm (st.map (cnc ad fv)))
theorem mapr {ad : Nat → Nat} {fv : Value} {k : Nat} (st : List Value) : (Value.ref k :: st).map (cnc ad fv) = .ref (ad k) :: st.map (cnc ad fv) := rfl
theorem mapv {ad : Nat → Nat} {fv : Value} (v : Option Value) (st : List Value) : (v.toList ++ st).map (cnc ad fv) = (v.map (cnc ad fv)).toList ++ st.map (cnc ad fv) := by
  rw [List.map_append]
  cases v <;> rfl
