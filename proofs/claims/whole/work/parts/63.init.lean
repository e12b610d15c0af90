def eS (E : Nat → va_E) (k : Nat) (F : Nat → va_E) : Nat → va_E := fun i => if i < k then E i else F (i - k)
def cPc (D : va_G) (cs : ClassId × ClassId × ClassId) (n t : Nat) (fs : List Value) : Array Value → State → Prop := va_Pc [.ref n] (fun U => bP D n 1 (fun _ => .inr (t - 2, fs)) U.heap ∧ va_K D vwCl (wT cs) U ∧ aov U)
def cQc (D : va_G) (n c : Nat) (E : Nat → va_E) : Array Value → State → Outcome → State → Prop := va_Qv (S := Unit) (fun _ => True) (fun _ t => bP D n c E t.heap) (fun q => n ≤ q)
theorem cPc_blind {D : va_G} {cs : ClassId × ClassId × ClassId} {n t : Nat} {fs : List Value} : FrameBlind (cPc D cs n t fs) := by
  intro a U g mk hp
  obtain ⟨h1, h2, h3, h4⟩ := hp
  exact ⟨h1, h2, va_K.moved (u := U) (U := U.calling g mk a) (Vm.Alike.refl U.vm) h3, aov.moved (u := U) (U := U.calling g mk a) (Vm.Alike.refl U.vm) h4⟩
theorem bP.to {D : va_G} {n j : Nat} {E E' : Nat → va_E} {H : Heap} (h : bP D n j E H) (he : ∀ k, k < j → va_at D vwCl (n + k, E k) H → va_at D vwCl (n + k, E' k) H) : bP D n j E' H := ⟨h.1, fun k hk => he k hk (h.2 k hk)⟩
theorem at_ext {D : va_G} {a N : Nat} {cA : ClassId} {f g : Nat → Int32} {H : Heap} (h : va_at D vwCl (a, .inl (cA, N, .inl f)) H) (he : ∀ i, i < N → f i = g i) : va_at D vwCl (a, .inl (cA, N, .inl g)) H := by
  have h : H[a]? = some (vp_cell cA (N, .inl f)) := h
  show H[a]? = some (vp_cell cA (N, .inl g))
  rw [h, vp_cell_i, vp_cell_i]
  refine congrArg some ?_
  unfold arrV
  refine congrArg (fun z => ({ cls := cA, slots := z, vm := .none } : Cell)) ?_
  apply Array.ext
  · simp
  · intro q h1 h2
    simp only [Array.size_ofFn] at h1
    simp only [Array.getElem_ofFn]
    rw [he q h1]
section INI
variable {p : Program} {l : Launch} {e : Env} {R : Room} {s : State} {m : MethodId} {args : Array Value} {below : List Frame} {meth : Method} {c : Code} {H : Heap} {locs : List Loc} {cells slots : Nat} {Q : State → Prop}
variable {cc : ByteArray} {pc : Nat} {ls : Array Slot} {rest : List Value} {D : va_G} {H0 : Heap} {n j : Nat} {E : Nat → va_E}
theorem b_init {Ts : List Cond} {own : String} {nL index k t cN maxL mc ms : Nat} {y : MethodName} {bytes : ByteArray} {rm : Room} {cs : ClassId × ClassId × ClassId} {fs : List Value} {E1 : Nat → va_E} (S : CallFix p m c cc nL s args Ts own) (hM : Met l y (.code y bytes maxL none :: mW) rm (cPc D cs (n + k) t fs) (cQc D (n + k) cN E1) mc ms (fun q => n + k ≤ q))
    (cw : CallB R s args own index y bytes maxL none (.code y bytes maxL none :: mW) rm mc ms 0 ∧ y.name = "<init>" ∧ (Cond.instanceMethod y).before args s = true) (hK : va_K D vwCl (wT cs) s) (hO : aov s) (hP : bP D n (k + 1) E H) (hS : va_S (fun q => n ≤ q) H0 H locs) (hE : E k = .inr (t - 2, fs)) (hsize : ls.size = nL) (hW : 2 * (F0 m pc ls (.ref (n + k) :: rest)).monitorRoom + (rest.map fun v => v.category).sum ≤ 8) (hdg : decode cc pc = .ok (.invokespecial index, 3)) (hf : cells + mc ≤ R.cells ∧ slots + ms ≤ R.slots)
    (kk : ∀ (H1 : Heap) (locs1 : List Loc), bP D n (k + cN) (eS E k E1) H1 → va_S (fun q => n ≤ q) H0 H1 locs1 → W p l e R s m args below meth c H1 locs1 (cells + mc) (slots + ms) Q (F0 m (pc + 3) ls rest)) : W p l e R s m args below meth c H locs cells slots Q (F0 m pc ls (.ref (n + k) :: rest)) := by
  refine va_callv (va_runI (As := []) (rest := rest) (b := n + k) S hM cw ⟨cPc_blind, fun U hU hW => ⟨rfl, ⟨by rw [hU, hP.1]; omega, fun i hi => ?_⟩, va_K.moved hW.alike hK, aov.moved hW.alike hO⟩⟩ rfl rfl hsize rfl hW hdg hf) hS (fun q _ h => Nat.le_trans (Nat.le_add_right n k) h) (fun q h => Nat.le_trans (Nat.le_add_right n k) h) (fun u t H1 locs1 ht hvm hw hB hz1 hk1 hS1 => ?_)
  · rw [show i = 0 by omega, hU]
    have := hP.2 k (by omega)
    rw [hE] at this
    exact this
  · rw [ht] at hB
    refine kk H1 locs1 ⟨by rw [hB.1]; omega, fun i hi => ?_⟩ hS1
    unfold eS
    by_cases hik : i < k
    · rw [if_pos hik]
      exact va_at_kept (hP.2 i (by omega)) (hk1 (n + i) (by rw [hP.1]; omega) (by omega))
    · rw [if_neg hik]
      have := hB.2 (i - k) (by omega)
      rw [show n + k + (i - k) = n + i by omega] at this
      exact this
end INI
theorem iwC_RL_7 : inW (.classLink RL 7 RX5) := ⟨(lw_m1 (List.mem_of_getElem? (i := 17) rfl)), rfl⟩
theorem iwI_RX5 : inW (.instantiable RX5 9) := ⟨(lw_m1 (List.mem_of_getElem? (i := 18) rfl)), rfl⟩
theorem iwC_RX5_7 : inW (.classLink RX5 7 RX3) := ⟨(lw_m1 (List.mem_of_getElem? (i := 25) rfl)), rfl⟩
theorem iwI_RX3 : inW (.instantiable RX3 10) := ⟨(lw_m1 (List.mem_of_getElem? (i := 26) rfl)), rfl⟩
theorem iwC_RX3_28 : inW (.classLink RX3 28 "[[I") := ⟨(lw_m1 (List.mem_of_getElem? (i := 34) rfl)), rfl⟩
theorem iwA_int : inW (.arrayClass .int) := ⟨(lw_m1 (List.mem_of_getElem? (i := 92) rfl)), rfl⟩
theorem iwA_bool : inW (.arrayClass .boolean) := ⟨(lw_m1 (List.mem_of_getElem? (i := 93) rfl)), rfl⟩
theorem iwC_RX5_26 : inW (.classLink RX5 26 RX2) := ⟨(lw_m1 (List.mem_of_getElem? (i := 94) rfl)), rfl⟩
theorem iwI_RX2 : inW (.instantiable RX2 3) := ⟨(lw_m1 (List.mem_of_getElem? (i := 95) rfl)), rfl⟩
theorem iwC_RX5_33 : inW (.classLink RX5 33 RX4) := ⟨(lw_m1 (List.mem_of_getElem? (i := 110) rfl)), rfl⟩
theorem iwI_RX4 : inW (.instantiable RX4 2) := ⟨(lw_m1 (List.mem_of_getElem? (i := 111) rfl)), rfl⟩
theorem iwC_RL_10 : inW (.classLink RL 10 RX6) := ⟨(lw_m4 (List.mem_of_getElem? (i := 92) rfl)), rfl⟩
theorem iwI_RX6 : inW (.instantiable RX6 13) := ⟨(lw_m4 (List.mem_of_getElem? (i := 93) rfl)), rfl⟩
theorem iwN_RX2 : inW (.initialized RX2) := ⟨(lw_m1 (List.mem_of_getElem? (i := 4) rfl)), rfl⟩
theorem iwN_RX3 : inW (.initialized RX3) := ⟨(lw_m1 (List.mem_of_getElem? (i := 2) rfl)), rfl⟩
theorem iwN_RX4 : inW (.initialized RX4) := ⟨(lw_m1 (List.mem_of_getElem? (i := 5) rfl)), rfl⟩
theorem iwN_RX5 : inW (.initialized RX5) := ⟨(lw_m1 (List.mem_of_getElem? (i := 1) rfl)), rfl⟩
theorem iwN_RX6 : inW (.initialized RX6) := ⟨(lw_m1 (List.mem_of_getElem? (i := 6) rfl)), rfl⟩
theorem iwN_RJ7 : inW (.initialized RJ7) := ⟨(lw_m1 (List.mem_of_getElem? (i := 3) rfl)), rfl⟩
theorem iw_oi : inW (.instanceMethod objectInit) := ⟨(lw_m1 (List.mem_of_getElem? (i := 23) rfl)), rfl⟩
theorem iw_oc : inW (.code objectInit ⟨#[0xb1]⟩ 1 none) := ⟨(lw_m1 (List.mem_of_getElem? (i := 24) rfl)), rfl⟩
theorem iwM_RL_9 : inW (.methodLink RL 9 yX5_init) := ⟨(lw_m1 (List.mem_of_getElem? (i := 19) rfl)), rfl⟩
theorem iwM_RX5_1 : inW (.methodLink RX5 1 objectInit) := ⟨(lw_m1 (List.mem_of_getElem? (i := 22) rfl)), rfl⟩
theorem iwM_RX5_9 : inW (.methodLink RX5 9 yX3_init) := ⟨(lw_m1 (List.mem_of_getElem? (i := 27) rfl)), rfl⟩
theorem iwM_RX3_3 : inW (.methodLink RX3 3 objectInit) := ⟨(lw_m1 (List.mem_of_getElem? (i := 30) rfl)), rfl⟩
theorem iwM_RX3_15 : inW (.methodLink RX3 15 yJ7_fill_53178) := ⟨(lw_m1 (List.mem_of_getElem? (i := 31) rfl)), rfl⟩
theorem iwM_RX5_28 : inW (.methodLink RX5 28 yX2_init) := ⟨(lw_m1 (List.mem_of_getElem? (i := 96) rfl)), rfl⟩
theorem iwM_RX2_3 : inW (.methodLink RX2 3 objectInit) := ⟨(lw_m1 (List.mem_of_getElem? (i := 99) rfl)), rfl⟩
theorem iwM_RX5_35 : inW (.methodLink RX5 35 yX4_init) := ⟨(lw_m1 (List.mem_of_getElem? (i := 112) rfl)), rfl⟩
theorem iwM_RX4_3 : inW (.methodLink RX4 3 objectInit) := ⟨(lw_m1 (List.mem_of_getElem? (i := 115) rfl)), rfl⟩
theorem iwM_RL_12 : inW (.methodLink RL 12 yX6_init) := ⟨(lw_m4 (List.mem_of_getElem? (i := 94) rfl)), rfl⟩
theorem iwM_RX6_1 : inW (.methodLink RX6 1 objectInit) := ⟨(lw_m4 (List.mem_of_getElem? (i := 97) rfl)), rfl⟩
theorem iwK_yX2_init : inW (.code yX2_init cX2_init 1 none) := ⟨(lw_m1 (List.mem_of_getElem? (i := 98) rfl)), rfl⟩
theorem iwV_yX2_init : inW (.instanceMethod yX2_init) := ⟨(lw_m1 (List.mem_of_getElem? (i := 97) rfl)), rfl⟩
theorem iwK_yX3_init : inW (.code yX3_init cX3_init 1 none) := ⟨(lw_m1 (List.mem_of_getElem? (i := 29) rfl)), rfl⟩
theorem iwV_yX3_init : inW (.instanceMethod yX3_init) := ⟨(lw_m1 (List.mem_of_getElem? (i := 28) rfl)), rfl⟩
theorem iwK_yX4_init : inW (.code yX4_init cX4_init 1 none) := ⟨(lw_m1 (List.mem_of_getElem? (i := 114) rfl)), rfl⟩
theorem iwV_yX4_init : inW (.instanceMethod yX4_init) := ⟨(lw_m1 (List.mem_of_getElem? (i := 113) rfl)), rfl⟩
theorem iwK_yX5_init : inW (.code yX5_init cX5_init 1 none) := ⟨(lw_m1 (List.mem_of_getElem? (i := 21) rfl)), rfl⟩
theorem iwV_yX5_init : inW (.instanceMethod yX5_init) := ⟨(lw_m1 (List.mem_of_getElem? (i := 20) rfl)), rfl⟩
theorem iwK_yX6_init : inW (.code yX6_init cX6_init 2 none) := ⟨(lw_m4 (List.mem_of_getElem? (i := 96) rfl)), rfl⟩
theorem iwV_yX6_init : inW (.instanceMethod yX6_init) := ⟨(lw_m4 (List.mem_of_getElem? (i := 95) rfl)), rfl⟩
theorem iwK_yJ7_fill_53178 : inW (.code yJ7_fill_53178 cJ7_fill_53178 4 none) := ⟨(lw_m1 (List.mem_of_getElem? (i := 33) rfl)), rfl⟩
theorem iwT_yJ7_fill_53178 : inW (.static yJ7_fill_53178) := ⟨(lw_m1 (List.mem_of_getElem? (i := 32) rfl)), rfl⟩
theorem iwF_RX2_9 : inW (.fieldLink RX2 9 RX2 "copy" "[I") := ⟨(lw_m1 (List.mem_of_getElem? (i := 100) rfl)), rfl⟩
theorem iwF_RX2_15 : inW (.fieldLink RX2 15 RX2 "within" "[I") := ⟨(lw_m1 (List.mem_of_getElem? (i := 101) rfl)), rfl⟩
theorem iwF_RX2_18 : inW (.fieldLink RX2 18 RX2 "seed" "I") := ⟨(lw_m1 (List.mem_of_getElem? (i := 102) rfl)), rfl⟩
theorem iwF_RX3_9 : inW (.fieldLink RX3 9 RX3 "pins" "[I") := ⟨(lw_m1 (List.mem_of_getElem? (i := 36) rfl)), rfl⟩
theorem iwF_RX3_21 : inW (.fieldLink RX3 21 RX3 "slack" "I") := ⟨(lw_m1 (List.mem_of_getElem? (i := 40) rfl)), rfl⟩
theorem iwF_RX3_25 : inW (.fieldLink RX3 25 RX3 "keys" "I") := ⟨(lw_m1 (List.mem_of_getElem? (i := 44) rfl)), rfl⟩
theorem iwF_RX3_30 : inW (.fieldLink RX3 30 RX3 "heights" "[[I") := ⟨(lw_m1 (List.mem_of_getElem? (i := 48) rfl)), rfl⟩
theorem iwF_RX3_33 : inW (.fieldLink RX3 33 RX3 "from" "[I") := ⟨(lw_m1 (List.mem_of_getElem? (i := 52) rfl)), rfl⟩
theorem iwF_RX3_36 : inW (.fieldLink RX3 36 RX3 "snapped" "[Z") := ⟨(lw_m1 (List.mem_of_getElem? (i := 55) rfl)), rfl⟩
theorem iwF_RX3_40 : inW (.fieldLink RX3 40 RX3 "machines" "I") := ⟨(lw_m1 (List.mem_of_getElem? (i := 59) rfl)), rfl⟩
theorem iwF_RX3_43 : inW (.fieldLink RX3 43 RX3 "kinds" "[I") := ⟨(lw_m1 (List.mem_of_getElem? (i := 62) rfl)), rfl⟩
theorem iwF_RX3_46 : inW (.fieldLink RX3 46 RX3 "figures" "[I") := ⟨(lw_m1 (List.mem_of_getElem? (i := 65) rfl)), rfl⟩
theorem iwF_RX3_49 : inW (.fieldLink RX3 49 RX3 "uses" "I") := ⟨(lw_m1 (List.mem_of_getElem? (i := 68) rfl)), rfl⟩
theorem iwF_RX4_9 : inW (.fieldLink RX4 9 RX4 "letters" "[I") := ⟨(lw_m1 (List.mem_of_getElem? (i := 116) rfl)), rfl⟩
theorem iwF_RX4_15 : inW (.fieldLink RX4 15 RX4 "size" "I") := ⟨(lw_m1 (List.mem_of_getElem? (i := 117) rfl)), rfl⟩
theorem iwF_RX5_10 : inW (.fieldLink RX5 10 RX5 "shop" "LCopyOfACopy$Shop;") := ⟨(lw_m1 (List.mem_of_getElem? (i := 123) rfl)), rfl⟩
theorem iwF_RX5_16 : inW (.fieldLink RX5 16 RX5 "trial" "LCopyOfACopy$Shop;") := ⟨(lw_m1 (List.mem_of_getElem? (i := 124) rfl)), rfl⟩
theorem iwF_RX5_19 : inW (.fieldLink RX5 19 RX5 "image" "LCopyOfACopy$Shop;") := ⟨(lw_m1 (List.mem_of_getElem? (i := 125) rfl)), rfl⟩
theorem iwF_RX5_22 : inW (.fieldLink RX5 22 RX5 "imageTaken" "Z") := ⟨(lw_m1 (List.mem_of_getElem? (i := 126) rfl)), rfl⟩
theorem iwF_RX5_29 : inW (.fieldLink RX5 29 RX5 "mind" "LCopyOfACopy$Mind;") := ⟨(lw_m1 (List.mem_of_getElem? (i := 127) rfl)), rfl⟩
theorem iwF_RX5_36 : inW (.fieldLink RX5 36 RX5 "text" "LCopyOfACopy$Text;") := ⟨(lw_m1 (List.mem_of_getElem? (i := 128) rfl)), rfl⟩
theorem iwF_RX5_40 : inW (.fieldLink RX5 40 RX5 "told" "[I") := ⟨(lw_m1 (List.mem_of_getElem? (i := 129) rfl)), rfl⟩
theorem iwF_RX5_44 : inW (.fieldLink RX5 44 RX5 "toldCount" "I") := ⟨(lw_m1 (List.mem_of_getElem? (i := 130) rfl)), rfl⟩
theorem iwF_RX5_48 : inW (.fieldLink RX5 48 RX5 "refusals" "[I") := ⟨(lw_m1 (List.mem_of_getElem? (i := 131) rfl)), rfl⟩
theorem iwF_RX6_9 : inW (.fieldLink RX6 9 RX6 "s" "[I") := ⟨(lw_m4 (List.mem_of_getElem? (i := 98) rfl)), rfl⟩
theorem iwF_RX6_13 : inW (.fieldLink RX6 13 RX6 "image" "[I") := ⟨(lw_m4 (List.mem_of_getElem? (i := 99) rfl)), rfl⟩
theorem iwF_RX6_16 : inW (.fieldLink RX6 16 RX6 "was" "[I") := ⟨(lw_m4 (List.mem_of_getElem? (i := 100) rfl)), rfl⟩
theorem iwF_RX6_19 : inW (.fieldLink RX6 19 RX6 "letters" "[I") := ⟨(lw_m4 (List.mem_of_getElem? (i := 102) rfl)), rfl⟩
theorem iwF_RX6_22 : inW (.fieldLink RX6 22 RX6 "row" "[I") := ⟨(lw_m4 (List.mem_of_getElem? (i := 103) rfl)), rfl⟩
theorem iwF_RX6_25 : inW (.fieldLink RX6 25 RX6 "refused" "[I") := ⟨(lw_m4 (List.mem_of_getElem? (i := 104) rfl)), rfl⟩
theorem iwF_RX6_28 : inW (.fieldLink RX6 28 RX6 "h" "[I") := ⟨(lw_m4 (List.mem_of_getElem? (i := 107) rfl)), rfl⟩
theorem iwF_RX6_31 : inW (.fieldLink RX6 31 RX6 "numbers" "[I") := ⟨(lw_m4 (List.mem_of_getElem? (i := 109) rfl)), rfl⟩
def fPc (D : va_G) (cs : ClassId × ClassId × ClassId) (a N : Nat) (v : Int32) (f : Nat → Int32) (sz : Nat) : Array Value → State → Prop := va_Pc [.ref a, .int v] (fun U => U.heap.size = sz ∧ va_at D vwCl (a, .inl (cs.1, N, .inl f)) U.heap ∧ va_K D vwCl (wT cs) U)
theorem fPc_blind {D : va_G} {cs : ClassId × ClassId × ClassId} {a N : Nat} {v : Int32} {f : Nat → Int32} {sz : Nat} : FrameBlind (fPc D cs a N v f sz) := by
  intro b U g mk hp
  obtain ⟨h1, h2, h3, h4⟩ := hp
  exact ⟨h1, h2, h3, va_K.moved (u := U) (U := U.calling g mk b) (Vm.Alike.refl U.vm) h4⟩
theorem goodCW {w0 : Cond} {y : MethodName} {b : ByteArray} {n : Nat} {r : Option FieldType} (h : inW (.code y b n r)) : GoodIn (w0 :: mW) (.code y b n r :: mW) := by
  intro w hw
  rcases List.mem_cons.mp hw with q | q
  · rw [q]; exact ⟨List.mem_cons_of_mem _ h.m, good_of_word h.2⟩
  · exact ⟨List.mem_cons_of_mem _ q, good_of_word (List.mem_filter.mp q).2⟩
theorem f_ast {p : Program} {l : Launch} {e : Env} {R : Room} {s : State} {m : MethodId} {args : Array Value} {below : List Frame} {meth : Method} {c : Code} {H : Heap} {locs : List Loc} {cells slots : Nat} {Q : State → Prop} {cc : ByteArray} {pc : Nat} {ls : Array Slot} {rest : List Value} {D : va_G} {H0 : Heap} {cs : ClassId × ClassId × ClassId} {a N sz : Nat} {f : Nat → Int32} (hexec : p.tables.exec = Jvm.exec) (hb : c.code = cc) (hK : va_K D vwCl (wT cs) s) (hz : H.size = sz) (hS : va_S (fun q => q = a) H0 H locs) (hA : va_at D vwCl (a, .inl (cs.1, N, .inl f)) H) {i x : Int32} (hin : vp_in i N) (hdg : decode cc pc = .ok (.iastore, 1))
    (kk : ∀ (H1 : Heap) (locs1 : List Loc), H1.size = sz → va_at D vwCl (a, .inl (cs.1, N, .inl (upd f i.toNatClampNeg x))) H1 → va_S (fun q => q = a) H0 H1 locs1 → W p l e R s m args below meth c H1 locs1 cells slots Q (F0 m (pc + 1) ls rest)) : W p l e R s m args below meth c H locs cells slots Q (F0 m pc ls (.int x :: .int i :: .ref a :: rest)) := by
  refine W.iast hexec hb (show H[a]? = some (vp_cell cs.1 (N, .inl f)) from hA) ((hK.2 0 _ rfl).1 N (fun j => .int (f j))) (fun q => by cases q) (by show ¬ (i < 0 ∨ (arrV _ _ _).slots.size ≤ _); rw [arrV_size]; exact hin) rfl rfl hdg fun H1 e z oq => ?_
  refine kk H1 _ (z.trans hz) ?_ (hS.put z oq rfl)
  show H1[a]? = some (vp_cell _ _)
  rw [e, vp_cell_i, vp_cell_i, arrV_store]
  congr 2
  funext q
  by_cases hq : q = i.toNatClampNeg
  · subst hq
    simp [updV, upd]
  · simp [updV, upd, hq]
set_option maxRecDepth 100000 in
set_option maxHeartbeats 4000000 in
theorem i_fill (l : Launch) (D : va_G) (cs : ClassId × ClassId × ClassId) (a : Nat) (v : Int32) (f : Nat → Int32) (sz : Nat) : Met l yJ7_fill_53178 (.code yJ7_fill_53178 cJ7_fill_53178 4 none :: mW) { frames := 0, cells := 0, slots := 0, locals := 0 } (fPc D cs a 5 v f sz) (va_Qv (S := Unit) (fun _ => True) (fun _ t => t.heap.size = sz ∧ va_at D vwCl (a, .inl (cs.1, 5, .inl (fun _ => v))) t.heap) (fun q => q = a)) 0 0 (fun q => q = a) := by
  refine Met.ofW (cc := cJ7_fill_53178) (maxL := 4) (ret := none) (by decide) rfl ?_
  intro p e s m args below meth c s₁ B hml hv
  obtain ⟨rfl, hz, hA, hK⟩ := hv
  have hx := B.exec
  have hb := B.bytes
  have hr := B.returns
  have hlocks := B.notSynchronized
  have hS : va_S (fun q => q = a) s.heap s.heap [] := va_S.rf
  have hl := lv_entry ([.ref a, .int v]) (n := 4) (Nat.le_of_ble_eq_true rfl)
  rw [lg_entry_eq]
  generalize (lg_sl ([.ref a, .int v]) ++ List.replicate (4 - (lg_sl ([.ref a, .int v])).length) Slot.unset).toArray = ls at hl ⊢
  have hl : lv_has ls 4 [(0, .ref a), (1, .int v)] := hl
  refine lv_iconst (v := 0) hx hb dJ7_fill_53178_0 (by decide) ?_
  refine lv_istore_n (lv' := [(2, .int 0), (0, .ref a), (1, .int v)]) hx hb dJ7_fill_53178_1 rfl hl (by decide) rfl (fun ls hl => ?_)
  refine lv_aload_n hx hb dJ7_fill_53178_2 rfl (lv_at hl 1 rfl) ?_
  refine W.alen (n := 5) hx hb (show s.heap[a]? = some (vp_cell cs.1 (5, .inl f)) from hA) ((hK.2 0 _ rfl).1 5 (fun j => .int (f j))) (by rw [vp_cell_i, arrV_size]; rfl) rfl rfl dJ7_fill_53178_3 ?_
  refine W.eq (g2 := F0 m 4 ls [.int 5]) rfl ?_
  refine lv_istore_n (lv' := [(3, .int 5), (2, .int 0), (0, .ref a), (1, .int v)]) hx hb dJ7_fill_53178_4 rfl hl (by decide) rfl (fun ls hl => ?_)
  refine lv_iload_n hx hb dJ7_fill_53178_5 rfl (lv_at hl 1 rfl) ?_
  refine lv_iload_n hx hb dJ7_fill_53178_6 rfl (lv_at hl 0 rfl) ?_
  refine lv_icmp_ge (tgt := 20) hx hb dJ7_fill_53178_7 (by decide) (fun q => ?_) (fun q => ?_)
  · exact absurd q (by decide)
  refine lv_aload_n hx hb dJ7_fill_53178_10 rfl (lv_at hl 2 rfl) ?_
  refine lv_iload_n hx hb dJ7_fill_53178_11 rfl (lv_at hl 1 rfl) ?_
  refine lv_iload_n hx hb dJ7_fill_53178_12 rfl (lv_at hl 3 rfl) ?_
  refine f_ast hx hb hK hz hS hA (by unfold vp_in; decide) dJ7_fill_53178_13 (fun H locs hz hA hS => ?_)
  refine lv_iinc (v := 1) (lv' := [(2, .int 1), (3, .int 5), (0, .ref a), (1, .int v)]) hx hb dJ7_fill_53178_14 hl (k := 1) rfl (by decide) (by decide) rfl (fun ls hl => ?_)
  refine lv_goto (tgt := 5) hx hb dJ7_fill_53178_17 (by decide) ?_
  refine lv_iload_n hx hb dJ7_fill_53178_5 rfl (lv_at hl 0 rfl) ?_
  refine lv_iload_n hx hb dJ7_fill_53178_6 rfl (lv_at hl 1 rfl) ?_
  refine lv_icmp_ge (tgt := 20) hx hb dJ7_fill_53178_7 (by decide) (fun q => ?_) (fun q => ?_)
  · exact absurd q (by decide)
  refine lv_aload_n hx hb dJ7_fill_53178_10 rfl (lv_at hl 2 rfl) ?_
  refine lv_iload_n hx hb dJ7_fill_53178_11 rfl (lv_at hl 0 rfl) ?_
  refine lv_iload_n hx hb dJ7_fill_53178_12 rfl (lv_at hl 3 rfl) ?_
  refine f_ast hx hb hK hz hS hA (by unfold vp_in; decide) dJ7_fill_53178_13 (fun H locs hz hA hS => ?_)
  refine lv_iinc (v := 2) (lv' := [(2, .int 2), (3, .int 5), (0, .ref a), (1, .int v)]) hx hb dJ7_fill_53178_14 hl (k := 0) rfl (by decide) (by decide) rfl (fun ls hl => ?_)
  refine lv_goto (tgt := 5) hx hb dJ7_fill_53178_17 (by decide) ?_
  refine lv_iload_n hx hb dJ7_fill_53178_5 rfl (lv_at hl 0 rfl) ?_
  refine lv_iload_n hx hb dJ7_fill_53178_6 rfl (lv_at hl 1 rfl) ?_
  refine lv_icmp_ge (tgt := 20) hx hb dJ7_fill_53178_7 (by decide) (fun q => ?_) (fun q => ?_)
  · exact absurd q (by decide)
  refine lv_aload_n hx hb dJ7_fill_53178_10 rfl (lv_at hl 2 rfl) ?_
  refine lv_iload_n hx hb dJ7_fill_53178_11 rfl (lv_at hl 0 rfl) ?_
  refine lv_iload_n hx hb dJ7_fill_53178_12 rfl (lv_at hl 3 rfl) ?_
  refine f_ast hx hb hK hz hS hA (by unfold vp_in; decide) dJ7_fill_53178_13 (fun H locs hz hA hS => ?_)
  refine lv_iinc (v := 3) (lv' := [(2, .int 3), (3, .int 5), (0, .ref a), (1, .int v)]) hx hb dJ7_fill_53178_14 hl (k := 0) rfl (by decide) (by decide) rfl (fun ls hl => ?_)
  refine lv_goto (tgt := 5) hx hb dJ7_fill_53178_17 (by decide) ?_
  refine lv_iload_n hx hb dJ7_fill_53178_5 rfl (lv_at hl 0 rfl) ?_
  refine lv_iload_n hx hb dJ7_fill_53178_6 rfl (lv_at hl 1 rfl) ?_
  refine lv_icmp_ge (tgt := 20) hx hb dJ7_fill_53178_7 (by decide) (fun q => ?_) (fun q => ?_)
  · exact absurd q (by decide)
  refine lv_aload_n hx hb dJ7_fill_53178_10 rfl (lv_at hl 2 rfl) ?_
  refine lv_iload_n hx hb dJ7_fill_53178_11 rfl (lv_at hl 0 rfl) ?_
  refine lv_iload_n hx hb dJ7_fill_53178_12 rfl (lv_at hl 3 rfl) ?_
  refine f_ast hx hb hK hz hS hA (by unfold vp_in; decide) dJ7_fill_53178_13 (fun H locs hz hA hS => ?_)
  refine lv_iinc (v := 4) (lv' := [(2, .int 4), (3, .int 5), (0, .ref a), (1, .int v)]) hx hb dJ7_fill_53178_14 hl (k := 0) rfl (by decide) (by decide) rfl (fun ls hl => ?_)
  refine lv_goto (tgt := 5) hx hb dJ7_fill_53178_17 (by decide) ?_
  refine lv_iload_n hx hb dJ7_fill_53178_5 rfl (lv_at hl 0 rfl) ?_
  refine lv_iload_n hx hb dJ7_fill_53178_6 rfl (lv_at hl 1 rfl) ?_
  refine lv_icmp_ge (tgt := 20) hx hb dJ7_fill_53178_7 (by decide) (fun q => ?_) (fun q => ?_)
  · exact absurd q (by decide)
  refine lv_aload_n hx hb dJ7_fill_53178_10 rfl (lv_at hl 2 rfl) ?_
  refine lv_iload_n hx hb dJ7_fill_53178_11 rfl (lv_at hl 0 rfl) ?_
  refine lv_iload_n hx hb dJ7_fill_53178_12 rfl (lv_at hl 3 rfl) ?_
  refine f_ast hx hb hK hz hS hA (by unfold vp_in; decide) dJ7_fill_53178_13 (fun H locs hz hA hS => ?_)
  refine lv_iinc (v := 5) (lv' := [(2, .int 5), (3, .int 5), (0, .ref a), (1, .int v)]) hx hb dJ7_fill_53178_14 hl (k := 0) rfl (by decide) (by decide) rfl (fun ls hl => ?_)
  refine lv_goto (tgt := 5) hx hb dJ7_fill_53178_17 (by decide) ?_
  refine lv_iload_n hx hb dJ7_fill_53178_5 rfl (lv_at hl 0 rfl) ?_
  refine lv_iload_n hx hb dJ7_fill_53178_6 rfl (lv_at hl 1 rfl) ?_
  refine lv_icmp_ge (tgt := 20) hx hb dJ7_fill_53178_7 (by decide) (fun q => ?_) (fun q => ?_)
  · have hA9 : va_at D vwCl (a, .inl (cs.1, 5, .inl (fun _ => v))) _ := at_ext hA (fun i hi => by
      match i, hi with
      | 0, _ => rfl
      | 1, _ => rfl
      | 2, _ => rfl
      | 3, _ => rfl
      | 4, _ => rfl)
    exact W.vret hx hb hr (fun t ht hW => ⟨⟨(), rfl, trivial, show t.heap.size = sz by rw [ht]; exact hz, show va_at D vwCl (a, .inl (cs.1, 5, .inl (fun _ => v))) t.heap by rw [ht]; exact hA9⟩, hS.F ht⟩) hS.2.2 dJ7_fill_53178_20
  · exact absurd (by decide) q
def iE2 (cs : ClassId × ClassId × ClassId) (n : Nat) : Nat → va_E
  | 0 => .inr (2 - 2, [.ref (n + 1), .ref (n + 2), .int 0])
  | 1 => .inl (cs.1, 5, .inl (fun _ => 0))
  | _ => .inl (cs.1, 10, .inl (fun _ => 0))
set_option maxRecDepth 100000 in
set_option maxHeartbeats 4000000 in
theorem i_X2 (l : Launch) (D : va_G) (cs : ClassId × ClassId × ClassId) (n : Nat) : Met l yX2_init (.code yX2_init cX2_init 1 none :: mW) { frames := 1, cells := 2, slots := 15, locals := 12 } (cPc D cs n 2 [.null, .null, .int 0]) (cQc D n 3 (iE2 cs n)) 2 15 (fun q => n ≤ q) := by
  refine Met.ofW (cc := cX2_init) (maxL := 1) (ret := none) (by decide) rfl ?_
  intro p e s m args below meth c s₁ B hml hv
  obtain ⟨rfl, hP, hK, hO⟩ := hv
  have hx := B.exec
  have hb := B.bytes
  have hr := B.returns
  have hts := atoms_spec (ws := .code yX2_init cX2_init 1 none :: mW) B.pre
  have hown : s.vm.findClass (ownS 2) = some m.cls := findClass_of_methodNamed B.named
  have hlocks := B.notSynchronized
  have hin : meth.name = "<init>" := (name_of_methodNamed B.named B.method).1
  have hw : ∀ {w : Cond}, inW w → w.before _ s = true := fun h => hts _ (List.mem_cons_of_mem _ h.m)
  have hU : ∀ w ∈ u_ws (ownS 2) (TT 2) (NN 2), w ∈ (.code yX2_init cX2_init 1 none :: mW) := fun w h => List.mem_cons_of_mem _ (kU (t := 2) (by decide) (by decide) w h)
  have hcI := (hK.2 0 _ rfl).2
  have hcB := (hK.2 1 _ rfl).2
  have hcG := (hK.2 2 _ rfl).2
  have hS : va_S (fun q => n ≤ q) s.heap s.heap [] := va_S.rf
  have hl := lv_entry ([.ref n]) (n := 1) (Nat.le_of_ble_eq_true rfl)
  rw [lg_entry_eq]
  generalize (lg_sl ([.ref n]) ++ List.replicate (1 - (lg_sl ([.ref n])).length) Slot.unset).toArray = ls at hl ⊢
  have hl : lv_has ls 1 [(0, .ref n)] := hl
  refine lv_aload_n hx hb dX2_init_0 rfl (lv_at hl 0 rfl) ?_
  refine W.objInit hx hb hown (hw iwM_RX2_3) (hw iw_oi) (hw iw_oc) rfl (by rw [hml]; exact hl.1) rfl dX2_init_1 (Nat.le_of_ble_eq_true rfl) (Nat.le_of_ble_eq_true rfl) ?_
  refine W.eq (g2 := F0 m 4 ls []) rfl ?_
  refine lv_aload_n hx hb dX2_init_4 rfl (lv_at hl 0 rfl) ?_
  refine lv_iconst (v := 5) hx hb dX2_init_5 (by decide) ?_
  refine b_arr (atype := .int) (N := 5) hx hb (hw iwA_int) hcI hP hS (by decide) rfl rfl (Nat.le_of_ble_eq_true rfl) (Nat.le_of_ble_eq_true rfl) (Nat.le_of_ble_eq_true rfl) dX2_init_6 (fun H hP hS => ?_)
  refine W.widen (k := 1) (n := 5) (Nat.le_of_ble_eq_true rfl) (Nat.le_of_ble_eq_true rfl) ?_
  refine b_putF (t := 2) (k := 0) (i := 0) (fs := [.null, .null, .int 0]) (v := .ref (n + 1)) (ty := .array .int) hx hb (by decide) (by decide) hts hU hown hK hP hS (by decide) rfl (by decide) (hw iwF_RX2_9) rfl hin (by decide +kernel) rfl rfl (Nat.le_of_ble_eq_true rfl) dX2_init_8 rfl (fun H locs hP hS => ?_)
  refine lv_aload_n hx hb dX2_init_11 rfl (lv_at hl 0 rfl) ?_
  refine lv_bipush (v := 10) hx hb dX2_init_12 (by decide) ?_
  refine b_arr (atype := .int) (N := 10) hx hb (hw iwA_int) hcI hP hS (by decide) rfl rfl (Nat.le_of_ble_eq_true rfl) (Nat.le_of_ble_eq_true rfl) (Nat.le_of_ble_eq_true rfl) dX2_init_14 (fun H hP hS => ?_)
  refine W.widen (k := 2) (n := 15) (Nat.le_of_ble_eq_true rfl) (Nat.le_of_ble_eq_true rfl) ?_
  refine b_putF (t := 2) (k := 0) (i := 1) (fs := [.ref (n + 1), .null, .int 0]) (v := .ref (n + 2)) (ty := .array .int) hx hb (by decide) (by decide) hts hU hown hK hP hS (by decide) rfl (by decide) (hw iwF_RX2_15) rfl hin (by decide +kernel) rfl rfl (Nat.le_of_ble_eq_true rfl) dX2_init_16 rfl (fun H locs hP hS => ?_)
  refine lv_aload_n hx hb dX2_init_19 rfl (lv_at hl 0 rfl) ?_
  refine lv_iconst (v := 0) hx hb dX2_init_20 (by decide) ?_
  refine b_put (t := 2) (k := 0) (i := 2) (fs := [.ref (n + 1), .ref (n + 2), .int 0]) (v := .int 0) (ty := .int) hx hb (by decide) (by decide) hts hU hown hK hP hS (by decide) rfl (by decide) (hw iwF_RX2_18) rfl (by decide +kernel) rfl rfl (Nat.le_of_ble_eq_true rfl) dX2_init_21 rfl (fun H locs hP hS => ?_)
  have hP9 : bP D n 3 (iE2 cs n) _ := hP.to (fun k hk h => by
    match k, hk with
    | 0, _ => exact h
    | 1, _ => exact h
    | 2, _ => exact h)
  exact W.vret hx hb hr (fun t ht hW => ⟨⟨(), rfl, trivial, show bP D n 3 (iE2 cs n) t.heap by rw [ht]; exact hP9⟩, hS.F ht⟩) hS.2.2 dX2_init_24
def iE4 (cs : ClassId × ClassId × ClassId) (n : Nat) : Nat → va_E
  | 0 => .inr (4 - 2, [.ref (n + 1), .int 0])
  | _ => .inl (cs.1, 96, .inl (fun _ => 0))
set_option maxRecDepth 100000 in
set_option maxHeartbeats 4000000 in
theorem i_X4 (l : Launch) (D : va_G) (cs : ClassId × ClassId × ClassId) (n : Nat) : Met l yX4_init (.code yX4_init cX4_init 1 none :: mW) { frames := 1, cells := 1, slots := 96, locals := 12 } (cPc D cs n 4 [.null, .int 0]) (cQc D n 2 (iE4 cs n)) 1 96 (fun q => n ≤ q) := by
  refine Met.ofW (cc := cX4_init) (maxL := 1) (ret := none) (by decide) rfl ?_
  intro p e s m args below meth c s₁ B hml hv
  obtain ⟨rfl, hP, hK, hO⟩ := hv
  have hx := B.exec
  have hb := B.bytes
  have hr := B.returns
  have hts := atoms_spec (ws := .code yX4_init cX4_init 1 none :: mW) B.pre
  have hown : s.vm.findClass (ownS 4) = some m.cls := findClass_of_methodNamed B.named
  have hlocks := B.notSynchronized
  have hin : meth.name = "<init>" := (name_of_methodNamed B.named B.method).1
  have hw : ∀ {w : Cond}, inW w → w.before _ s = true := fun h => hts _ (List.mem_cons_of_mem _ h.m)
  have hU : ∀ w ∈ u_ws (ownS 4) (TT 4) (NN 4), w ∈ (.code yX4_init cX4_init 1 none :: mW) := fun w h => List.mem_cons_of_mem _ (kU (t := 4) (by decide) (by decide) w h)
  have hcI := (hK.2 0 _ rfl).2
  have hcB := (hK.2 1 _ rfl).2
  have hcG := (hK.2 2 _ rfl).2
  have hS : va_S (fun q => n ≤ q) s.heap s.heap [] := va_S.rf
  have hl := lv_entry ([.ref n]) (n := 1) (Nat.le_of_ble_eq_true rfl)
  rw [lg_entry_eq]
  generalize (lg_sl ([.ref n]) ++ List.replicate (1 - (lg_sl ([.ref n])).length) Slot.unset).toArray = ls at hl ⊢
  have hl : lv_has ls 1 [(0, .ref n)] := hl
  refine lv_aload_n hx hb dX4_init_0 rfl (lv_at hl 0 rfl) ?_
  refine W.objInit hx hb hown (hw iwM_RX4_3) (hw iw_oi) (hw iw_oc) rfl (by rw [hml]; exact hl.1) rfl dX4_init_1 (Nat.le_of_ble_eq_true rfl) (Nat.le_of_ble_eq_true rfl) ?_
  refine W.eq (g2 := F0 m 4 ls []) rfl ?_
  refine lv_aload_n hx hb dX4_init_4 rfl (lv_at hl 0 rfl) ?_
  refine lv_bipush (v := 96) hx hb dX4_init_5 (by decide) ?_
  refine b_arr (atype := .int) (N := 96) hx hb (hw iwA_int) hcI hP hS (by decide) rfl rfl (Nat.le_of_ble_eq_true rfl) (Nat.le_of_ble_eq_true rfl) (Nat.le_of_ble_eq_true rfl) dX4_init_7 (fun H hP hS => ?_)
  refine W.widen (k := 1) (n := 96) (Nat.le_of_ble_eq_true rfl) (Nat.le_of_ble_eq_true rfl) ?_
  refine b_putF (t := 4) (k := 0) (i := 0) (fs := [.null, .int 0]) (v := .ref (n + 1)) (ty := .array .int) hx hb (by decide) (by decide) hts hU hown hK hP hS (by decide) rfl (by decide) (hw iwF_RX4_9) rfl hin (by decide +kernel) rfl rfl (Nat.le_of_ble_eq_true rfl) dX4_init_9 rfl (fun H locs hP hS => ?_)
  refine lv_aload_n hx hb dX4_init_12 rfl (lv_at hl 0 rfl) ?_
  refine lv_iconst (v := 0) hx hb dX4_init_13 (by decide) ?_
  refine b_put (t := 4) (k := 0) (i := 1) (fs := [.ref (n + 1), .int 0]) (v := .int 0) (ty := .int) hx hb (by decide) (by decide) hts hU hown hK hP hS (by decide) rfl (by decide) (hw iwF_RX4_15) rfl (by decide +kernel) rfl rfl (Nat.le_of_ble_eq_true rfl) dX4_init_14 rfl (fun H locs hP hS => ?_)
  have hP9 : bP D n 2 (iE4 cs n) _ := hP.to (fun k hk h => by
    match k, hk with
    | 0, _ => exact h
    | 1, _ => exact h)
  exact W.vret hx hb hr (fun t ht hW => ⟨⟨(), rfl, trivial, show bP D n 2 (iE4 cs n) t.heap by rw [ht]; exact hP9⟩, hS.F ht⟩) hS.2.2 dX4_init_17
def iE3 (cs : ClassId × ClassId × ClassId) (n : Nat) : Nat → va_E
  | 0 => .inr (3 - 2, [.ref (n + 1), .int 2, .int 0, .ref (n + 2), .ref (n + 13), .ref (n + 14), .int 0, .ref (n + 15), .ref (n + 16), .int 0])
  | 1 => .inl (cs.1, 5, .inl (fun _ => 50))
  | 2 => .inl (cs.2.2, 10, .inr (.inr (.inr (.inr (fun i => some (n + (2 + 1 + i)))))))
  | 3 => .inl (cs.1, 5, .inl (fun _ => 0))
  | 4 => .inl (cs.1, 5, .inl (fun _ => 0))
  | 5 => .inl (cs.1, 5, .inl (fun _ => 0))
  | 6 => .inl (cs.1, 5, .inl (fun _ => 0))
  | 7 => .inl (cs.1, 5, .inl (fun _ => 0))
  | 8 => .inl (cs.1, 5, .inl (fun _ => 0))
  | 9 => .inl (cs.1, 5, .inl (fun _ => 0))
  | 10 => .inl (cs.1, 5, .inl (fun _ => 0))
  | 11 => .inl (cs.1, 5, .inl (fun _ => 0))
  | 12 => .inl (cs.1, 5, .inl (fun _ => 0))
  | 13 => .inl (cs.1, 10, .inl (fun _ => 0))
  | 14 => .inl (cs.2.1, 10, .inl (fun _ => 0))
  | 15 => .inl (cs.1, 5, .inl (fun _ => 0))
  | _ => .inl (cs.1, 5, .inl (fun _ => 0))
set_option maxRecDepth 100000 in
set_option maxHeartbeats 4000000 in
theorem i_X3 (l : Launch) (D : va_G) (cs : ClassId × ClassId × ClassId) (n : Nat) : Met l yX3_init (.code yX3_init cX3_init 1 none :: mW) { frames := 1, cells := 16, slots := 95, locals := 23 } (cPc D cs n 3 [.null, .int 0, .int 0, .null, .null, .null, .int 0, .null, .null, .int 0]) (cQc D n 17 (iE3 cs n)) 16 95 (fun q => n ≤ q) := by
  refine Met.ofW (cc := cX3_init) (maxL := 1) (ret := none) (by decide) rfl ?_
  intro p e s m args below meth c s₁ B hml hv
  obtain ⟨rfl, hP, hK, hO⟩ := hv
  have hx := B.exec
  have hb := B.bytes
  have hr := B.returns
  have hts := atoms_spec (ws := .code yX3_init cX3_init 1 none :: mW) B.pre
  have hown : s.vm.findClass (ownS 3) = some m.cls := findClass_of_methodNamed B.named
  have hlocks := B.notSynchronized
  have hin : meth.name = "<init>" := (name_of_methodNamed B.named B.method).1
  have hw : ∀ {w : Cond}, inW w → w.before _ s = true := fun h => hts _ (List.mem_cons_of_mem _ h.m)
  have hU : ∀ w ∈ u_ws (ownS 3) (TT 3) (NN 3), w ∈ (.code yX3_init cX3_init 1 none :: mW) := fun w h => List.mem_cons_of_mem _ (kU (t := 3) (by decide) (by decide) w h)
  have hcI := (hK.2 0 _ rfl).2
  have hcB := (hK.2 1 _ rfl).2
  have hcG := (hK.2 2 _ rfl).2
  have hS : va_S (fun q => n ≤ q) s.heap s.heap [] := va_S.rf
  have hl := lv_entry ([.ref n]) (n := 1) (Nat.le_of_ble_eq_true rfl)
  rw [lg_entry_eq]
  generalize (lg_sl ([.ref n]) ++ List.replicate (1 - (lg_sl ([.ref n])).length) Slot.unset).toArray = ls at hl ⊢
  have hl : lv_has ls 1 [(0, .ref n)] := hl
  refine lv_aload_n hx hb dX3_init_0 rfl (lv_at hl 0 rfl) ?_
  refine W.objInit hx hb hown (hw iwM_RX3_3) (hw iw_oi) (hw iw_oc) rfl (by rw [hml]; exact hl.1) rfl dX3_init_1 (Nat.le_of_ble_eq_true rfl) (Nat.le_of_ble_eq_true rfl) ?_
  refine W.eq (g2 := F0 m 4 ls []) rfl ?_
  refine lv_aload_n hx hb dX3_init_4 rfl (lv_at hl 0 rfl) ?_
  refine lv_iconst (v := 5) hx hb dX3_init_5 (by decide) ?_
  refine b_arr (atype := .int) (N := 5) hx hb (hw iwA_int) hcI hP hS (by decide) rfl rfl (Nat.le_of_ble_eq_true rfl) (Nat.le_of_ble_eq_true rfl) (Nat.le_of_ble_eq_true rfl) dX3_init_6 (fun H hP hS => ?_)
  refine W.widen (k := 1) (n := 5) (Nat.le_of_ble_eq_true rfl) (Nat.le_of_ble_eq_true rfl) ?_
  refine b_putF (t := 3) (k := 0) (i := 0) (fs := [.null, .int 0, .int 0, .null, .null, .null, .int 0, .null, .null, .int 0]) (v := .ref (n + 1)) (ty := .array .int) hx hb (by decide) (by decide) hts hU hown hK hP hS (by decide) rfl (by decide) (hw iwF_RX3_9) rfl hin (by decide +kernel) rfl rfl (Nat.le_of_ble_eq_true rfl) dX3_init_8 rfl (fun H locs hP hS => ?_)
  refine lv_aload_n hx hb dX3_init_11 rfl (lv_at hl 0 rfl) ?_
  refine va_get (C := ownS 3) (T := TT 3) (N := NN 3) (ci := 3 - 2) (ref := ownS 3) (v := .ref (n + 1)) (fs := [.ref (n + 1), .int 0, .int 0, .null, .null, .null, .int 0, .null, .null, .int 0]) hx hb hts hU hown hK hP.P 0 (bW_get (by decide)) (vwCl_at (by decide) (by decide)) 0 (by decide) (hw iwF_RX3_9) (fun x hx' => by rw [(kT0 (t := 3) (by decide) (by decide) 0 (by decide)).1] at hx'; exact hx') rfl dX3_init_12 ?_
  refine lv_bipush (v := 50) hx hb dX3_init_15 (by decide) ?_
  refine va_callv (va_runS (As := [.ref (n + 1), .int 50]) (rest := []) ⟨hx, hb, hml, hown, hts⟩ (i_fill l D cs (n + 1) 50 (fun _ => 0) H.size) ⟨callB_of 2 hts (goodCW iwK_yJ7_fill_53178) rfl rfl rfl (hw iwN_RJ7) (hw iwM_RX3_15) (by decide +kernel) ⟨Nat.le_of_ble_eq_true rfl, Nat.le_of_ble_eq_true rfl⟩, hw iwT_yJ7_fill_53178⟩ ⟨fPc_blind, fun U hU hW => ⟨rfl, by rw [hU], by rw [hU]; exact hP.2 1 (by decide), va_K.moved hW.alike hK⟩⟩ rfl rfl hl.1 rfl (lv_room (Nat.le_of_ble_eq_true rfl)) dX3_init_17 ⟨Nat.le_of_ble_eq_true rfl, Nat.le_of_ble_eq_true rfl⟩) hS (fun q _ h => by rw [h]; exact Nat.le_add_right n 1) (fun q h => by rw [h]; exact Nat.le_add_right n 1) (fun u t H1 locs1 ht hvm hw9 hB hz1 hk1 hS => ?_)
  have hP := hP.set (k := 1) (x := .inl (cs.1, 5, .inl (fun _ => 50))) (show H1.size = H.size by rw [← ht]; exact hB.1) (fun q hq => by
    rcases Nat.lt_or_ge q H.size with h9 | h9
    · exact hk1 q h9 hq
    · rw [Array.getElem?_eq_none h9, Array.getElem?_eq_none (by rw [← ht, hB.1]; exact h9)]) (by rw [← ht]; exact hB.2)
  clear hB hk1 hz1 ht
  refine lv_aload_n hx hb dX3_init_20 rfl (lv_at hl 0 rfl) ?_
  refine lv_iconst (v := 2) hx hb dX3_init_21 (by decide) ?_
  refine b_put (t := 3) (k := 0) (i := 1) (fs := [.ref (n + 1), .int 0, .int 0, .null, .null, .null, .int 0, .null, .null, .int 0]) (v := .int 2) (ty := .int) hx hb (by decide) (by decide) hts hU hown hK hP hS (by decide) rfl (by decide) (hw iwF_RX3_21) rfl (by decide +kernel) rfl rfl (Nat.le_of_ble_eq_true rfl) dX3_init_22 rfl (fun H locs hP hS => ?_)
  refine lv_aload_n hx hb dX3_init_25 rfl (lv_at hl 0 rfl) ?_
  refine lv_iconst (v := 0) hx hb dX3_init_26 (by decide) ?_
  refine b_put (t := 3) (k := 0) (i := 2) (fs := [.ref (n + 1), .int 2, .int 0, .null, .null, .null, .int 0, .null, .null, .int 0]) (v := .int 0) (ty := .int) hx hb (by decide) (by decide) hts hU hown hK hP hS (by decide) rfl (by decide) (hw iwF_RX3_25) rfl (by decide +kernel) rfl rfl (Nat.le_of_ble_eq_true rfl) dX3_init_27 rfl (fun H locs hP hS => ?_)
  refine lv_aload_n hx hb dX3_init_30 rfl (lv_at hl 0 rfl) ?_
  refine lv_bipush (v := 10) hx hb dX3_init_31 (by decide) ?_
  refine lv_iconst (v := 5) hx hb dX3_init_33 (by decide) ?_
  refine b_grid (N := 10) (K := 5) hx hb hown (hw iwC_RX3_28) hO (hw iwA_int) hcI hcG hP hS (by decide) (by decide) rfl rfl (Nat.le_of_ble_eq_true rfl) (Nat.le_of_ble_eq_true rfl) (Nat.le_of_ble_eq_true rfl) (Nat.le_of_ble_eq_true rfl) (Nat.le_of_ble_eq_true rfl) dX3_init_34 (fun H hP hS => ?_)
  refine W.widen (k := 12) (n := 65) (Nat.le_of_ble_eq_true rfl) (Nat.le_of_ble_eq_true rfl) ?_
  refine b_putF (t := 3) (k := 0) (i := 3) (fs := [.ref (n + 1), .int 2, .int 0, .null, .null, .null, .int 0, .null, .null, .int 0]) (v := .ref (n + 2)) (ty := .array (.array .int)) hx hb (by decide) (by decide) hts hU hown hK hP hS (by decide) rfl (by decide) (hw iwF_RX3_30) rfl hin (by decide +kernel) rfl rfl (Nat.le_of_ble_eq_true rfl) dX3_init_38 rfl (fun H locs hP hS => ?_)
  refine lv_aload_n hx hb dX3_init_41 rfl (lv_at hl 0 rfl) ?_
  refine lv_bipush (v := 10) hx hb dX3_init_42 (by decide) ?_
  refine b_arr (atype := .int) (N := 10) hx hb (hw iwA_int) hcI hP hS (by decide) rfl rfl (Nat.le_of_ble_eq_true rfl) (Nat.le_of_ble_eq_true rfl) (Nat.le_of_ble_eq_true rfl) dX3_init_44 (fun H hP hS => ?_)
  refine W.widen (k := 13) (n := 75) (Nat.le_of_ble_eq_true rfl) (Nat.le_of_ble_eq_true rfl) ?_
  refine b_putF (t := 3) (k := 0) (i := 4) (fs := [.ref (n + 1), .int 2, .int 0, .ref (n + 2), .null, .null, .int 0, .null, .null, .int 0]) (v := .ref (n + 13)) (ty := .array .int) hx hb (by decide) (by decide) hts hU hown hK hP hS (by decide) rfl (by decide) (hw iwF_RX3_33) rfl hin (by decide +kernel) rfl rfl (Nat.le_of_ble_eq_true rfl) dX3_init_46 rfl (fun H locs hP hS => ?_)
  refine lv_aload_n hx hb dX3_init_49 rfl (lv_at hl 0 rfl) ?_
  refine lv_bipush (v := 10) hx hb dX3_init_50 (by decide) ?_
  refine b_arr (atype := .boolean) (N := 10) hx hb (hw iwA_bool) hcB hP hS (by decide) rfl rfl (Nat.le_of_ble_eq_true rfl) (Nat.le_of_ble_eq_true rfl) (Nat.le_of_ble_eq_true rfl) dX3_init_52 (fun H hP hS => ?_)
  refine W.widen (k := 14) (n := 85) (Nat.le_of_ble_eq_true rfl) (Nat.le_of_ble_eq_true rfl) ?_
  refine b_putF (t := 3) (k := 0) (i := 5) (fs := [.ref (n + 1), .int 2, .int 0, .ref (n + 2), .ref (n + 13), .null, .int 0, .null, .null, .int 0]) (v := .ref (n + 14)) (ty := .array .boolean) hx hb (by decide) (by decide) hts hU hown hK hP hS (by decide) rfl (by decide) (hw iwF_RX3_36) rfl hin (by decide +kernel) rfl rfl (Nat.le_of_ble_eq_true rfl) dX3_init_54 rfl (fun H locs hP hS => ?_)
  refine lv_aload_n hx hb dX3_init_57 rfl (lv_at hl 0 rfl) ?_
  refine lv_iconst (v := 0) hx hb dX3_init_58 (by decide) ?_
  refine b_put (t := 3) (k := 0) (i := 6) (fs := [.ref (n + 1), .int 2, .int 0, .ref (n + 2), .ref (n + 13), .ref (n + 14), .int 0, .null, .null, .int 0]) (v := .int 0) (ty := .int) hx hb (by decide) (by decide) hts hU hown hK hP hS (by decide) rfl (by decide) (hw iwF_RX3_40) rfl (by decide +kernel) rfl rfl (Nat.le_of_ble_eq_true rfl) dX3_init_59 rfl (fun H locs hP hS => ?_)
  refine lv_aload_n hx hb dX3_init_62 rfl (lv_at hl 0 rfl) ?_
  refine lv_iconst (v := 5) hx hb dX3_init_63 (by decide) ?_
  refine b_arr (atype := .int) (N := 5) hx hb (hw iwA_int) hcI hP hS (by decide) rfl rfl (Nat.le_of_ble_eq_true rfl) (Nat.le_of_ble_eq_true rfl) (Nat.le_of_ble_eq_true rfl) dX3_init_64 (fun H hP hS => ?_)
  refine W.widen (k := 15) (n := 90) (Nat.le_of_ble_eq_true rfl) (Nat.le_of_ble_eq_true rfl) ?_
  refine b_putF (t := 3) (k := 0) (i := 7) (fs := [.ref (n + 1), .int 2, .int 0, .ref (n + 2), .ref (n + 13), .ref (n + 14), .int 0, .null, .null, .int 0]) (v := .ref (n + 15)) (ty := .array .int) hx hb (by decide) (by decide) hts hU hown hK hP hS (by decide) rfl (by decide) (hw iwF_RX3_43) rfl hin (by decide +kernel) rfl rfl (Nat.le_of_ble_eq_true rfl) dX3_init_66 rfl (fun H locs hP hS => ?_)
  refine lv_aload_n hx hb dX3_init_69 rfl (lv_at hl 0 rfl) ?_
  refine lv_iconst (v := 5) hx hb dX3_init_70 (by decide) ?_
  refine b_arr (atype := .int) (N := 5) hx hb (hw iwA_int) hcI hP hS (by decide) rfl rfl (Nat.le_of_ble_eq_true rfl) (Nat.le_of_ble_eq_true rfl) (Nat.le_of_ble_eq_true rfl) dX3_init_71 (fun H hP hS => ?_)
  refine W.widen (k := 16) (n := 95) (Nat.le_of_ble_eq_true rfl) (Nat.le_of_ble_eq_true rfl) ?_
  refine b_putF (t := 3) (k := 0) (i := 8) (fs := [.ref (n + 1), .int 2, .int 0, .ref (n + 2), .ref (n + 13), .ref (n + 14), .int 0, .ref (n + 15), .null, .int 0]) (v := .ref (n + 16)) (ty := .array .int) hx hb (by decide) (by decide) hts hU hown hK hP hS (by decide) rfl (by decide) (hw iwF_RX3_46) rfl hin (by decide +kernel) rfl rfl (Nat.le_of_ble_eq_true rfl) dX3_init_73 rfl (fun H locs hP hS => ?_)
  refine lv_aload_n hx hb dX3_init_76 rfl (lv_at hl 0 rfl) ?_
  refine lv_iconst (v := 0) hx hb dX3_init_77 (by decide) ?_
  refine b_put (t := 3) (k := 0) (i := 9) (fs := [.ref (n + 1), .int 2, .int 0, .ref (n + 2), .ref (n + 13), .ref (n + 14), .int 0, .ref (n + 15), .ref (n + 16), .int 0]) (v := .int 0) (ty := .int) hx hb (by decide) (by decide) hts hU hown hK hP hS (by decide) rfl (by decide) (hw iwF_RX3_49) rfl (by decide +kernel) rfl rfl (Nat.le_of_ble_eq_true rfl) dX3_init_78 rfl (fun H locs hP hS => ?_)
  have hP9 : bP D n 17 (iE3 cs n) _ := hP.to (fun k hk h => by
    match k, hk with
    | 0, _ => exact h
    | 1, _ => exact h
    | 2, _ => exact h
    | 3, _ => exact h
    | 4, _ => exact h
    | 5, _ => exact h
    | 6, _ => exact h
    | 7, _ => exact h
    | 8, _ => exact h
    | 9, _ => exact h
    | 10, _ => exact h
    | 11, _ => exact h
    | 12, _ => exact h
    | 13, _ => exact h
    | 14, _ => exact h
    | 15, _ => exact h
    | 16, _ => exact h
    | k + 17, hk => exact absurd hk (by omega))
  exact W.vret hx hb hr (fun t ht hW => ⟨⟨(), rfl, trivial, show bP D n 17 (iE3 cs n) t.heap by rw [ht]; exact hP9⟩, hS.F ht⟩) hS.2.2 dX3_init_81
def iE5 (cs : ClassId × ClassId × ClassId) (n : Nat) : Nat → va_E
  | 0 => .inr (5 - 2, [.ref (n + 1), .ref (n + 18), .ref (n + 35), .int 0, .ref (n + 52), .ref (n + 55), .ref (n + 57), .int 0, .ref (n + 58)])
  | 1 => iE3 cs (n + 1) 0
  | 2 => iE3 cs (n + 1) 1
  | 3 => iE3 cs (n + 1) 2
  | 4 => iE3 cs (n + 1) 3
  | 5 => iE3 cs (n + 1) 4
  | 6 => iE3 cs (n + 1) 5
  | 7 => iE3 cs (n + 1) 6
  | 8 => iE3 cs (n + 1) 7
  | 9 => iE3 cs (n + 1) 8
  | 10 => iE3 cs (n + 1) 9
  | 11 => iE3 cs (n + 1) 10
  | 12 => iE3 cs (n + 1) 11
  | 13 => iE3 cs (n + 1) 12
  | 14 => iE3 cs (n + 1) 13
  | 15 => iE3 cs (n + 1) 14
  | 16 => iE3 cs (n + 1) 15
  | 17 => iE3 cs (n + 1) 16
  | 18 => iE3 cs (n + 18) 0
  | 19 => iE3 cs (n + 18) 1
  | 20 => iE3 cs (n + 18) 2
  | 21 => iE3 cs (n + 18) 3
  | 22 => iE3 cs (n + 18) 4
  | 23 => iE3 cs (n + 18) 5
  | 24 => iE3 cs (n + 18) 6
  | 25 => iE3 cs (n + 18) 7
  | 26 => iE3 cs (n + 18) 8
  | 27 => iE3 cs (n + 18) 9
  | 28 => iE3 cs (n + 18) 10
  | 29 => iE3 cs (n + 18) 11
  | 30 => iE3 cs (n + 18) 12
  | 31 => iE3 cs (n + 18) 13
  | 32 => iE3 cs (n + 18) 14
  | 33 => iE3 cs (n + 18) 15
  | 34 => iE3 cs (n + 18) 16
  | 35 => iE3 cs (n + 35) 0
  | 36 => iE3 cs (n + 35) 1
  | 37 => iE3 cs (n + 35) 2
  | 38 => iE3 cs (n + 35) 3
  | 39 => iE3 cs (n + 35) 4
  | 40 => iE3 cs (n + 35) 5
  | 41 => iE3 cs (n + 35) 6
  | 42 => iE3 cs (n + 35) 7
  | 43 => iE3 cs (n + 35) 8
  | 44 => iE3 cs (n + 35) 9
  | 45 => iE3 cs (n + 35) 10
  | 46 => iE3 cs (n + 35) 11
  | 47 => iE3 cs (n + 35) 12
  | 48 => iE3 cs (n + 35) 13
  | 49 => iE3 cs (n + 35) 14
  | 50 => iE3 cs (n + 35) 15
  | 51 => iE3 cs (n + 35) 16
  | 52 => iE2 cs (n + 52) 0
  | 53 => iE2 cs (n + 52) 1
  | 54 => iE2 cs (n + 52) 2
  | 55 => iE4 cs (n + 55) 0
  | 56 => iE4 cs (n + 55) 1
  | 57 => .inl (cs.1, 12, .inl (fun _ => 0))
  | _ => .inl (cs.1, 7, .inl (fun _ => 0))
set_option maxRecDepth 100000 in
set_option maxHeartbeats 4000000 in
theorem i_X5 (l : Launch) (D : va_G) (cs : ClassId × ClassId × ClassId) (n : Nat) : Met l yX5_init (.code yX5_init cX5_init 1 none :: mW) { frames := 2, cells := 58, slots := 450, locals := 43 } (cPc D cs n 5 [.null, .null, .null, .int 0, .null, .null, .null, .int 0, .null]) (cQc D n 59 (iE5 cs n)) 58 450 (fun q => n ≤ q) := by
  refine Met.ofW (cc := cX5_init) (maxL := 1) (ret := none) (by decide) rfl ?_
  intro p e s m args below meth c s₁ B hml hv
  obtain ⟨rfl, hP, hK, hO⟩ := hv
  have hx := B.exec
  have hb := B.bytes
  have hr := B.returns
  have hts := atoms_spec (ws := .code yX5_init cX5_init 1 none :: mW) B.pre
  have hown : s.vm.findClass (ownS 5) = some m.cls := findClass_of_methodNamed B.named
  have hlocks := B.notSynchronized
  have hin : meth.name = "<init>" := (name_of_methodNamed B.named B.method).1
  have hw : ∀ {w : Cond}, inW w → w.before _ s = true := fun h => hts _ (List.mem_cons_of_mem _ h.m)
  have hU : ∀ w ∈ u_ws (ownS 5) (TT 5) (NN 5), w ∈ (.code yX5_init cX5_init 1 none :: mW) := fun w h => List.mem_cons_of_mem _ (kU (t := 5) (by decide) (by decide) w h)
  have hcI := (hK.2 0 _ rfl).2
  have hcB := (hK.2 1 _ rfl).2
  have hcG := (hK.2 2 _ rfl).2
  have hS : va_S (fun q => n ≤ q) s.heap s.heap [] := va_S.rf
  have hl := lv_entry ([.ref n]) (n := 1) (Nat.le_of_ble_eq_true rfl)
  rw [lg_entry_eq]
  generalize (lg_sl ([.ref n]) ++ List.replicate (1 - (lg_sl ([.ref n])).length) Slot.unset).toArray = ls at hl ⊢
  have hl : lv_has ls 1 [(0, .ref n)] := hl
  refine lv_aload_n hx hb dX5_init_0 rfl (lv_at hl 0 rfl) ?_
  refine W.objInit hx hb hown (hw iwM_RX5_1) (hw iw_oi) (hw iw_oc) rfl (by rw [hml]; exact hl.1) rfl dX5_init_1 (Nat.le_of_ble_eq_true rfl) (Nat.le_of_ble_eq_true rfl) ?_
  refine W.eq (g2 := F0 m 4 ls []) rfl ?_
  refine lv_aload_n hx hb dX5_init_4 rfl (lv_at hl 0 rfl) ?_
  refine b_new (t := 3) (fs := [.null, .int 0, .int 0, .null, .null, .null, .int 0, .null, .null, .int 0]) hx hb (by decide) (by decide) hts (fun w h => List.mem_cons_of_mem _ (kU (t := 3) (by decide) (by decide) w h)) hown (hw iwC_RX5_7) (hw iwI_RX3) (hw iwN_RX3) hK hP hS (fun j hj => by revert j; decide +kernel) (Nat.le_of_ble_eq_true rfl) (Nat.le_of_ble_eq_true rfl) dX5_init_5 (fun H hP hS => ?_)
  refine W.widen (k := 1) (n := 10) (Nat.le_of_ble_eq_true rfl) (Nat.le_of_ble_eq_true rfl) ?_
  refine lv_dup hx hb dX5_init_8 rfl ?_
  refine b_init (k := 1) (t := 3) (fs := [.null, .int 0, .int 0, .null, .null, .null, .int 0, .null, .null, .int 0]) (cN := 17) (E1 := iE3 cs (n + 1)) ⟨hx, hb, hml, hown, hts⟩ (i_X3 l D cs (n + 1)) (cwI 0 hts (goodCW iwK_yX3_init) rfl rfl rfl (hw iwN_RX3) (hw iwM_RX5_9) (hw iwV_yX3_init) rfl (by decide +kernel) ⟨Nat.le_of_ble_eq_true rfl, Nat.le_of_ble_eq_true rfl⟩) hK hO hP hS rfl hl.1 (lv_room (Nat.le_of_ble_eq_true rfl)) dX5_init_9 ⟨Nat.le_of_ble_eq_true rfl, Nat.le_of_ble_eq_true rfl⟩ (fun H locs hP hS => ?_)
  refine W.widen (k := 17) (n := 105) (Nat.le_of_ble_eq_true rfl) (Nat.le_of_ble_eq_true rfl) ?_
  refine b_putF (t := 5) (k := 0) (i := 0) (fs := [.null, .null, .null, .int 0, .null, .null, .null, .int 0, .null]) (v := .ref (n + 1)) (ty := .object "CopyOfACopy$Shop") hx hb (by decide) (by decide) hts hU hown hK hP hS (by decide) rfl (by decide) (hw iwF_RX5_10) rfl hin (by decide +kernel) rfl rfl (Nat.le_of_ble_eq_true rfl) dX5_init_12 rfl (fun H locs hP hS => ?_)
  refine lv_aload_n hx hb dX5_init_15 rfl (lv_at hl 0 rfl) ?_
  refine b_new (t := 3) (fs := [.null, .int 0, .int 0, .null, .null, .null, .int 0, .null, .null, .int 0]) hx hb (by decide) (by decide) hts (fun w h => List.mem_cons_of_mem _ (kU (t := 3) (by decide) (by decide) w h)) hown (hw iwC_RX5_7) (hw iwI_RX3) (hw iwN_RX3) hK hP hS (fun j hj => by revert j; decide +kernel) (Nat.le_of_ble_eq_true rfl) (Nat.le_of_ble_eq_true rfl) dX5_init_16 (fun H hP hS => ?_)
  refine W.widen (k := 18) (n := 115) (Nat.le_of_ble_eq_true rfl) (Nat.le_of_ble_eq_true rfl) ?_
  refine lv_dup hx hb dX5_init_19 rfl ?_
  refine b_init (k := 18) (t := 3) (fs := [.null, .int 0, .int 0, .null, .null, .null, .int 0, .null, .null, .int 0]) (cN := 17) (E1 := iE3 cs (n + 18)) ⟨hx, hb, hml, hown, hts⟩ (i_X3 l D cs (n + 18)) (cwI 0 hts (goodCW iwK_yX3_init) rfl rfl rfl (hw iwN_RX3) (hw iwM_RX5_9) (hw iwV_yX3_init) rfl (by decide +kernel) ⟨Nat.le_of_ble_eq_true rfl, Nat.le_of_ble_eq_true rfl⟩) hK hO hP hS rfl hl.1 (lv_room (Nat.le_of_ble_eq_true rfl)) dX5_init_20 ⟨Nat.le_of_ble_eq_true rfl, Nat.le_of_ble_eq_true rfl⟩ (fun H locs hP hS => ?_)
  refine W.widen (k := 34) (n := 210) (Nat.le_of_ble_eq_true rfl) (Nat.le_of_ble_eq_true rfl) ?_
  refine b_putF (t := 5) (k := 0) (i := 1) (fs := [.ref (n + 1), .null, .null, .int 0, .null, .null, .null, .int 0, .null]) (v := .ref (n + 18)) (ty := .object "CopyOfACopy$Shop") hx hb (by decide) (by decide) hts hU hown hK hP hS (by decide) rfl (by decide) (hw iwF_RX5_16) rfl hin (by decide +kernel) rfl rfl (Nat.le_of_ble_eq_true rfl) dX5_init_23 rfl (fun H locs hP hS => ?_)
  refine lv_aload_n hx hb dX5_init_26 rfl (lv_at hl 0 rfl) ?_
  refine b_new (t := 3) (fs := [.null, .int 0, .int 0, .null, .null, .null, .int 0, .null, .null, .int 0]) hx hb (by decide) (by decide) hts (fun w h => List.mem_cons_of_mem _ (kU (t := 3) (by decide) (by decide) w h)) hown (hw iwC_RX5_7) (hw iwI_RX3) (hw iwN_RX3) hK hP hS (fun j hj => by revert j; decide +kernel) (Nat.le_of_ble_eq_true rfl) (Nat.le_of_ble_eq_true rfl) dX5_init_27 (fun H hP hS => ?_)
  refine W.widen (k := 35) (n := 220) (Nat.le_of_ble_eq_true rfl) (Nat.le_of_ble_eq_true rfl) ?_
  refine lv_dup hx hb dX5_init_30 rfl ?_
  refine b_init (k := 35) (t := 3) (fs := [.null, .int 0, .int 0, .null, .null, .null, .int 0, .null, .null, .int 0]) (cN := 17) (E1 := iE3 cs (n + 35)) ⟨hx, hb, hml, hown, hts⟩ (i_X3 l D cs (n + 35)) (cwI 0 hts (goodCW iwK_yX3_init) rfl rfl rfl (hw iwN_RX3) (hw iwM_RX5_9) (hw iwV_yX3_init) rfl (by decide +kernel) ⟨Nat.le_of_ble_eq_true rfl, Nat.le_of_ble_eq_true rfl⟩) hK hO hP hS rfl hl.1 (lv_room (Nat.le_of_ble_eq_true rfl)) dX5_init_31 ⟨Nat.le_of_ble_eq_true rfl, Nat.le_of_ble_eq_true rfl⟩ (fun H locs hP hS => ?_)
  refine W.widen (k := 51) (n := 315) (Nat.le_of_ble_eq_true rfl) (Nat.le_of_ble_eq_true rfl) ?_
  refine b_putF (t := 5) (k := 0) (i := 2) (fs := [.ref (n + 1), .ref (n + 18), .null, .int 0, .null, .null, .null, .int 0, .null]) (v := .ref (n + 35)) (ty := .object "CopyOfACopy$Shop") hx hb (by decide) (by decide) hts hU hown hK hP hS (by decide) rfl (by decide) (hw iwF_RX5_19) rfl hin (by decide +kernel) rfl rfl (Nat.le_of_ble_eq_true rfl) dX5_init_34 rfl (fun H locs hP hS => ?_)
  refine lv_aload_n hx hb dX5_init_37 rfl (lv_at hl 0 rfl) ?_
  refine lv_iconst (v := 0) hx hb dX5_init_38 (by decide) ?_
  refine b_put (t := 5) (k := 0) (i := 3) (fs := [.ref (n + 1), .ref (n + 18), .ref (n + 35), .int 0, .null, .null, .null, .int 0, .null]) (v := .int 0) (ty := .boolean) hx hb (by decide) (by decide) hts hU hown hK hP hS (by decide) rfl (by decide) (hw iwF_RX5_22) rfl (by decide +kernel) rfl rfl (Nat.le_of_ble_eq_true rfl) dX5_init_39 rfl (fun H locs hP hS => ?_)
  refine lv_aload_n hx hb dX5_init_42 rfl (lv_at hl 0 rfl) ?_
  refine b_new (t := 2) (fs := [.null, .null, .int 0]) hx hb (by decide) (by decide) hts (fun w h => List.mem_cons_of_mem _ (kU (t := 2) (by decide) (by decide) w h)) hown (hw iwC_RX5_26) (hw iwI_RX2) (hw iwN_RX2) hK hP hS (fun j hj => by revert j; decide +kernel) (Nat.le_of_ble_eq_true rfl) (Nat.le_of_ble_eq_true rfl) dX5_init_43 (fun H hP hS => ?_)
  refine W.widen (k := 52) (n := 318) (Nat.le_of_ble_eq_true rfl) (Nat.le_of_ble_eq_true rfl) ?_
  refine lv_dup hx hb dX5_init_46 rfl ?_
  refine b_init (k := 52) (t := 2) (fs := [.null, .null, .int 0]) (cN := 3) (E1 := iE2 cs (n + 52)) ⟨hx, hb, hml, hown, hts⟩ (i_X2 l D cs (n + 52)) (cwI 0 hts (goodCW iwK_yX2_init) rfl rfl rfl (hw iwN_RX2) (hw iwM_RX5_28) (hw iwV_yX2_init) rfl (by decide +kernel) ⟨Nat.le_of_ble_eq_true rfl, Nat.le_of_ble_eq_true rfl⟩) hK hO hP hS rfl hl.1 (lv_room (Nat.le_of_ble_eq_true rfl)) dX5_init_47 ⟨Nat.le_of_ble_eq_true rfl, Nat.le_of_ble_eq_true rfl⟩ (fun H locs hP hS => ?_)
  refine W.widen (k := 54) (n := 333) (Nat.le_of_ble_eq_true rfl) (Nat.le_of_ble_eq_true rfl) ?_
  refine b_putF (t := 5) (k := 0) (i := 4) (fs := [.ref (n + 1), .ref (n + 18), .ref (n + 35), .int 0, .null, .null, .null, .int 0, .null]) (v := .ref (n + 52)) (ty := .object "CopyOfACopy$Mind") hx hb (by decide) (by decide) hts hU hown hK hP hS (by decide) rfl (by decide) (hw iwF_RX5_29) rfl hin (by decide +kernel) rfl rfl (Nat.le_of_ble_eq_true rfl) dX5_init_50 rfl (fun H locs hP hS => ?_)
  refine lv_aload_n hx hb dX5_init_53 rfl (lv_at hl 0 rfl) ?_
  refine b_new (t := 4) (fs := [.null, .int 0]) hx hb (by decide) (by decide) hts (fun w h => List.mem_cons_of_mem _ (kU (t := 4) (by decide) (by decide) w h)) hown (hw iwC_RX5_33) (hw iwI_RX4) (hw iwN_RX4) hK hP hS (fun j hj => by revert j; decide +kernel) (Nat.le_of_ble_eq_true rfl) (Nat.le_of_ble_eq_true rfl) dX5_init_54 (fun H hP hS => ?_)
  refine W.widen (k := 55) (n := 335) (Nat.le_of_ble_eq_true rfl) (Nat.le_of_ble_eq_true rfl) ?_
  refine lv_dup hx hb dX5_init_57 rfl ?_
  refine b_init (k := 55) (t := 4) (fs := [.null, .int 0]) (cN := 2) (E1 := iE4 cs (n + 55)) ⟨hx, hb, hml, hown, hts⟩ (i_X4 l D cs (n + 55)) (cwI 0 hts (goodCW iwK_yX4_init) rfl rfl rfl (hw iwN_RX4) (hw iwM_RX5_35) (hw iwV_yX4_init) rfl (by decide +kernel) ⟨Nat.le_of_ble_eq_true rfl, Nat.le_of_ble_eq_true rfl⟩) hK hO hP hS rfl hl.1 (lv_room (Nat.le_of_ble_eq_true rfl)) dX5_init_58 ⟨Nat.le_of_ble_eq_true rfl, Nat.le_of_ble_eq_true rfl⟩ (fun H locs hP hS => ?_)
  refine W.widen (k := 56) (n := 431) (Nat.le_of_ble_eq_true rfl) (Nat.le_of_ble_eq_true rfl) ?_
  refine b_putF (t := 5) (k := 0) (i := 5) (fs := [.ref (n + 1), .ref (n + 18), .ref (n + 35), .int 0, .ref (n + 52), .null, .null, .int 0, .null]) (v := .ref (n + 55)) (ty := .object "CopyOfACopy$Text") hx hb (by decide) (by decide) hts hU hown hK hP hS (by decide) rfl (by decide) (hw iwF_RX5_36) rfl hin (by decide +kernel) rfl rfl (Nat.le_of_ble_eq_true rfl) dX5_init_61 rfl (fun H locs hP hS => ?_)
  refine lv_aload_n hx hb dX5_init_64 rfl (lv_at hl 0 rfl) ?_
  refine lv_bipush (v := 12) hx hb dX5_init_65 (by decide) ?_
  refine b_arr (atype := .int) (N := 12) hx hb (hw iwA_int) hcI hP hS (by decide) rfl rfl (Nat.le_of_ble_eq_true rfl) (Nat.le_of_ble_eq_true rfl) (Nat.le_of_ble_eq_true rfl) dX5_init_67 (fun H hP hS => ?_)
  refine W.widen (k := 57) (n := 443) (Nat.le_of_ble_eq_true rfl) (Nat.le_of_ble_eq_true rfl) ?_
  refine b_putF (t := 5) (k := 0) (i := 6) (fs := [.ref (n + 1), .ref (n + 18), .ref (n + 35), .int 0, .ref (n + 52), .ref (n + 55), .null, .int 0, .null]) (v := .ref (n + 57)) (ty := .array .int) hx hb (by decide) (by decide) hts hU hown hK hP hS (by decide) rfl (by decide) (hw iwF_RX5_40) rfl hin (by decide +kernel) rfl rfl (Nat.le_of_ble_eq_true rfl) dX5_init_69 rfl (fun H locs hP hS => ?_)
  refine lv_aload_n hx hb dX5_init_72 rfl (lv_at hl 0 rfl) ?_
  refine lv_iconst (v := 0) hx hb dX5_init_73 (by decide) ?_
  refine b_put (t := 5) (k := 0) (i := 7) (fs := [.ref (n + 1), .ref (n + 18), .ref (n + 35), .int 0, .ref (n + 52), .ref (n + 55), .ref (n + 57), .int 0, .null]) (v := .int 0) (ty := .int) hx hb (by decide) (by decide) hts hU hown hK hP hS (by decide) rfl (by decide) (hw iwF_RX5_44) rfl (by decide +kernel) rfl rfl (Nat.le_of_ble_eq_true rfl) dX5_init_74 rfl (fun H locs hP hS => ?_)
  refine lv_aload_n hx hb dX5_init_77 rfl (lv_at hl 0 rfl) ?_
  refine lv_bipush (v := 7) hx hb dX5_init_78 (by decide) ?_
  refine b_arr (atype := .int) (N := 7) hx hb (hw iwA_int) hcI hP hS (by decide) rfl rfl (Nat.le_of_ble_eq_true rfl) (Nat.le_of_ble_eq_true rfl) (Nat.le_of_ble_eq_true rfl) dX5_init_80 (fun H hP hS => ?_)
  refine W.widen (k := 58) (n := 450) (Nat.le_of_ble_eq_true rfl) (Nat.le_of_ble_eq_true rfl) ?_
  refine b_putF (t := 5) (k := 0) (i := 8) (fs := [.ref (n + 1), .ref (n + 18), .ref (n + 35), .int 0, .ref (n + 52), .ref (n + 55), .ref (n + 57), .int 0, .null]) (v := .ref (n + 58)) (ty := .array .int) hx hb (by decide) (by decide) hts hU hown hK hP hS (by decide) rfl (by decide) (hw iwF_RX5_48) rfl hin (by decide +kernel) rfl rfl (Nat.le_of_ble_eq_true rfl) dX5_init_82 rfl (fun H locs hP hS => ?_)
  have hP9 : bP D n 59 (iE5 cs n) _ := hP.to (fun k hk h => by
    match k, hk with
    | 0, _ => exact h
    | 1, _ => exact h
    | 2, _ => exact h
    | 3, _ => exact h
    | 4, _ => exact h
    | 5, _ => exact h
    | 6, _ => exact h
    | 7, _ => exact h
    | 8, _ => exact h
    | 9, _ => exact h
    | 10, _ => exact h
    | 11, _ => exact h
    | 12, _ => exact h
    | 13, _ => exact h
    | 14, _ => exact h
    | 15, _ => exact h
    | 16, _ => exact h
    | 17, _ => exact h
    | 18, _ => exact h
    | 19, _ => exact h
    | 20, _ => exact h
    | 21, _ => exact h
    | 22, _ => exact h
    | 23, _ => exact h
    | 24, _ => exact h
    | 25, _ => exact h
    | 26, _ => exact h
    | 27, _ => exact h
    | 28, _ => exact h
    | 29, _ => exact h
    | 30, _ => exact h
    | 31, _ => exact h
    | 32, _ => exact h
    | 33, _ => exact h
    | 34, _ => exact h
    | 35, _ => exact h
    | 36, _ => exact h
    | 37, _ => exact h
    | 38, _ => exact h
    | 39, _ => exact h
    | 40, _ => exact h
    | 41, _ => exact h
    | 42, _ => exact h
    | 43, _ => exact h
    | 44, _ => exact h
    | 45, _ => exact h
    | 46, _ => exact h
    | 47, _ => exact h
    | 48, _ => exact h
    | 49, _ => exact h
    | 50, _ => exact h
    | 51, _ => exact h
    | 52, _ => exact h
    | 53, _ => exact h
    | 54, _ => exact h
    | 55, _ => exact h
    | 56, _ => exact h
    | 57, _ => exact h
    | 58, _ => exact h
    | k + 59, hk => exact absurd hk (by omega))
  exact W.vret hx hb hr (fun t ht hW => ⟨⟨(), rfl, trivial, show bP D n 59 (iE5 cs n) t.heap by rw [ht]; exact hP9⟩, hS.F ht⟩) hS.2.2 dX5_init_85
def iE6 (cs : ClassId × ClassId × ClassId) (n : Nat) : Nat → va_E
  | 0 => .inr (6 - 2, [.ref (n + 1), .ref (n + 2), .ref (n + 3), .int 0, .ref (n + 4), .ref (n + 5), .ref (n + 6), .int 0, .int 0, .ref (n + 7), .int 0, .ref (n + 8), .int 0])
  | 1 => .inl (cs.1, 89, .inl (fun i => if i = 3 then 2 else if 4 ≤ i ∧ i < 9 then 50 else 0))
  | 2 => .inl (cs.1, 89, .inl (fun _ => 0))
  | 3 => .inl (cs.1, 89, .inl (fun _ => 0))
  | 4 => .inl (cs.1, 96, .inl (fun _ => 0))
  | 5 => .inl (cs.1, 12, .inl (fun _ => 0))
  | 6 => .inl (cs.1, 7, .inl (fun _ => 0))
  | 7 => .inl (cs.1, 5, .inl (fun _ => 0))
  | _ => .inl (cs.1, 5, .inl (fun _ => 0))
set_option maxRecDepth 100000 in
set_option maxHeartbeats 4000000 in
theorem i_X6 (l : Launch) (D : va_G) (cs : ClassId × ClassId × ClassId) (n : Nat) : Met l yX6_init (.code yX6_init cX6_init 2 none :: mW) { frames := 1, cells := 8, slots := 392, locals := 12 } (cPc D cs n 6 [.null, .null, .null, .int 0, .null, .null, .null, .int 0, .int 0, .null, .int 0, .null, .int 0]) (cQc D n 9 (iE6 cs n)) 8 392 (fun q => n ≤ q) := by
  refine Met.ofW (cc := cX6_init) (maxL := 2) (ret := none) (by decide) rfl ?_
  intro p e s m args below meth c s₁ B hml hv
  obtain ⟨rfl, hP, hK, hO⟩ := hv
  have hx := B.exec
  have hb := B.bytes
  have hr := B.returns
  have hts := atoms_spec (ws := .code yX6_init cX6_init 2 none :: mW) B.pre
  have hown : s.vm.findClass (ownS 6) = some m.cls := findClass_of_methodNamed B.named
  have hlocks := B.notSynchronized
  have hin : meth.name = "<init>" := (name_of_methodNamed B.named B.method).1
  have hw : ∀ {w : Cond}, inW w → w.before _ s = true := fun h => hts _ (List.mem_cons_of_mem _ h.m)
  have hU : ∀ w ∈ u_ws (ownS 6) (TT 6) (NN 6), w ∈ (.code yX6_init cX6_init 2 none :: mW) := fun w h => List.mem_cons_of_mem _ (kU (t := 6) (by decide) (by decide) w h)
  have hcI := (hK.2 0 _ rfl).2
  have hcB := (hK.2 1 _ rfl).2
  have hcG := (hK.2 2 _ rfl).2
  have hS : va_S (fun q => n ≤ q) s.heap s.heap [] := va_S.rf
  have hl := lv_entry ([.ref n]) (n := 2) (Nat.le_of_ble_eq_true rfl)
  rw [lg_entry_eq]
  generalize (lg_sl ([.ref n]) ++ List.replicate (2 - (lg_sl ([.ref n])).length) Slot.unset).toArray = ls at hl ⊢
  have hl : lv_has ls 2 [(0, .ref n)] := hl
  refine lv_aload_n hx hb dX6_init_0 rfl (lv_at hl 0 rfl) ?_
  refine W.objInit hx hb hown (hw iwM_RX6_1) (hw iw_oi) (hw iw_oc) rfl (by rw [hml]; exact hl.1) rfl dX6_init_1 (Nat.le_of_ble_eq_true rfl) (Nat.le_of_ble_eq_true rfl) ?_
  refine W.eq (g2 := F0 m 4 ls []) rfl ?_
  refine lv_aload_n hx hb dX6_init_4 rfl (lv_at hl 0 rfl) ?_
  refine lv_bipush (v := 89) hx hb dX6_init_5 (by decide) ?_
  refine b_arr (atype := .int) (N := 89) hx hb (hw iwA_int) hcI hP hS (by decide) rfl rfl (Nat.le_of_ble_eq_true rfl) (Nat.le_of_ble_eq_true rfl) (Nat.le_of_ble_eq_true rfl) dX6_init_7 (fun H hP hS => ?_)
  refine W.widen (k := 1) (n := 89) (Nat.le_of_ble_eq_true rfl) (Nat.le_of_ble_eq_true rfl) ?_
  refine b_putF (t := 6) (k := 0) (i := 0) (fs := [.null, .null, .null, .int 0, .null, .null, .null, .int 0, .int 0, .null, .int 0, .null, .int 0]) (v := .ref (n + 1)) (ty := .array .int) hx hb (by decide) (by decide) hts hU hown hK hP hS (by decide) rfl (by decide) (hw iwF_RX6_9) rfl hin (by decide +kernel) rfl rfl (Nat.le_of_ble_eq_true rfl) dX6_init_9 rfl (fun H locs hP hS => ?_)
  refine lv_aload_n hx hb dX6_init_12 rfl (lv_at hl 0 rfl) ?_
  refine lv_bipush (v := 89) hx hb dX6_init_13 (by decide) ?_
  refine b_arr (atype := .int) (N := 89) hx hb (hw iwA_int) hcI hP hS (by decide) rfl rfl (Nat.le_of_ble_eq_true rfl) (Nat.le_of_ble_eq_true rfl) (Nat.le_of_ble_eq_true rfl) dX6_init_15 (fun H hP hS => ?_)
  refine W.widen (k := 2) (n := 178) (Nat.le_of_ble_eq_true rfl) (Nat.le_of_ble_eq_true rfl) ?_
  refine b_putF (t := 6) (k := 0) (i := 1) (fs := [.ref (n + 1), .null, .null, .int 0, .null, .null, .null, .int 0, .int 0, .null, .int 0, .null, .int 0]) (v := .ref (n + 2)) (ty := .array .int) hx hb (by decide) (by decide) hts hU hown hK hP hS (by decide) rfl (by decide) (hw iwF_RX6_13) rfl hin (by decide +kernel) rfl rfl (Nat.le_of_ble_eq_true rfl) dX6_init_17 rfl (fun H locs hP hS => ?_)
  refine lv_aload_n hx hb dX6_init_20 rfl (lv_at hl 0 rfl) ?_
  refine lv_bipush (v := 89) hx hb dX6_init_21 (by decide) ?_
  refine b_arr (atype := .int) (N := 89) hx hb (hw iwA_int) hcI hP hS (by decide) rfl rfl (Nat.le_of_ble_eq_true rfl) (Nat.le_of_ble_eq_true rfl) (Nat.le_of_ble_eq_true rfl) dX6_init_23 (fun H hP hS => ?_)
  refine W.widen (k := 3) (n := 267) (Nat.le_of_ble_eq_true rfl) (Nat.le_of_ble_eq_true rfl) ?_
  refine b_putF (t := 6) (k := 0) (i := 2) (fs := [.ref (n + 1), .ref (n + 2), .null, .int 0, .null, .null, .null, .int 0, .int 0, .null, .int 0, .null, .int 0]) (v := .ref (n + 3)) (ty := .array .int) hx hb (by decide) (by decide) hts hU hown hK hP hS (by decide) rfl (by decide) (hw iwF_RX6_16) rfl hin (by decide +kernel) rfl rfl (Nat.le_of_ble_eq_true rfl) dX6_init_25 rfl (fun H locs hP hS => ?_)
  refine lv_aload_n hx hb dX6_init_28 rfl (lv_at hl 0 rfl) ?_
  refine lv_bipush (v := 96) hx hb dX6_init_29 (by decide) ?_
  refine b_arr (atype := .int) (N := 96) hx hb (hw iwA_int) hcI hP hS (by decide) rfl rfl (Nat.le_of_ble_eq_true rfl) (Nat.le_of_ble_eq_true rfl) (Nat.le_of_ble_eq_true rfl) dX6_init_31 (fun H hP hS => ?_)
  refine W.widen (k := 4) (n := 363) (Nat.le_of_ble_eq_true rfl) (Nat.le_of_ble_eq_true rfl) ?_
  refine b_putF (t := 6) (k := 0) (i := 4) (fs := [.ref (n + 1), .ref (n + 2), .ref (n + 3), .int 0, .null, .null, .null, .int 0, .int 0, .null, .int 0, .null, .int 0]) (v := .ref (n + 4)) (ty := .array .int) hx hb (by decide) (by decide) hts hU hown hK hP hS (by decide) rfl (by decide) (hw iwF_RX6_19) rfl hin (by decide +kernel) rfl rfl (Nat.le_of_ble_eq_true rfl) dX6_init_33 rfl (fun H locs hP hS => ?_)
  refine lv_aload_n hx hb dX6_init_36 rfl (lv_at hl 0 rfl) ?_
  refine lv_bipush (v := 12) hx hb dX6_init_37 (by decide) ?_
  refine b_arr (atype := .int) (N := 12) hx hb (hw iwA_int) hcI hP hS (by decide) rfl rfl (Nat.le_of_ble_eq_true rfl) (Nat.le_of_ble_eq_true rfl) (Nat.le_of_ble_eq_true rfl) dX6_init_39 (fun H hP hS => ?_)
  refine W.widen (k := 5) (n := 375) (Nat.le_of_ble_eq_true rfl) (Nat.le_of_ble_eq_true rfl) ?_
  refine b_putF (t := 6) (k := 0) (i := 5) (fs := [.ref (n + 1), .ref (n + 2), .ref (n + 3), .int 0, .ref (n + 4), .null, .null, .int 0, .int 0, .null, .int 0, .null, .int 0]) (v := .ref (n + 5)) (ty := .array .int) hx hb (by decide) (by decide) hts hU hown hK hP hS (by decide) rfl (by decide) (hw iwF_RX6_22) rfl hin (by decide +kernel) rfl rfl (Nat.le_of_ble_eq_true rfl) dX6_init_41 rfl (fun H locs hP hS => ?_)
  refine lv_aload_n hx hb dX6_init_44 rfl (lv_at hl 0 rfl) ?_
  refine lv_bipush (v := 7) hx hb dX6_init_45 (by decide) ?_
  refine b_arr (atype := .int) (N := 7) hx hb (hw iwA_int) hcI hP hS (by decide) rfl rfl (Nat.le_of_ble_eq_true rfl) (Nat.le_of_ble_eq_true rfl) (Nat.le_of_ble_eq_true rfl) dX6_init_47 (fun H hP hS => ?_)
  refine W.widen (k := 6) (n := 382) (Nat.le_of_ble_eq_true rfl) (Nat.le_of_ble_eq_true rfl) ?_
  refine b_putF (t := 6) (k := 0) (i := 6) (fs := [.ref (n + 1), .ref (n + 2), .ref (n + 3), .int 0, .ref (n + 4), .ref (n + 5), .null, .int 0, .int 0, .null, .int 0, .null, .int 0]) (v := .ref (n + 6)) (ty := .array .int) hx hb (by decide) (by decide) hts hU hown hK hP hS (by decide) rfl (by decide) (hw iwF_RX6_25) rfl hin (by decide +kernel) rfl rfl (Nat.le_of_ble_eq_true rfl) dX6_init_49 rfl (fun H locs hP hS => ?_)
  refine lv_aload_n hx hb dX6_init_52 rfl (lv_at hl 0 rfl) ?_
  refine lv_iconst (v := 5) hx hb dX6_init_53 (by decide) ?_
  refine b_arr (atype := .int) (N := 5) hx hb (hw iwA_int) hcI hP hS (by decide) rfl rfl (Nat.le_of_ble_eq_true rfl) (Nat.le_of_ble_eq_true rfl) (Nat.le_of_ble_eq_true rfl) dX6_init_54 (fun H hP hS => ?_)
  refine W.widen (k := 7) (n := 387) (Nat.le_of_ble_eq_true rfl) (Nat.le_of_ble_eq_true rfl) ?_
  refine b_putF (t := 6) (k := 0) (i := 9) (fs := [.ref (n + 1), .ref (n + 2), .ref (n + 3), .int 0, .ref (n + 4), .ref (n + 5), .ref (n + 6), .int 0, .int 0, .null, .int 0, .null, .int 0]) (v := .ref (n + 7)) (ty := .array .int) hx hb (by decide) (by decide) hts hU hown hK hP hS (by decide) rfl (by decide) (hw iwF_RX6_28) rfl hin (by decide +kernel) rfl rfl (Nat.le_of_ble_eq_true rfl) dX6_init_56 rfl (fun H locs hP hS => ?_)
  refine lv_aload_n hx hb dX6_init_59 rfl (lv_at hl 0 rfl) ?_
  refine lv_iconst (v := 5) hx hb dX6_init_60 (by decide) ?_
  refine b_arr (atype := .int) (N := 5) hx hb (hw iwA_int) hcI hP hS (by decide) rfl rfl (Nat.le_of_ble_eq_true rfl) (Nat.le_of_ble_eq_true rfl) (Nat.le_of_ble_eq_true rfl) dX6_init_61 (fun H hP hS => ?_)
  refine W.widen (k := 8) (n := 392) (Nat.le_of_ble_eq_true rfl) (Nat.le_of_ble_eq_true rfl) ?_
  refine b_putF (t := 6) (k := 0) (i := 11) (fs := [.ref (n + 1), .ref (n + 2), .ref (n + 3), .int 0, .ref (n + 4), .ref (n + 5), .ref (n + 6), .int 0, .int 0, .ref (n + 7), .int 0, .null, .int 0]) (v := .ref (n + 8)) (ty := .array .int) hx hb (by decide) (by decide) hts hU hown hK hP hS (by decide) rfl (by decide) (hw iwF_RX6_31) rfl hin (by decide +kernel) rfl rfl (Nat.le_of_ble_eq_true rfl) dX6_init_63 rfl (fun H locs hP hS => ?_)
  refine lv_aload_n hx hb dX6_init_66 rfl (lv_at hl 0 rfl) ?_
  refine va_get (C := ownS 6) (T := TT 6) (N := NN 6) (ci := 6 - 2) (ref := ownS 6) (v := .ref (n + 1)) (fs := [.ref (n + 1), .ref (n + 2), .ref (n + 3), .int 0, .ref (n + 4), .ref (n + 5), .ref (n + 6), .int 0, .int 0, .ref (n + 7), .int 0, .ref (n + 8), .int 0]) hx hb hts hU hown hK hP.P 0 (bW_get (by decide)) (vwCl_at (by decide) (by decide)) 0 (by decide) (hw iwF_RX6_9) (fun x hx' => by rw [(kT0 (t := 6) (by decide) (by decide) 0 (by decide)).1] at hx'; exact hx') rfl dX6_init_67 ?_
  refine lv_iconst (v := 3) hx hb dX6_init_70 (by decide) ?_
  refine lv_iconst (v := 2) hx hb dX6_init_71 (by decide) ?_
  refine b_ast (k := 1) (t0 := 0) hx hb hK hP hS (by decide) rfl rfl (by unfold vp_in; decide) dX6_init_72 rfl (fun H locs hP hS => ?_)
  refine lv_iconst (v := 0) hx hb dX6_init_73 (by decide) ?_
  refine lv_istore_n (lv' := [(1, .int 0), (0, .ref n)]) hx hb dX6_init_74 rfl hl (by decide) rfl (fun ls hl => ?_)
  refine lv_iload_n hx hb dX6_init_75 rfl (lv_at hl 0 rfl) ?_
  refine lv_iconst (v := 5) hx hb dX6_init_76 (by decide) ?_
  refine lv_icmp_ge (tgt := 96) hx hb dX6_init_77 (by decide) (fun q => ?_) (fun q => ?_)
  exact absurd q (by decide)
  refine lv_aload_n hx hb dX6_init_80 rfl (lv_at hl 1 rfl) ?_
  refine va_get (C := ownS 6) (T := TT 6) (N := NN 6) (ci := 6 - 2) (ref := ownS 6) (v := .ref (n + 1)) (fs := [.ref (n + 1), .ref (n + 2), .ref (n + 3), .int 0, .ref (n + 4), .ref (n + 5), .ref (n + 6), .int 0, .int 0, .ref (n + 7), .int 0, .ref (n + 8), .int 0]) hx hb hts hU hown hK hP.P 0 (bW_get (by decide)) (vwCl_at (by decide) (by decide)) 0 (by decide) (hw iwF_RX6_9) (fun x hx' => by rw [(kT0 (t := 6) (by decide) (by decide) 0 (by decide)).1] at hx'; exact hx') rfl dX6_init_81 ?_
  refine lv_iconst (v := 4) hx hb dX6_init_84 (by decide) ?_
  refine lv_iload_n hx hb dX6_init_85 rfl (lv_at hl 0 rfl) ?_
  refine lv_iadd hx hb dX6_init_86 ?_
  refine lv_bipush (v := 50) hx hb dX6_init_87 (by decide) ?_
  refine b_ast (k := 1) (t0 := 0) hx hb hK hP hS (by decide) rfl rfl (by unfold vp_in; decide) dX6_init_89 rfl (fun H locs hP hS => ?_)
  refine lv_iinc (v := 1) (lv' := [(1, .int 1), (0, .ref n)]) hx hb dX6_init_90 hl (k := 0) rfl (by decide) (by decide) rfl (fun ls hl => ?_)
  refine lv_goto (tgt := 75) hx hb dX6_init_93 (by decide) ?_
  refine lv_iload_n hx hb dX6_init_75 rfl (lv_at hl 0 rfl) ?_
  refine lv_iconst (v := 5) hx hb dX6_init_76 (by decide) ?_
  refine lv_icmp_ge (tgt := 96) hx hb dX6_init_77 (by decide) (fun q => ?_) (fun q => ?_)
  exact absurd q (by decide)
  refine lv_aload_n hx hb dX6_init_80 rfl (lv_at hl 1 rfl) ?_
  refine va_get (C := ownS 6) (T := TT 6) (N := NN 6) (ci := 6 - 2) (ref := ownS 6) (v := .ref (n + 1)) (fs := [.ref (n + 1), .ref (n + 2), .ref (n + 3), .int 0, .ref (n + 4), .ref (n + 5), .ref (n + 6), .int 0, .int 0, .ref (n + 7), .int 0, .ref (n + 8), .int 0]) hx hb hts hU hown hK hP.P 0 (bW_get (by decide)) (vwCl_at (by decide) (by decide)) 0 (by decide) (hw iwF_RX6_9) (fun x hx' => by rw [(kT0 (t := 6) (by decide) (by decide) 0 (by decide)).1] at hx'; exact hx') rfl dX6_init_81 ?_
  refine lv_iconst (v := 4) hx hb dX6_init_84 (by decide) ?_
  refine lv_iload_n hx hb dX6_init_85 rfl (lv_at hl 0 rfl) ?_
  refine lv_iadd hx hb dX6_init_86 ?_
  refine lv_bipush (v := 50) hx hb dX6_init_87 (by decide) ?_
  refine b_ast (k := 1) (t0 := 0) hx hb hK hP hS (by decide) rfl rfl (by unfold vp_in; decide) dX6_init_89 rfl (fun H locs hP hS => ?_)
  refine lv_iinc (v := 2) (lv' := [(1, .int 2), (0, .ref n)]) hx hb dX6_init_90 hl (k := 0) rfl (by decide) (by decide) rfl (fun ls hl => ?_)
  refine lv_goto (tgt := 75) hx hb dX6_init_93 (by decide) ?_
  refine lv_iload_n hx hb dX6_init_75 rfl (lv_at hl 0 rfl) ?_
  refine lv_iconst (v := 5) hx hb dX6_init_76 (by decide) ?_
  refine lv_icmp_ge (tgt := 96) hx hb dX6_init_77 (by decide) (fun q => ?_) (fun q => ?_)
  exact absurd q (by decide)
  refine lv_aload_n hx hb dX6_init_80 rfl (lv_at hl 1 rfl) ?_
  refine va_get (C := ownS 6) (T := TT 6) (N := NN 6) (ci := 6 - 2) (ref := ownS 6) (v := .ref (n + 1)) (fs := [.ref (n + 1), .ref (n + 2), .ref (n + 3), .int 0, .ref (n + 4), .ref (n + 5), .ref (n + 6), .int 0, .int 0, .ref (n + 7), .int 0, .ref (n + 8), .int 0]) hx hb hts hU hown hK hP.P 0 (bW_get (by decide)) (vwCl_at (by decide) (by decide)) 0 (by decide) (hw iwF_RX6_9) (fun x hx' => by rw [(kT0 (t := 6) (by decide) (by decide) 0 (by decide)).1] at hx'; exact hx') rfl dX6_init_81 ?_
  refine lv_iconst (v := 4) hx hb dX6_init_84 (by decide) ?_
  refine lv_iload_n hx hb dX6_init_85 rfl (lv_at hl 0 rfl) ?_
  refine lv_iadd hx hb dX6_init_86 ?_
  refine lv_bipush (v := 50) hx hb dX6_init_87 (by decide) ?_
  refine b_ast (k := 1) (t0 := 0) hx hb hK hP hS (by decide) rfl rfl (by unfold vp_in; decide) dX6_init_89 rfl (fun H locs hP hS => ?_)
  refine lv_iinc (v := 3) (lv' := [(1, .int 3), (0, .ref n)]) hx hb dX6_init_90 hl (k := 0) rfl (by decide) (by decide) rfl (fun ls hl => ?_)
  refine lv_goto (tgt := 75) hx hb dX6_init_93 (by decide) ?_
  refine lv_iload_n hx hb dX6_init_75 rfl (lv_at hl 0 rfl) ?_
  refine lv_iconst (v := 5) hx hb dX6_init_76 (by decide) ?_
  refine lv_icmp_ge (tgt := 96) hx hb dX6_init_77 (by decide) (fun q => ?_) (fun q => ?_)
  exact absurd q (by decide)
  refine lv_aload_n hx hb dX6_init_80 rfl (lv_at hl 1 rfl) ?_
  refine va_get (C := ownS 6) (T := TT 6) (N := NN 6) (ci := 6 - 2) (ref := ownS 6) (v := .ref (n + 1)) (fs := [.ref (n + 1), .ref (n + 2), .ref (n + 3), .int 0, .ref (n + 4), .ref (n + 5), .ref (n + 6), .int 0, .int 0, .ref (n + 7), .int 0, .ref (n + 8), .int 0]) hx hb hts hU hown hK hP.P 0 (bW_get (by decide)) (vwCl_at (by decide) (by decide)) 0 (by decide) (hw iwF_RX6_9) (fun x hx' => by rw [(kT0 (t := 6) (by decide) (by decide) 0 (by decide)).1] at hx'; exact hx') rfl dX6_init_81 ?_
  refine lv_iconst (v := 4) hx hb dX6_init_84 (by decide) ?_
  refine lv_iload_n hx hb dX6_init_85 rfl (lv_at hl 0 rfl) ?_
  refine lv_iadd hx hb dX6_init_86 ?_
  refine lv_bipush (v := 50) hx hb dX6_init_87 (by decide) ?_
  refine b_ast (k := 1) (t0 := 0) hx hb hK hP hS (by decide) rfl rfl (by unfold vp_in; decide) dX6_init_89 rfl (fun H locs hP hS => ?_)
  refine lv_iinc (v := 4) (lv' := [(1, .int 4), (0, .ref n)]) hx hb dX6_init_90 hl (k := 0) rfl (by decide) (by decide) rfl (fun ls hl => ?_)
  refine lv_goto (tgt := 75) hx hb dX6_init_93 (by decide) ?_
  refine lv_iload_n hx hb dX6_init_75 rfl (lv_at hl 0 rfl) ?_
  refine lv_iconst (v := 5) hx hb dX6_init_76 (by decide) ?_
  refine lv_icmp_ge (tgt := 96) hx hb dX6_init_77 (by decide) (fun q => ?_) (fun q => ?_)
  exact absurd q (by decide)
  refine lv_aload_n hx hb dX6_init_80 rfl (lv_at hl 1 rfl) ?_
  refine va_get (C := ownS 6) (T := TT 6) (N := NN 6) (ci := 6 - 2) (ref := ownS 6) (v := .ref (n + 1)) (fs := [.ref (n + 1), .ref (n + 2), .ref (n + 3), .int 0, .ref (n + 4), .ref (n + 5), .ref (n + 6), .int 0, .int 0, .ref (n + 7), .int 0, .ref (n + 8), .int 0]) hx hb hts hU hown hK hP.P 0 (bW_get (by decide)) (vwCl_at (by decide) (by decide)) 0 (by decide) (hw iwF_RX6_9) (fun x hx' => by rw [(kT0 (t := 6) (by decide) (by decide) 0 (by decide)).1] at hx'; exact hx') rfl dX6_init_81 ?_
  refine lv_iconst (v := 4) hx hb dX6_init_84 (by decide) ?_
  refine lv_iload_n hx hb dX6_init_85 rfl (lv_at hl 0 rfl) ?_
  refine lv_iadd hx hb dX6_init_86 ?_
  refine lv_bipush (v := 50) hx hb dX6_init_87 (by decide) ?_
  refine b_ast (k := 1) (t0 := 0) hx hb hK hP hS (by decide) rfl rfl (by unfold vp_in; decide) dX6_init_89 rfl (fun H locs hP hS => ?_)
  refine lv_iinc (v := 5) (lv' := [(1, .int 5), (0, .ref n)]) hx hb dX6_init_90 hl (k := 0) rfl (by decide) (by decide) rfl (fun ls hl => ?_)
  refine lv_goto (tgt := 75) hx hb dX6_init_93 (by decide) ?_
  refine lv_iload_n hx hb dX6_init_75 rfl (lv_at hl 0 rfl) ?_
  refine lv_iconst (v := 5) hx hb dX6_init_76 (by decide) ?_
  refine lv_icmp_ge (tgt := 96) hx hb dX6_init_77 (by decide) (fun q => ?_) (fun q => ?_)
  rotate_left; exact absurd (by decide) q
  have hP9 : bP D n 9 (iE6 cs n) _ := hP.to (fun k hk h => by
    match k, hk with
    | 0, _ => exact h
    | 1, _ => exact at_ext h (by decide +kernel)
    | 2, _ => exact h
    | 3, _ => exact h
    | 4, _ => exact h
    | 5, _ => exact h
    | 6, _ => exact h
    | 7, _ => exact h
    | 8, _ => exact h)
  exact W.vret hx hb hr (fun t ht hW => ⟨⟨(), rfl, trivial, show bP D n 9 (iE6 cs n) t.heap by rw [ht]; exact hP9⟩, hS.F ht⟩) hS.2.2 dX6_init_96
