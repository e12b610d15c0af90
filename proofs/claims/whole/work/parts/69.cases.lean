def R_law : String := "CopyOfACopyLaw"
theorem lcx (x : Int64) : lg_cmp x x = 0 := by unfold lg_cmp; rw [if_neg (fun q => absurd (Int64.lt_iff_toInt_lt.mp q) (Int.lt_irrefl _)), if_pos rfl]
theorem iwO : Cond.arrayOver (.array .int) ∈ lw_tbl := (lw_m1 (List.mem_of_getElem? (i := 35) rfl))
theorem lwM_eX5_letter : inW (.methodLink R_law 13 yX5_letter) := ⟨(lw_m1 (List.mem_of_getElem? (i := 151) rfl)), rfl⟩
theorem lwI_eX5_letter : inW (.instanceMethod yX5_letter) := ⟨(lw_m1 (List.mem_of_getElem? (i := 152) rfl)), rfl⟩
theorem lwS_eX5_letter : inW (.selects RX5 yX5_letter yX5_letter) := ⟨(lw_m1 (List.mem_of_getElem? (i := 153) rfl)), rfl⟩
theorem lwM_eX6_letter : inW (.methodLink R_law 17 yX6_letter) := ⟨(lw_m4 (List.mem_of_getElem? (i := 138) rfl)), rfl⟩
theorem lwI_eX6_letter : inW (.instanceMethod yX6_letter) := ⟨(lw_m4 (List.mem_of_getElem? (i := 139) rfl)), rfl⟩
theorem lwS_eX6_letter : inW (.selects RX6 yX6_letter yX6_letter) := ⟨(lw_m4 (List.mem_of_getElem? (i := 140) rfl)), rfl⟩
theorem lc_letter {p : Program} {l : Launch} {e : Env} {s : State} {m : MethodId} {below : List Frame} {meth : Method} {c : Code} {H : Heap} {locs : List Loc} {cells slots : Nat} {Q : State → Prop} {ls : Array Slot} {b L : Nat} {xs : Nat → Int32} {x3 : Int32} {D : va_G} {cs : ClassId × ClassId × ClassId} {kc : Nat → Nat} {fv : Value} {h : mH} (hx : p.tables.exec = Jvm.exec) (hb : c.code = code) (hml : c.maxLocals = 4) (hown : s.vm.findClass R_law = some m.cls) (hts : ∀ w ∈ lw_tbl, w.before #[Value.ref b] s = true) (hX : va_X b L xs s s.heap) (hbl : b < s.heap.size) (hfv : fv = .null ∨ ∃ a, fv = .ref a) (F : wFx D cs (adK s.heap.size kc) fv s s.heap) (I : Inv h) (hP : va_P D vwCl (wL cs (adK s.heap.size kc) h) H) (hS : va_S (fun q => s.heap.size ≤ q) s.heap H locs) (hl : lv_has ls 4 [(0, .ref b), (1, .ref (adK s.heap.size kc 0)), (2, .ref (adK s.heap.size kc 59)), (3, .int x3)]) (hin : ∀ j : Int32, j = 1 ∨ j = 2 ∨ j = 3 ∨ j = 4 ∨ j = 5 → vp_in (x3 + j) L) (hcl : cells ≤ 600000) (hsl : slots ≤ 7302250)
    (kk : ∀ (h2 : mH) (H1 : Heap) (locs1 : List Loc), Inv h2 → va_P D vwCl (wL cs (adK s.heap.size kc) h2) H1 → va_S (fun q => s.heap.size ≤ q) s.heap H1 locs1 → W p l e room_1 s m #[Value.ref b] below meth c H1 locs1 cells slots Q (F0 m 1235 ls [])) : W p l e room_1 s m #[Value.ref b] below meth c H locs cells slots Q (F0 m 200 ls []) := by
  have hbA : ¬ (fun q : Nat => s.heap.size ≤ q) b := Nat.not_le.mpr hbl
  obtain ⟨v, h1, h2, ⟨x, rfl⟩, c1, c2, I2⟩ := pf_letter (xs (x3 + 1).toNatClampNeg) h I
  refine lv_aload_n hx hb dL_law_200 rfl (lv_at hl 1 rfl) ?_
  refine lv_aload_n hx hb dL_law_201 rfl (lv_at hl 0 rfl) ?_
  refine lv_iload_n hx hb dL_law_202 rfl (lv_at hl 3 rfl) ?_
  refine lv_iconst (v := 1) hx hb dL_law_203 (by decide) ?_
  refine lv_iadd hx hb dL_law_204 ?_
  refine va_sld hx hb hX hbl hbA hS (hin 1 (by decide)) dL_law_205 ?_
  refine lw_call (E := eX5_letter) (as := [.int (xs (x3 + 1).toNatClampNeg)]) (b := 0) (nn := 1) (rest := []) ⟨hx, hb, hml, hown, hts⟩ hfv F hP hS kE_X5_letter (by decide) rfl (Or.inl rfl) lwM_eX5_letter lwI_eX5_letter lwS_eX5_letter (by decide +kernel) rfl c1 rfl ⟨Nat.le_of_ble_eq_true rfl, Nat.le_of_ble_eq_true rfl⟩ hl.1 (lv_room (Nat.le_of_ble_eq_true rfl)) hcl hsl dL_law_206 (fun H locs hP hS => ?_)
  refine lv_aload_n hx hb dL_law_209 rfl (lv_at hl 2 rfl) ?_
  refine lv_aload_n hx hb dL_law_210 rfl (lv_at hl 0 rfl) ?_
  refine lv_iload_n hx hb dL_law_211 rfl (lv_at hl 3 rfl) ?_
  refine lv_iconst (v := 1) hx hb dL_law_212 (by decide) ?_
  refine lv_iadd hx hb dL_law_213 ?_
  refine va_sld hx hb hX hbl hbA hS (hin 1 (by decide)) dL_law_214 ?_
  refine lw_call (E := eX6_letter) (as := [.int (xs (x3 + 1).toNatClampNeg)]) (b := 59) (nn := 1) (rest := [.int x]) ⟨hx, hb, hml, hown, hts⟩ hfv F hP hS kE_X6_letter (by decide) rfl (Or.inr rfl) lwM_eX6_letter lwI_eX6_letter lwS_eX6_letter (by decide +kernel) rfl c2 rfl ⟨Nat.le_of_ble_eq_true rfl, Nat.le_of_ble_eq_true rfl⟩ hl.1 (lv_room (Nat.le_of_ble_eq_true rfl)) hcl hsl dL_law_215 (fun H locs hP hS => ?_)
  exact lv_icmp_eq (tgt := 1235) hx hb dL_law_218 (by decide) (fun _ => kk h2 _ _ I2 hP hS) (fun q => absurd rfl q)
theorem lwM_eX5_lock : inW (.methodLink R_law 18 yX5_lock) := ⟨(lw_m1 (List.mem_of_getElem? (i := 167) rfl)), rfl⟩
theorem lwI_eX5_lock : inW (.instanceMethod yX5_lock) := ⟨(lw_m1 (List.mem_of_getElem? (i := 168) rfl)), rfl⟩
theorem lwS_eX5_lock : inW (.selects RX5 yX5_lock yX5_lock) := ⟨(lw_m1 (List.mem_of_getElem? (i := 169) rfl)), rfl⟩
theorem lwM_eX6_lock : inW (.methodLink R_law 22 yX6_lock) := ⟨(lw_m4 (List.mem_of_getElem? (i := 146) rfl)), rfl⟩
theorem lwI_eX6_lock : inW (.instanceMethod yX6_lock) := ⟨(lw_m4 (List.mem_of_getElem? (i := 147) rfl)), rfl⟩
theorem lwS_eX6_lock : inW (.selects RX6 yX6_lock yX6_lock) := ⟨(lw_m4 (List.mem_of_getElem? (i := 148) rfl)), rfl⟩
theorem lc_lock {p : Program} {l : Launch} {e : Env} {s : State} {m : MethodId} {below : List Frame} {meth : Method} {c : Code} {H : Heap} {locs : List Loc} {cells slots : Nat} {Q : State → Prop} {ls : Array Slot} {b L : Nat} {xs : Nat → Int32} {x3 : Int32} {D : va_G} {cs : ClassId × ClassId × ClassId} {kc : Nat → Nat} {fv : Value} {h : mH} (hx : p.tables.exec = Jvm.exec) (hb : c.code = code) (hml : c.maxLocals = 4) (hown : s.vm.findClass R_law = some m.cls) (hts : ∀ w ∈ lw_tbl, w.before #[Value.ref b] s = true) (hX : va_X b L xs s s.heap) (hbl : b < s.heap.size) (hfv : fv = .null ∨ ∃ a, fv = .ref a) (F : wFx D cs (adK s.heap.size kc) fv s s.heap) (I : Inv h) (hP : va_P D vwCl (wL cs (adK s.heap.size kc) h) H) (hS : va_S (fun q => s.heap.size ≤ q) s.heap H locs) (hl : lv_has ls 4 [(0, .ref b), (1, .ref (adK s.heap.size kc 0)), (2, .ref (adK s.heap.size kc 59)), (3, .int x3)]) (hin : ∀ j : Int32, j = 1 ∨ j = 2 ∨ j = 3 ∨ j = 4 ∨ j = 5 → vp_in (x3 + j) L) (hcl : cells ≤ 600000) (hsl : slots ≤ 7302250)
    (kk : ∀ (h2 : mH) (H1 : Heap) (locs1 : List Loc), Inv h2 → va_P D vwCl (wL cs (adK s.heap.size kc) h2) H1 → va_S (fun q => s.heap.size ≤ q) s.heap H1 locs1 → W p l e room_1 s m #[Value.ref b] below meth c H1 locs1 cells slots Q (F0 m 1235 ls [])) : W p l e room_1 s m #[Value.ref b] below meth c H locs cells slots Q (F0 m 223 ls []) := by
  have hbA : ¬ (fun q : Nat => s.heap.size ≤ q) b := Nat.not_le.mpr hbl
  obtain ⟨v, h1, h2, ⟨x, rfl⟩, c1, c2, I2⟩ := pf_lock h I
  refine lv_aload_n hx hb dL_law_223 rfl (lv_at hl 1 rfl) ?_
  refine lw_call (E := eX5_lock) (as := []) (b := 0) (nn := 0) (rest := []) ⟨hx, hb, hml, hown, hts⟩ hfv F hP hS kE_X5_lock (by decide) rfl (Or.inl rfl) lwM_eX5_lock lwI_eX5_lock lwS_eX5_lock (by decide +kernel) rfl c1 rfl ⟨Nat.le_of_ble_eq_true rfl, Nat.le_of_ble_eq_true rfl⟩ hl.1 (lv_room (Nat.le_of_ble_eq_true rfl)) hcl hsl dL_law_224 (fun H locs hP hS => ?_)
  refine lv_aload_n hx hb dL_law_227 rfl (lv_at hl 2 rfl) ?_
  refine lw_call (E := eX6_lock) (as := []) (b := 59) (nn := 0) (rest := [.int x]) ⟨hx, hb, hml, hown, hts⟩ hfv F hP hS kE_X6_lock (by decide) rfl (Or.inr rfl) lwM_eX6_lock lwI_eX6_lock lwS_eX6_lock (by decide +kernel) rfl c2 rfl ⟨Nat.le_of_ble_eq_true rfl, Nat.le_of_ble_eq_true rfl⟩ hl.1 (lv_room (Nat.le_of_ble_eq_true rfl)) hcl hsl dL_law_228 (fun H locs hP hS => ?_)
  exact lv_icmp_eq (tgt := 1235) hx hb dL_law_231 (by decide) (fun _ => kk h2 _ _ I2 hP hS) (fun q => absurd rfl q)
theorem lwM_eX5_pin : inW (.methodLink R_law 23 yX5_pin) := ⟨(lw_m2 (List.mem_of_getElem? (i := 160) rfl)), rfl⟩
theorem lwI_eX5_pin : inW (.instanceMethod yX5_pin) := ⟨(lw_m2 (List.mem_of_getElem? (i := 161) rfl)), rfl⟩
theorem lwS_eX5_pin : inW (.selects RX5 yX5_pin yX5_pin) := ⟨(lw_m2 (List.mem_of_getElem? (i := 162) rfl)), rfl⟩
theorem lwM_eX6_pin : inW (.methodLink R_law 26 yX6_pin) := ⟨(lw_m4 (List.mem_of_getElem? (i := 233) rfl)), rfl⟩
theorem lwI_eX6_pin : inW (.instanceMethod yX6_pin) := ⟨(lw_m4 (List.mem_of_getElem? (i := 234) rfl)), rfl⟩
theorem lwS_eX6_pin : inW (.selects RX6 yX6_pin yX6_pin) := ⟨(lw_m4 (List.mem_of_getElem? (i := 235) rfl)), rfl⟩
theorem lc_pin {p : Program} {l : Launch} {e : Env} {s : State} {m : MethodId} {below : List Frame} {meth : Method} {c : Code} {H : Heap} {locs : List Loc} {cells slots : Nat} {Q : State → Prop} {ls : Array Slot} {b L : Nat} {xs : Nat → Int32} {x3 : Int32} {D : va_G} {cs : ClassId × ClassId × ClassId} {kc : Nat → Nat} {fv : Value} {h : mH} (hx : p.tables.exec = Jvm.exec) (hb : c.code = code) (hml : c.maxLocals = 4) (hown : s.vm.findClass R_law = some m.cls) (hts : ∀ w ∈ lw_tbl, w.before #[Value.ref b] s = true) (hX : va_X b L xs s s.heap) (hbl : b < s.heap.size) (hfv : fv = .null ∨ ∃ a, fv = .ref a) (F : wFx D cs (adK s.heap.size kc) fv s s.heap) (I : Inv h) (hP : va_P D vwCl (wL cs (adK s.heap.size kc) h) H) (hS : va_S (fun q => s.heap.size ≤ q) s.heap H locs) (hl : lv_has ls 4 [(0, .ref b), (1, .ref (adK s.heap.size kc 0)), (2, .ref (adK s.heap.size kc 59)), (3, .int x3)]) (hin : ∀ j : Int32, j = 1 ∨ j = 2 ∨ j = 3 ∨ j = 4 ∨ j = 5 → vp_in (x3 + j) L) (hcl : cells ≤ 600000) (hsl : slots ≤ 7302250)
    (kk : ∀ (h2 : mH) (H1 : Heap) (locs1 : List Loc), Inv h2 → va_P D vwCl (wL cs (adK s.heap.size kc) h2) H1 → va_S (fun q => s.heap.size ≤ q) s.heap H1 locs1 → W p l e room_1 s m #[Value.ref b] below meth c H1 locs1 cells slots Q (F0 m 1235 ls [])) : W p l e room_1 s m #[Value.ref b] below meth c H locs cells slots Q (F0 m 236 ls []) := by
  have hbA : ¬ (fun q : Nat => s.heap.size ≤ q) b := Nat.not_le.mpr hbl
  obtain ⟨v, h1, h2, ⟨x, rfl⟩, c1, c2, I2⟩ := pf_pin (xs (x3 + 1).toNatClampNeg) h I
  refine lv_aload_n hx hb dL_law_236 rfl (lv_at hl 1 rfl) ?_
  refine lv_aload_n hx hb dL_law_237 rfl (lv_at hl 0 rfl) ?_
  refine lv_iload_n hx hb dL_law_238 rfl (lv_at hl 3 rfl) ?_
  refine lv_iconst (v := 1) hx hb dL_law_239 (by decide) ?_
  refine lv_iadd hx hb dL_law_240 ?_
  refine va_sld hx hb hX hbl hbA hS (hin 1 (by decide)) dL_law_241 ?_
  refine lw_call (E := eX5_pin) (as := [.int (xs (x3 + 1).toNatClampNeg)]) (b := 0) (nn := 1) (rest := []) ⟨hx, hb, hml, hown, hts⟩ hfv F hP hS kE_X5_pin (by decide) rfl (Or.inl rfl) lwM_eX5_pin lwI_eX5_pin lwS_eX5_pin (by decide +kernel) rfl c1 rfl ⟨Nat.le_of_ble_eq_true rfl, Nat.le_of_ble_eq_true rfl⟩ hl.1 (lv_room (Nat.le_of_ble_eq_true rfl)) hcl hsl dL_law_242 (fun H locs hP hS => ?_)
  refine lv_aload_n hx hb dL_law_245 rfl (lv_at hl 2 rfl) ?_
  refine lv_aload_n hx hb dL_law_246 rfl (lv_at hl 0 rfl) ?_
  refine lv_iload_n hx hb dL_law_247 rfl (lv_at hl 3 rfl) ?_
  refine lv_iconst (v := 1) hx hb dL_law_248 (by decide) ?_
  refine lv_iadd hx hb dL_law_249 ?_
  refine va_sld hx hb hX hbl hbA hS (hin 1 (by decide)) dL_law_250 ?_
  refine lw_call (E := eX6_pin) (as := [.int (xs (x3 + 1).toNatClampNeg)]) (b := 59) (nn := 1) (rest := [.int x]) ⟨hx, hb, hml, hown, hts⟩ hfv F hP hS kE_X6_pin (by decide) rfl (Or.inr rfl) lwM_eX6_pin lwI_eX6_pin lwS_eX6_pin (by decide +kernel) rfl c2 rfl ⟨Nat.le_of_ble_eq_true rfl, Nat.le_of_ble_eq_true rfl⟩ hl.1 (lv_room (Nat.le_of_ble_eq_true rfl)) hcl hsl dL_law_251 (fun H locs hP hS => ?_)
  exact lv_icmp_eq (tgt := 1235) hx hb dL_law_254 (by decide) (fun _ => kk h2 _ _ I2 hP hS) (fun q => absurd rfl q)
theorem lwM_eX5_key : inW (.methodLink R_law 27 yX5_key) := ⟨(lw_m2 (List.mem_of_getElem? (i := 167) rfl)), rfl⟩
theorem lwI_eX5_key : inW (.instanceMethod yX5_key) := ⟨(lw_m2 (List.mem_of_getElem? (i := 168) rfl)), rfl⟩
theorem lwS_eX5_key : inW (.selects RX5 yX5_key yX5_key) := ⟨(lw_m2 (List.mem_of_getElem? (i := 169) rfl)), rfl⟩
theorem lwM_eX6_key : inW (.methodLink R_law 31 yX6_key) := ⟨(lw_m5 (List.mem_of_getElem? (i := 0) rfl)), rfl⟩
theorem lwI_eX6_key : inW (.instanceMethod yX6_key) := ⟨(lw_m5 (List.mem_of_getElem? (i := 1) rfl)), rfl⟩
theorem lwS_eX6_key : inW (.selects RX6 yX6_key yX6_key) := ⟨(lw_m5 (List.mem_of_getElem? (i := 2) rfl)), rfl⟩
theorem lc_key {p : Program} {l : Launch} {e : Env} {s : State} {m : MethodId} {below : List Frame} {meth : Method} {c : Code} {H : Heap} {locs : List Loc} {cells slots : Nat} {Q : State → Prop} {ls : Array Slot} {b L : Nat} {xs : Nat → Int32} {x3 : Int32} {D : va_G} {cs : ClassId × ClassId × ClassId} {kc : Nat → Nat} {fv : Value} {h : mH} (hx : p.tables.exec = Jvm.exec) (hb : c.code = code) (hml : c.maxLocals = 4) (hown : s.vm.findClass R_law = some m.cls) (hts : ∀ w ∈ lw_tbl, w.before #[Value.ref b] s = true) (hX : va_X b L xs s s.heap) (hbl : b < s.heap.size) (hfv : fv = .null ∨ ∃ a, fv = .ref a) (F : wFx D cs (adK s.heap.size kc) fv s s.heap) (I : Inv h) (hP : va_P D vwCl (wL cs (adK s.heap.size kc) h) H) (hS : va_S (fun q => s.heap.size ≤ q) s.heap H locs) (hl : lv_has ls 4 [(0, .ref b), (1, .ref (adK s.heap.size kc 0)), (2, .ref (adK s.heap.size kc 59)), (3, .int x3)]) (hin : ∀ j : Int32, j = 1 ∨ j = 2 ∨ j = 3 ∨ j = 4 ∨ j = 5 → vp_in (x3 + j) L) (hcl : cells ≤ 600000) (hsl : slots ≤ 7302250)
    (kk : ∀ (h2 : mH) (H1 : Heap) (locs1 : List Loc), Inv h2 → va_P D vwCl (wL cs (adK s.heap.size kc) h2) H1 → va_S (fun q => s.heap.size ≤ q) s.heap H1 locs1 → W p l e room_1 s m #[Value.ref b] below meth c H1 locs1 cells slots Q (F0 m 1235 ls [])) : W p l e room_1 s m #[Value.ref b] below meth c H locs cells slots Q (F0 m 259 ls []) := by
  have hbA : ¬ (fun q : Nat => s.heap.size ≤ q) b := Nat.not_le.mpr hbl
  obtain ⟨v, h1, h2, ⟨x, rfl⟩, c1, c2, I2⟩ := pf_key (xs (x3 + 1).toNatClampNeg) (xs (x3 + 2).toNatClampNeg) h I
  refine lv_aload_n hx hb dL_law_259 rfl (lv_at hl 1 rfl) ?_
  refine lv_aload_n hx hb dL_law_260 rfl (lv_at hl 0 rfl) ?_
  refine lv_iload_n hx hb dL_law_261 rfl (lv_at hl 3 rfl) ?_
  refine lv_iconst (v := 1) hx hb dL_law_262 (by decide) ?_
  refine lv_iadd hx hb dL_law_263 ?_
  refine va_sld hx hb hX hbl hbA hS (hin 1 (by decide)) dL_law_264 ?_
  refine lv_aload_n hx hb dL_law_265 rfl (lv_at hl 0 rfl) ?_
  refine lv_iload_n hx hb dL_law_266 rfl (lv_at hl 3 rfl) ?_
  refine lv_iconst (v := 2) hx hb dL_law_267 (by decide) ?_
  refine lv_iadd hx hb dL_law_268 ?_
  refine va_sld hx hb hX hbl hbA hS (hin 2 (by decide)) dL_law_269 ?_
  refine lw_call (E := eX5_key) (as := [.int (xs (x3 + 1).toNatClampNeg), .int (xs (x3 + 2).toNatClampNeg)]) (b := 0) (nn := 2) (rest := []) ⟨hx, hb, hml, hown, hts⟩ hfv F hP hS kE_X5_key (by decide) rfl (Or.inl rfl) lwM_eX5_key lwI_eX5_key lwS_eX5_key (by decide +kernel) rfl c1 rfl ⟨Nat.le_of_ble_eq_true rfl, Nat.le_of_ble_eq_true rfl⟩ hl.1 (lv_room (Nat.le_of_ble_eq_true rfl)) hcl hsl dL_law_270 (fun H locs hP hS => ?_)
  refine lv_aload_n hx hb dL_law_273 rfl (lv_at hl 2 rfl) ?_
  refine lv_aload_n hx hb dL_law_274 rfl (lv_at hl 0 rfl) ?_
  refine lv_iload_n hx hb dL_law_275 rfl (lv_at hl 3 rfl) ?_
  refine lv_iconst (v := 1) hx hb dL_law_276 (by decide) ?_
  refine lv_iadd hx hb dL_law_277 ?_
  refine va_sld hx hb hX hbl hbA hS (hin 1 (by decide)) dL_law_278 ?_
  refine lv_aload_n hx hb dL_law_279 rfl (lv_at hl 0 rfl) ?_
  refine lv_iload_n hx hb dL_law_280 rfl (lv_at hl 3 rfl) ?_
  refine lv_iconst (v := 2) hx hb dL_law_281 (by decide) ?_
  refine lv_iadd hx hb dL_law_282 ?_
  refine va_sld hx hb hX hbl hbA hS (hin 2 (by decide)) dL_law_283 ?_
  refine lw_call (E := eX6_key) (as := [.int (xs (x3 + 1).toNatClampNeg), .int (xs (x3 + 2).toNatClampNeg)]) (b := 59) (nn := 2) (rest := [.int x]) ⟨hx, hb, hml, hown, hts⟩ hfv F hP hS kE_X6_key (by decide) rfl (Or.inr rfl) lwM_eX6_key lwI_eX6_key lwS_eX6_key (by decide +kernel) rfl c2 rfl ⟨Nat.le_of_ble_eq_true rfl, Nat.le_of_ble_eq_true rfl⟩ hl.1 (lv_room (Nat.le_of_ble_eq_true rfl)) hcl hsl dL_law_284 (fun H locs hP hS => ?_)
  exact lv_icmp_eq (tgt := 1235) hx hb dL_law_287 (by decide) (fun _ => kk h2 _ _ I2 hP hS) (fun q => absurd rfl q)
theorem lwM_eX5_machine : inW (.methodLink R_law 32 yX5_machine) := ⟨(lw_m2 (List.mem_of_getElem? (i := 195) rfl)), rfl⟩
theorem lwI_eX5_machine : inW (.instanceMethod yX5_machine) := ⟨(lw_m2 (List.mem_of_getElem? (i := 196) rfl)), rfl⟩
theorem lwS_eX5_machine : inW (.selects RX5 yX5_machine yX5_machine) := ⟨(lw_m2 (List.mem_of_getElem? (i := 197) rfl)), rfl⟩
theorem lwM_eX6_machine : inW (.methodLink R_law 35 yX6_machine) := ⟨(lw_m5 (List.mem_of_getElem? (i := 31) rfl)), rfl⟩
theorem lwI_eX6_machine : inW (.instanceMethod yX6_machine) := ⟨(lw_m5 (List.mem_of_getElem? (i := 32) rfl)), rfl⟩
theorem lwS_eX6_machine : inW (.selects RX6 yX6_machine yX6_machine) := ⟨(lw_m5 (List.mem_of_getElem? (i := 33) rfl)), rfl⟩
theorem lc_machine {p : Program} {l : Launch} {e : Env} {s : State} {m : MethodId} {below : List Frame} {meth : Method} {c : Code} {H : Heap} {locs : List Loc} {cells slots : Nat} {Q : State → Prop} {ls : Array Slot} {b L : Nat} {xs : Nat → Int32} {x3 : Int32} {D : va_G} {cs : ClassId × ClassId × ClassId} {kc : Nat → Nat} {fv : Value} {h : mH} (hx : p.tables.exec = Jvm.exec) (hb : c.code = code) (hml : c.maxLocals = 4) (hown : s.vm.findClass R_law = some m.cls) (hts : ∀ w ∈ lw_tbl, w.before #[Value.ref b] s = true) (hX : va_X b L xs s s.heap) (hbl : b < s.heap.size) (hfv : fv = .null ∨ ∃ a, fv = .ref a) (F : wFx D cs (adK s.heap.size kc) fv s s.heap) (I : Inv h) (hP : va_P D vwCl (wL cs (adK s.heap.size kc) h) H) (hS : va_S (fun q => s.heap.size ≤ q) s.heap H locs) (hl : lv_has ls 4 [(0, .ref b), (1, .ref (adK s.heap.size kc 0)), (2, .ref (adK s.heap.size kc 59)), (3, .int x3)]) (hin : ∀ j : Int32, j = 1 ∨ j = 2 ∨ j = 3 ∨ j = 4 ∨ j = 5 → vp_in (x3 + j) L) (hcl : cells ≤ 600000) (hsl : slots ≤ 7302250)
    (kk : ∀ (h2 : mH) (H1 : Heap) (locs1 : List Loc), Inv h2 → va_P D vwCl (wL cs (adK s.heap.size kc) h2) H1 → va_S (fun q => s.heap.size ≤ q) s.heap H1 locs1 → W p l e room_1 s m #[Value.ref b] below meth c H1 locs1 cells slots Q (F0 m 1235 ls [])) : W p l e room_1 s m #[Value.ref b] below meth c H locs cells slots Q (F0 m 292 ls []) := by
  have hbA : ¬ (fun q : Nat => s.heap.size ≤ q) b := Nat.not_le.mpr hbl
  obtain ⟨v, h1, h2, ⟨x, rfl⟩, c1, c2, I2⟩ := pf_machine (xs (x3 + 1).toNatClampNeg) (xs (x3 + 2).toNatClampNeg) h I
  refine lv_aload_n hx hb dL_law_292 rfl (lv_at hl 1 rfl) ?_
  refine lv_aload_n hx hb dL_law_293 rfl (lv_at hl 0 rfl) ?_
  refine lv_iload_n hx hb dL_law_294 rfl (lv_at hl 3 rfl) ?_
  refine lv_iconst (v := 1) hx hb dL_law_295 (by decide) ?_
  refine lv_iadd hx hb dL_law_296 ?_
  refine va_sld hx hb hX hbl hbA hS (hin 1 (by decide)) dL_law_297 ?_
  refine lv_aload_n hx hb dL_law_298 rfl (lv_at hl 0 rfl) ?_
  refine lv_iload_n hx hb dL_law_299 rfl (lv_at hl 3 rfl) ?_
  refine lv_iconst (v := 2) hx hb dL_law_300 (by decide) ?_
  refine lv_iadd hx hb dL_law_301 ?_
  refine va_sld hx hb hX hbl hbA hS (hin 2 (by decide)) dL_law_302 ?_
  refine lw_call (E := eX5_machine) (as := [.int (xs (x3 + 1).toNatClampNeg), .int (xs (x3 + 2).toNatClampNeg)]) (b := 0) (nn := 2) (rest := []) ⟨hx, hb, hml, hown, hts⟩ hfv F hP hS kE_X5_machine (by decide) rfl (Or.inl rfl) lwM_eX5_machine lwI_eX5_machine lwS_eX5_machine (by decide +kernel) rfl c1 rfl ⟨Nat.le_of_ble_eq_true rfl, Nat.le_of_ble_eq_true rfl⟩ hl.1 (lv_room (Nat.le_of_ble_eq_true rfl)) hcl hsl dL_law_303 (fun H locs hP hS => ?_)
  refine lv_aload_n hx hb dL_law_306 rfl (lv_at hl 2 rfl) ?_
  refine lv_aload_n hx hb dL_law_307 rfl (lv_at hl 0 rfl) ?_
  refine lv_iload_n hx hb dL_law_308 rfl (lv_at hl 3 rfl) ?_
  refine lv_iconst (v := 1) hx hb dL_law_309 (by decide) ?_
  refine lv_iadd hx hb dL_law_310 ?_
  refine va_sld hx hb hX hbl hbA hS (hin 1 (by decide)) dL_law_311 ?_
  refine lv_aload_n hx hb dL_law_312 rfl (lv_at hl 0 rfl) ?_
  refine lv_iload_n hx hb dL_law_313 rfl (lv_at hl 3 rfl) ?_
  refine lv_iconst (v := 2) hx hb dL_law_314 (by decide) ?_
  refine lv_iadd hx hb dL_law_315 ?_
  refine va_sld hx hb hX hbl hbA hS (hin 2 (by decide)) dL_law_316 ?_
  refine lw_call (E := eX6_machine) (as := [.int (xs (x3 + 1).toNatClampNeg), .int (xs (x3 + 2).toNatClampNeg)]) (b := 59) (nn := 2) (rest := [.int x]) ⟨hx, hb, hml, hown, hts⟩ hfv F hP hS kE_X6_machine (by decide) rfl (Or.inr rfl) lwM_eX6_machine lwI_eX6_machine lwS_eX6_machine (by decide +kernel) rfl c2 rfl ⟨Nat.le_of_ble_eq_true rfl, Nat.le_of_ble_eq_true rfl⟩ hl.1 (lv_room (Nat.le_of_ble_eq_true rfl)) hcl hsl dL_law_317 (fun H locs hP hS => ?_)
  exact lv_icmp_eq (tgt := 1235) hx hb dL_law_320 (by decide) (fun _ => kk h2 _ _ I2 hP hS) (fun q => absurd rfl q)
theorem lwM_eX5_sets : inW (.methodLink R_law 36 yX5_sets) := ⟨(lw_m2 (List.mem_of_getElem? (i := 203) rfl)), rfl⟩
theorem lwI_eX5_sets : inW (.instanceMethod yX5_sets) := ⟨(lw_m2 (List.mem_of_getElem? (i := 204) rfl)), rfl⟩
theorem lwS_eX5_sets : inW (.selects RX5 yX5_sets yX5_sets) := ⟨(lw_m2 (List.mem_of_getElem? (i := 205) rfl)), rfl⟩
theorem lwM_eX6_sets : inW (.methodLink R_law 39 yX6_sets) := ⟨(lw_m5 (List.mem_of_getElem? (i := 35) rfl)), rfl⟩
theorem lwI_eX6_sets : inW (.instanceMethod yX6_sets) := ⟨(lw_m5 (List.mem_of_getElem? (i := 36) rfl)), rfl⟩
theorem lwS_eX6_sets : inW (.selects RX6 yX6_sets yX6_sets) := ⟨(lw_m5 (List.mem_of_getElem? (i := 37) rfl)), rfl⟩
theorem lc_sets {p : Program} {l : Launch} {e : Env} {s : State} {m : MethodId} {below : List Frame} {meth : Method} {c : Code} {H : Heap} {locs : List Loc} {cells slots : Nat} {Q : State → Prop} {ls : Array Slot} {b L : Nat} {xs : Nat → Int32} {x3 : Int32} {D : va_G} {cs : ClassId × ClassId × ClassId} {kc : Nat → Nat} {fv : Value} {h : mH} (hx : p.tables.exec = Jvm.exec) (hb : c.code = code) (hml : c.maxLocals = 4) (hown : s.vm.findClass R_law = some m.cls) (hts : ∀ w ∈ lw_tbl, w.before #[Value.ref b] s = true) (hX : va_X b L xs s s.heap) (hbl : b < s.heap.size) (hfv : fv = .null ∨ ∃ a, fv = .ref a) (F : wFx D cs (adK s.heap.size kc) fv s s.heap) (I : Inv h) (hP : va_P D vwCl (wL cs (adK s.heap.size kc) h) H) (hS : va_S (fun q => s.heap.size ≤ q) s.heap H locs) (hl : lv_has ls 4 [(0, .ref b), (1, .ref (adK s.heap.size kc 0)), (2, .ref (adK s.heap.size kc 59)), (3, .int x3)]) (hin : ∀ j : Int32, j = 1 ∨ j = 2 ∨ j = 3 ∨ j = 4 ∨ j = 5 → vp_in (x3 + j) L) (hcl : cells ≤ 600000) (hsl : slots ≤ 7302250)
    (kk : ∀ (h2 : mH) (H1 : Heap) (locs1 : List Loc), Inv h2 → va_P D vwCl (wL cs (adK s.heap.size kc) h2) H1 → va_S (fun q => s.heap.size ≤ q) s.heap H1 locs1 → W p l e room_1 s m #[Value.ref b] below meth c H1 locs1 cells slots Q (F0 m 1235 ls [])) : W p l e room_1 s m #[Value.ref b] below meth c H locs cells slots Q (F0 m 325 ls []) := by
  have hbA : ¬ (fun q : Nat => s.heap.size ≤ q) b := Nat.not_le.mpr hbl
  obtain ⟨v, h1, h2, ⟨x, rfl⟩, c1, c2, I2⟩ := pf_sets (xs (x3 + 1).toNatClampNeg) (xs (x3 + 2).toNatClampNeg) h I
  refine lv_aload_n hx hb dL_law_325 rfl (lv_at hl 1 rfl) ?_
  refine lv_aload_n hx hb dL_law_326 rfl (lv_at hl 0 rfl) ?_
  refine lv_iload_n hx hb dL_law_327 rfl (lv_at hl 3 rfl) ?_
  refine lv_iconst (v := 1) hx hb dL_law_328 (by decide) ?_
  refine lv_iadd hx hb dL_law_329 ?_
  refine va_sld hx hb hX hbl hbA hS (hin 1 (by decide)) dL_law_330 ?_
  refine lv_aload_n hx hb dL_law_331 rfl (lv_at hl 0 rfl) ?_
  refine lv_iload_n hx hb dL_law_332 rfl (lv_at hl 3 rfl) ?_
  refine lv_iconst (v := 2) hx hb dL_law_333 (by decide) ?_
  refine lv_iadd hx hb dL_law_334 ?_
  refine va_sld hx hb hX hbl hbA hS (hin 2 (by decide)) dL_law_335 ?_
  refine lw_call (E := eX5_sets) (as := [.int (xs (x3 + 1).toNatClampNeg), .int (xs (x3 + 2).toNatClampNeg)]) (b := 0) (nn := 2) (rest := []) ⟨hx, hb, hml, hown, hts⟩ hfv F hP hS kE_X5_sets (by decide) rfl (Or.inl rfl) lwM_eX5_sets lwI_eX5_sets lwS_eX5_sets (by decide +kernel) rfl c1 rfl ⟨Nat.le_of_ble_eq_true rfl, Nat.le_of_ble_eq_true rfl⟩ hl.1 (lv_room (Nat.le_of_ble_eq_true rfl)) hcl hsl dL_law_336 (fun H locs hP hS => ?_)
  refine lv_aload_n hx hb dL_law_339 rfl (lv_at hl 2 rfl) ?_
  refine lv_aload_n hx hb dL_law_340 rfl (lv_at hl 0 rfl) ?_
  refine lv_iload_n hx hb dL_law_341 rfl (lv_at hl 3 rfl) ?_
  refine lv_iconst (v := 1) hx hb dL_law_342 (by decide) ?_
  refine lv_iadd hx hb dL_law_343 ?_
  refine va_sld hx hb hX hbl hbA hS (hin 1 (by decide)) dL_law_344 ?_
  refine lv_aload_n hx hb dL_law_345 rfl (lv_at hl 0 rfl) ?_
  refine lv_iload_n hx hb dL_law_346 rfl (lv_at hl 3 rfl) ?_
  refine lv_iconst (v := 2) hx hb dL_law_347 (by decide) ?_
  refine lv_iadd hx hb dL_law_348 ?_
  refine va_sld hx hb hX hbl hbA hS (hin 2 (by decide)) dL_law_349 ?_
  refine lw_call (E := eX6_sets) (as := [.int (xs (x3 + 1).toNatClampNeg), .int (xs (x3 + 2).toNatClampNeg)]) (b := 59) (nn := 2) (rest := [.int x]) ⟨hx, hb, hml, hown, hts⟩ hfv F hP hS kE_X6_sets (by decide) rfl (Or.inr rfl) lwM_eX6_sets lwI_eX6_sets lwS_eX6_sets (by decide +kernel) rfl c2 rfl ⟨Nat.le_of_ble_eq_true rfl, Nat.le_of_ble_eq_true rfl⟩ hl.1 (lv_room (Nat.le_of_ble_eq_true rfl)) hcl hsl dL_law_350 (fun H locs hP hS => ?_)
  exact lv_icmp_eq (tgt := 1235) hx hb dL_law_353 (by decide) (fun _ => kk h2 _ _ I2 hP hS) (fun q => absurd rfl q)
theorem lwM_eX5_slack : inW (.methodLink R_law 40 yX5_slack) := ⟨(lw_m2 (List.mem_of_getElem? (i := 210) rfl)), rfl⟩
theorem lwI_eX5_slack : inW (.instanceMethod yX5_slack) := ⟨(lw_m2 (List.mem_of_getElem? (i := 211) rfl)), rfl⟩
theorem lwS_eX5_slack : inW (.selects RX5 yX5_slack yX5_slack) := ⟨(lw_m2 (List.mem_of_getElem? (i := 212) rfl)), rfl⟩
theorem lwM_eX6_slack : inW (.methodLink R_law 43 yX6_slack) := ⟨(lw_m5 (List.mem_of_getElem? (i := 42) rfl)), rfl⟩
theorem lwI_eX6_slack : inW (.instanceMethod yX6_slack) := ⟨(lw_m5 (List.mem_of_getElem? (i := 43) rfl)), rfl⟩
theorem lwS_eX6_slack : inW (.selects RX6 yX6_slack yX6_slack) := ⟨(lw_m5 (List.mem_of_getElem? (i := 44) rfl)), rfl⟩
theorem lc_slack {p : Program} {l : Launch} {e : Env} {s : State} {m : MethodId} {below : List Frame} {meth : Method} {c : Code} {H : Heap} {locs : List Loc} {cells slots : Nat} {Q : State → Prop} {ls : Array Slot} {b L : Nat} {xs : Nat → Int32} {x3 : Int32} {D : va_G} {cs : ClassId × ClassId × ClassId} {kc : Nat → Nat} {fv : Value} {h : mH} (hx : p.tables.exec = Jvm.exec) (hb : c.code = code) (hml : c.maxLocals = 4) (hown : s.vm.findClass R_law = some m.cls) (hts : ∀ w ∈ lw_tbl, w.before #[Value.ref b] s = true) (hX : va_X b L xs s s.heap) (hbl : b < s.heap.size) (hfv : fv = .null ∨ ∃ a, fv = .ref a) (F : wFx D cs (adK s.heap.size kc) fv s s.heap) (I : Inv h) (hP : va_P D vwCl (wL cs (adK s.heap.size kc) h) H) (hS : va_S (fun q => s.heap.size ≤ q) s.heap H locs) (hl : lv_has ls 4 [(0, .ref b), (1, .ref (adK s.heap.size kc 0)), (2, .ref (adK s.heap.size kc 59)), (3, .int x3)]) (hin : ∀ j : Int32, j = 1 ∨ j = 2 ∨ j = 3 ∨ j = 4 ∨ j = 5 → vp_in (x3 + j) L) (hcl : cells ≤ 600000) (hsl : slots ≤ 7302250)
    (kk : ∀ (h2 : mH) (H1 : Heap) (locs1 : List Loc), Inv h2 → va_P D vwCl (wL cs (adK s.heap.size kc) h2) H1 → va_S (fun q => s.heap.size ≤ q) s.heap H1 locs1 → W p l e room_1 s m #[Value.ref b] below meth c H1 locs1 cells slots Q (F0 m 1235 ls [])) : W p l e room_1 s m #[Value.ref b] below meth c H locs cells slots Q (F0 m 358 ls []) := by
  have hbA : ¬ (fun q : Nat => s.heap.size ≤ q) b := Nat.not_le.mpr hbl
  obtain ⟨v, h1, h2, ⟨x, rfl⟩, c1, c2, I2⟩ := pf_slack (xs (x3 + 1).toNatClampNeg) h I
  refine lv_aload_n hx hb dL_law_358 rfl (lv_at hl 1 rfl) ?_
  refine lv_aload_n hx hb dL_law_359 rfl (lv_at hl 0 rfl) ?_
  refine lv_iload_n hx hb dL_law_360 rfl (lv_at hl 3 rfl) ?_
  refine lv_iconst (v := 1) hx hb dL_law_361 (by decide) ?_
  refine lv_iadd hx hb dL_law_362 ?_
  refine va_sld hx hb hX hbl hbA hS (hin 1 (by decide)) dL_law_363 ?_
  refine lw_call (E := eX5_slack) (as := [.int (xs (x3 + 1).toNatClampNeg)]) (b := 0) (nn := 1) (rest := []) ⟨hx, hb, hml, hown, hts⟩ hfv F hP hS kE_X5_slack (by decide) rfl (Or.inl rfl) lwM_eX5_slack lwI_eX5_slack lwS_eX5_slack (by decide +kernel) rfl c1 rfl ⟨Nat.le_of_ble_eq_true rfl, Nat.le_of_ble_eq_true rfl⟩ hl.1 (lv_room (Nat.le_of_ble_eq_true rfl)) hcl hsl dL_law_364 (fun H locs hP hS => ?_)
  refine lv_aload_n hx hb dL_law_367 rfl (lv_at hl 2 rfl) ?_
  refine lv_aload_n hx hb dL_law_368 rfl (lv_at hl 0 rfl) ?_
  refine lv_iload_n hx hb dL_law_369 rfl (lv_at hl 3 rfl) ?_
  refine lv_iconst (v := 1) hx hb dL_law_370 (by decide) ?_
  refine lv_iadd hx hb dL_law_371 ?_
  refine va_sld hx hb hX hbl hbA hS (hin 1 (by decide)) dL_law_372 ?_
  refine lw_call (E := eX6_slack) (as := [.int (xs (x3 + 1).toNatClampNeg)]) (b := 59) (nn := 1) (rest := [.int x]) ⟨hx, hb, hml, hown, hts⟩ hfv F hP hS kE_X6_slack (by decide) rfl (Or.inr rfl) lwM_eX6_slack lwI_eX6_slack lwS_eX6_slack (by decide +kernel) rfl c2 rfl ⟨Nat.le_of_ble_eq_true rfl, Nat.le_of_ble_eq_true rfl⟩ hl.1 (lv_room (Nat.le_of_ble_eq_true rfl)) hcl hsl dL_law_373 (fun H locs hP hS => ?_)
  exact lv_icmp_eq (tgt := 1235) hx hb dL_law_376 (by decide) (fun _ => kk h2 _ _ I2 hP hS) (fun q => absurd rfl q)
theorem lwM_eX5_files : inW (.methodLink R_law 44 yX5_files) := ⟨(lw_m2 (List.mem_of_getElem? (i := 214) rfl)), rfl⟩
theorem lwI_eX5_files : inW (.instanceMethod yX5_files) := ⟨(lw_m2 (List.mem_of_getElem? (i := 215) rfl)), rfl⟩
theorem lwS_eX5_files : inW (.selects RX5 yX5_files yX5_files) := ⟨(lw_m2 (List.mem_of_getElem? (i := 216) rfl)), rfl⟩
theorem lwM_eX6_files : inW (.methodLink R_law 48 yX6_files) := ⟨(lw_m5 (List.mem_of_getElem? (i := 46) rfl)), rfl⟩
theorem lwI_eX6_files : inW (.instanceMethod yX6_files) := ⟨(lw_m5 (List.mem_of_getElem? (i := 47) rfl)), rfl⟩
theorem lwS_eX6_files : inW (.selects RX6 yX6_files yX6_files) := ⟨(lw_m5 (List.mem_of_getElem? (i := 48) rfl)), rfl⟩
theorem lc_files {p : Program} {l : Launch} {e : Env} {s : State} {m : MethodId} {below : List Frame} {meth : Method} {c : Code} {H : Heap} {locs : List Loc} {cells slots : Nat} {Q : State → Prop} {ls : Array Slot} {b L : Nat} {xs : Nat → Int32} {x3 : Int32} {D : va_G} {cs : ClassId × ClassId × ClassId} {kc : Nat → Nat} {fv : Value} {h : mH} (hx : p.tables.exec = Jvm.exec) (hb : c.code = code) (hml : c.maxLocals = 4) (hown : s.vm.findClass R_law = some m.cls) (hts : ∀ w ∈ lw_tbl, w.before #[Value.ref b] s = true) (hX : va_X b L xs s s.heap) (hbl : b < s.heap.size) (hfv : fv = .null ∨ ∃ a, fv = .ref a) (F : wFx D cs (adK s.heap.size kc) fv s s.heap) (I : Inv h) (hP : va_P D vwCl (wL cs (adK s.heap.size kc) h) H) (hS : va_S (fun q => s.heap.size ≤ q) s.heap H locs) (hl : lv_has ls 4 [(0, .ref b), (1, .ref (adK s.heap.size kc 0)), (2, .ref (adK s.heap.size kc 59)), (3, .int x3)]) (hin : ∀ j : Int32, j = 1 ∨ j = 2 ∨ j = 3 ∨ j = 4 ∨ j = 5 → vp_in (x3 + j) L) (hcl : cells ≤ 600000) (hsl : slots ≤ 7302250)
    (kk : ∀ (h2 : mH) (H1 : Heap) (locs1 : List Loc), Inv h2 → va_P D vwCl (wL cs (adK s.heap.size kc) h2) H1 → va_S (fun q => s.heap.size ≤ q) s.heap H1 locs1 → W p l e room_1 s m #[Value.ref b] below meth c H1 locs1 cells slots Q (F0 m 1235 ls [])) : W p l e room_1 s m #[Value.ref b] below meth c H locs cells slots Q (F0 m 381 ls []) := by
  have hbA : ¬ (fun q : Nat => s.heap.size ≤ q) b := Nat.not_le.mpr hbl
  obtain ⟨v, h1, h2, ⟨x, rfl⟩, c1, c2, I2⟩ := pf_files (xs (x3 + 1).toNatClampNeg) (xs (x3 + 2).toNatClampNeg) (xs (x3 + 3).toNatClampNeg) h I
  refine lv_aload_n hx hb dL_law_381 rfl (lv_at hl 1 rfl) ?_
  refine lv_aload_n hx hb dL_law_382 rfl (lv_at hl 0 rfl) ?_
  refine lv_iload_n hx hb dL_law_383 rfl (lv_at hl 3 rfl) ?_
  refine lv_iconst (v := 1) hx hb dL_law_384 (by decide) ?_
  refine lv_iadd hx hb dL_law_385 ?_
  refine va_sld hx hb hX hbl hbA hS (hin 1 (by decide)) dL_law_386 ?_
  refine lv_aload_n hx hb dL_law_387 rfl (lv_at hl 0 rfl) ?_
  refine lv_iload_n hx hb dL_law_388 rfl (lv_at hl 3 rfl) ?_
  refine lv_iconst (v := 2) hx hb dL_law_389 (by decide) ?_
  refine lv_iadd hx hb dL_law_390 ?_
  refine va_sld hx hb hX hbl hbA hS (hin 2 (by decide)) dL_law_391 ?_
  refine lv_aload_n hx hb dL_law_392 rfl (lv_at hl 0 rfl) ?_
  refine lv_iload_n hx hb dL_law_393 rfl (lv_at hl 3 rfl) ?_
  refine lv_iconst (v := 3) hx hb dL_law_394 (by decide) ?_
  refine lv_iadd hx hb dL_law_395 ?_
  refine va_sld hx hb hX hbl hbA hS (hin 3 (by decide)) dL_law_396 ?_
  refine lw_call (E := eX5_files) (as := [.int (xs (x3 + 1).toNatClampNeg), .int (xs (x3 + 2).toNatClampNeg), .int (xs (x3 + 3).toNatClampNeg)]) (b := 0) (nn := 3) (rest := []) ⟨hx, hb, hml, hown, hts⟩ hfv F hP hS kE_X5_files (by decide) rfl (Or.inl rfl) lwM_eX5_files lwI_eX5_files lwS_eX5_files (by decide +kernel) rfl c1 rfl ⟨Nat.le_of_ble_eq_true rfl, Nat.le_of_ble_eq_true rfl⟩ hl.1 (lv_room (Nat.le_of_ble_eq_true rfl)) hcl hsl dL_law_397 (fun H locs hP hS => ?_)
  refine lv_aload_n hx hb dL_law_400 rfl (lv_at hl 2 rfl) ?_
  refine lv_aload_n hx hb dL_law_401 rfl (lv_at hl 0 rfl) ?_
  refine lv_iload_n hx hb dL_law_402 rfl (lv_at hl 3 rfl) ?_
  refine lv_iconst (v := 1) hx hb dL_law_403 (by decide) ?_
  refine lv_iadd hx hb dL_law_404 ?_
  refine va_sld hx hb hX hbl hbA hS (hin 1 (by decide)) dL_law_405 ?_
  refine lv_aload_n hx hb dL_law_406 rfl (lv_at hl 0 rfl) ?_
  refine lv_iload_n hx hb dL_law_407 rfl (lv_at hl 3 rfl) ?_
  refine lv_iconst (v := 2) hx hb dL_law_408 (by decide) ?_
  refine lv_iadd hx hb dL_law_409 ?_
  refine va_sld hx hb hX hbl hbA hS (hin 2 (by decide)) dL_law_410 ?_
  refine lv_aload_n hx hb dL_law_411 rfl (lv_at hl 0 rfl) ?_
  refine lv_iload_n hx hb dL_law_412 rfl (lv_at hl 3 rfl) ?_
  refine lv_iconst (v := 3) hx hb dL_law_413 (by decide) ?_
  refine lv_iadd hx hb dL_law_414 ?_
  refine va_sld hx hb hX hbl hbA hS (hin 3 (by decide)) dL_law_415 ?_
  refine lw_call (E := eX6_files) (as := [.int (xs (x3 + 1).toNatClampNeg), .int (xs (x3 + 2).toNatClampNeg), .int (xs (x3 + 3).toNatClampNeg)]) (b := 59) (nn := 3) (rest := [.int x]) ⟨hx, hb, hml, hown, hts⟩ hfv F hP hS kE_X6_files (by decide) rfl (Or.inr rfl) lwM_eX6_files lwI_eX6_files lwS_eX6_files (by decide +kernel) rfl c2 rfl ⟨Nat.le_of_ble_eq_true rfl, Nat.le_of_ble_eq_true rfl⟩ hl.1 (lv_room (Nat.le_of_ble_eq_true rfl)) hcl hsl dL_law_416 (fun H locs hP hS => ?_)
  exact lv_icmp_eq (tgt := 1235) hx hb dL_law_419 (by decide) (fun _ => kk h2 _ _ I2 hP hS) (fun q => absurd rfl q)
theorem lwM_eX5_turn : inW (.methodLink R_law 49 yX5_turn) := ⟨(lw_m2 (List.mem_of_getElem? (i := 218) rfl)), rfl⟩
theorem lwI_eX5_turn : inW (.instanceMethod yX5_turn) := ⟨(lw_m2 (List.mem_of_getElem? (i := 219) rfl)), rfl⟩
theorem lwS_eX5_turn : inW (.selects RX5 yX5_turn yX5_turn) := ⟨(lw_m2 (List.mem_of_getElem? (i := 220) rfl)), rfl⟩
theorem lwM_eX6_turn : inW (.methodLink R_law 52 yX6_turn) := ⟨(lw_m5 (List.mem_of_getElem? (i := 50) rfl)), rfl⟩
theorem lwI_eX6_turn : inW (.instanceMethod yX6_turn) := ⟨(lw_m5 (List.mem_of_getElem? (i := 51) rfl)), rfl⟩
theorem lwS_eX6_turn : inW (.selects RX6 yX6_turn yX6_turn) := ⟨(lw_m5 (List.mem_of_getElem? (i := 52) rfl)), rfl⟩
theorem lc_turn {p : Program} {l : Launch} {e : Env} {s : State} {m : MethodId} {below : List Frame} {meth : Method} {c : Code} {H : Heap} {locs : List Loc} {cells slots : Nat} {Q : State → Prop} {ls : Array Slot} {b L : Nat} {xs : Nat → Int32} {x3 : Int32} {D : va_G} {cs : ClassId × ClassId × ClassId} {kc : Nat → Nat} {fv : Value} {h : mH} (hx : p.tables.exec = Jvm.exec) (hb : c.code = code) (hml : c.maxLocals = 4) (hown : s.vm.findClass R_law = some m.cls) (hts : ∀ w ∈ lw_tbl, w.before #[Value.ref b] s = true) (hX : va_X b L xs s s.heap) (hbl : b < s.heap.size) (hfv : fv = .null ∨ ∃ a, fv = .ref a) (F : wFx D cs (adK s.heap.size kc) fv s s.heap) (I : Inv h) (hP : va_P D vwCl (wL cs (adK s.heap.size kc) h) H) (hS : va_S (fun q => s.heap.size ≤ q) s.heap H locs) (hl : lv_has ls 4 [(0, .ref b), (1, .ref (adK s.heap.size kc 0)), (2, .ref (adK s.heap.size kc 59)), (3, .int x3)]) (hin : ∀ j : Int32, j = 1 ∨ j = 2 ∨ j = 3 ∨ j = 4 ∨ j = 5 → vp_in (x3 + j) L) (hcl : cells ≤ 600000) (hsl : slots ≤ 7302250)
    (kk : ∀ (h2 : mH) (H1 : Heap) (locs1 : List Loc), Inv h2 → va_P D vwCl (wL cs (adK s.heap.size kc) h2) H1 → va_S (fun q => s.heap.size ≤ q) s.heap H1 locs1 → W p l e room_1 s m #[Value.ref b] below meth c H1 locs1 cells slots Q (F0 m 1235 ls [])) : W p l e room_1 s m #[Value.ref b] below meth c H locs cells slots Q (F0 m 424 ls []) := by
  have hbA : ¬ (fun q : Nat => s.heap.size ≤ q) b := Nat.not_le.mpr hbl
  obtain ⟨v, h1, h2, ⟨x, rfl⟩, c1, c2, I2⟩ := pf_turn (xs (x3 + 1).toNatClampNeg) (xs (x3 + 2).toNatClampNeg) (xs (x3 + 3).toNatClampNeg) h I
  refine lv_aload_n hx hb dL_law_424 rfl (lv_at hl 1 rfl) ?_
  refine lv_aload_n hx hb dL_law_425 rfl (lv_at hl 0 rfl) ?_
  refine lv_iload_n hx hb dL_law_426 rfl (lv_at hl 3 rfl) ?_
  refine lv_iconst (v := 1) hx hb dL_law_427 (by decide) ?_
  refine lv_iadd hx hb dL_law_428 ?_
  refine va_sld hx hb hX hbl hbA hS (hin 1 (by decide)) dL_law_429 ?_
  refine lv_aload_n hx hb dL_law_430 rfl (lv_at hl 0 rfl) ?_
  refine lv_iload_n hx hb dL_law_431 rfl (lv_at hl 3 rfl) ?_
  refine lv_iconst (v := 2) hx hb dL_law_432 (by decide) ?_
  refine lv_iadd hx hb dL_law_433 ?_
  refine va_sld hx hb hX hbl hbA hS (hin 2 (by decide)) dL_law_434 ?_
  refine lv_aload_n hx hb dL_law_435 rfl (lv_at hl 0 rfl) ?_
  refine lv_iload_n hx hb dL_law_436 rfl (lv_at hl 3 rfl) ?_
  refine lv_iconst (v := 3) hx hb dL_law_437 (by decide) ?_
  refine lv_iadd hx hb dL_law_438 ?_
  refine va_sld hx hb hX hbl hbA hS (hin 3 (by decide)) dL_law_439 ?_
  refine lw_call (E := eX5_turn) (as := [.int (xs (x3 + 1).toNatClampNeg), .int (xs (x3 + 2).toNatClampNeg), .int (xs (x3 + 3).toNatClampNeg)]) (b := 0) (nn := 3) (rest := []) ⟨hx, hb, hml, hown, hts⟩ hfv F hP hS kE_X5_turn (by decide) rfl (Or.inl rfl) lwM_eX5_turn lwI_eX5_turn lwS_eX5_turn (by decide +kernel) rfl c1 rfl ⟨Nat.le_of_ble_eq_true rfl, Nat.le_of_ble_eq_true rfl⟩ hl.1 (lv_room (Nat.le_of_ble_eq_true rfl)) hcl hsl dL_law_440 (fun H locs hP hS => ?_)
  refine lv_aload_n hx hb dL_law_443 rfl (lv_at hl 2 rfl) ?_
  refine lv_aload_n hx hb dL_law_444 rfl (lv_at hl 0 rfl) ?_
  refine lv_iload_n hx hb dL_law_445 rfl (lv_at hl 3 rfl) ?_
  refine lv_iconst (v := 1) hx hb dL_law_446 (by decide) ?_
  refine lv_iadd hx hb dL_law_447 ?_
  refine va_sld hx hb hX hbl hbA hS (hin 1 (by decide)) dL_law_448 ?_
  refine lv_aload_n hx hb dL_law_449 rfl (lv_at hl 0 rfl) ?_
  refine lv_iload_n hx hb dL_law_450 rfl (lv_at hl 3 rfl) ?_
  refine lv_iconst (v := 2) hx hb dL_law_451 (by decide) ?_
  refine lv_iadd hx hb dL_law_452 ?_
  refine va_sld hx hb hX hbl hbA hS (hin 2 (by decide)) dL_law_453 ?_
  refine lv_aload_n hx hb dL_law_454 rfl (lv_at hl 0 rfl) ?_
  refine lv_iload_n hx hb dL_law_455 rfl (lv_at hl 3 rfl) ?_
  refine lv_iconst (v := 3) hx hb dL_law_456 (by decide) ?_
  refine lv_iadd hx hb dL_law_457 ?_
  refine va_sld hx hb hX hbl hbA hS (hin 3 (by decide)) dL_law_458 ?_
  refine lw_call (E := eX6_turn) (as := [.int (xs (x3 + 1).toNatClampNeg), .int (xs (x3 + 2).toNatClampNeg), .int (xs (x3 + 3).toNatClampNeg)]) (b := 59) (nn := 3) (rest := [.int x]) ⟨hx, hb, hml, hown, hts⟩ hfv F hP hS kE_X6_turn (by decide) rfl (Or.inr rfl) lwM_eX6_turn lwI_eX6_turn lwS_eX6_turn (by decide +kernel) rfl c2 rfl ⟨Nat.le_of_ble_eq_true rfl, Nat.le_of_ble_eq_true rfl⟩ hl.1 (lv_room (Nat.le_of_ble_eq_true rfl)) hcl hsl dL_law_459 (fun H locs hP hS => ?_)
  exact lv_icmp_eq (tgt := 1235) hx hb dL_law_462 (by decide) (fun _ => kk h2 _ _ I2 hP hS) (fun q => absurd rfl q)
theorem lwM_eX5_cut : inW (.methodLink R_law 53 yX5_cut) := ⟨(lw_m2 (List.mem_of_getElem? (i := 222) rfl)), rfl⟩
theorem lwI_eX5_cut : inW (.instanceMethod yX5_cut) := ⟨(lw_m2 (List.mem_of_getElem? (i := 223) rfl)), rfl⟩
theorem lwS_eX5_cut : inW (.selects RX5 yX5_cut yX5_cut) := ⟨(lw_m2 (List.mem_of_getElem? (i := 224) rfl)), rfl⟩
theorem lwM_eX6_cut : inW (.methodLink R_law 56 yX6_cut) := ⟨(lw_m5 (List.mem_of_getElem? (i := 54) rfl)), rfl⟩
theorem lwI_eX6_cut : inW (.instanceMethod yX6_cut) := ⟨(lw_m5 (List.mem_of_getElem? (i := 55) rfl)), rfl⟩
theorem lwS_eX6_cut : inW (.selects RX6 yX6_cut yX6_cut) := ⟨(lw_m5 (List.mem_of_getElem? (i := 56) rfl)), rfl⟩
theorem lc_cut {p : Program} {l : Launch} {e : Env} {s : State} {m : MethodId} {below : List Frame} {meth : Method} {c : Code} {H : Heap} {locs : List Loc} {cells slots : Nat} {Q : State → Prop} {ls : Array Slot} {b L : Nat} {xs : Nat → Int32} {x3 : Int32} {D : va_G} {cs : ClassId × ClassId × ClassId} {kc : Nat → Nat} {fv : Value} {h : mH} (hx : p.tables.exec = Jvm.exec) (hb : c.code = code) (hml : c.maxLocals = 4) (hown : s.vm.findClass R_law = some m.cls) (hts : ∀ w ∈ lw_tbl, w.before #[Value.ref b] s = true) (hX : va_X b L xs s s.heap) (hbl : b < s.heap.size) (hfv : fv = .null ∨ ∃ a, fv = .ref a) (F : wFx D cs (adK s.heap.size kc) fv s s.heap) (I : Inv h) (hP : va_P D vwCl (wL cs (adK s.heap.size kc) h) H) (hS : va_S (fun q => s.heap.size ≤ q) s.heap H locs) (hl : lv_has ls 4 [(0, .ref b), (1, .ref (adK s.heap.size kc 0)), (2, .ref (adK s.heap.size kc 59)), (3, .int x3)]) (hin : ∀ j : Int32, j = 1 ∨ j = 2 ∨ j = 3 ∨ j = 4 ∨ j = 5 → vp_in (x3 + j) L) (hcl : cells ≤ 600000) (hsl : slots ≤ 7302250)
    (kk : ∀ (h2 : mH) (H1 : Heap) (locs1 : List Loc), Inv h2 → va_P D vwCl (wL cs (adK s.heap.size kc) h2) H1 → va_S (fun q => s.heap.size ≤ q) s.heap H1 locs1 → W p l e room_1 s m #[Value.ref b] below meth c H1 locs1 cells slots Q (F0 m 1235 ls [])) : W p l e room_1 s m #[Value.ref b] below meth c H locs cells slots Q (F0 m 467 ls []) := by
  have hbA : ¬ (fun q : Nat => s.heap.size ≤ q) b := Nat.not_le.mpr hbl
  obtain ⟨v, h1, h2, ⟨x, rfl⟩, c1, c2, I2⟩ := pf_cut (xs (x3 + 1).toNatClampNeg) (xs (x3 + 2).toNatClampNeg) h I
  refine lv_aload_n hx hb dL_law_467 rfl (lv_at hl 1 rfl) ?_
  refine lv_aload_n hx hb dL_law_468 rfl (lv_at hl 0 rfl) ?_
  refine lv_iload_n hx hb dL_law_469 rfl (lv_at hl 3 rfl) ?_
  refine lv_iconst (v := 1) hx hb dL_law_470 (by decide) ?_
  refine lv_iadd hx hb dL_law_471 ?_
  refine va_sld hx hb hX hbl hbA hS (hin 1 (by decide)) dL_law_472 ?_
  refine lv_aload_n hx hb dL_law_473 rfl (lv_at hl 0 rfl) ?_
  refine lv_iload_n hx hb dL_law_474 rfl (lv_at hl 3 rfl) ?_
  refine lv_iconst (v := 2) hx hb dL_law_475 (by decide) ?_
  refine lv_iadd hx hb dL_law_476 ?_
  refine va_sld hx hb hX hbl hbA hS (hin 2 (by decide)) dL_law_477 ?_
  refine lw_call (E := eX5_cut) (as := [.int (xs (x3 + 1).toNatClampNeg), .int (xs (x3 + 2).toNatClampNeg)]) (b := 0) (nn := 2) (rest := []) ⟨hx, hb, hml, hown, hts⟩ hfv F hP hS kE_X5_cut (by decide) rfl (Or.inl rfl) lwM_eX5_cut lwI_eX5_cut lwS_eX5_cut (by decide +kernel) rfl c1 rfl ⟨Nat.le_of_ble_eq_true rfl, Nat.le_of_ble_eq_true rfl⟩ hl.1 (lv_room (Nat.le_of_ble_eq_true rfl)) hcl hsl dL_law_478 (fun H locs hP hS => ?_)
  refine lv_aload_n hx hb dL_law_481 rfl (lv_at hl 2 rfl) ?_
  refine lv_aload_n hx hb dL_law_482 rfl (lv_at hl 0 rfl) ?_
  refine lv_iload_n hx hb dL_law_483 rfl (lv_at hl 3 rfl) ?_
  refine lv_iconst (v := 1) hx hb dL_law_484 (by decide) ?_
  refine lv_iadd hx hb dL_law_485 ?_
  refine va_sld hx hb hX hbl hbA hS (hin 1 (by decide)) dL_law_486 ?_
  refine lv_aload_n hx hb dL_law_487 rfl (lv_at hl 0 rfl) ?_
  refine lv_iload_n hx hb dL_law_488 rfl (lv_at hl 3 rfl) ?_
  refine lv_iconst (v := 2) hx hb dL_law_489 (by decide) ?_
  refine lv_iadd hx hb dL_law_490 ?_
  refine va_sld hx hb hX hbl hbA hS (hin 2 (by decide)) dL_law_491 ?_
  refine lw_call (E := eX6_cut) (as := [.int (xs (x3 + 1).toNatClampNeg), .int (xs (x3 + 2).toNatClampNeg)]) (b := 59) (nn := 2) (rest := [.int x]) ⟨hx, hb, hml, hown, hts⟩ hfv F hP hS kE_X6_cut (by decide) rfl (Or.inr rfl) lwM_eX6_cut lwI_eX6_cut lwS_eX6_cut (by decide +kernel) rfl c2 rfl ⟨Nat.le_of_ble_eq_true rfl, Nat.le_of_ble_eq_true rfl⟩ hl.1 (lv_room (Nat.le_of_ble_eq_true rfl)) hcl hsl dL_law_492 (fun H locs hP hS => ?_)
  exact lv_icmp_eq (tgt := 1235) hx hb dL_law_495 (by decide) (fun _ => kk h2 _ _ I2 hP hS) (fun q => absurd rfl q)
theorem lwM_eX5_uses : inW (.methodLink R_law 57 yX5_uses) := ⟨(lw_m2 (List.mem_of_getElem? (i := 227) rfl)), rfl⟩
theorem lwI_eX5_uses : inW (.instanceMethod yX5_uses) := ⟨(lw_m2 (List.mem_of_getElem? (i := 228) rfl)), rfl⟩
theorem lwS_eX5_uses : inW (.selects RX5 yX5_uses yX5_uses) := ⟨(lw_m2 (List.mem_of_getElem? (i := 229) rfl)), rfl⟩
theorem lwM_eX6_uses : inW (.methodLink R_law 60 yX6_uses) := ⟨(lw_m5 (List.mem_of_getElem? (i := 58) rfl)), rfl⟩
theorem lwI_eX6_uses : inW (.instanceMethod yX6_uses) := ⟨(lw_m5 (List.mem_of_getElem? (i := 59) rfl)), rfl⟩
theorem lwS_eX6_uses : inW (.selects RX6 yX6_uses yX6_uses) := ⟨(lw_m5 (List.mem_of_getElem? (i := 60) rfl)), rfl⟩
theorem lc_uses {p : Program} {l : Launch} {e : Env} {s : State} {m : MethodId} {below : List Frame} {meth : Method} {c : Code} {H : Heap} {locs : List Loc} {cells slots : Nat} {Q : State → Prop} {ls : Array Slot} {b L : Nat} {xs : Nat → Int32} {x3 : Int32} {D : va_G} {cs : ClassId × ClassId × ClassId} {kc : Nat → Nat} {fv : Value} {h : mH} (hx : p.tables.exec = Jvm.exec) (hb : c.code = code) (hml : c.maxLocals = 4) (hown : s.vm.findClass R_law = some m.cls) (hts : ∀ w ∈ lw_tbl, w.before #[Value.ref b] s = true) (hX : va_X b L xs s s.heap) (hbl : b < s.heap.size) (hfv : fv = .null ∨ ∃ a, fv = .ref a) (F : wFx D cs (adK s.heap.size kc) fv s s.heap) (I : Inv h) (hP : va_P D vwCl (wL cs (adK s.heap.size kc) h) H) (hS : va_S (fun q => s.heap.size ≤ q) s.heap H locs) (hl : lv_has ls 4 [(0, .ref b), (1, .ref (adK s.heap.size kc 0)), (2, .ref (adK s.heap.size kc 59)), (3, .int x3)]) (hin : ∀ j : Int32, j = 1 ∨ j = 2 ∨ j = 3 ∨ j = 4 ∨ j = 5 → vp_in (x3 + j) L) (hcl : cells ≤ 600000) (hsl : slots ≤ 7302250)
    (kk : ∀ (h2 : mH) (H1 : Heap) (locs1 : List Loc), Inv h2 → va_P D vwCl (wL cs (adK s.heap.size kc) h2) H1 → va_S (fun q => s.heap.size ≤ q) s.heap H1 locs1 → W p l e room_1 s m #[Value.ref b] below meth c H1 locs1 cells slots Q (F0 m 1235 ls [])) : W p l e room_1 s m #[Value.ref b] below meth c H locs cells slots Q (F0 m 500 ls []) := by
  have hbA : ¬ (fun q : Nat => s.heap.size ≤ q) b := Nat.not_le.mpr hbl
  obtain ⟨v, h1, h2, ⟨x, rfl⟩, c1, c2, I2⟩ := pf_uses (xs (x3 + 1).toNatClampNeg) (xs (x3 + 2).toNatClampNeg) h I
  refine lv_aload_n hx hb dL_law_500 rfl (lv_at hl 1 rfl) ?_
  refine lv_aload_n hx hb dL_law_501 rfl (lv_at hl 0 rfl) ?_
  refine lv_iload_n hx hb dL_law_502 rfl (lv_at hl 3 rfl) ?_
  refine lv_iconst (v := 1) hx hb dL_law_503 (by decide) ?_
  refine lv_iadd hx hb dL_law_504 ?_
  refine va_sld hx hb hX hbl hbA hS (hin 1 (by decide)) dL_law_505 ?_
  refine lv_aload_n hx hb dL_law_506 rfl (lv_at hl 0 rfl) ?_
  refine lv_iload_n hx hb dL_law_507 rfl (lv_at hl 3 rfl) ?_
  refine lv_iconst (v := 2) hx hb dL_law_508 (by decide) ?_
  refine lv_iadd hx hb dL_law_509 ?_
  refine va_sld hx hb hX hbl hbA hS (hin 2 (by decide)) dL_law_510 ?_
  refine lw_call (E := eX5_uses) (as := [.int (xs (x3 + 1).toNatClampNeg), .int (xs (x3 + 2).toNatClampNeg)]) (b := 0) (nn := 2) (rest := []) ⟨hx, hb, hml, hown, hts⟩ hfv F hP hS kE_X5_uses (by decide) rfl (Or.inl rfl) lwM_eX5_uses lwI_eX5_uses lwS_eX5_uses (by decide +kernel) rfl c1 rfl ⟨Nat.le_of_ble_eq_true rfl, Nat.le_of_ble_eq_true rfl⟩ hl.1 (lv_room (Nat.le_of_ble_eq_true rfl)) hcl hsl dL_law_511 (fun H locs hP hS => ?_)
  refine lv_aload_n hx hb dL_law_514 rfl (lv_at hl 2 rfl) ?_
  refine lv_aload_n hx hb dL_law_515 rfl (lv_at hl 0 rfl) ?_
  refine lv_iload_n hx hb dL_law_516 rfl (lv_at hl 3 rfl) ?_
  refine lv_iconst (v := 1) hx hb dL_law_517 (by decide) ?_
  refine lv_iadd hx hb dL_law_518 ?_
  refine va_sld hx hb hX hbl hbA hS (hin 1 (by decide)) dL_law_519 ?_
  refine lv_aload_n hx hb dL_law_520 rfl (lv_at hl 0 rfl) ?_
  refine lv_iload_n hx hb dL_law_521 rfl (lv_at hl 3 rfl) ?_
  refine lv_iconst (v := 2) hx hb dL_law_522 (by decide) ?_
  refine lv_iadd hx hb dL_law_523 ?_
  refine va_sld hx hb hX hbl hbA hS (hin 2 (by decide)) dL_law_524 ?_
  refine lw_call (E := eX6_uses) (as := [.int (xs (x3 + 1).toNatClampNeg), .int (xs (x3 + 2).toNatClampNeg)]) (b := 59) (nn := 2) (rest := [.int x]) ⟨hx, hb, hml, hown, hts⟩ hfv F hP hS kE_X6_uses (by decide) rfl (Or.inr rfl) lwM_eX6_uses lwI_eX6_uses lwS_eX6_uses (by decide +kernel) rfl c2 rfl ⟨Nat.le_of_ble_eq_true rfl, Nat.le_of_ble_eq_true rfl⟩ hl.1 (lv_room (Nat.le_of_ble_eq_true rfl)) hcl hsl dL_law_525 (fun H locs hP hS => ?_)
  exact lv_icmp_eq (tgt := 1235) hx hb dL_law_528 (by decide) (fun _ => kk h2 _ _ I2 hP hS) (fun q => absurd rfl q)
theorem lwM_eX5_snaps : inW (.methodLink R_law 61 yX5_snaps) := ⟨(lw_m2 (List.mem_of_getElem? (i := 232) rfl)), rfl⟩
theorem lwI_eX5_snaps : inW (.instanceMethod yX5_snaps) := ⟨(lw_m2 (List.mem_of_getElem? (i := 233) rfl)), rfl⟩
theorem lwS_eX5_snaps : inW (.selects RX5 yX5_snaps yX5_snaps) := ⟨(lw_m2 (List.mem_of_getElem? (i := 234) rfl)), rfl⟩
theorem lwM_eX6_snaps : inW (.methodLink R_law 64 yX6_snaps) := ⟨(lw_m5 (List.mem_of_getElem? (i := 62) rfl)), rfl⟩
theorem lwI_eX6_snaps : inW (.instanceMethod yX6_snaps) := ⟨(lw_m5 (List.mem_of_getElem? (i := 63) rfl)), rfl⟩
theorem lwS_eX6_snaps : inW (.selects RX6 yX6_snaps yX6_snaps) := ⟨(lw_m5 (List.mem_of_getElem? (i := 64) rfl)), rfl⟩
theorem lc_snaps {p : Program} {l : Launch} {e : Env} {s : State} {m : MethodId} {below : List Frame} {meth : Method} {c : Code} {H : Heap} {locs : List Loc} {cells slots : Nat} {Q : State → Prop} {ls : Array Slot} {b L : Nat} {xs : Nat → Int32} {x3 : Int32} {D : va_G} {cs : ClassId × ClassId × ClassId} {kc : Nat → Nat} {fv : Value} {h : mH} (hx : p.tables.exec = Jvm.exec) (hb : c.code = code) (hml : c.maxLocals = 4) (hown : s.vm.findClass R_law = some m.cls) (hts : ∀ w ∈ lw_tbl, w.before #[Value.ref b] s = true) (hX : va_X b L xs s s.heap) (hbl : b < s.heap.size) (hfv : fv = .null ∨ ∃ a, fv = .ref a) (F : wFx D cs (adK s.heap.size kc) fv s s.heap) (I : Inv h) (hP : va_P D vwCl (wL cs (adK s.heap.size kc) h) H) (hS : va_S (fun q => s.heap.size ≤ q) s.heap H locs) (hl : lv_has ls 4 [(0, .ref b), (1, .ref (adK s.heap.size kc 0)), (2, .ref (adK s.heap.size kc 59)), (3, .int x3)]) (hin : ∀ j : Int32, j = 1 ∨ j = 2 ∨ j = 3 ∨ j = 4 ∨ j = 5 → vp_in (x3 + j) L) (hcl : cells ≤ 600000) (hsl : slots ≤ 7302250)
    (kk : ∀ (h2 : mH) (H1 : Heap) (locs1 : List Loc), Inv h2 → va_P D vwCl (wL cs (adK s.heap.size kc) h2) H1 → va_S (fun q => s.heap.size ≤ q) s.heap H1 locs1 → W p l e room_1 s m #[Value.ref b] below meth c H1 locs1 cells slots Q (F0 m 1235 ls [])) : W p l e room_1 s m #[Value.ref b] below meth c H locs cells slots Q (F0 m 533 ls []) := by
  have hbA : ¬ (fun q : Nat => s.heap.size ≤ q) b := Nat.not_le.mpr hbl
  obtain ⟨v, h1, h2, ⟨x, rfl⟩, c1, c2, I2⟩ := pf_snaps (xs (x3 + 1).toNatClampNeg) h I
  refine lv_aload_n hx hb dL_law_533 rfl (lv_at hl 1 rfl) ?_
  refine lv_aload_n hx hb dL_law_534 rfl (lv_at hl 0 rfl) ?_
  refine lv_iload_n hx hb dL_law_535 rfl (lv_at hl 3 rfl) ?_
  refine lv_iconst (v := 1) hx hb dL_law_536 (by decide) ?_
  refine lv_iadd hx hb dL_law_537 ?_
  refine va_sld hx hb hX hbl hbA hS (hin 1 (by decide)) dL_law_538 ?_
  refine lw_call (E := eX5_snaps) (as := [.int (xs (x3 + 1).toNatClampNeg)]) (b := 0) (nn := 1) (rest := []) ⟨hx, hb, hml, hown, hts⟩ hfv F hP hS kE_X5_snaps (by decide) rfl (Or.inl rfl) lwM_eX5_snaps lwI_eX5_snaps lwS_eX5_snaps (by decide +kernel) rfl c1 rfl ⟨Nat.le_of_ble_eq_true rfl, Nat.le_of_ble_eq_true rfl⟩ hl.1 (lv_room (Nat.le_of_ble_eq_true rfl)) hcl hsl dL_law_539 (fun H locs hP hS => ?_)
  refine lv_aload_n hx hb dL_law_542 rfl (lv_at hl 2 rfl) ?_
  refine lv_aload_n hx hb dL_law_543 rfl (lv_at hl 0 rfl) ?_
  refine lv_iload_n hx hb dL_law_544 rfl (lv_at hl 3 rfl) ?_
  refine lv_iconst (v := 1) hx hb dL_law_545 (by decide) ?_
  refine lv_iadd hx hb dL_law_546 ?_
  refine va_sld hx hb hX hbl hbA hS (hin 1 (by decide)) dL_law_547 ?_
  refine lw_call (E := eX6_snaps) (as := [.int (xs (x3 + 1).toNatClampNeg)]) (b := 59) (nn := 1) (rest := [.int x]) ⟨hx, hb, hml, hown, hts⟩ hfv F hP hS kE_X6_snaps (by decide) rfl (Or.inr rfl) lwM_eX6_snaps lwI_eX6_snaps lwS_eX6_snaps (by decide +kernel) rfl c2 rfl ⟨Nat.le_of_ble_eq_true rfl, Nat.le_of_ble_eq_true rfl⟩ hl.1 (lv_room (Nat.le_of_ble_eq_true rfl)) hcl hsl dL_law_548 (fun H locs hP hS => ?_)
  exact lv_icmp_eq (tgt := 1235) hx hb dL_law_551 (by decide) (fun _ => kk h2 _ _ I2 hP hS) (fun q => absurd rfl q)
theorem lwM_eX5_opening : inW (.methodLink R_law 65 yX5_opening) := ⟨(lw_m3 (List.mem_of_getElem? (i := 6) rfl)), rfl⟩
theorem lwI_eX5_opening : inW (.instanceMethod yX5_opening) := ⟨(lw_m3 (List.mem_of_getElem? (i := 7) rfl)), rfl⟩
theorem lwS_eX5_opening : inW (.selects RX5 yX5_opening yX5_opening) := ⟨(lw_m3 (List.mem_of_getElem? (i := 8) rfl)), rfl⟩
theorem lwM_eX6_opening : inW (.methodLink R_law 68 yX6_opening) := ⟨(lw_m5 (List.mem_of_getElem? (i := 66) rfl)), rfl⟩
theorem lwI_eX6_opening : inW (.instanceMethod yX6_opening) := ⟨(lw_m5 (List.mem_of_getElem? (i := 67) rfl)), rfl⟩
theorem lwS_eX6_opening : inW (.selects RX6 yX6_opening yX6_opening) := ⟨(lw_m5 (List.mem_of_getElem? (i := 68) rfl)), rfl⟩
theorem lc_opening {p : Program} {l : Launch} {e : Env} {s : State} {m : MethodId} {below : List Frame} {meth : Method} {c : Code} {H : Heap} {locs : List Loc} {cells slots : Nat} {Q : State → Prop} {ls : Array Slot} {b L : Nat} {xs : Nat → Int32} {x3 : Int32} {D : va_G} {cs : ClassId × ClassId × ClassId} {kc : Nat → Nat} {fv : Value} {h : mH} (hx : p.tables.exec = Jvm.exec) (hb : c.code = code) (hml : c.maxLocals = 4) (hown : s.vm.findClass R_law = some m.cls) (hts : ∀ w ∈ lw_tbl, w.before #[Value.ref b] s = true) (hX : va_X b L xs s s.heap) (hbl : b < s.heap.size) (hfv : fv = .null ∨ ∃ a, fv = .ref a) (F : wFx D cs (adK s.heap.size kc) fv s s.heap) (I : Inv h) (hP : va_P D vwCl (wL cs (adK s.heap.size kc) h) H) (hS : va_S (fun q => s.heap.size ≤ q) s.heap H locs) (hl : lv_has ls 4 [(0, .ref b), (1, .ref (adK s.heap.size kc 0)), (2, .ref (adK s.heap.size kc 59)), (3, .int x3)]) (hin : ∀ j : Int32, j = 1 ∨ j = 2 ∨ j = 3 ∨ j = 4 ∨ j = 5 → vp_in (x3 + j) L) (hcl : cells ≤ 600000) (hsl : slots ≤ 7302250)
    (kk : ∀ (h2 : mH) (H1 : Heap) (locs1 : List Loc), Inv h2 → va_P D vwCl (wL cs (adK s.heap.size kc) h2) H1 → va_S (fun q => s.heap.size ≤ q) s.heap H1 locs1 → W p l e room_1 s m #[Value.ref b] below meth c H1 locs1 cells slots Q (F0 m 1235 ls [])) : W p l e room_1 s m #[Value.ref b] below meth c H locs cells slots Q (F0 m 556 ls []) := by
  have hbA : ¬ (fun q : Nat => s.heap.size ≤ q) b := Nat.not_le.mpr hbl
  obtain ⟨v, h1, h2, ⟨x, rfl⟩, c1, c2, I2⟩ := pf_opening h I
  refine lv_aload_n hx hb dL_law_556 rfl (lv_at hl 1 rfl) ?_
  refine lw_call (E := eX5_opening) (as := []) (b := 0) (nn := 0) (rest := []) ⟨hx, hb, hml, hown, hts⟩ hfv F hP hS kE_X5_opening (by decide) rfl (Or.inl rfl) lwM_eX5_opening lwI_eX5_opening lwS_eX5_opening (by decide +kernel) rfl c1 rfl ⟨Nat.le_of_ble_eq_true rfl, Nat.le_of_ble_eq_true rfl⟩ hl.1 (lv_room (Nat.le_of_ble_eq_true rfl)) hcl hsl dL_law_557 (fun H locs hP hS => ?_)
  refine lv_aload_n hx hb dL_law_560 rfl (lv_at hl 2 rfl) ?_
  refine lw_call (E := eX6_opening) (as := []) (b := 59) (nn := 0) (rest := [.int x]) ⟨hx, hb, hml, hown, hts⟩ hfv F hP hS kE_X6_opening (by decide) rfl (Or.inr rfl) lwM_eX6_opening lwI_eX6_opening lwS_eX6_opening (by decide +kernel) rfl c2 rfl ⟨Nat.le_of_ble_eq_true rfl, Nat.le_of_ble_eq_true rfl⟩ hl.1 (lv_room (Nat.le_of_ble_eq_true rfl)) hcl hsl dL_law_561 (fun H locs hP hS => ?_)
  exact lv_icmp_eq (tgt := 1235) hx hb dL_law_564 (by decide) (fun _ => kk h2 _ _ I2 hP hS) (fun q => absurd rfl q)
theorem lwM_eX5_family : inW (.methodLink R_law 69 yX5_family) := ⟨(lw_m3 (List.mem_of_getElem? (i := 15) rfl)), rfl⟩
theorem lwI_eX5_family : inW (.instanceMethod yX5_family) := ⟨(lw_m3 (List.mem_of_getElem? (i := 16) rfl)), rfl⟩
theorem lwS_eX5_family : inW (.selects RX5 yX5_family yX5_family) := ⟨(lw_m3 (List.mem_of_getElem? (i := 17) rfl)), rfl⟩
theorem lwM_eX6_family : inW (.methodLink R_law 72 yX6_family) := ⟨(lw_m5 (List.mem_of_getElem? (i := 70) rfl)), rfl⟩
theorem lwI_eX6_family : inW (.instanceMethod yX6_family) := ⟨(lw_m5 (List.mem_of_getElem? (i := 71) rfl)), rfl⟩
theorem lwS_eX6_family : inW (.selects RX6 yX6_family yX6_family) := ⟨(lw_m5 (List.mem_of_getElem? (i := 72) rfl)), rfl⟩
theorem lc_family {p : Program} {l : Launch} {e : Env} {s : State} {m : MethodId} {below : List Frame} {meth : Method} {c : Code} {H : Heap} {locs : List Loc} {cells slots : Nat} {Q : State → Prop} {ls : Array Slot} {b L : Nat} {xs : Nat → Int32} {x3 : Int32} {D : va_G} {cs : ClassId × ClassId × ClassId} {kc : Nat → Nat} {fv : Value} {h : mH} (hx : p.tables.exec = Jvm.exec) (hb : c.code = code) (hml : c.maxLocals = 4) (hown : s.vm.findClass R_law = some m.cls) (hts : ∀ w ∈ lw_tbl, w.before #[Value.ref b] s = true) (hX : va_X b L xs s s.heap) (hbl : b < s.heap.size) (hfv : fv = .null ∨ ∃ a, fv = .ref a) (F : wFx D cs (adK s.heap.size kc) fv s s.heap) (I : Inv h) (hP : va_P D vwCl (wL cs (adK s.heap.size kc) h) H) (hS : va_S (fun q => s.heap.size ≤ q) s.heap H locs) (hl : lv_has ls 4 [(0, .ref b), (1, .ref (adK s.heap.size kc 0)), (2, .ref (adK s.heap.size kc 59)), (3, .int x3)]) (hin : ∀ j : Int32, j = 1 ∨ j = 2 ∨ j = 3 ∨ j = 4 ∨ j = 5 → vp_in (x3 + j) L) (hcl : cells ≤ 600000) (hsl : slots ≤ 7302250)
    (kk : ∀ (h2 : mH) (H1 : Heap) (locs1 : List Loc), Inv h2 → va_P D vwCl (wL cs (adK s.heap.size kc) h2) H1 → va_S (fun q => s.heap.size ≤ q) s.heap H1 locs1 → W p l e room_1 s m #[Value.ref b] below meth c H1 locs1 cells slots Q (F0 m 1235 ls [])) : W p l e room_1 s m #[Value.ref b] below meth c H locs cells slots Q (F0 m 569 ls []) := by
  have hbA : ¬ (fun q : Nat => s.heap.size ≤ q) b := Nat.not_le.mpr hbl
  obtain ⟨v, h1, h2, ⟨x, rfl⟩, c1, c2, I2⟩ := pf_family (xs (x3 + 1).toNatClampNeg) (xs (x3 + 2).toNatClampNeg) h I
  refine lv_aload_n hx hb dL_law_569 rfl (lv_at hl 1 rfl) ?_
  refine lv_aload_n hx hb dL_law_570 rfl (lv_at hl 0 rfl) ?_
  refine lv_iload_n hx hb dL_law_571 rfl (lv_at hl 3 rfl) ?_
  refine lv_iconst (v := 1) hx hb dL_law_572 (by decide) ?_
  refine lv_iadd hx hb dL_law_573 ?_
  refine va_sld hx hb hX hbl hbA hS (hin 1 (by decide)) dL_law_574 ?_
  refine lv_aload_n hx hb dL_law_575 rfl (lv_at hl 0 rfl) ?_
  refine lv_iload_n hx hb dL_law_576 rfl (lv_at hl 3 rfl) ?_
  refine lv_iconst (v := 2) hx hb dL_law_577 (by decide) ?_
  refine lv_iadd hx hb dL_law_578 ?_
  refine va_sld hx hb hX hbl hbA hS (hin 2 (by decide)) dL_law_579 ?_
  refine lw_call (E := eX5_family) (as := [.int (xs (x3 + 1).toNatClampNeg), .int (xs (x3 + 2).toNatClampNeg)]) (b := 0) (nn := 2) (rest := []) ⟨hx, hb, hml, hown, hts⟩ hfv F hP hS kE_X5_family (by decide) rfl (Or.inl rfl) lwM_eX5_family lwI_eX5_family lwS_eX5_family (by decide +kernel) rfl c1 rfl ⟨Nat.le_of_ble_eq_true rfl, Nat.le_of_ble_eq_true rfl⟩ hl.1 (lv_room (Nat.le_of_ble_eq_true rfl)) hcl hsl dL_law_580 (fun H locs hP hS => ?_)
  refine lv_aload_n hx hb dL_law_583 rfl (lv_at hl 2 rfl) ?_
  refine lv_aload_n hx hb dL_law_584 rfl (lv_at hl 0 rfl) ?_
  refine lv_iload_n hx hb dL_law_585 rfl (lv_at hl 3 rfl) ?_
  refine lv_iconst (v := 1) hx hb dL_law_586 (by decide) ?_
  refine lv_iadd hx hb dL_law_587 ?_
  refine va_sld hx hb hX hbl hbA hS (hin 1 (by decide)) dL_law_588 ?_
  refine lv_aload_n hx hb dL_law_589 rfl (lv_at hl 0 rfl) ?_
  refine lv_iload_n hx hb dL_law_590 rfl (lv_at hl 3 rfl) ?_
  refine lv_iconst (v := 2) hx hb dL_law_591 (by decide) ?_
  refine lv_iadd hx hb dL_law_592 ?_
  refine va_sld hx hb hX hbl hbA hS (hin 2 (by decide)) dL_law_593 ?_
  refine lw_call (E := eX6_family) (as := [.int (xs (x3 + 1).toNatClampNeg), .int (xs (x3 + 2).toNatClampNeg)]) (b := 59) (nn := 2) (rest := [.int x]) ⟨hx, hb, hml, hown, hts⟩ hfv F hP hS kE_X6_family (by decide) rfl (Or.inr rfl) lwM_eX6_family lwI_eX6_family lwS_eX6_family (by decide +kernel) rfl c2 rfl ⟨Nat.le_of_ble_eq_true rfl, Nat.le_of_ble_eq_true rfl⟩ hl.1 (lv_room (Nat.le_of_ble_eq_true rfl)) hcl hsl dL_law_594 (fun H locs hP hS => ?_)
  exact lv_icmp_eq (tgt := 1235) hx hb dL_law_597 (by decide) (fun _ => kk h2 _ _ I2 hP hS) (fun q => absurd rfl q)
theorem lwM_eX5_common : inW (.methodLink R_law 73 yX5_common) := ⟨(lw_m3 (List.mem_of_getElem? (i := 46) rfl)), rfl⟩
theorem lwI_eX5_common : inW (.instanceMethod yX5_common) := ⟨(lw_m3 (List.mem_of_getElem? (i := 47) rfl)), rfl⟩
theorem lwS_eX5_common : inW (.selects RX5 yX5_common yX5_common) := ⟨(lw_m3 (List.mem_of_getElem? (i := 48) rfl)), rfl⟩
theorem lwM_eX6_common : inW (.methodLink R_law 76 yX6_common) := ⟨(lw_m5 (List.mem_of_getElem? (i := 90) rfl)), rfl⟩
theorem lwI_eX6_common : inW (.instanceMethod yX6_common) := ⟨(lw_m5 (List.mem_of_getElem? (i := 91) rfl)), rfl⟩
theorem lwS_eX6_common : inW (.selects RX6 yX6_common yX6_common) := ⟨(lw_m5 (List.mem_of_getElem? (i := 92) rfl)), rfl⟩
theorem lc_common {p : Program} {l : Launch} {e : Env} {s : State} {m : MethodId} {below : List Frame} {meth : Method} {c : Code} {H : Heap} {locs : List Loc} {cells slots : Nat} {Q : State → Prop} {ls : Array Slot} {b L : Nat} {xs : Nat → Int32} {x3 : Int32} {D : va_G} {cs : ClassId × ClassId × ClassId} {kc : Nat → Nat} {fv : Value} {h : mH} (hx : p.tables.exec = Jvm.exec) (hb : c.code = code) (hml : c.maxLocals = 4) (hown : s.vm.findClass R_law = some m.cls) (hts : ∀ w ∈ lw_tbl, w.before #[Value.ref b] s = true) (hX : va_X b L xs s s.heap) (hbl : b < s.heap.size) (hfv : fv = .null ∨ ∃ a, fv = .ref a) (F : wFx D cs (adK s.heap.size kc) fv s s.heap) (I : Inv h) (hP : va_P D vwCl (wL cs (adK s.heap.size kc) h) H) (hS : va_S (fun q => s.heap.size ≤ q) s.heap H locs) (hl : lv_has ls 4 [(0, .ref b), (1, .ref (adK s.heap.size kc 0)), (2, .ref (adK s.heap.size kc 59)), (3, .int x3)]) (hin : ∀ j : Int32, j = 1 ∨ j = 2 ∨ j = 3 ∨ j = 4 ∨ j = 5 → vp_in (x3 + j) L) (hcl : cells ≤ 600000) (hsl : slots ≤ 7302250)
    (kk : ∀ (h2 : mH) (H1 : Heap) (locs1 : List Loc), Inv h2 → va_P D vwCl (wL cs (adK s.heap.size kc) h2) H1 → va_S (fun q => s.heap.size ≤ q) s.heap H1 locs1 → W p l e room_1 s m #[Value.ref b] below meth c H1 locs1 cells slots Q (F0 m 1235 ls [])) : W p l e room_1 s m #[Value.ref b] below meth c H locs cells slots Q (F0 m 602 ls []) := by
  have hbA : ¬ (fun q : Nat => s.heap.size ≤ q) b := Nat.not_le.mpr hbl
  obtain ⟨v, h1, h2, ⟨x, rfl⟩, c1, c2, I2⟩ := pf_common (xs (x3 + 1).toNatClampNeg) (xs (x3 + 2).toNatClampNeg) h I
  refine lv_aload_n hx hb dL_law_602 rfl (lv_at hl 1 rfl) ?_
  refine lv_aload_n hx hb dL_law_603 rfl (lv_at hl 0 rfl) ?_
  refine lv_iload_n hx hb dL_law_604 rfl (lv_at hl 3 rfl) ?_
  refine lv_iconst (v := 1) hx hb dL_law_605 (by decide) ?_
  refine lv_iadd hx hb dL_law_606 ?_
  refine va_sld hx hb hX hbl hbA hS (hin 1 (by decide)) dL_law_607 ?_
  refine lv_aload_n hx hb dL_law_608 rfl (lv_at hl 0 rfl) ?_
  refine lv_iload_n hx hb dL_law_609 rfl (lv_at hl 3 rfl) ?_
  refine lv_iconst (v := 2) hx hb dL_law_610 (by decide) ?_
  refine lv_iadd hx hb dL_law_611 ?_
  refine va_sld hx hb hX hbl hbA hS (hin 2 (by decide)) dL_law_612 ?_
  refine lw_call (E := eX5_common) (as := [.int (xs (x3 + 1).toNatClampNeg), .int (xs (x3 + 2).toNatClampNeg)]) (b := 0) (nn := 2) (rest := []) ⟨hx, hb, hml, hown, hts⟩ hfv F hP hS kE_X5_common (by decide) rfl (Or.inl rfl) lwM_eX5_common lwI_eX5_common lwS_eX5_common (by decide +kernel) rfl c1 rfl ⟨Nat.le_of_ble_eq_true rfl, Nat.le_of_ble_eq_true rfl⟩ hl.1 (lv_room (Nat.le_of_ble_eq_true rfl)) hcl hsl dL_law_613 (fun H locs hP hS => ?_)
  refine lv_aload_n hx hb dL_law_616 rfl (lv_at hl 2 rfl) ?_
  refine lv_aload_n hx hb dL_law_617 rfl (lv_at hl 0 rfl) ?_
  refine lv_iload_n hx hb dL_law_618 rfl (lv_at hl 3 rfl) ?_
  refine lv_iconst (v := 1) hx hb dL_law_619 (by decide) ?_
  refine lv_iadd hx hb dL_law_620 ?_
  refine va_sld hx hb hX hbl hbA hS (hin 1 (by decide)) dL_law_621 ?_
  refine lv_aload_n hx hb dL_law_622 rfl (lv_at hl 0 rfl) ?_
  refine lv_iload_n hx hb dL_law_623 rfl (lv_at hl 3 rfl) ?_
  refine lv_iconst (v := 2) hx hb dL_law_624 (by decide) ?_
  refine lv_iadd hx hb dL_law_625 ?_
  refine va_sld hx hb hX hbl hbA hS (hin 2 (by decide)) dL_law_626 ?_
  refine lw_call (E := eX6_common) (as := [.int (xs (x3 + 1).toNatClampNeg), .int (xs (x3 + 2).toNatClampNeg)]) (b := 59) (nn := 2) (rest := [.int x]) ⟨hx, hb, hml, hown, hts⟩ hfv F hP hS kE_X6_common (by decide) rfl (Or.inr rfl) lwM_eX6_common lwI_eX6_common lwS_eX6_common (by decide +kernel) rfl c2 rfl ⟨Nat.le_of_ble_eq_true rfl, Nat.le_of_ble_eq_true rfl⟩ hl.1 (lv_room (Nat.le_of_ble_eq_true rfl)) hcl hsl dL_law_627 (fun H locs hP hS => ?_)
  exact lv_icmp_eq (tgt := 1235) hx hb dL_law_630 (by decide) (fun _ => kk h2 _ _ I2 hP hS) (fun q => absurd rfl q)
theorem lwM_eX5_nearest : inW (.methodLink R_law 77 yX5_nearest) := ⟨(lw_m3 (List.mem_of_getElem? (i := 56) rfl)), rfl⟩
theorem lwI_eX5_nearest : inW (.instanceMethod yX5_nearest) := ⟨(lw_m3 (List.mem_of_getElem? (i := 57) rfl)), rfl⟩
theorem lwS_eX5_nearest : inW (.selects RX5 yX5_nearest yX5_nearest) := ⟨(lw_m3 (List.mem_of_getElem? (i := 58) rfl)), rfl⟩
theorem lwM_eX6_nearest : inW (.methodLink R_law 80 yX6_nearest) := ⟨(lw_m5 (List.mem_of_getElem? (i := 94) rfl)), rfl⟩
theorem lwI_eX6_nearest : inW (.instanceMethod yX6_nearest) := ⟨(lw_m5 (List.mem_of_getElem? (i := 95) rfl)), rfl⟩
theorem lwS_eX6_nearest : inW (.selects RX6 yX6_nearest yX6_nearest) := ⟨(lw_m5 (List.mem_of_getElem? (i := 96) rfl)), rfl⟩
theorem lc_nearest {p : Program} {l : Launch} {e : Env} {s : State} {m : MethodId} {below : List Frame} {meth : Method} {c : Code} {H : Heap} {locs : List Loc} {cells slots : Nat} {Q : State → Prop} {ls : Array Slot} {b L : Nat} {xs : Nat → Int32} {x3 : Int32} {D : va_G} {cs : ClassId × ClassId × ClassId} {kc : Nat → Nat} {fv : Value} {h : mH} (hx : p.tables.exec = Jvm.exec) (hb : c.code = code) (hml : c.maxLocals = 4) (hown : s.vm.findClass R_law = some m.cls) (hts : ∀ w ∈ lw_tbl, w.before #[Value.ref b] s = true) (hX : va_X b L xs s s.heap) (hbl : b < s.heap.size) (hfv : fv = .null ∨ ∃ a, fv = .ref a) (F : wFx D cs (adK s.heap.size kc) fv s s.heap) (I : Inv h) (hP : va_P D vwCl (wL cs (adK s.heap.size kc) h) H) (hS : va_S (fun q => s.heap.size ≤ q) s.heap H locs) (hl : lv_has ls 4 [(0, .ref b), (1, .ref (adK s.heap.size kc 0)), (2, .ref (adK s.heap.size kc 59)), (3, .int x3)]) (hin : ∀ j : Int32, j = 1 ∨ j = 2 ∨ j = 3 ∨ j = 4 ∨ j = 5 → vp_in (x3 + j) L) (hcl : cells ≤ 600000) (hsl : slots ≤ 7302250)
    (kk : ∀ (h2 : mH) (H1 : Heap) (locs1 : List Loc), Inv h2 → va_P D vwCl (wL cs (adK s.heap.size kc) h2) H1 → va_S (fun q => s.heap.size ≤ q) s.heap H1 locs1 → W p l e room_1 s m #[Value.ref b] below meth c H1 locs1 cells slots Q (F0 m 1235 ls [])) : W p l e room_1 s m #[Value.ref b] below meth c H locs cells slots Q (F0 m 635 ls []) := by
  have hbA : ¬ (fun q : Nat => s.heap.size ≤ q) b := Nat.not_le.mpr hbl
  obtain ⟨v, h1, h2, ⟨x, rfl⟩, c1, c2, I2⟩ := pf_nearest h I
  refine lv_aload_n hx hb dL_law_635 rfl (lv_at hl 1 rfl) ?_
  refine lw_call (E := eX5_nearest) (as := []) (b := 0) (nn := 0) (rest := []) ⟨hx, hb, hml, hown, hts⟩ hfv F hP hS kE_X5_nearest (by decide) rfl (Or.inl rfl) lwM_eX5_nearest lwI_eX5_nearest lwS_eX5_nearest (by decide +kernel) rfl c1 rfl ⟨Nat.le_of_ble_eq_true rfl, Nat.le_of_ble_eq_true rfl⟩ hl.1 (lv_room (Nat.le_of_ble_eq_true rfl)) hcl hsl dL_law_636 (fun H locs hP hS => ?_)
  refine lv_aload_n hx hb dL_law_639 rfl (lv_at hl 2 rfl) ?_
  refine lw_call (E := eX6_nearest) (as := []) (b := 59) (nn := 0) (rest := [.int x]) ⟨hx, hb, hml, hown, hts⟩ hfv F hP hS kE_X6_nearest (by decide) rfl (Or.inr rfl) lwM_eX6_nearest lwI_eX6_nearest lwS_eX6_nearest (by decide +kernel) rfl c2 rfl ⟨Nat.le_of_ble_eq_true rfl, Nat.le_of_ble_eq_true rfl⟩ hl.1 (lv_room (Nat.le_of_ble_eq_true rfl)) hcl hsl dL_law_640 (fun H locs hP hS => ?_)
  exact lv_icmp_eq (tgt := 1235) hx hb dL_law_643 (by decide) (fun _ => kk h2 _ _ I2 hP hS) (fun q => absurd rfl q)
theorem lwM_eX5_next : inW (.methodLink R_law 81 yX5_next) := ⟨(lw_m3 (List.mem_of_getElem? (i := 75) rfl)), rfl⟩
theorem lwI_eX5_next : inW (.instanceMethod yX5_next) := ⟨(lw_m3 (List.mem_of_getElem? (i := 76) rfl)), rfl⟩
theorem lwS_eX5_next : inW (.selects RX5 yX5_next yX5_next) := ⟨(lw_m3 (List.mem_of_getElem? (i := 77) rfl)), rfl⟩
theorem lwM_eX6_next : inW (.methodLink R_law 84 yX6_next) := ⟨(lw_m5 (List.mem_of_getElem? (i := 98) rfl)), rfl⟩
theorem lwI_eX6_next : inW (.instanceMethod yX6_next) := ⟨(lw_m5 (List.mem_of_getElem? (i := 99) rfl)), rfl⟩
theorem lwS_eX6_next : inW (.selects RX6 yX6_next yX6_next) := ⟨(lw_m5 (List.mem_of_getElem? (i := 100) rfl)), rfl⟩
theorem lc_next {p : Program} {l : Launch} {e : Env} {s : State} {m : MethodId} {below : List Frame} {meth : Method} {c : Code} {H : Heap} {locs : List Loc} {cells slots : Nat} {Q : State → Prop} {ls : Array Slot} {b L : Nat} {xs : Nat → Int32} {x3 : Int32} {D : va_G} {cs : ClassId × ClassId × ClassId} {kc : Nat → Nat} {fv : Value} {h : mH} (hx : p.tables.exec = Jvm.exec) (hb : c.code = code) (hml : c.maxLocals = 4) (hown : s.vm.findClass R_law = some m.cls) (hts : ∀ w ∈ lw_tbl, w.before #[Value.ref b] s = true) (hX : va_X b L xs s s.heap) (hbl : b < s.heap.size) (hfv : fv = .null ∨ ∃ a, fv = .ref a) (F : wFx D cs (adK s.heap.size kc) fv s s.heap) (I : Inv h) (hP : va_P D vwCl (wL cs (adK s.heap.size kc) h) H) (hS : va_S (fun q => s.heap.size ≤ q) s.heap H locs) (hl : lv_has ls 4 [(0, .ref b), (1, .ref (adK s.heap.size kc 0)), (2, .ref (adK s.heap.size kc 59)), (3, .int x3)]) (hin : ∀ j : Int32, j = 1 ∨ j = 2 ∨ j = 3 ∨ j = 4 ∨ j = 5 → vp_in (x3 + j) L) (hcl : cells ≤ 600000) (hsl : slots ≤ 7302250)
    (kk : ∀ (h2 : mH) (H1 : Heap) (locs1 : List Loc), Inv h2 → va_P D vwCl (wL cs (adK s.heap.size kc) h2) H1 → va_S (fun q => s.heap.size ≤ q) s.heap H1 locs1 → W p l e room_1 s m #[Value.ref b] below meth c H1 locs1 cells slots Q (F0 m 1235 ls [])) : W p l e room_1 s m #[Value.ref b] below meth c H locs cells slots Q (F0 m 648 ls []) := by
  have hbA : ¬ (fun q : Nat => s.heap.size ≤ q) b := Nat.not_le.mpr hbl
  obtain ⟨v, h1, h2, ⟨x, rfl⟩, c1, c2, I2⟩ := pf_next (xs (x3 + 1).toNatClampNeg) h I
  refine lv_aload_n hx hb dL_law_648 rfl (lv_at hl 1 rfl) ?_
  refine lv_aload_n hx hb dL_law_649 rfl (lv_at hl 0 rfl) ?_
  refine lv_iload_n hx hb dL_law_650 rfl (lv_at hl 3 rfl) ?_
  refine lv_iconst (v := 1) hx hb dL_law_651 (by decide) ?_
  refine lv_iadd hx hb dL_law_652 ?_
  refine va_sld hx hb hX hbl hbA hS (hin 1 (by decide)) dL_law_653 ?_
  refine lw_call (E := eX5_next) (as := [.int (xs (x3 + 1).toNatClampNeg)]) (b := 0) (nn := 1) (rest := []) ⟨hx, hb, hml, hown, hts⟩ hfv F hP hS kE_X5_next (by decide) rfl (Or.inl rfl) lwM_eX5_next lwI_eX5_next lwS_eX5_next (by decide +kernel) rfl c1 rfl ⟨Nat.le_of_ble_eq_true rfl, Nat.le_of_ble_eq_true rfl⟩ hl.1 (lv_room (Nat.le_of_ble_eq_true rfl)) hcl hsl dL_law_654 (fun H locs hP hS => ?_)
  refine lv_aload_n hx hb dL_law_657 rfl (lv_at hl 2 rfl) ?_
  refine lv_aload_n hx hb dL_law_658 rfl (lv_at hl 0 rfl) ?_
  refine lv_iload_n hx hb dL_law_659 rfl (lv_at hl 3 rfl) ?_
  refine lv_iconst (v := 1) hx hb dL_law_660 (by decide) ?_
  refine lv_iadd hx hb dL_law_661 ?_
  refine va_sld hx hb hX hbl hbA hS (hin 1 (by decide)) dL_law_662 ?_
  refine lw_call (E := eX6_next) (as := [.int (xs (x3 + 1).toNatClampNeg)]) (b := 59) (nn := 1) (rest := [.int x]) ⟨hx, hb, hml, hown, hts⟩ hfv F hP hS kE_X6_next (by decide) rfl (Or.inr rfl) lwM_eX6_next lwI_eX6_next lwS_eX6_next (by decide +kernel) rfl c2 rfl ⟨Nat.le_of_ble_eq_true rfl, Nat.le_of_ble_eq_true rfl⟩ hl.1 (lv_room (Nat.le_of_ble_eq_true rfl)) hcl hsl dL_law_663 (fun H locs hP hS => ?_)
  exact lv_icmp_eq (tgt := 1235) hx hb dL_law_666 (by decide) (fun _ => kk h2 _ _ I2 hP hS) (fun q => absurd rfl q)
theorem lwM_eX5_inRow : inW (.methodLink R_law 85 yX5_inRow) := ⟨(lw_m3 (List.mem_of_getElem? (i := 98) rfl)), rfl⟩
theorem lwI_eX5_inRow : inW (.instanceMethod yX5_inRow) := ⟨(lw_m3 (List.mem_of_getElem? (i := 99) rfl)), rfl⟩
theorem lwS_eX5_inRow : inW (.selects RX5 yX5_inRow yX5_inRow) := ⟨(lw_m3 (List.mem_of_getElem? (i := 100) rfl)), rfl⟩
theorem lwM_eX6_inRow : inW (.methodLink R_law 88 yX6_inRow) := ⟨(lw_m5 (List.mem_of_getElem? (i := 103) rfl)), rfl⟩
theorem lwI_eX6_inRow : inW (.instanceMethod yX6_inRow) := ⟨(lw_m5 (List.mem_of_getElem? (i := 104) rfl)), rfl⟩
theorem lwS_eX6_inRow : inW (.selects RX6 yX6_inRow yX6_inRow) := ⟨(lw_m5 (List.mem_of_getElem? (i := 105) rfl)), rfl⟩
theorem lc_inRow {p : Program} {l : Launch} {e : Env} {s : State} {m : MethodId} {below : List Frame} {meth : Method} {c : Code} {H : Heap} {locs : List Loc} {cells slots : Nat} {Q : State → Prop} {ls : Array Slot} {b L : Nat} {xs : Nat → Int32} {x3 : Int32} {D : va_G} {cs : ClassId × ClassId × ClassId} {kc : Nat → Nat} {fv : Value} {h : mH} (hx : p.tables.exec = Jvm.exec) (hb : c.code = code) (hml : c.maxLocals = 4) (hown : s.vm.findClass R_law = some m.cls) (hts : ∀ w ∈ lw_tbl, w.before #[Value.ref b] s = true) (hX : va_X b L xs s s.heap) (hbl : b < s.heap.size) (hfv : fv = .null ∨ ∃ a, fv = .ref a) (F : wFx D cs (adK s.heap.size kc) fv s s.heap) (I : Inv h) (hP : va_P D vwCl (wL cs (adK s.heap.size kc) h) H) (hS : va_S (fun q => s.heap.size ≤ q) s.heap H locs) (hl : lv_has ls 4 [(0, .ref b), (1, .ref (adK s.heap.size kc 0)), (2, .ref (adK s.heap.size kc 59)), (3, .int x3)]) (hin : ∀ j : Int32, j = 1 ∨ j = 2 ∨ j = 3 ∨ j = 4 ∨ j = 5 → vp_in (x3 + j) L) (hcl : cells ≤ 600000) (hsl : slots ≤ 7302250)
    (kk : ∀ (h2 : mH) (H1 : Heap) (locs1 : List Loc), Inv h2 → va_P D vwCl (wL cs (adK s.heap.size kc) h2) H1 → va_S (fun q => s.heap.size ≤ q) s.heap H1 locs1 → W p l e room_1 s m #[Value.ref b] below meth c H1 locs1 cells slots Q (F0 m 1235 ls [])) : W p l e room_1 s m #[Value.ref b] below meth c H locs cells slots Q (F0 m 671 ls []) := by
  have hbA : ¬ (fun q : Nat => s.heap.size ≤ q) b := Nat.not_le.mpr hbl
  obtain ⟨v, h1, h2, ⟨x, rfl⟩, c1, c2, I2⟩ := pf_inRow (xs (x3 + 1).toNatClampNeg) (xs (x3 + 2).toNatClampNeg) (xs (x3 + 3).toNatClampNeg) h I
  refine lv_aload_n hx hb dL_law_671 rfl (lv_at hl 1 rfl) ?_
  refine lv_aload_n hx hb dL_law_672 rfl (lv_at hl 0 rfl) ?_
  refine lv_iload_n hx hb dL_law_673 rfl (lv_at hl 3 rfl) ?_
  refine lv_iconst (v := 1) hx hb dL_law_674 (by decide) ?_
  refine lv_iadd hx hb dL_law_675 ?_
  refine va_sld hx hb hX hbl hbA hS (hin 1 (by decide)) dL_law_676 ?_
  refine lv_aload_n hx hb dL_law_677 rfl (lv_at hl 0 rfl) ?_
  refine lv_iload_n hx hb dL_law_678 rfl (lv_at hl 3 rfl) ?_
  refine lv_iconst (v := 2) hx hb dL_law_679 (by decide) ?_
  refine lv_iadd hx hb dL_law_680 ?_
  refine va_sld hx hb hX hbl hbA hS (hin 2 (by decide)) dL_law_681 ?_
  refine lv_aload_n hx hb dL_law_682 rfl (lv_at hl 0 rfl) ?_
  refine lv_iload_n hx hb dL_law_683 rfl (lv_at hl 3 rfl) ?_
  refine lv_iconst (v := 3) hx hb dL_law_684 (by decide) ?_
  refine lv_iadd hx hb dL_law_685 ?_
  refine va_sld hx hb hX hbl hbA hS (hin 3 (by decide)) dL_law_686 ?_
  refine lw_call (E := eX5_inRow) (as := [.int (xs (x3 + 1).toNatClampNeg), .int (xs (x3 + 2).toNatClampNeg), .int (xs (x3 + 3).toNatClampNeg)]) (b := 0) (nn := 3) (rest := []) ⟨hx, hb, hml, hown, hts⟩ hfv F hP hS kE_X5_inRow (by decide) rfl (Or.inl rfl) lwM_eX5_inRow lwI_eX5_inRow lwS_eX5_inRow (by decide +kernel) rfl c1 rfl ⟨Nat.le_of_ble_eq_true rfl, Nat.le_of_ble_eq_true rfl⟩ hl.1 (lv_room (Nat.le_of_ble_eq_true rfl)) hcl hsl dL_law_687 (fun H locs hP hS => ?_)
  refine lv_aload_n hx hb dL_law_690 rfl (lv_at hl 2 rfl) ?_
  refine lv_aload_n hx hb dL_law_691 rfl (lv_at hl 0 rfl) ?_
  refine lv_iload_n hx hb dL_law_692 rfl (lv_at hl 3 rfl) ?_
  refine lv_iconst (v := 1) hx hb dL_law_693 (by decide) ?_
  refine lv_iadd hx hb dL_law_694 ?_
  refine va_sld hx hb hX hbl hbA hS (hin 1 (by decide)) dL_law_695 ?_
  refine lv_aload_n hx hb dL_law_696 rfl (lv_at hl 0 rfl) ?_
  refine lv_iload_n hx hb dL_law_697 rfl (lv_at hl 3 rfl) ?_
  refine lv_iconst (v := 2) hx hb dL_law_698 (by decide) ?_
  refine lv_iadd hx hb dL_law_699 ?_
  refine va_sld hx hb hX hbl hbA hS (hin 2 (by decide)) dL_law_700 ?_
  refine lv_aload_n hx hb dL_law_701 rfl (lv_at hl 0 rfl) ?_
  refine lv_iload_n hx hb dL_law_702 rfl (lv_at hl 3 rfl) ?_
  refine lv_iconst (v := 3) hx hb dL_law_703 (by decide) ?_
  refine lv_iadd hx hb dL_law_704 ?_
  refine va_sld hx hb hX hbl hbA hS (hin 3 (by decide)) dL_law_705 ?_
  refine lw_call (E := eX6_inRow) (as := [.int (xs (x3 + 1).toNatClampNeg), .int (xs (x3 + 2).toNatClampNeg), .int (xs (x3 + 3).toNatClampNeg)]) (b := 59) (nn := 3) (rest := [.int x]) ⟨hx, hb, hml, hown, hts⟩ hfv F hP hS kE_X6_inRow (by decide) rfl (Or.inr rfl) lwM_eX6_inRow lwI_eX6_inRow lwS_eX6_inRow (by decide +kernel) rfl c2 rfl ⟨Nat.le_of_ble_eq_true rfl, Nat.le_of_ble_eq_true rfl⟩ hl.1 (lv_room (Nat.le_of_ble_eq_true rfl)) hcl hsl dL_law_706 (fun H locs hP hS => ?_)
  exact lv_icmp_eq (tgt := 1235) hx hb dL_law_709 (by decide) (fun _ => kk h2 _ _ I2 hP hS) (fun q => absurd rfl q)
theorem lwM_eX5_lasts : inW (.methodLink R_law 89 yX5_lasts) := ⟨(lw_m3 (List.mem_of_getElem? (i := 112) rfl)), rfl⟩
theorem lwI_eX5_lasts : inW (.instanceMethod yX5_lasts) := ⟨(lw_m3 (List.mem_of_getElem? (i := 113) rfl)), rfl⟩
theorem lwS_eX5_lasts : inW (.selects RX5 yX5_lasts yX5_lasts) := ⟨(lw_m3 (List.mem_of_getElem? (i := 114) rfl)), rfl⟩
theorem lwM_eX6_lasts : inW (.methodLink R_law 92 yX6_lasts) := ⟨(lw_m5 (List.mem_of_getElem? (i := 107) rfl)), rfl⟩
theorem lwI_eX6_lasts : inW (.instanceMethod yX6_lasts) := ⟨(lw_m5 (List.mem_of_getElem? (i := 108) rfl)), rfl⟩
theorem lwS_eX6_lasts : inW (.selects RX6 yX6_lasts yX6_lasts) := ⟨(lw_m5 (List.mem_of_getElem? (i := 109) rfl)), rfl⟩
theorem lc_lasts {p : Program} {l : Launch} {e : Env} {s : State} {m : MethodId} {below : List Frame} {meth : Method} {c : Code} {H : Heap} {locs : List Loc} {cells slots : Nat} {Q : State → Prop} {ls : Array Slot} {b L : Nat} {xs : Nat → Int32} {x3 : Int32} {D : va_G} {cs : ClassId × ClassId × ClassId} {kc : Nat → Nat} {fv : Value} {h : mH} (hx : p.tables.exec = Jvm.exec) (hb : c.code = code) (hml : c.maxLocals = 4) (hown : s.vm.findClass R_law = some m.cls) (hts : ∀ w ∈ lw_tbl, w.before #[Value.ref b] s = true) (hX : va_X b L xs s s.heap) (hbl : b < s.heap.size) (hfv : fv = .null ∨ ∃ a, fv = .ref a) (F : wFx D cs (adK s.heap.size kc) fv s s.heap) (I : Inv h) (hP : va_P D vwCl (wL cs (adK s.heap.size kc) h) H) (hS : va_S (fun q => s.heap.size ≤ q) s.heap H locs) (hl : lv_has ls 4 [(0, .ref b), (1, .ref (adK s.heap.size kc 0)), (2, .ref (adK s.heap.size kc 59)), (3, .int x3)]) (hin : ∀ j : Int32, j = 1 ∨ j = 2 ∨ j = 3 ∨ j = 4 ∨ j = 5 → vp_in (x3 + j) L) (hcl : cells ≤ 600000) (hsl : slots ≤ 7302250)
    (kk : ∀ (h2 : mH) (H1 : Heap) (locs1 : List Loc), Inv h2 → va_P D vwCl (wL cs (adK s.heap.size kc) h2) H1 → va_S (fun q => s.heap.size ≤ q) s.heap H1 locs1 → W p l e room_1 s m #[Value.ref b] below meth c H1 locs1 cells slots Q (F0 m 1235 ls [])) : W p l e room_1 s m #[Value.ref b] below meth c H locs cells slots Q (F0 m 714 ls []) := by
  have hbA : ¬ (fun q : Nat => s.heap.size ≤ q) b := Nat.not_le.mpr hbl
  obtain ⟨v, h1, h2, ⟨x, rfl⟩, c1, c2, I2⟩ := pf_lasts (xs (x3 + 1).toNatClampNeg) h I
  refine lv_aload_n hx hb dL_law_714 rfl (lv_at hl 1 rfl) ?_
  refine lv_aload_n hx hb dL_law_715 rfl (lv_at hl 0 rfl) ?_
  refine lv_iload_n hx hb dL_law_716 rfl (lv_at hl 3 rfl) ?_
  refine lv_iconst (v := 1) hx hb dL_law_717 (by decide) ?_
  refine lv_iadd hx hb dL_law_718 ?_
  refine va_sld hx hb hX hbl hbA hS (hin 1 (by decide)) dL_law_719 ?_
  refine lw_call (E := eX5_lasts) (as := [.int (xs (x3 + 1).toNatClampNeg)]) (b := 0) (nn := 1) (rest := []) ⟨hx, hb, hml, hown, hts⟩ hfv F hP hS kE_X5_lasts (by decide) rfl (Or.inl rfl) lwM_eX5_lasts lwI_eX5_lasts lwS_eX5_lasts (by decide +kernel) rfl c1 rfl ⟨Nat.le_of_ble_eq_true rfl, Nat.le_of_ble_eq_true rfl⟩ hl.1 (lv_room (Nat.le_of_ble_eq_true rfl)) hcl hsl dL_law_720 (fun H locs hP hS => ?_)
  refine lv_aload_n hx hb dL_law_723 rfl (lv_at hl 2 rfl) ?_
  refine lv_aload_n hx hb dL_law_724 rfl (lv_at hl 0 rfl) ?_
  refine lv_iload_n hx hb dL_law_725 rfl (lv_at hl 3 rfl) ?_
  refine lv_iconst (v := 1) hx hb dL_law_726 (by decide) ?_
  refine lv_iadd hx hb dL_law_727 ?_
  refine va_sld hx hb hX hbl hbA hS (hin 1 (by decide)) dL_law_728 ?_
  refine lw_call (E := eX6_lasts) (as := [.int (xs (x3 + 1).toNatClampNeg)]) (b := 59) (nn := 1) (rest := [.int x]) ⟨hx, hb, hml, hown, hts⟩ hfv F hP hS kE_X6_lasts (by decide) rfl (Or.inr rfl) lwM_eX6_lasts lwI_eX6_lasts lwS_eX6_lasts (by decide +kernel) rfl c2 rfl ⟨Nat.le_of_ble_eq_true rfl, Nat.le_of_ble_eq_true rfl⟩ hl.1 (lv_room (Nat.le_of_ble_eq_true rfl)) hcl hsl dL_law_729 (fun H locs hP hS => ?_)
  exact lv_icmp_eq (tgt := 1235) hx hb dL_law_732 (by decide) (fun _ => kk h2 _ _ I2 hP hS) (fun q => absurd rfl q)
theorem lwM_eX5_fit : inW (.methodLink R_law 93 yX5_fit) := ⟨(lw_m3 (List.mem_of_getElem? (i := 127) rfl)), rfl⟩
theorem lwI_eX5_fit : inW (.instanceMethod yX5_fit) := ⟨(lw_m3 (List.mem_of_getElem? (i := 128) rfl)), rfl⟩
theorem lwS_eX5_fit : inW (.selects RX5 yX5_fit yX5_fit) := ⟨(lw_m3 (List.mem_of_getElem? (i := 129) rfl)), rfl⟩
theorem lwM_eX6_fit : inW (.methodLink R_law 96 yX6_fit) := ⟨(lw_m5 (List.mem_of_getElem? (i := 111) rfl)), rfl⟩
theorem lwI_eX6_fit : inW (.instanceMethod yX6_fit) := ⟨(lw_m5 (List.mem_of_getElem? (i := 112) rfl)), rfl⟩
theorem lwS_eX6_fit : inW (.selects RX6 yX6_fit yX6_fit) := ⟨(lw_m5 (List.mem_of_getElem? (i := 113) rfl)), rfl⟩
theorem lc_fit {p : Program} {l : Launch} {e : Env} {s : State} {m : MethodId} {below : List Frame} {meth : Method} {c : Code} {H : Heap} {locs : List Loc} {cells slots : Nat} {Q : State → Prop} {ls : Array Slot} {b L : Nat} {xs : Nat → Int32} {x3 : Int32} {D : va_G} {cs : ClassId × ClassId × ClassId} {kc : Nat → Nat} {fv : Value} {h : mH} (hx : p.tables.exec = Jvm.exec) (hb : c.code = code) (hml : c.maxLocals = 4) (hown : s.vm.findClass R_law = some m.cls) (hts : ∀ w ∈ lw_tbl, w.before #[Value.ref b] s = true) (hX : va_X b L xs s s.heap) (hbl : b < s.heap.size) (hfv : fv = .null ∨ ∃ a, fv = .ref a) (F : wFx D cs (adK s.heap.size kc) fv s s.heap) (I : Inv h) (hP : va_P D vwCl (wL cs (adK s.heap.size kc) h) H) (hS : va_S (fun q => s.heap.size ≤ q) s.heap H locs) (hl : lv_has ls 4 [(0, .ref b), (1, .ref (adK s.heap.size kc 0)), (2, .ref (adK s.heap.size kc 59)), (3, .int x3)]) (hin : ∀ j : Int32, j = 1 ∨ j = 2 ∨ j = 3 ∨ j = 4 ∨ j = 5 → vp_in (x3 + j) L) (hcl : cells ≤ 600000) (hsl : slots ≤ 7302250)
    (kk : ∀ (h2 : mH) (H1 : Heap) (locs1 : List Loc), Inv h2 → va_P D vwCl (wL cs (adK s.heap.size kc) h2) H1 → va_S (fun q => s.heap.size ≤ q) s.heap H1 locs1 → W p l e room_1 s m #[Value.ref b] below meth c H1 locs1 cells slots Q (F0 m 1235 ls [])) : W p l e room_1 s m #[Value.ref b] below meth c H locs cells slots Q (F0 m 737 ls []) := by
  have hbA : ¬ (fun q : Nat => s.heap.size ≤ q) b := Nat.not_le.mpr hbl
  obtain ⟨v, h1, h2, ⟨x, rfl⟩, c1, c2, I2⟩ := pf_fit (xs (x3 + 1).toNatClampNeg) h I
  refine lv_aload_n hx hb dL_law_737 rfl (lv_at hl 1 rfl) ?_
  refine lv_aload_n hx hb dL_law_738 rfl (lv_at hl 0 rfl) ?_
  refine lv_iload_n hx hb dL_law_739 rfl (lv_at hl 3 rfl) ?_
  refine lv_iconst (v := 1) hx hb dL_law_740 (by decide) ?_
  refine lv_iadd hx hb dL_law_741 ?_
  refine va_sld hx hb hX hbl hbA hS (hin 1 (by decide)) dL_law_742 ?_
  refine lw_call (E := eX5_fit) (as := [.int (xs (x3 + 1).toNatClampNeg)]) (b := 0) (nn := 1) (rest := []) ⟨hx, hb, hml, hown, hts⟩ hfv F hP hS kE_X5_fit (by decide) rfl (Or.inl rfl) lwM_eX5_fit lwI_eX5_fit lwS_eX5_fit (by decide +kernel) rfl c1 rfl ⟨Nat.le_of_ble_eq_true rfl, Nat.le_of_ble_eq_true rfl⟩ hl.1 (lv_room (Nat.le_of_ble_eq_true rfl)) hcl hsl dL_law_743 (fun H locs hP hS => ?_)
  refine lv_aload_n hx hb dL_law_746 rfl (lv_at hl 2 rfl) ?_
  refine lv_aload_n hx hb dL_law_747 rfl (lv_at hl 0 rfl) ?_
  refine lv_iload_n hx hb dL_law_748 rfl (lv_at hl 3 rfl) ?_
  refine lv_iconst (v := 1) hx hb dL_law_749 (by decide) ?_
  refine lv_iadd hx hb dL_law_750 ?_
  refine va_sld hx hb hX hbl hbA hS (hin 1 (by decide)) dL_law_751 ?_
  refine lw_call (E := eX6_fit) (as := [.int (xs (x3 + 1).toNatClampNeg)]) (b := 59) (nn := 1) (rest := [.int x]) ⟨hx, hb, hml, hown, hts⟩ hfv F hP hS kE_X6_fit (by decide) rfl (Or.inr rfl) lwM_eX6_fit lwI_eX6_fit lwS_eX6_fit (by decide +kernel) rfl c2 rfl ⟨Nat.le_of_ble_eq_true rfl, Nat.le_of_ble_eq_true rfl⟩ hl.1 (lv_room (Nat.le_of_ble_eq_true rfl)) hcl hsl dL_law_752 (fun H locs hP hS => ?_)
  exact lv_icmp_eq (tgt := 1235) hx hb dL_law_755 (by decide) (fun _ => kk h2 _ _ I2 hP hS) (fun q => absurd rfl q)
theorem lwM_eX5_anew : inW (.methodLink R_law 97 yX5_anew) := ⟨(lw_m3 (List.mem_of_getElem? (i := 132) rfl)), rfl⟩
theorem lwI_eX5_anew : inW (.instanceMethod yX5_anew) := ⟨(lw_m3 (List.mem_of_getElem? (i := 133) rfl)), rfl⟩
theorem lwS_eX5_anew : inW (.selects RX5 yX5_anew yX5_anew) := ⟨(lw_m3 (List.mem_of_getElem? (i := 134) rfl)), rfl⟩
theorem lwM_eX6_anew : inW (.methodLink R_law 100 yX6_anew) := ⟨(lw_m5 (List.mem_of_getElem? (i := 115) rfl)), rfl⟩
theorem lwI_eX6_anew : inW (.instanceMethod yX6_anew) := ⟨(lw_m5 (List.mem_of_getElem? (i := 116) rfl)), rfl⟩
theorem lwS_eX6_anew : inW (.selects RX6 yX6_anew yX6_anew) := ⟨(lw_m5 (List.mem_of_getElem? (i := 117) rfl)), rfl⟩
theorem lc_anew {p : Program} {l : Launch} {e : Env} {s : State} {m : MethodId} {below : List Frame} {meth : Method} {c : Code} {H : Heap} {locs : List Loc} {cells slots : Nat} {Q : State → Prop} {ls : Array Slot} {b L : Nat} {xs : Nat → Int32} {x3 : Int32} {D : va_G} {cs : ClassId × ClassId × ClassId} {kc : Nat → Nat} {fv : Value} {h : mH} (hx : p.tables.exec = Jvm.exec) (hb : c.code = code) (hml : c.maxLocals = 4) (hown : s.vm.findClass R_law = some m.cls) (hts : ∀ w ∈ lw_tbl, w.before #[Value.ref b] s = true) (hX : va_X b L xs s s.heap) (hbl : b < s.heap.size) (hfv : fv = .null ∨ ∃ a, fv = .ref a) (F : wFx D cs (adK s.heap.size kc) fv s s.heap) (I : Inv h) (hP : va_P D vwCl (wL cs (adK s.heap.size kc) h) H) (hS : va_S (fun q => s.heap.size ≤ q) s.heap H locs) (hl : lv_has ls 4 [(0, .ref b), (1, .ref (adK s.heap.size kc 0)), (2, .ref (adK s.heap.size kc 59)), (3, .int x3)]) (hin : ∀ j : Int32, j = 1 ∨ j = 2 ∨ j = 3 ∨ j = 4 ∨ j = 5 → vp_in (x3 + j) L) (hcl : cells ≤ 600000) (hsl : slots ≤ 7302250)
    (kk : ∀ (h2 : mH) (H1 : Heap) (locs1 : List Loc), Inv h2 → va_P D vwCl (wL cs (adK s.heap.size kc) h2) H1 → va_S (fun q => s.heap.size ≤ q) s.heap H1 locs1 → W p l e room_1 s m #[Value.ref b] below meth c H1 locs1 cells slots Q (F0 m 1235 ls [])) : W p l e room_1 s m #[Value.ref b] below meth c H locs cells slots Q (F0 m 760 ls []) := by
  have hbA : ¬ (fun q : Nat => s.heap.size ≤ q) b := Nat.not_le.mpr hbl
  obtain ⟨v, h1, h2, ⟨x, rfl⟩, c1, c2, I2⟩ := pf_anew (xs (x3 + 1).toNatClampNeg) h I
  refine lv_aload_n hx hb dL_law_760 rfl (lv_at hl 1 rfl) ?_
  refine lv_aload_n hx hb dL_law_761 rfl (lv_at hl 0 rfl) ?_
  refine lv_iload_n hx hb dL_law_762 rfl (lv_at hl 3 rfl) ?_
  refine lv_iconst (v := 1) hx hb dL_law_763 (by decide) ?_
  refine lv_iadd hx hb dL_law_764 ?_
  refine va_sld hx hb hX hbl hbA hS (hin 1 (by decide)) dL_law_765 ?_
  refine lw_call (E := eX5_anew) (as := [.int (xs (x3 + 1).toNatClampNeg)]) (b := 0) (nn := 1) (rest := []) ⟨hx, hb, hml, hown, hts⟩ hfv F hP hS kE_X5_anew (by decide) rfl (Or.inl rfl) lwM_eX5_anew lwI_eX5_anew lwS_eX5_anew (by decide +kernel) rfl c1 rfl ⟨Nat.le_of_ble_eq_true rfl, Nat.le_of_ble_eq_true rfl⟩ hl.1 (lv_room (Nat.le_of_ble_eq_true rfl)) hcl hsl dL_law_766 (fun H locs hP hS => ?_)
  refine lv_aload_n hx hb dL_law_769 rfl (lv_at hl 2 rfl) ?_
  refine lv_aload_n hx hb dL_law_770 rfl (lv_at hl 0 rfl) ?_
  refine lv_iload_n hx hb dL_law_771 rfl (lv_at hl 3 rfl) ?_
  refine lv_iconst (v := 1) hx hb dL_law_772 (by decide) ?_
  refine lv_iadd hx hb dL_law_773 ?_
  refine va_sld hx hb hX hbl hbA hS (hin 1 (by decide)) dL_law_774 ?_
  refine lw_call (E := eX6_anew) (as := [.int (xs (x3 + 1).toNatClampNeg)]) (b := 59) (nn := 1) (rest := [.int x]) ⟨hx, hb, hml, hown, hts⟩ hfv F hP hS kE_X6_anew (by decide) rfl (Or.inr rfl) lwM_eX6_anew lwI_eX6_anew lwS_eX6_anew (by decide +kernel) rfl c2 rfl ⟨Nat.le_of_ble_eq_true rfl, Nat.le_of_ble_eq_true rfl⟩ hl.1 (lv_room (Nat.le_of_ble_eq_true rfl)) hcl hsl dL_law_775 (fun H locs hP hS => ?_)
  exact lv_icmp_eq (tgt := 1235) hx hb dL_law_778 (by decide) (fun _ => kk h2 _ _ I2 hP hS) (fun q => absurd rfl q)
theorem lwM_eX5_first : inW (.methodLink R_law 101 yX5_first) := ⟨(lw_m3 (List.mem_of_getElem? (i := 153) rfl)), rfl⟩
theorem lwI_eX5_first : inW (.instanceMethod yX5_first) := ⟨(lw_m3 (List.mem_of_getElem? (i := 154) rfl)), rfl⟩
theorem lwS_eX5_first : inW (.selects RX5 yX5_first yX5_first) := ⟨(lw_m3 (List.mem_of_getElem? (i := 155) rfl)), rfl⟩
theorem lwM_eX6_first : inW (.methodLink R_law 104 yX6_first) := ⟨(lw_m5 (List.mem_of_getElem? (i := 123) rfl)), rfl⟩
theorem lwI_eX6_first : inW (.instanceMethod yX6_first) := ⟨(lw_m5 (List.mem_of_getElem? (i := 124) rfl)), rfl⟩
theorem lwS_eX6_first : inW (.selects RX6 yX6_first yX6_first) := ⟨(lw_m5 (List.mem_of_getElem? (i := 125) rfl)), rfl⟩
theorem lc_first {p : Program} {l : Launch} {e : Env} {s : State} {m : MethodId} {below : List Frame} {meth : Method} {c : Code} {H : Heap} {locs : List Loc} {cells slots : Nat} {Q : State → Prop} {ls : Array Slot} {b L : Nat} {xs : Nat → Int32} {x3 : Int32} {D : va_G} {cs : ClassId × ClassId × ClassId} {kc : Nat → Nat} {fv : Value} {h : mH} (hx : p.tables.exec = Jvm.exec) (hb : c.code = code) (hml : c.maxLocals = 4) (hown : s.vm.findClass R_law = some m.cls) (hts : ∀ w ∈ lw_tbl, w.before #[Value.ref b] s = true) (hX : va_X b L xs s s.heap) (hbl : b < s.heap.size) (hfv : fv = .null ∨ ∃ a, fv = .ref a) (F : wFx D cs (adK s.heap.size kc) fv s s.heap) (I : Inv h) (hP : va_P D vwCl (wL cs (adK s.heap.size kc) h) H) (hS : va_S (fun q => s.heap.size ≤ q) s.heap H locs) (hl : lv_has ls 4 [(0, .ref b), (1, .ref (adK s.heap.size kc 0)), (2, .ref (adK s.heap.size kc 59)), (3, .int x3)]) (hin : ∀ j : Int32, j = 1 ∨ j = 2 ∨ j = 3 ∨ j = 4 ∨ j = 5 → vp_in (x3 + j) L) (hcl : cells ≤ 600000) (hsl : slots ≤ 7302250)
    (kk : ∀ (h2 : mH) (H1 : Heap) (locs1 : List Loc), Inv h2 → va_P D vwCl (wL cs (adK s.heap.size kc) h2) H1 → va_S (fun q => s.heap.size ≤ q) s.heap H1 locs1 → W p l e room_1 s m #[Value.ref b] below meth c H1 locs1 cells slots Q (F0 m 1235 ls [])) : W p l e room_1 s m #[Value.ref b] below meth c H locs cells slots Q (F0 m 783 ls []) := by
  have hbA : ¬ (fun q : Nat => s.heap.size ≤ q) b := Nat.not_le.mpr hbl
  obtain ⟨v, h1, h2, ⟨x, rfl⟩, c1, c2, I2⟩ := pf_first (xs (x3 + 1).toNatClampNeg) (xs (x3 + 2).toNatClampNeg) h I
  refine lv_aload_n hx hb dL_law_783 rfl (lv_at hl 1 rfl) ?_
  refine lv_aload_n hx hb dL_law_784 rfl (lv_at hl 0 rfl) ?_
  refine lv_iload_n hx hb dL_law_785 rfl (lv_at hl 3 rfl) ?_
  refine lv_iconst (v := 1) hx hb dL_law_786 (by decide) ?_
  refine lv_iadd hx hb dL_law_787 ?_
  refine va_sld hx hb hX hbl hbA hS (hin 1 (by decide)) dL_law_788 ?_
  refine lv_aload_n hx hb dL_law_789 rfl (lv_at hl 0 rfl) ?_
  refine lv_iload_n hx hb dL_law_790 rfl (lv_at hl 3 rfl) ?_
  refine lv_iconst (v := 2) hx hb dL_law_791 (by decide) ?_
  refine lv_iadd hx hb dL_law_792 ?_
  refine va_sld hx hb hX hbl hbA hS (hin 2 (by decide)) dL_law_793 ?_
  refine lw_call (E := eX5_first) (as := [.int (xs (x3 + 1).toNatClampNeg), .int (xs (x3 + 2).toNatClampNeg)]) (b := 0) (nn := 2) (rest := []) ⟨hx, hb, hml, hown, hts⟩ hfv F hP hS kE_X5_first (by decide) rfl (Or.inl rfl) lwM_eX5_first lwI_eX5_first lwS_eX5_first (by decide +kernel) rfl c1 rfl ⟨Nat.le_of_ble_eq_true rfl, Nat.le_of_ble_eq_true rfl⟩ hl.1 (lv_room (Nat.le_of_ble_eq_true rfl)) hcl hsl dL_law_794 (fun H locs hP hS => ?_)
  refine lv_aload_n hx hb dL_law_797 rfl (lv_at hl 2 rfl) ?_
  refine lv_aload_n hx hb dL_law_798 rfl (lv_at hl 0 rfl) ?_
  refine lv_iload_n hx hb dL_law_799 rfl (lv_at hl 3 rfl) ?_
  refine lv_iconst (v := 1) hx hb dL_law_800 (by decide) ?_
  refine lv_iadd hx hb dL_law_801 ?_
  refine va_sld hx hb hX hbl hbA hS (hin 1 (by decide)) dL_law_802 ?_
  refine lv_aload_n hx hb dL_law_803 rfl (lv_at hl 0 rfl) ?_
  refine lv_iload_n hx hb dL_law_804 rfl (lv_at hl 3 rfl) ?_
  refine lv_iconst (v := 2) hx hb dL_law_805 (by decide) ?_
  refine lv_iadd hx hb dL_law_806 ?_
  refine va_sld hx hb hX hbl hbA hS (hin 2 (by decide)) dL_law_807 ?_
  refine lw_call (E := eX6_first) (as := [.int (xs (x3 + 1).toNatClampNeg), .int (xs (x3 + 2).toNatClampNeg)]) (b := 59) (nn := 2) (rest := [.int x]) ⟨hx, hb, hml, hown, hts⟩ hfv F hP hS kE_X6_first (by decide) rfl (Or.inr rfl) lwM_eX6_first lwI_eX6_first lwS_eX6_first (by decide +kernel) rfl c2 rfl ⟨Nat.le_of_ble_eq_true rfl, Nat.le_of_ble_eq_true rfl⟩ hl.1 (lv_room (Nat.le_of_ble_eq_true rfl)) hcl hsl dL_law_808 (fun H locs hP hS => ?_)
  exact lv_icmp_eq (tgt := 1235) hx hb dL_law_811 (by decide) (fun _ => kk h2 _ _ I2 hP hS) (fun q => absurd rfl q)
theorem lwM_eX5_unlike : inW (.methodLink R_law 105 yX5_unlike) := ⟨(lw_m3 (List.mem_of_getElem? (i := 172) rfl)), rfl⟩
theorem lwI_eX5_unlike : inW (.instanceMethod yX5_unlike) := ⟨(lw_m3 (List.mem_of_getElem? (i := 173) rfl)), rfl⟩
theorem lwS_eX5_unlike : inW (.selects RX5 yX5_unlike yX5_unlike) := ⟨(lw_m3 (List.mem_of_getElem? (i := 174) rfl)), rfl⟩
theorem lwM_eX6_unlike : inW (.methodLink R_law 108 yX6_unlike) := ⟨(lw_m5 (List.mem_of_getElem? (i := 141) rfl)), rfl⟩
theorem lwI_eX6_unlike : inW (.instanceMethod yX6_unlike) := ⟨(lw_m5 (List.mem_of_getElem? (i := 142) rfl)), rfl⟩
theorem lwS_eX6_unlike : inW (.selects RX6 yX6_unlike yX6_unlike) := ⟨(lw_m5 (List.mem_of_getElem? (i := 143) rfl)), rfl⟩
theorem lc_unlike {p : Program} {l : Launch} {e : Env} {s : State} {m : MethodId} {below : List Frame} {meth : Method} {c : Code} {H : Heap} {locs : List Loc} {cells slots : Nat} {Q : State → Prop} {ls : Array Slot} {b L : Nat} {xs : Nat → Int32} {x3 : Int32} {D : va_G} {cs : ClassId × ClassId × ClassId} {kc : Nat → Nat} {fv : Value} {h : mH} (hx : p.tables.exec = Jvm.exec) (hb : c.code = code) (hml : c.maxLocals = 4) (hown : s.vm.findClass R_law = some m.cls) (hts : ∀ w ∈ lw_tbl, w.before #[Value.ref b] s = true) (hX : va_X b L xs s s.heap) (hbl : b < s.heap.size) (hfv : fv = .null ∨ ∃ a, fv = .ref a) (F : wFx D cs (adK s.heap.size kc) fv s s.heap) (I : Inv h) (hP : va_P D vwCl (wL cs (adK s.heap.size kc) h) H) (hS : va_S (fun q => s.heap.size ≤ q) s.heap H locs) (hl : lv_has ls 4 [(0, .ref b), (1, .ref (adK s.heap.size kc 0)), (2, .ref (adK s.heap.size kc 59)), (3, .int x3)]) (hin : ∀ j : Int32, j = 1 ∨ j = 2 ∨ j = 3 ∨ j = 4 ∨ j = 5 → vp_in (x3 + j) L) (hcl : cells ≤ 600000) (hsl : slots ≤ 7302250)
    (kk : ∀ (h2 : mH) (H1 : Heap) (locs1 : List Loc), Inv h2 → va_P D vwCl (wL cs (adK s.heap.size kc) h2) H1 → va_S (fun q => s.heap.size ≤ q) s.heap H1 locs1 → W p l e room_1 s m #[Value.ref b] below meth c H1 locs1 cells slots Q (F0 m 1235 ls [])) : W p l e room_1 s m #[Value.ref b] below meth c H locs cells slots Q (F0 m 816 ls []) := by
  have hbA : ¬ (fun q : Nat => s.heap.size ≤ q) b := Nat.not_le.mpr hbl
  obtain ⟨v, h1, h2, ⟨x, rfl⟩, c1, c2, I2⟩ := pf_unlike (xs (x3 + 1).toNatClampNeg) (xs (x3 + 2).toNatClampNeg) h I
  refine lv_aload_n hx hb dL_law_816 rfl (lv_at hl 1 rfl) ?_
  refine lv_aload_n hx hb dL_law_817 rfl (lv_at hl 0 rfl) ?_
  refine lv_iload_n hx hb dL_law_818 rfl (lv_at hl 3 rfl) ?_
  refine lv_iconst (v := 1) hx hb dL_law_819 (by decide) ?_
  refine lv_iadd hx hb dL_law_820 ?_
  refine va_sld hx hb hX hbl hbA hS (hin 1 (by decide)) dL_law_821 ?_
  refine lv_aload_n hx hb dL_law_822 rfl (lv_at hl 0 rfl) ?_
  refine lv_iload_n hx hb dL_law_823 rfl (lv_at hl 3 rfl) ?_
  refine lv_iconst (v := 2) hx hb dL_law_824 (by decide) ?_
  refine lv_iadd hx hb dL_law_825 ?_
  refine va_sld hx hb hX hbl hbA hS (hin 2 (by decide)) dL_law_826 ?_
  refine lw_call (E := eX5_unlike) (as := [.int (xs (x3 + 1).toNatClampNeg), .int (xs (x3 + 2).toNatClampNeg)]) (b := 0) (nn := 2) (rest := []) ⟨hx, hb, hml, hown, hts⟩ hfv F hP hS kE_X5_unlike (by decide) rfl (Or.inl rfl) lwM_eX5_unlike lwI_eX5_unlike lwS_eX5_unlike (by decide +kernel) rfl c1 rfl ⟨Nat.le_of_ble_eq_true rfl, Nat.le_of_ble_eq_true rfl⟩ hl.1 (lv_room (Nat.le_of_ble_eq_true rfl)) hcl hsl dL_law_827 (fun H locs hP hS => ?_)
  refine lv_aload_n hx hb dL_law_830 rfl (lv_at hl 2 rfl) ?_
  refine lv_aload_n hx hb dL_law_831 rfl (lv_at hl 0 rfl) ?_
  refine lv_iload_n hx hb dL_law_832 rfl (lv_at hl 3 rfl) ?_
  refine lv_iconst (v := 1) hx hb dL_law_833 (by decide) ?_
  refine lv_iadd hx hb dL_law_834 ?_
  refine va_sld hx hb hX hbl hbA hS (hin 1 (by decide)) dL_law_835 ?_
  refine lv_aload_n hx hb dL_law_836 rfl (lv_at hl 0 rfl) ?_
  refine lv_iload_n hx hb dL_law_837 rfl (lv_at hl 3 rfl) ?_
  refine lv_iconst (v := 2) hx hb dL_law_838 (by decide) ?_
  refine lv_iadd hx hb dL_law_839 ?_
  refine va_sld hx hb hX hbl hbA hS (hin 2 (by decide)) dL_law_840 ?_
  refine lw_call (E := eX6_unlike) (as := [.int (xs (x3 + 1).toNatClampNeg), .int (xs (x3 + 2).toNatClampNeg)]) (b := 59) (nn := 2) (rest := [.int x]) ⟨hx, hb, hml, hown, hts⟩ hfv F hP hS kE_X6_unlike (by decide) rfl (Or.inr rfl) lwM_eX6_unlike lwI_eX6_unlike lwS_eX6_unlike (by decide +kernel) rfl c2 rfl ⟨Nat.le_of_ble_eq_true rfl, Nat.le_of_ble_eq_true rfl⟩ hl.1 (lv_room (Nat.le_of_ble_eq_true rfl)) hcl hsl dL_law_841 (fun H locs hP hS => ?_)
  exact lv_icmp_eq (tgt := 1235) hx hb dL_law_844 (by decide) (fun _ => kk h2 _ _ I2 hP hS) (fun q => absurd rfl q)
theorem lwM_eX5_mend : inW (.methodLink R_law 109 yX5_mend) := ⟨(lw_m3 (List.mem_of_getElem? (i := 181) rfl)), rfl⟩
theorem lwI_eX5_mend : inW (.instanceMethod yX5_mend) := ⟨(lw_m3 (List.mem_of_getElem? (i := 182) rfl)), rfl⟩
theorem lwS_eX5_mend : inW (.selects RX5 yX5_mend yX5_mend) := ⟨(lw_m3 (List.mem_of_getElem? (i := 183) rfl)), rfl⟩
theorem lwM_eX6_mend : inW (.methodLink R_law 112 yX6_mend) := ⟨(lw_m5 (List.mem_of_getElem? (i := 145) rfl)), rfl⟩
theorem lwI_eX6_mend : inW (.instanceMethod yX6_mend) := ⟨(lw_m5 (List.mem_of_getElem? (i := 146) rfl)), rfl⟩
theorem lwS_eX6_mend : inW (.selects RX6 yX6_mend yX6_mend) := ⟨(lw_m5 (List.mem_of_getElem? (i := 147) rfl)), rfl⟩
theorem lc_mend {p : Program} {l : Launch} {e : Env} {s : State} {m : MethodId} {below : List Frame} {meth : Method} {c : Code} {H : Heap} {locs : List Loc} {cells slots : Nat} {Q : State → Prop} {ls : Array Slot} {b L : Nat} {xs : Nat → Int32} {x3 : Int32} {D : va_G} {cs : ClassId × ClassId × ClassId} {kc : Nat → Nat} {fv : Value} {h : mH} (hx : p.tables.exec = Jvm.exec) (hb : c.code = code) (hml : c.maxLocals = 4) (hown : s.vm.findClass R_law = some m.cls) (hts : ∀ w ∈ lw_tbl, w.before #[Value.ref b] s = true) (hX : va_X b L xs s s.heap) (hbl : b < s.heap.size) (hfv : fv = .null ∨ ∃ a, fv = .ref a) (F : wFx D cs (adK s.heap.size kc) fv s s.heap) (I : Inv h) (hP : va_P D vwCl (wL cs (adK s.heap.size kc) h) H) (hS : va_S (fun q => s.heap.size ≤ q) s.heap H locs) (hl : lv_has ls 4 [(0, .ref b), (1, .ref (adK s.heap.size kc 0)), (2, .ref (adK s.heap.size kc 59)), (3, .int x3)]) (hin : ∀ j : Int32, j = 1 ∨ j = 2 ∨ j = 3 ∨ j = 4 ∨ j = 5 → vp_in (x3 + j) L) (hcl : cells ≤ 600000) (hsl : slots ≤ 7302250)
    (kk : ∀ (h2 : mH) (H1 : Heap) (locs1 : List Loc), Inv h2 → va_P D vwCl (wL cs (adK s.heap.size kc) h2) H1 → va_S (fun q => s.heap.size ≤ q) s.heap H1 locs1 → W p l e room_1 s m #[Value.ref b] below meth c H1 locs1 cells slots Q (F0 m 1235 ls [])) : W p l e room_1 s m #[Value.ref b] below meth c H locs cells slots Q (F0 m 849 ls []) := by
  have hbA : ¬ (fun q : Nat => s.heap.size ≤ q) b := Nat.not_le.mpr hbl
  obtain ⟨v, h1, h2, ⟨x, rfl⟩, c1, c2, I2⟩ := pf_mend (xs (x3 + 1).toNatClampNeg) h I
  refine lv_aload_n hx hb dL_law_849 rfl (lv_at hl 1 rfl) ?_
  refine lv_aload_n hx hb dL_law_850 rfl (lv_at hl 0 rfl) ?_
  refine lv_iload_n hx hb dL_law_851 rfl (lv_at hl 3 rfl) ?_
  refine lv_iconst (v := 1) hx hb dL_law_852 (by decide) ?_
  refine lv_iadd hx hb dL_law_853 ?_
  refine va_sld hx hb hX hbl hbA hS (hin 1 (by decide)) dL_law_854 ?_
  refine lw_call (E := eX5_mend) (as := [.int (xs (x3 + 1).toNatClampNeg)]) (b := 0) (nn := 1) (rest := []) ⟨hx, hb, hml, hown, hts⟩ hfv F hP hS kE_X5_mend (by decide) rfl (Or.inl rfl) lwM_eX5_mend lwI_eX5_mend lwS_eX5_mend (by decide +kernel) rfl c1 rfl ⟨Nat.le_of_ble_eq_true rfl, Nat.le_of_ble_eq_true rfl⟩ hl.1 (lv_room (Nat.le_of_ble_eq_true rfl)) hcl hsl dL_law_855 (fun H locs hP hS => ?_)
  refine lv_aload_n hx hb dL_law_858 rfl (lv_at hl 2 rfl) ?_
  refine lv_aload_n hx hb dL_law_859 rfl (lv_at hl 0 rfl) ?_
  refine lv_iload_n hx hb dL_law_860 rfl (lv_at hl 3 rfl) ?_
  refine lv_iconst (v := 1) hx hb dL_law_861 (by decide) ?_
  refine lv_iadd hx hb dL_law_862 ?_
  refine va_sld hx hb hX hbl hbA hS (hin 1 (by decide)) dL_law_863 ?_
  refine lw_call (E := eX6_mend) (as := [.int (xs (x3 + 1).toNatClampNeg)]) (b := 59) (nn := 1) (rest := [.int x]) ⟨hx, hb, hml, hown, hts⟩ hfv F hP hS kE_X6_mend (by decide) rfl (Or.inr rfl) lwM_eX6_mend lwI_eX6_mend lwS_eX6_mend (by decide +kernel) rfl c2 rfl ⟨Nat.le_of_ble_eq_true rfl, Nat.le_of_ble_eq_true rfl⟩ hl.1 (lv_room (Nat.le_of_ble_eq_true rfl)) hcl hsl dL_law_864 (fun H locs hP hS => ?_)
  exact lv_icmp_eq (tgt := 1235) hx hb dL_law_867 (by decide) (fun _ => kk h2 _ _ I2 hP hS) (fun q => absurd rfl q)
theorem lwM_eX5_line : inW (.methodLink R_law 113 yX5_line) := ⟨(lw_m3 (List.mem_of_getElem? (i := 190) rfl)), rfl⟩
theorem lwI_eX5_line : inW (.instanceMethod yX5_line) := ⟨(lw_m3 (List.mem_of_getElem? (i := 191) rfl)), rfl⟩
theorem lwS_eX5_line : inW (.selects RX5 yX5_line yX5_line) := ⟨(lw_m3 (List.mem_of_getElem? (i := 192) rfl)), rfl⟩
theorem lwM_eX6_line : inW (.methodLink R_law 116 yX6_line) := ⟨(lw_m5 (List.mem_of_getElem? (i := 153) rfl)), rfl⟩
theorem lwI_eX6_line : inW (.instanceMethod yX6_line) := ⟨(lw_m5 (List.mem_of_getElem? (i := 154) rfl)), rfl⟩
theorem lwS_eX6_line : inW (.selects RX6 yX6_line yX6_line) := ⟨(lw_m5 (List.mem_of_getElem? (i := 155) rfl)), rfl⟩
theorem lc_line {p : Program} {l : Launch} {e : Env} {s : State} {m : MethodId} {below : List Frame} {meth : Method} {c : Code} {H : Heap} {locs : List Loc} {cells slots : Nat} {Q : State → Prop} {ls : Array Slot} {b L : Nat} {xs : Nat → Int32} {x3 : Int32} {D : va_G} {cs : ClassId × ClassId × ClassId} {kc : Nat → Nat} {fv : Value} {h : mH} (hx : p.tables.exec = Jvm.exec) (hb : c.code = code) (hml : c.maxLocals = 4) (hown : s.vm.findClass R_law = some m.cls) (hts : ∀ w ∈ lw_tbl, w.before #[Value.ref b] s = true) (hX : va_X b L xs s s.heap) (hbl : b < s.heap.size) (hfv : fv = .null ∨ ∃ a, fv = .ref a) (F : wFx D cs (adK s.heap.size kc) fv s s.heap) (I : Inv h) (hP : va_P D vwCl (wL cs (adK s.heap.size kc) h) H) (hS : va_S (fun q => s.heap.size ≤ q) s.heap H locs) (hl : lv_has ls 4 [(0, .ref b), (1, .ref (adK s.heap.size kc 0)), (2, .ref (adK s.heap.size kc 59)), (3, .int x3)]) (hin : ∀ j : Int32, j = 1 ∨ j = 2 ∨ j = 3 ∨ j = 4 ∨ j = 5 → vp_in (x3 + j) L) (hcl : cells ≤ 600000) (hsl : slots ≤ 7302250)
    (kk : ∀ (h2 : mH) (H1 : Heap) (locs1 : List Loc), Inv h2 → va_P D vwCl (wL cs (adK s.heap.size kc) h2) H1 → va_S (fun q => s.heap.size ≤ q) s.heap H1 locs1 → W p l e room_1 s m #[Value.ref b] below meth c H1 locs1 cells slots Q (F0 m 1235 ls [])) : W p l e room_1 s m #[Value.ref b] below meth c H locs cells slots Q (F0 m 872 ls []) := by
  have hbA : ¬ (fun q : Nat => s.heap.size ≤ q) b := Nat.not_le.mpr hbl
  obtain ⟨v, h1, h2, ⟨x, rfl⟩, c1, c2, I2⟩ := pf_line (xs (x3 + 1).toNatClampNeg) h I
  refine lv_aload_n hx hb dL_law_872 rfl (lv_at hl 1 rfl) ?_
  refine lv_aload_n hx hb dL_law_873 rfl (lv_at hl 0 rfl) ?_
  refine lv_iload_n hx hb dL_law_874 rfl (lv_at hl 3 rfl) ?_
  refine lv_iconst (v := 1) hx hb dL_law_875 (by decide) ?_
  refine lv_iadd hx hb dL_law_876 ?_
  refine va_sld hx hb hX hbl hbA hS (hin 1 (by decide)) dL_law_877 ?_
  refine lw_call (E := eX5_line) (as := [.int (xs (x3 + 1).toNatClampNeg)]) (b := 0) (nn := 1) (rest := []) ⟨hx, hb, hml, hown, hts⟩ hfv F hP hS kE_X5_line (by decide) rfl (Or.inl rfl) lwM_eX5_line lwI_eX5_line lwS_eX5_line (by decide +kernel) rfl c1 rfl ⟨Nat.le_of_ble_eq_true rfl, Nat.le_of_ble_eq_true rfl⟩ hl.1 (lv_room (Nat.le_of_ble_eq_true rfl)) hcl hsl dL_law_878 (fun H locs hP hS => ?_)
  refine lv_aload_n hx hb dL_law_881 rfl (lv_at hl 2 rfl) ?_
  refine lv_aload_n hx hb dL_law_882 rfl (lv_at hl 0 rfl) ?_
  refine lv_iload_n hx hb dL_law_883 rfl (lv_at hl 3 rfl) ?_
  refine lv_iconst (v := 1) hx hb dL_law_884 (by decide) ?_
  refine lv_iadd hx hb dL_law_885 ?_
  refine va_sld hx hb hX hbl hbA hS (hin 1 (by decide)) dL_law_886 ?_
  refine lw_call (E := eX6_line) (as := [.int (xs (x3 + 1).toNatClampNeg)]) (b := 59) (nn := 1) (rest := [.int x]) ⟨hx, hb, hml, hown, hts⟩ hfv F hP hS kE_X6_line (by decide) rfl (Or.inr rfl) lwM_eX6_line lwI_eX6_line lwS_eX6_line (by decide +kernel) rfl c2 rfl ⟨Nat.le_of_ble_eq_true rfl, Nat.le_of_ble_eq_true rfl⟩ hl.1 (lv_room (Nat.le_of_ble_eq_true rfl)) hcl hsl dL_law_887 (fun H locs hP hS => ?_)
  exact lv_icmp_eq (tgt := 1235) hx hb dL_law_890 (by decide) (fun _ => kk h2 _ _ I2 hP hS) (fun q => absurd rfl q)
theorem lwM_eX5_bestLine : inW (.methodLink R_law 117 yX5_bestLine) := ⟨(lw_m3 (List.mem_of_getElem? (i := 199) rfl)), rfl⟩
theorem lwI_eX5_bestLine : inW (.instanceMethod yX5_bestLine) := ⟨(lw_m3 (List.mem_of_getElem? (i := 200) rfl)), rfl⟩
theorem lwS_eX5_bestLine : inW (.selects RX5 yX5_bestLine yX5_bestLine) := ⟨(lw_m3 (List.mem_of_getElem? (i := 201) rfl)), rfl⟩
theorem lwM_eX6_bestLine : inW (.methodLink R_law 120 yX6_bestLine) := ⟨(lw_m5 (List.mem_of_getElem? (i := 161) rfl)), rfl⟩
theorem lwI_eX6_bestLine : inW (.instanceMethod yX6_bestLine) := ⟨(lw_m5 (List.mem_of_getElem? (i := 162) rfl)), rfl⟩
theorem lwS_eX6_bestLine : inW (.selects RX6 yX6_bestLine yX6_bestLine) := ⟨(lw_m5 (List.mem_of_getElem? (i := 163) rfl)), rfl⟩
theorem lc_bestLine {p : Program} {l : Launch} {e : Env} {s : State} {m : MethodId} {below : List Frame} {meth : Method} {c : Code} {H : Heap} {locs : List Loc} {cells slots : Nat} {Q : State → Prop} {ls : Array Slot} {b L : Nat} {xs : Nat → Int32} {x3 : Int32} {D : va_G} {cs : ClassId × ClassId × ClassId} {kc : Nat → Nat} {fv : Value} {h : mH} (hx : p.tables.exec = Jvm.exec) (hb : c.code = code) (hml : c.maxLocals = 4) (hown : s.vm.findClass R_law = some m.cls) (hts : ∀ w ∈ lw_tbl, w.before #[Value.ref b] s = true) (hX : va_X b L xs s s.heap) (hbl : b < s.heap.size) (hfv : fv = .null ∨ ∃ a, fv = .ref a) (F : wFx D cs (adK s.heap.size kc) fv s s.heap) (I : Inv h) (hP : va_P D vwCl (wL cs (adK s.heap.size kc) h) H) (hS : va_S (fun q => s.heap.size ≤ q) s.heap H locs) (hl : lv_has ls 4 [(0, .ref b), (1, .ref (adK s.heap.size kc 0)), (2, .ref (adK s.heap.size kc 59)), (3, .int x3)]) (hin : ∀ j : Int32, j = 1 ∨ j = 2 ∨ j = 3 ∨ j = 4 ∨ j = 5 → vp_in (x3 + j) L) (hcl : cells ≤ 600000) (hsl : slots ≤ 7302250)
    (kk : ∀ (h2 : mH) (H1 : Heap) (locs1 : List Loc), Inv h2 → va_P D vwCl (wL cs (adK s.heap.size kc) h2) H1 → va_S (fun q => s.heap.size ≤ q) s.heap H1 locs1 → W p l e room_1 s m #[Value.ref b] below meth c H1 locs1 cells slots Q (F0 m 1235 ls [])) : W p l e room_1 s m #[Value.ref b] below meth c H locs cells slots Q (F0 m 895 ls []) := by
  have hbA : ¬ (fun q : Nat => s.heap.size ≤ q) b := Nat.not_le.mpr hbl
  obtain ⟨v, h1, h2, ⟨x, rfl⟩, c1, c2, I2⟩ := pf_bestLine h I
  refine lv_aload_n hx hb dL_law_895 rfl (lv_at hl 1 rfl) ?_
  refine lw_call (E := eX5_bestLine) (as := []) (b := 0) (nn := 0) (rest := []) ⟨hx, hb, hml, hown, hts⟩ hfv F hP hS kE_X5_bestLine (by decide) rfl (Or.inl rfl) lwM_eX5_bestLine lwI_eX5_bestLine lwS_eX5_bestLine (by decide +kernel) rfl c1 rfl ⟨Nat.le_of_ble_eq_true rfl, Nat.le_of_ble_eq_true rfl⟩ hl.1 (lv_room (Nat.le_of_ble_eq_true rfl)) hcl hsl dL_law_896 (fun H locs hP hS => ?_)
  refine lv_aload_n hx hb dL_law_899 rfl (lv_at hl 2 rfl) ?_
  refine lw_call (E := eX6_bestLine) (as := []) (b := 59) (nn := 0) (rest := [.int x]) ⟨hx, hb, hml, hown, hts⟩ hfv F hP hS kE_X6_bestLine (by decide) rfl (Or.inr rfl) lwM_eX6_bestLine lwI_eX6_bestLine lwS_eX6_bestLine (by decide +kernel) rfl c2 rfl ⟨Nat.le_of_ble_eq_true rfl, Nat.le_of_ble_eq_true rfl⟩ hl.1 (lv_room (Nat.le_of_ble_eq_true rfl)) hcl hsl dL_law_900 (fun H locs hP hS => ?_)
  exact lv_icmp_eq (tgt := 1235) hx hb dL_law_903 (by decide) (fun _ => kk h2 _ _ I2 hP hS) (fun q => absurd rfl q)
theorem lwM_eX5_ask : inW (.methodLink R_law 121 yX5_ask) := ⟨(lw_m3 (List.mem_of_getElem? (i := 206) rfl)), rfl⟩
theorem lwI_eX5_ask : inW (.instanceMethod yX5_ask) := ⟨(lw_m3 (List.mem_of_getElem? (i := 207) rfl)), rfl⟩
theorem lwS_eX5_ask : inW (.selects RX5 yX5_ask yX5_ask) := ⟨(lw_m3 (List.mem_of_getElem? (i := 208) rfl)), rfl⟩
theorem lwM_eX6_ask : inW (.methodLink R_law 124 yX6_ask) := ⟨(lw_m5 (List.mem_of_getElem? (i := 165) rfl)), rfl⟩
theorem lwI_eX6_ask : inW (.instanceMethod yX6_ask) := ⟨(lw_m5 (List.mem_of_getElem? (i := 166) rfl)), rfl⟩
theorem lwS_eX6_ask : inW (.selects RX6 yX6_ask yX6_ask) := ⟨(lw_m5 (List.mem_of_getElem? (i := 167) rfl)), rfl⟩
theorem lc_ask {p : Program} {l : Launch} {e : Env} {s : State} {m : MethodId} {below : List Frame} {meth : Method} {c : Code} {H : Heap} {locs : List Loc} {cells slots : Nat} {Q : State → Prop} {ls : Array Slot} {b L : Nat} {xs : Nat → Int32} {x3 : Int32} {D : va_G} {cs : ClassId × ClassId × ClassId} {kc : Nat → Nat} {fv : Value} {h : mH} (hx : p.tables.exec = Jvm.exec) (hb : c.code = code) (hml : c.maxLocals = 4) (hown : s.vm.findClass R_law = some m.cls) (hts : ∀ w ∈ lw_tbl, w.before #[Value.ref b] s = true) (hX : va_X b L xs s s.heap) (hbl : b < s.heap.size) (hfv : fv = .null ∨ ∃ a, fv = .ref a) (F : wFx D cs (adK s.heap.size kc) fv s s.heap) (I : Inv h) (hP : va_P D vwCl (wL cs (adK s.heap.size kc) h) H) (hS : va_S (fun q => s.heap.size ≤ q) s.heap H locs) (hl : lv_has ls 4 [(0, .ref b), (1, .ref (adK s.heap.size kc 0)), (2, .ref (adK s.heap.size kc 59)), (3, .int x3)]) (hin : ∀ j : Int32, j = 1 ∨ j = 2 ∨ j = 3 ∨ j = 4 ∨ j = 5 → vp_in (x3 + j) L) (hcl : cells ≤ 600000) (hsl : slots ≤ 7302250)
    (kk : ∀ (h2 : mH) (H1 : Heap) (locs1 : List Loc), Inv h2 → va_P D vwCl (wL cs (adK s.heap.size kc) h2) H1 → va_S (fun q => s.heap.size ≤ q) s.heap H1 locs1 → W p l e room_1 s m #[Value.ref b] below meth c H1 locs1 cells slots Q (F0 m 1235 ls [])) : W p l e room_1 s m #[Value.ref b] below meth c H locs cells slots Q (F0 m 908 ls []) := by
  have hbA : ¬ (fun q : Nat => s.heap.size ≤ q) b := Nat.not_le.mpr hbl
  obtain ⟨v, h1, h2, ⟨x, rfl⟩, c1, c2, I2⟩ := pf_ask (xs (x3 + 1).toNatClampNeg) h I
  refine lv_aload_n hx hb dL_law_908 rfl (lv_at hl 1 rfl) ?_
  refine lv_aload_n hx hb dL_law_909 rfl (lv_at hl 0 rfl) ?_
  refine lv_iload_n hx hb dL_law_910 rfl (lv_at hl 3 rfl) ?_
  refine lv_iconst (v := 1) hx hb dL_law_911 (by decide) ?_
  refine lv_iadd hx hb dL_law_912 ?_
  refine va_sld hx hb hX hbl hbA hS (hin 1 (by decide)) dL_law_913 ?_
  refine lw_call (E := eX5_ask) (as := [.int (xs (x3 + 1).toNatClampNeg)]) (b := 0) (nn := 1) (rest := []) ⟨hx, hb, hml, hown, hts⟩ hfv F hP hS kE_X5_ask (by decide) rfl (Or.inl rfl) lwM_eX5_ask lwI_eX5_ask lwS_eX5_ask (by decide +kernel) rfl c1 rfl ⟨Nat.le_of_ble_eq_true rfl, Nat.le_of_ble_eq_true rfl⟩ hl.1 (lv_room (Nat.le_of_ble_eq_true rfl)) hcl hsl dL_law_914 (fun H locs hP hS => ?_)
  refine lv_aload_n hx hb dL_law_917 rfl (lv_at hl 2 rfl) ?_
  refine lv_aload_n hx hb dL_law_918 rfl (lv_at hl 0 rfl) ?_
  refine lv_iload_n hx hb dL_law_919 rfl (lv_at hl 3 rfl) ?_
  refine lv_iconst (v := 1) hx hb dL_law_920 (by decide) ?_
  refine lv_iadd hx hb dL_law_921 ?_
  refine va_sld hx hb hX hbl hbA hS (hin 1 (by decide)) dL_law_922 ?_
  refine lw_call (E := eX6_ask) (as := [.int (xs (x3 + 1).toNatClampNeg)]) (b := 59) (nn := 1) (rest := [.int x]) ⟨hx, hb, hml, hown, hts⟩ hfv F hP hS kE_X6_ask (by decide) rfl (Or.inr rfl) lwM_eX6_ask lwI_eX6_ask lwS_eX6_ask (by decide +kernel) rfl c2 rfl ⟨Nat.le_of_ble_eq_true rfl, Nat.le_of_ble_eq_true rfl⟩ hl.1 (lv_room (Nat.le_of_ble_eq_true rfl)) hcl hsl dL_law_923 (fun H locs hP hS => ?_)
  exact lv_icmp_eq (tgt := 1235) hx hb dL_law_926 (by decide) (fun _ => kk h2 _ _ I2 hP hS) (fun q => absurd rfl q)
theorem lwM_eX5_spare : inW (.methodLink R_law 125 yX5_spare) := ⟨(lw_m3 (List.mem_of_getElem? (i := 214) rfl)), rfl⟩
theorem lwI_eX5_spare : inW (.instanceMethod yX5_spare) := ⟨(lw_m3 (List.mem_of_getElem? (i := 215) rfl)), rfl⟩
theorem lwS_eX5_spare : inW (.selects RX5 yX5_spare yX5_spare) := ⟨(lw_m3 (List.mem_of_getElem? (i := 216) rfl)), rfl⟩
theorem lwM_eX6_spare : inW (.methodLink R_law 128 yX6_spare) := ⟨(lw_m5 (List.mem_of_getElem? (i := 169) rfl)), rfl⟩
theorem lwI_eX6_spare : inW (.instanceMethod yX6_spare) := ⟨(lw_m5 (List.mem_of_getElem? (i := 170) rfl)), rfl⟩
theorem lwS_eX6_spare : inW (.selects RX6 yX6_spare yX6_spare) := ⟨(lw_m5 (List.mem_of_getElem? (i := 171) rfl)), rfl⟩
theorem lc_spare {p : Program} {l : Launch} {e : Env} {s : State} {m : MethodId} {below : List Frame} {meth : Method} {c : Code} {H : Heap} {locs : List Loc} {cells slots : Nat} {Q : State → Prop} {ls : Array Slot} {b L : Nat} {xs : Nat → Int32} {x3 : Int32} {D : va_G} {cs : ClassId × ClassId × ClassId} {kc : Nat → Nat} {fv : Value} {h : mH} (hx : p.tables.exec = Jvm.exec) (hb : c.code = code) (hml : c.maxLocals = 4) (hown : s.vm.findClass R_law = some m.cls) (hts : ∀ w ∈ lw_tbl, w.before #[Value.ref b] s = true) (hX : va_X b L xs s s.heap) (hbl : b < s.heap.size) (hfv : fv = .null ∨ ∃ a, fv = .ref a) (F : wFx D cs (adK s.heap.size kc) fv s s.heap) (I : Inv h) (hP : va_P D vwCl (wL cs (adK s.heap.size kc) h) H) (hS : va_S (fun q => s.heap.size ≤ q) s.heap H locs) (hl : lv_has ls 4 [(0, .ref b), (1, .ref (adK s.heap.size kc 0)), (2, .ref (adK s.heap.size kc 59)), (3, .int x3)]) (hin : ∀ j : Int32, j = 1 ∨ j = 2 ∨ j = 3 ∨ j = 4 ∨ j = 5 → vp_in (x3 + j) L) (hcl : cells ≤ 600000) (hsl : slots ≤ 7302250)
    (kk : ∀ (h2 : mH) (H1 : Heap) (locs1 : List Loc), Inv h2 → va_P D vwCl (wL cs (adK s.heap.size kc) h2) H1 → va_S (fun q => s.heap.size ≤ q) s.heap H1 locs1 → W p l e room_1 s m #[Value.ref b] below meth c H1 locs1 cells slots Q (F0 m 1235 ls [])) : W p l e room_1 s m #[Value.ref b] below meth c H locs cells slots Q (F0 m 931 ls []) := by
  have hbA : ¬ (fun q : Nat => s.heap.size ≤ q) b := Nat.not_le.mpr hbl
  obtain ⟨v, h1, h2, ⟨x, rfl⟩, c1, c2, I2⟩ := pf_spare h I
  refine lv_aload_n hx hb dL_law_931 rfl (lv_at hl 1 rfl) ?_
  refine lw_call (E := eX5_spare) (as := []) (b := 0) (nn := 0) (rest := []) ⟨hx, hb, hml, hown, hts⟩ hfv F hP hS kE_X5_spare (by decide) rfl (Or.inl rfl) lwM_eX5_spare lwI_eX5_spare lwS_eX5_spare (by decide +kernel) rfl c1 rfl ⟨Nat.le_of_ble_eq_true rfl, Nat.le_of_ble_eq_true rfl⟩ hl.1 (lv_room (Nat.le_of_ble_eq_true rfl)) hcl hsl dL_law_932 (fun H locs hP hS => ?_)
  refine lv_aload_n hx hb dL_law_935 rfl (lv_at hl 2 rfl) ?_
  refine lw_call (E := eX6_spare) (as := []) (b := 59) (nn := 0) (rest := [.int x]) ⟨hx, hb, hml, hown, hts⟩ hfv F hP hS kE_X6_spare (by decide) rfl (Or.inr rfl) lwM_eX6_spare lwI_eX6_spare lwS_eX6_spare (by decide +kernel) rfl c2 rfl ⟨Nat.le_of_ble_eq_true rfl, Nat.le_of_ble_eq_true rfl⟩ hl.1 (lv_room (Nat.le_of_ble_eq_true rfl)) hcl hsl dL_law_936 (fun H locs hP hS => ?_)
  exact lv_icmp_eq (tgt := 1235) hx hb dL_law_939 (by decide) (fun _ => kk h2 _ _ I2 hP hS) (fun q => absurd rfl q)
theorem lwM_eX5_slip : inW (.methodLink R_law 129 yX5_slip) := ⟨(lw_m3 (List.mem_of_getElem? (i := 228) rfl)), rfl⟩
theorem lwI_eX5_slip : inW (.instanceMethod yX5_slip) := ⟨(lw_m3 (List.mem_of_getElem? (i := 229) rfl)), rfl⟩
theorem lwS_eX5_slip : inW (.selects RX5 yX5_slip yX5_slip) := ⟨(lw_m3 (List.mem_of_getElem? (i := 230) rfl)), rfl⟩
theorem lwM_eX6_slip : inW (.methodLink R_law 133 yX6_slip) := ⟨(lw_m5 (List.mem_of_getElem? (i := 173) rfl)), rfl⟩
theorem lwI_eX6_slip : inW (.instanceMethod yX6_slip) := ⟨(lw_m5 (List.mem_of_getElem? (i := 174) rfl)), rfl⟩
theorem lwS_eX6_slip : inW (.selects RX6 yX6_slip yX6_slip) := ⟨(lw_m5 (List.mem_of_getElem? (i := 175) rfl)), rfl⟩
theorem lc_slip {p : Program} {l : Launch} {e : Env} {s : State} {m : MethodId} {below : List Frame} {meth : Method} {c : Code} {H : Heap} {locs : List Loc} {cells slots : Nat} {Q : State → Prop} {ls : Array Slot} {b L : Nat} {xs : Nat → Int32} {x3 : Int32} {D : va_G} {cs : ClassId × ClassId × ClassId} {kc : Nat → Nat} {fv : Value} {h : mH} (hx : p.tables.exec = Jvm.exec) (hb : c.code = code) (hml : c.maxLocals = 4) (hown : s.vm.findClass R_law = some m.cls) (hts : ∀ w ∈ lw_tbl, w.before #[Value.ref b] s = true) (hX : va_X b L xs s s.heap) (hbl : b < s.heap.size) (hfv : fv = .null ∨ ∃ a, fv = .ref a) (F : wFx D cs (adK s.heap.size kc) fv s s.heap) (I : Inv h) (hP : va_P D vwCl (wL cs (adK s.heap.size kc) h) H) (hS : va_S (fun q => s.heap.size ≤ q) s.heap H locs) (hl : lv_has ls 4 [(0, .ref b), (1, .ref (adK s.heap.size kc 0)), (2, .ref (adK s.heap.size kc 59)), (3, .int x3)]) (hin : ∀ j : Int32, j = 1 ∨ j = 2 ∨ j = 3 ∨ j = 4 ∨ j = 5 → vp_in (x3 + j) L) (hcl : cells ≤ 600000) (hsl : slots ≤ 7302250)
    (kk : ∀ (h2 : mH) (H1 : Heap) (locs1 : List Loc), Inv h2 → va_P D vwCl (wL cs (adK s.heap.size kc) h2) H1 → va_S (fun q => s.heap.size ≤ q) s.heap H1 locs1 → W p l e room_1 s m #[Value.ref b] below meth c H1 locs1 cells slots Q (F0 m 1235 ls [])) : W p l e room_1 s m #[Value.ref b] below meth c H locs cells slots Q (F0 m 944 ls []) := by
  have hbA : ¬ (fun q : Nat => s.heap.size ≤ q) b := Nat.not_le.mpr hbl
  obtain ⟨v, h1, h2, ⟨x, rfl⟩, c1, c2, I2⟩ := pf_slip (xs (x3 + 1).toNatClampNeg) (xs (x3 + 2).toNatClampNeg) (xs (x3 + 3).toNatClampNeg) (xs (x3 + 4).toNatClampNeg) (xs (x3 + 5).toNatClampNeg) h I
  refine lv_aload_n hx hb dL_law_944 rfl (lv_at hl 1 rfl) ?_
  refine lv_aload_n hx hb dL_law_945 rfl (lv_at hl 0 rfl) ?_
  refine lv_iload_n hx hb dL_law_946 rfl (lv_at hl 3 rfl) ?_
  refine lv_iconst (v := 1) hx hb dL_law_947 (by decide) ?_
  refine lv_iadd hx hb dL_law_948 ?_
  refine va_sld hx hb hX hbl hbA hS (hin 1 (by decide)) dL_law_949 ?_
  refine lv_aload_n hx hb dL_law_950 rfl (lv_at hl 0 rfl) ?_
  refine lv_iload_n hx hb dL_law_951 rfl (lv_at hl 3 rfl) ?_
  refine lv_iconst (v := 2) hx hb dL_law_952 (by decide) ?_
  refine lv_iadd hx hb dL_law_953 ?_
  refine va_sld hx hb hX hbl hbA hS (hin 2 (by decide)) dL_law_954 ?_
  refine lv_aload_n hx hb dL_law_955 rfl (lv_at hl 0 rfl) ?_
  refine lv_iload_n hx hb dL_law_956 rfl (lv_at hl 3 rfl) ?_
  refine lv_iconst (v := 3) hx hb dL_law_957 (by decide) ?_
  refine lv_iadd hx hb dL_law_958 ?_
  refine va_sld hx hb hX hbl hbA hS (hin 3 (by decide)) dL_law_959 ?_
  refine lv_aload_n hx hb dL_law_960 rfl (lv_at hl 0 rfl) ?_
  refine lv_iload_n hx hb dL_law_961 rfl (lv_at hl 3 rfl) ?_
  refine lv_iconst (v := 4) hx hb dL_law_962 (by decide) ?_
  refine lv_iadd hx hb dL_law_963 ?_
  refine va_sld hx hb hX hbl hbA hS (hin 4 (by decide)) dL_law_964 ?_
  refine lv_aload_n hx hb dL_law_965 rfl (lv_at hl 0 rfl) ?_
  refine lv_iload_n hx hb dL_law_966 rfl (lv_at hl 3 rfl) ?_
  refine lv_iconst (v := 5) hx hb dL_law_967 (by decide) ?_
  refine lv_iadd hx hb dL_law_968 ?_
  refine va_sld hx hb hX hbl hbA hS (hin 5 (by decide)) dL_law_969 ?_
  refine lw_call (E := eX5_slip) (as := [.int (xs (x3 + 1).toNatClampNeg), .int (xs (x3 + 2).toNatClampNeg), .int (xs (x3 + 3).toNatClampNeg), .int (xs (x3 + 4).toNatClampNeg), .int (xs (x3 + 5).toNatClampNeg)]) (b := 0) (nn := 5) (rest := []) ⟨hx, hb, hml, hown, hts⟩ hfv F hP hS kE_X5_slip (by decide) rfl (Or.inl rfl) lwM_eX5_slip lwI_eX5_slip lwS_eX5_slip (by decide +kernel) rfl c1 rfl ⟨Nat.le_of_ble_eq_true rfl, Nat.le_of_ble_eq_true rfl⟩ hl.1 (lv_room (Nat.le_of_ble_eq_true rfl)) hcl hsl dL_law_970 (fun H locs hP hS => ?_)
  refine lv_aload_n hx hb dL_law_973 rfl (lv_at hl 2 rfl) ?_
  refine lv_aload_n hx hb dL_law_974 rfl (lv_at hl 0 rfl) ?_
  refine lv_iload_n hx hb dL_law_975 rfl (lv_at hl 3 rfl) ?_
  refine lv_iconst (v := 1) hx hb dL_law_976 (by decide) ?_
  refine lv_iadd hx hb dL_law_977 ?_
  refine va_sld hx hb hX hbl hbA hS (hin 1 (by decide)) dL_law_978 ?_
  refine lv_aload_n hx hb dL_law_979 rfl (lv_at hl 0 rfl) ?_
  refine lv_iload_n hx hb dL_law_980 rfl (lv_at hl 3 rfl) ?_
  refine lv_iconst (v := 2) hx hb dL_law_981 (by decide) ?_
  refine lv_iadd hx hb dL_law_982 ?_
  refine va_sld hx hb hX hbl hbA hS (hin 2 (by decide)) dL_law_983 ?_
  refine lv_aload_n hx hb dL_law_984 rfl (lv_at hl 0 rfl) ?_
  refine lv_iload_n hx hb dL_law_985 rfl (lv_at hl 3 rfl) ?_
  refine lv_iconst (v := 3) hx hb dL_law_986 (by decide) ?_
  refine lv_iadd hx hb dL_law_987 ?_
  refine va_sld hx hb hX hbl hbA hS (hin 3 (by decide)) dL_law_988 ?_
  refine lv_aload_n hx hb dL_law_989 rfl (lv_at hl 0 rfl) ?_
  refine lv_iload_n hx hb dL_law_990 rfl (lv_at hl 3 rfl) ?_
  refine lv_iconst (v := 4) hx hb dL_law_991 (by decide) ?_
  refine lv_iadd hx hb dL_law_992 ?_
  refine va_sld hx hb hX hbl hbA hS (hin 4 (by decide)) dL_law_993 ?_
  refine lv_aload_n hx hb dL_law_994 rfl (lv_at hl 0 rfl) ?_
  refine lv_iload_n hx hb dL_law_995 rfl (lv_at hl 3 rfl) ?_
  refine lv_iconst (v := 5) hx hb dL_law_996 (by decide) ?_
  refine lv_iadd hx hb dL_law_997 ?_
  refine va_sld hx hb hX hbl hbA hS (hin 5 (by decide)) dL_law_998 ?_
  refine lw_call (E := eX6_slip) (as := [.int (xs (x3 + 1).toNatClampNeg), .int (xs (x3 + 2).toNatClampNeg), .int (xs (x3 + 3).toNatClampNeg), .int (xs (x3 + 4).toNatClampNeg), .int (xs (x3 + 5).toNatClampNeg)]) (b := 59) (nn := 5) (rest := [.long x]) ⟨hx, hb, hml, hown, hts⟩ hfv F hP hS kE_X6_slip (by decide) rfl (Or.inr rfl) lwM_eX6_slip lwI_eX6_slip lwS_eX6_slip (by decide +kernel) rfl c2 rfl ⟨Nat.le_of_ble_eq_true rfl, Nat.le_of_ble_eq_true rfl⟩ hl.1 (lv_room (Nat.le_of_ble_eq_true rfl)) hcl hsl dL_law_999 (fun H locs hP hS => ?_)
  refine W.lcmp hx hb dL_law_1002 ?_
  exact lv_if_eq (tgt := 1235) hx hb dL_law_1003 (by decide) (fun _ => kk h2 _ _ I2 hP hS) (fun q => absurd (lcx x) q)
theorem lwM_eX5_two : inW (.methodLink R_law 134 yX5_two) := ⟨(lw_m4 (List.mem_of_getElem? (i := 12) rfl)), rfl⟩
theorem lwI_eX5_two : inW (.instanceMethod yX5_two) := ⟨(lw_m4 (List.mem_of_getElem? (i := 13) rfl)), rfl⟩
theorem lwS_eX5_two : inW (.selects RX5 yX5_two yX5_two) := ⟨(lw_m4 (List.mem_of_getElem? (i := 14) rfl)), rfl⟩
theorem lwM_eX6_two : inW (.methodLink R_law 137 yX6_two) := ⟨(lw_m5 (List.mem_of_getElem? (i := 188) rfl)), rfl⟩
theorem lwI_eX6_two : inW (.instanceMethod yX6_two) := ⟨(lw_m5 (List.mem_of_getElem? (i := 189) rfl)), rfl⟩
theorem lwS_eX6_two : inW (.selects RX6 yX6_two yX6_two) := ⟨(lw_m5 (List.mem_of_getElem? (i := 190) rfl)), rfl⟩
theorem lc_two {p : Program} {l : Launch} {e : Env} {s : State} {m : MethodId} {below : List Frame} {meth : Method} {c : Code} {H : Heap} {locs : List Loc} {cells slots : Nat} {Q : State → Prop} {ls : Array Slot} {b L : Nat} {xs : Nat → Int32} {x3 : Int32} {D : va_G} {cs : ClassId × ClassId × ClassId} {kc : Nat → Nat} {fv : Value} {h : mH} (hx : p.tables.exec = Jvm.exec) (hb : c.code = code) (hml : c.maxLocals = 4) (hown : s.vm.findClass R_law = some m.cls) (hts : ∀ w ∈ lw_tbl, w.before #[Value.ref b] s = true) (hX : va_X b L xs s s.heap) (hbl : b < s.heap.size) (hfv : fv = .null ∨ ∃ a, fv = .ref a) (F : wFx D cs (adK s.heap.size kc) fv s s.heap) (I : Inv h) (hP : va_P D vwCl (wL cs (adK s.heap.size kc) h) H) (hS : va_S (fun q => s.heap.size ≤ q) s.heap H locs) (hl : lv_has ls 4 [(0, .ref b), (1, .ref (adK s.heap.size kc 0)), (2, .ref (adK s.heap.size kc 59)), (3, .int x3)]) (hin : ∀ j : Int32, j = 1 ∨ j = 2 ∨ j = 3 ∨ j = 4 ∨ j = 5 → vp_in (x3 + j) L) (hcl : cells ≤ 600000) (hsl : slots ≤ 7302250)
    (kk : ∀ (h2 : mH) (H1 : Heap) (locs1 : List Loc), Inv h2 → va_P D vwCl (wL cs (adK s.heap.size kc) h2) H1 → va_S (fun q => s.heap.size ≤ q) s.heap H1 locs1 → W p l e room_1 s m #[Value.ref b] below meth c H1 locs1 cells slots Q (F0 m 1235 ls [])) : W p l e room_1 s m #[Value.ref b] below meth c H locs cells slots Q (F0 m 1008 ls []) := by
  have hbA : ¬ (fun q : Nat => s.heap.size ≤ q) b := Nat.not_le.mpr hbl
  obtain ⟨v, h1, h2, ⟨x, rfl⟩, c1, c2, I2⟩ := pf_two (xs (x3 + 1).toNatClampNeg) (xs (x3 + 2).toNatClampNeg) h I
  refine lv_aload_n hx hb dL_law_1008 rfl (lv_at hl 1 rfl) ?_
  refine lv_aload_n hx hb dL_law_1009 rfl (lv_at hl 0 rfl) ?_
  refine lv_iload_n hx hb dL_law_1010 rfl (lv_at hl 3 rfl) ?_
  refine lv_iconst (v := 1) hx hb dL_law_1011 (by decide) ?_
  refine lv_iadd hx hb dL_law_1012 ?_
  refine va_sld hx hb hX hbl hbA hS (hin 1 (by decide)) dL_law_1013 ?_
  refine lv_aload_n hx hb dL_law_1014 rfl (lv_at hl 0 rfl) ?_
  refine lv_iload_n hx hb dL_law_1015 rfl (lv_at hl 3 rfl) ?_
  refine lv_iconst (v := 2) hx hb dL_law_1016 (by decide) ?_
  refine lv_iadd hx hb dL_law_1017 ?_
  refine va_sld hx hb hX hbl hbA hS (hin 2 (by decide)) dL_law_1018 ?_
  refine lw_call (E := eX5_two) (as := [.int (xs (x3 + 1).toNatClampNeg), .int (xs (x3 + 2).toNatClampNeg)]) (b := 0) (nn := 2) (rest := []) ⟨hx, hb, hml, hown, hts⟩ hfv F hP hS kE_X5_two (by decide) rfl (Or.inl rfl) lwM_eX5_two lwI_eX5_two lwS_eX5_two (by decide +kernel) rfl c1 rfl ⟨Nat.le_of_ble_eq_true rfl, Nat.le_of_ble_eq_true rfl⟩ hl.1 (lv_room (Nat.le_of_ble_eq_true rfl)) hcl hsl dL_law_1019 (fun H locs hP hS => ?_)
  refine lv_aload_n hx hb dL_law_1022 rfl (lv_at hl 2 rfl) ?_
  refine lv_aload_n hx hb dL_law_1023 rfl (lv_at hl 0 rfl) ?_
  refine lv_iload_n hx hb dL_law_1024 rfl (lv_at hl 3 rfl) ?_
  refine lv_iconst (v := 1) hx hb dL_law_1025 (by decide) ?_
  refine lv_iadd hx hb dL_law_1026 ?_
  refine va_sld hx hb hX hbl hbA hS (hin 1 (by decide)) dL_law_1027 ?_
  refine lv_aload_n hx hb dL_law_1028 rfl (lv_at hl 0 rfl) ?_
  refine lv_iload_n hx hb dL_law_1029 rfl (lv_at hl 3 rfl) ?_
  refine lv_iconst (v := 2) hx hb dL_law_1030 (by decide) ?_
  refine lv_iadd hx hb dL_law_1031 ?_
  refine va_sld hx hb hX hbl hbA hS (hin 2 (by decide)) dL_law_1032 ?_
  refine lw_call (E := eX6_two) (as := [.int (xs (x3 + 1).toNatClampNeg), .int (xs (x3 + 2).toNatClampNeg)]) (b := 59) (nn := 2) (rest := [.int x]) ⟨hx, hb, hml, hown, hts⟩ hfv F hP hS kE_X6_two (by decide) rfl (Or.inr rfl) lwM_eX6_two lwI_eX6_two lwS_eX6_two (by decide +kernel) rfl c2 rfl ⟨Nat.le_of_ble_eq_true rfl, Nat.le_of_ble_eq_true rfl⟩ hl.1 (lv_room (Nat.le_of_ble_eq_true rfl)) hcl hsl dL_law_1033 (fun H locs hP hS => ?_)
  exact lv_icmp_eq (tgt := 1235) hx hb dL_law_1036 (by decide) (fun _ => kk h2 _ _ I2 hP hS) (fun q => absurd rfl q)
theorem lwM_eX5_which : inW (.methodLink R_law 138 yX5_which) := ⟨(lw_m4 (List.mem_of_getElem? (i := 29) rfl)), rfl⟩
theorem lwI_eX5_which : inW (.instanceMethod yX5_which) := ⟨(lw_m4 (List.mem_of_getElem? (i := 30) rfl)), rfl⟩
theorem lwS_eX5_which : inW (.selects RX5 yX5_which yX5_which) := ⟨(lw_m4 (List.mem_of_getElem? (i := 31) rfl)), rfl⟩
theorem lwM_eX6_which : inW (.methodLink R_law 141 yX6_which) := ⟨(lw_m5 (List.mem_of_getElem? (i := 196) rfl)), rfl⟩
theorem lwI_eX6_which : inW (.instanceMethod yX6_which) := ⟨(lw_m5 (List.mem_of_getElem? (i := 197) rfl)), rfl⟩
theorem lwS_eX6_which : inW (.selects RX6 yX6_which yX6_which) := ⟨(lw_m5 (List.mem_of_getElem? (i := 198) rfl)), rfl⟩
theorem lc_which {p : Program} {l : Launch} {e : Env} {s : State} {m : MethodId} {below : List Frame} {meth : Method} {c : Code} {H : Heap} {locs : List Loc} {cells slots : Nat} {Q : State → Prop} {ls : Array Slot} {b L : Nat} {xs : Nat → Int32} {x3 : Int32} {D : va_G} {cs : ClassId × ClassId × ClassId} {kc : Nat → Nat} {fv : Value} {h : mH} (hx : p.tables.exec = Jvm.exec) (hb : c.code = code) (hml : c.maxLocals = 4) (hown : s.vm.findClass R_law = some m.cls) (hts : ∀ w ∈ lw_tbl, w.before #[Value.ref b] s = true) (hX : va_X b L xs s s.heap) (hbl : b < s.heap.size) (hfv : fv = .null ∨ ∃ a, fv = .ref a) (F : wFx D cs (adK s.heap.size kc) fv s s.heap) (I : Inv h) (hP : va_P D vwCl (wL cs (adK s.heap.size kc) h) H) (hS : va_S (fun q => s.heap.size ≤ q) s.heap H locs) (hl : lv_has ls 4 [(0, .ref b), (1, .ref (adK s.heap.size kc 0)), (2, .ref (adK s.heap.size kc 59)), (3, .int x3)]) (hin : ∀ j : Int32, j = 1 ∨ j = 2 ∨ j = 3 ∨ j = 4 ∨ j = 5 → vp_in (x3 + j) L) (hcl : cells ≤ 600000) (hsl : slots ≤ 7302250)
    (kk : ∀ (h2 : mH) (H1 : Heap) (locs1 : List Loc), Inv h2 → va_P D vwCl (wL cs (adK s.heap.size kc) h2) H1 → va_S (fun q => s.heap.size ≤ q) s.heap H1 locs1 → W p l e room_1 s m #[Value.ref b] below meth c H1 locs1 cells slots Q (F0 m 1235 ls [])) : W p l e room_1 s m #[Value.ref b] below meth c H locs cells slots Q (F0 m 1041 ls []) := by
  have hbA : ¬ (fun q : Nat => s.heap.size ≤ q) b := Nat.not_le.mpr hbl
  obtain ⟨v, h1, h2, ⟨x, rfl⟩, c1, c2, I2⟩ := pf_which (xs (x3 + 1).toNatClampNeg) (xs (x3 + 2).toNatClampNeg) (xs (x3 + 3).toNatClampNeg) h I
  refine lv_aload_n hx hb dL_law_1041 rfl (lv_at hl 1 rfl) ?_
  refine lv_aload_n hx hb dL_law_1042 rfl (lv_at hl 0 rfl) ?_
  refine lv_iload_n hx hb dL_law_1043 rfl (lv_at hl 3 rfl) ?_
  refine lv_iconst (v := 1) hx hb dL_law_1044 (by decide) ?_
  refine lv_iadd hx hb dL_law_1045 ?_
  refine va_sld hx hb hX hbl hbA hS (hin 1 (by decide)) dL_law_1046 ?_
  refine lv_aload_n hx hb dL_law_1047 rfl (lv_at hl 0 rfl) ?_
  refine lv_iload_n hx hb dL_law_1048 rfl (lv_at hl 3 rfl) ?_
  refine lv_iconst (v := 2) hx hb dL_law_1049 (by decide) ?_
  refine lv_iadd hx hb dL_law_1050 ?_
  refine va_sld hx hb hX hbl hbA hS (hin 2 (by decide)) dL_law_1051 ?_
  refine lv_aload_n hx hb dL_law_1052 rfl (lv_at hl 0 rfl) ?_
  refine lv_iload_n hx hb dL_law_1053 rfl (lv_at hl 3 rfl) ?_
  refine lv_iconst (v := 3) hx hb dL_law_1054 (by decide) ?_
  refine lv_iadd hx hb dL_law_1055 ?_
  refine va_sld hx hb hX hbl hbA hS (hin 3 (by decide)) dL_law_1056 ?_
  refine lw_call (E := eX5_which) (as := [.int (xs (x3 + 1).toNatClampNeg), .int (xs (x3 + 2).toNatClampNeg), .int (xs (x3 + 3).toNatClampNeg)]) (b := 0) (nn := 3) (rest := []) ⟨hx, hb, hml, hown, hts⟩ hfv F hP hS kE_X5_which (by decide) rfl (Or.inl rfl) lwM_eX5_which lwI_eX5_which lwS_eX5_which (by decide +kernel) rfl c1 rfl ⟨Nat.le_of_ble_eq_true rfl, Nat.le_of_ble_eq_true rfl⟩ hl.1 (lv_room (Nat.le_of_ble_eq_true rfl)) hcl hsl dL_law_1057 (fun H locs hP hS => ?_)
  refine lv_aload_n hx hb dL_law_1060 rfl (lv_at hl 2 rfl) ?_
  refine lv_aload_n hx hb dL_law_1061 rfl (lv_at hl 0 rfl) ?_
  refine lv_iload_n hx hb dL_law_1062 rfl (lv_at hl 3 rfl) ?_
  refine lv_iconst (v := 1) hx hb dL_law_1063 (by decide) ?_
  refine lv_iadd hx hb dL_law_1064 ?_
  refine va_sld hx hb hX hbl hbA hS (hin 1 (by decide)) dL_law_1065 ?_
  refine lv_aload_n hx hb dL_law_1066 rfl (lv_at hl 0 rfl) ?_
  refine lv_iload_n hx hb dL_law_1067 rfl (lv_at hl 3 rfl) ?_
  refine lv_iconst (v := 2) hx hb dL_law_1068 (by decide) ?_
  refine lv_iadd hx hb dL_law_1069 ?_
  refine va_sld hx hb hX hbl hbA hS (hin 2 (by decide)) dL_law_1070 ?_
  refine lv_aload_n hx hb dL_law_1071 rfl (lv_at hl 0 rfl) ?_
  refine lv_iload_n hx hb dL_law_1072 rfl (lv_at hl 3 rfl) ?_
  refine lv_iconst (v := 3) hx hb dL_law_1073 (by decide) ?_
  refine lv_iadd hx hb dL_law_1074 ?_
  refine va_sld hx hb hX hbl hbA hS (hin 3 (by decide)) dL_law_1075 ?_
  refine lw_call (E := eX6_which) (as := [.int (xs (x3 + 1).toNatClampNeg), .int (xs (x3 + 2).toNatClampNeg), .int (xs (x3 + 3).toNatClampNeg)]) (b := 59) (nn := 3) (rest := [.int x]) ⟨hx, hb, hml, hown, hts⟩ hfv F hP hS kE_X6_which (by decide) rfl (Or.inr rfl) lwM_eX6_which lwI_eX6_which lwS_eX6_which (by decide +kernel) rfl c2 rfl ⟨Nat.le_of_ble_eq_true rfl, Nat.le_of_ble_eq_true rfl⟩ hl.1 (lv_room (Nat.le_of_ble_eq_true rfl)) hcl hsl dL_law_1076 (fun H locs hP hS => ?_)
  exact lv_icmp_eq (tgt := 1235) hx hb dL_law_1079 (by decide) (fun _ => kk h2 _ _ I2 hP hS) (fun q => absurd rfl q)
theorem lwM_eX5_row : inW (.methodLink R_law 142 yX5_row) := ⟨(lw_m4 (List.mem_of_getElem? (i := 45) rfl)), rfl⟩
theorem lwI_eX5_row : inW (.instanceMethod yX5_row) := ⟨(lw_m4 (List.mem_of_getElem? (i := 46) rfl)), rfl⟩
theorem lwS_eX5_row : inW (.selects RX5 yX5_row yX5_row) := ⟨(lw_m4 (List.mem_of_getElem? (i := 47) rfl)), rfl⟩
theorem lwM_eX6_row : inW (.methodLink R_law 145 yX6_row) := ⟨(lw_m5 (List.mem_of_getElem? (i := 204) rfl)), rfl⟩
theorem lwI_eX6_row : inW (.instanceMethod yX6_row) := ⟨(lw_m5 (List.mem_of_getElem? (i := 205) rfl)), rfl⟩
theorem lwS_eX6_row : inW (.selects RX6 yX6_row yX6_row) := ⟨(lw_m5 (List.mem_of_getElem? (i := 206) rfl)), rfl⟩
theorem lc_row {p : Program} {l : Launch} {e : Env} {s : State} {m : MethodId} {below : List Frame} {meth : Method} {c : Code} {H : Heap} {locs : List Loc} {cells slots : Nat} {Q : State → Prop} {ls : Array Slot} {b L : Nat} {xs : Nat → Int32} {x3 : Int32} {D : va_G} {cs : ClassId × ClassId × ClassId} {kc : Nat → Nat} {fv : Value} {h : mH} (hx : p.tables.exec = Jvm.exec) (hb : c.code = code) (hml : c.maxLocals = 4) (hown : s.vm.findClass R_law = some m.cls) (hts : ∀ w ∈ lw_tbl, w.before #[Value.ref b] s = true) (hX : va_X b L xs s s.heap) (hbl : b < s.heap.size) (hfv : fv = .null ∨ ∃ a, fv = .ref a) (F : wFx D cs (adK s.heap.size kc) fv s s.heap) (I : Inv h) (hP : va_P D vwCl (wL cs (adK s.heap.size kc) h) H) (hS : va_S (fun q => s.heap.size ≤ q) s.heap H locs) (hl : lv_has ls 4 [(0, .ref b), (1, .ref (adK s.heap.size kc 0)), (2, .ref (adK s.heap.size kc 59)), (3, .int x3)]) (hin : ∀ j : Int32, j = 1 ∨ j = 2 ∨ j = 3 ∨ j = 4 ∨ j = 5 → vp_in (x3 + j) L) (hcl : cells ≤ 600000) (hsl : slots ≤ 7302250)
    (kk : ∀ (h2 : mH) (H1 : Heap) (locs1 : List Loc), Inv h2 → va_P D vwCl (wL cs (adK s.heap.size kc) h2) H1 → va_S (fun q => s.heap.size ≤ q) s.heap H1 locs1 → W p l e room_1 s m #[Value.ref b] below meth c H1 locs1 cells slots Q (F0 m 1235 ls [])) : W p l e room_1 s m #[Value.ref b] below meth c H locs cells slots Q (F0 m 1084 ls []) := by
  have hbA : ¬ (fun q : Nat => s.heap.size ≤ q) b := Nat.not_le.mpr hbl
  obtain ⟨v, h1, h2, ⟨x, rfl⟩, c1, c2, I2⟩ := pf_row (xs (x3 + 1).toNatClampNeg) h I
  refine lv_aload_n hx hb dL_law_1084 rfl (lv_at hl 1 rfl) ?_
  refine lv_aload_n hx hb dL_law_1085 rfl (lv_at hl 0 rfl) ?_
  refine lv_iload_n hx hb dL_law_1086 rfl (lv_at hl 3 rfl) ?_
  refine lv_iconst (v := 1) hx hb dL_law_1087 (by decide) ?_
  refine lv_iadd hx hb dL_law_1088 ?_
  refine va_sld hx hb hX hbl hbA hS (hin 1 (by decide)) dL_law_1089 ?_
  refine lw_call (E := eX5_row) (as := [.int (xs (x3 + 1).toNatClampNeg)]) (b := 0) (nn := 1) (rest := []) ⟨hx, hb, hml, hown, hts⟩ hfv F hP hS kE_X5_row (by decide) rfl (Or.inl rfl) lwM_eX5_row lwI_eX5_row lwS_eX5_row (by decide +kernel) rfl c1 rfl ⟨Nat.le_of_ble_eq_true rfl, Nat.le_of_ble_eq_true rfl⟩ hl.1 (lv_room (Nat.le_of_ble_eq_true rfl)) hcl hsl dL_law_1090 (fun H locs hP hS => ?_)
  refine lv_aload_n hx hb dL_law_1093 rfl (lv_at hl 2 rfl) ?_
  refine lv_aload_n hx hb dL_law_1094 rfl (lv_at hl 0 rfl) ?_
  refine lv_iload_n hx hb dL_law_1095 rfl (lv_at hl 3 rfl) ?_
  refine lv_iconst (v := 1) hx hb dL_law_1096 (by decide) ?_
  refine lv_iadd hx hb dL_law_1097 ?_
  refine va_sld hx hb hX hbl hbA hS (hin 1 (by decide)) dL_law_1098 ?_
  refine lw_call (E := eX6_row) (as := [.int (xs (x3 + 1).toNatClampNeg)]) (b := 59) (nn := 1) (rest := [.int x]) ⟨hx, hb, hml, hown, hts⟩ hfv F hP hS kE_X6_row (by decide) rfl (Or.inr rfl) lwM_eX6_row lwI_eX6_row lwS_eX6_row (by decide +kernel) rfl c2 rfl ⟨Nat.le_of_ble_eq_true rfl, Nat.le_of_ble_eq_true rfl⟩ hl.1 (lv_room (Nat.le_of_ble_eq_true rfl)) hcl hsl dL_law_1099 (fun H locs hP hS => ?_)
  exact lv_icmp_eq (tgt := 1235) hx hb dL_law_1102 (by decide) (fun _ => kk h2 _ _ I2 hP hS) (fun q => absurd rfl q)
theorem lwM_eX5_judge : inW (.methodLink R_law 146 yX5_judge) := ⟨(lw_m4 (List.mem_of_getElem? (i := 49) rfl)), rfl⟩
theorem lwI_eX5_judge : inW (.instanceMethod yX5_judge) := ⟨(lw_m4 (List.mem_of_getElem? (i := 50) rfl)), rfl⟩
theorem lwS_eX5_judge : inW (.selects RX5 yX5_judge yX5_judge) := ⟨(lw_m4 (List.mem_of_getElem? (i := 51) rfl)), rfl⟩
theorem lwM_eX6_judge : inW (.methodLink R_law 149 yX6_judge) := ⟨(lw_m5 (List.mem_of_getElem? (i := 208) rfl)), rfl⟩
theorem lwI_eX6_judge : inW (.instanceMethod yX6_judge) := ⟨(lw_m5 (List.mem_of_getElem? (i := 209) rfl)), rfl⟩
theorem lwS_eX6_judge : inW (.selects RX6 yX6_judge yX6_judge) := ⟨(lw_m5 (List.mem_of_getElem? (i := 210) rfl)), rfl⟩
theorem lc_judge {p : Program} {l : Launch} {e : Env} {s : State} {m : MethodId} {below : List Frame} {meth : Method} {c : Code} {H : Heap} {locs : List Loc} {cells slots : Nat} {Q : State → Prop} {ls : Array Slot} {b L : Nat} {xs : Nat → Int32} {x3 : Int32} {D : va_G} {cs : ClassId × ClassId × ClassId} {kc : Nat → Nat} {fv : Value} {h : mH} (hx : p.tables.exec = Jvm.exec) (hb : c.code = code) (hml : c.maxLocals = 4) (hown : s.vm.findClass R_law = some m.cls) (hts : ∀ w ∈ lw_tbl, w.before #[Value.ref b] s = true) (hX : va_X b L xs s s.heap) (hbl : b < s.heap.size) (hfv : fv = .null ∨ ∃ a, fv = .ref a) (F : wFx D cs (adK s.heap.size kc) fv s s.heap) (I : Inv h) (hP : va_P D vwCl (wL cs (adK s.heap.size kc) h) H) (hS : va_S (fun q => s.heap.size ≤ q) s.heap H locs) (hl : lv_has ls 4 [(0, .ref b), (1, .ref (adK s.heap.size kc 0)), (2, .ref (adK s.heap.size kc 59)), (3, .int x3)]) (hin : ∀ j : Int32, j = 1 ∨ j = 2 ∨ j = 3 ∨ j = 4 ∨ j = 5 → vp_in (x3 + j) L) (hcl : cells ≤ 600000) (hsl : slots ≤ 7302250)
    (kk : ∀ (h2 : mH) (H1 : Heap) (locs1 : List Loc), Inv h2 → va_P D vwCl (wL cs (adK s.heap.size kc) h2) H1 → va_S (fun q => s.heap.size ≤ q) s.heap H1 locs1 → W p l e room_1 s m #[Value.ref b] below meth c H1 locs1 cells slots Q (F0 m 1235 ls [])) : W p l e room_1 s m #[Value.ref b] below meth c H locs cells slots Q (F0 m 1107 ls []) := by
  have hbA : ¬ (fun q : Nat => s.heap.size ≤ q) b := Nat.not_le.mpr hbl
  obtain ⟨v, h1, h2, ⟨x, rfl⟩, c1, c2, I2⟩ := pf_judge (xs (x3 + 1).toNatClampNeg) h I
  refine lv_aload_n hx hb dL_law_1107 rfl (lv_at hl 1 rfl) ?_
  refine lv_aload_n hx hb dL_law_1108 rfl (lv_at hl 0 rfl) ?_
  refine lv_iload_n hx hb dL_law_1109 rfl (lv_at hl 3 rfl) ?_
  refine lv_iconst (v := 1) hx hb dL_law_1110 (by decide) ?_
  refine lv_iadd hx hb dL_law_1111 ?_
  refine va_sld hx hb hX hbl hbA hS (hin 1 (by decide)) dL_law_1112 ?_
  refine lw_call (E := eX5_judge) (as := [.int (xs (x3 + 1).toNatClampNeg)]) (b := 0) (nn := 1) (rest := []) ⟨hx, hb, hml, hown, hts⟩ hfv F hP hS kE_X5_judge (by decide) rfl (Or.inl rfl) lwM_eX5_judge lwI_eX5_judge lwS_eX5_judge (by decide +kernel) rfl c1 rfl ⟨Nat.le_of_ble_eq_true rfl, Nat.le_of_ble_eq_true rfl⟩ hl.1 (lv_room (Nat.le_of_ble_eq_true rfl)) hcl hsl dL_law_1113 (fun H locs hP hS => ?_)
  refine lv_aload_n hx hb dL_law_1116 rfl (lv_at hl 2 rfl) ?_
  refine lv_aload_n hx hb dL_law_1117 rfl (lv_at hl 0 rfl) ?_
  refine lv_iload_n hx hb dL_law_1118 rfl (lv_at hl 3 rfl) ?_
  refine lv_iconst (v := 1) hx hb dL_law_1119 (by decide) ?_
  refine lv_iadd hx hb dL_law_1120 ?_
  refine va_sld hx hb hX hbl hbA hS (hin 1 (by decide)) dL_law_1121 ?_
  refine lw_call (E := eX6_judge) (as := [.int (xs (x3 + 1).toNatClampNeg)]) (b := 59) (nn := 1) (rest := [.int x]) ⟨hx, hb, hml, hown, hts⟩ hfv F hP hS kE_X6_judge (by decide) rfl (Or.inr rfl) lwM_eX6_judge lwI_eX6_judge lwS_eX6_judge (by decide +kernel) rfl c2 rfl ⟨Nat.le_of_ble_eq_true rfl, Nat.le_of_ble_eq_true rfl⟩ hl.1 (lv_room (Nat.le_of_ble_eq_true rfl)) hcl hsl dL_law_1122 (fun H locs hP hS => ?_)
  exact lv_icmp_eq (tgt := 1235) hx hb dL_law_1125 (by decide) (fun _ => kk h2 _ _ I2 hP hS) (fun q => absurd rfl q)
theorem lwM_eX5_clear : inW (.methodLink R_law 150 yX5_clear) := ⟨(lw_m4 (List.mem_of_getElem? (i := 57) rfl)), rfl⟩
theorem lwI_eX5_clear : inW (.instanceMethod yX5_clear) := ⟨(lw_m4 (List.mem_of_getElem? (i := 58) rfl)), rfl⟩
theorem lwS_eX5_clear : inW (.selects RX5 yX5_clear yX5_clear) := ⟨(lw_m4 (List.mem_of_getElem? (i := 59) rfl)), rfl⟩
theorem lwM_eX6_clear : inW (.methodLink R_law 153 yX6_clear) := ⟨(lw_m5 (List.mem_of_getElem? (i := 212) rfl)), rfl⟩
theorem lwI_eX6_clear : inW (.instanceMethod yX6_clear) := ⟨(lw_m5 (List.mem_of_getElem? (i := 213) rfl)), rfl⟩
theorem lwS_eX6_clear : inW (.selects RX6 yX6_clear yX6_clear) := ⟨(lw_m5 (List.mem_of_getElem? (i := 214) rfl)), rfl⟩
theorem lc_clear {p : Program} {l : Launch} {e : Env} {s : State} {m : MethodId} {below : List Frame} {meth : Method} {c : Code} {H : Heap} {locs : List Loc} {cells slots : Nat} {Q : State → Prop} {ls : Array Slot} {b L : Nat} {xs : Nat → Int32} {x3 : Int32} {D : va_G} {cs : ClassId × ClassId × ClassId} {kc : Nat → Nat} {fv : Value} {h : mH} (hx : p.tables.exec = Jvm.exec) (hb : c.code = code) (hml : c.maxLocals = 4) (hown : s.vm.findClass R_law = some m.cls) (hts : ∀ w ∈ lw_tbl, w.before #[Value.ref b] s = true) (hX : va_X b L xs s s.heap) (hbl : b < s.heap.size) (hfv : fv = .null ∨ ∃ a, fv = .ref a) (F : wFx D cs (adK s.heap.size kc) fv s s.heap) (I : Inv h) (hP : va_P D vwCl (wL cs (adK s.heap.size kc) h) H) (hS : va_S (fun q => s.heap.size ≤ q) s.heap H locs) (hl : lv_has ls 4 [(0, .ref b), (1, .ref (adK s.heap.size kc 0)), (2, .ref (adK s.heap.size kc 59)), (3, .int x3)]) (hin : ∀ j : Int32, j = 1 ∨ j = 2 ∨ j = 3 ∨ j = 4 ∨ j = 5 → vp_in (x3 + j) L) (hcl : cells ≤ 600000) (hsl : slots ≤ 7302250)
    (kk : ∀ (h2 : mH) (H1 : Heap) (locs1 : List Loc), Inv h2 → va_P D vwCl (wL cs (adK s.heap.size kc) h2) H1 → va_S (fun q => s.heap.size ≤ q) s.heap H1 locs1 → W p l e room_1 s m #[Value.ref b] below meth c H1 locs1 cells slots Q (F0 m 1235 ls [])) : W p l e room_1 s m #[Value.ref b] below meth c H locs cells slots Q (F0 m 1130 ls []) := by
  have hbA : ¬ (fun q : Nat => s.heap.size ≤ q) b := Nat.not_le.mpr hbl
  obtain ⟨v, h1, h2, ⟨x, rfl⟩, c1, c2, I2⟩ := pf_clear h I
  refine lv_aload_n hx hb dL_law_1130 rfl (lv_at hl 1 rfl) ?_
  refine lw_call (E := eX5_clear) (as := []) (b := 0) (nn := 0) (rest := []) ⟨hx, hb, hml, hown, hts⟩ hfv F hP hS kE_X5_clear (by decide) rfl (Or.inl rfl) lwM_eX5_clear lwI_eX5_clear lwS_eX5_clear (by decide +kernel) rfl c1 rfl ⟨Nat.le_of_ble_eq_true rfl, Nat.le_of_ble_eq_true rfl⟩ hl.1 (lv_room (Nat.le_of_ble_eq_true rfl)) hcl hsl dL_law_1131 (fun H locs hP hS => ?_)
  refine lv_aload_n hx hb dL_law_1134 rfl (lv_at hl 2 rfl) ?_
  refine lw_call (E := eX6_clear) (as := []) (b := 59) (nn := 0) (rest := [.int x]) ⟨hx, hb, hml, hown, hts⟩ hfv F hP hS kE_X6_clear (by decide) rfl (Or.inr rfl) lwM_eX6_clear lwI_eX6_clear lwS_eX6_clear (by decide +kernel) rfl c2 rfl ⟨Nat.le_of_ble_eq_true rfl, Nat.le_of_ble_eq_true rfl⟩ hl.1 (lv_room (Nat.le_of_ble_eq_true rfl)) hcl hsl dL_law_1135 (fun H locs hP hS => ?_)
  exact lv_icmp_eq (tgt := 1235) hx hb dL_law_1138 (by decide) (fun _ => kk h2 _ _ I2 hP hS) (fun q => absurd rfl q)
theorem lwM_eX5_lots : inW (.methodLink R_law 154 yX5_lots) := ⟨(lw_m4 (List.mem_of_getElem? (i := 61) rfl)), rfl⟩
theorem lwI_eX5_lots : inW (.instanceMethod yX5_lots) := ⟨(lw_m4 (List.mem_of_getElem? (i := 62) rfl)), rfl⟩
theorem lwS_eX5_lots : inW (.selects RX5 yX5_lots yX5_lots) := ⟨(lw_m4 (List.mem_of_getElem? (i := 63) rfl)), rfl⟩
theorem lwM_eX6_lots : inW (.methodLink R_law 157 yX6_lots) := ⟨(lw_m5 (List.mem_of_getElem? (i := 216) rfl)), rfl⟩
theorem lwI_eX6_lots : inW (.instanceMethod yX6_lots) := ⟨(lw_m5 (List.mem_of_getElem? (i := 217) rfl)), rfl⟩
theorem lwS_eX6_lots : inW (.selects RX6 yX6_lots yX6_lots) := ⟨(lw_m5 (List.mem_of_getElem? (i := 218) rfl)), rfl⟩
theorem lc_lots {p : Program} {l : Launch} {e : Env} {s : State} {m : MethodId} {below : List Frame} {meth : Method} {c : Code} {H : Heap} {locs : List Loc} {cells slots : Nat} {Q : State → Prop} {ls : Array Slot} {b L : Nat} {xs : Nat → Int32} {x3 : Int32} {D : va_G} {cs : ClassId × ClassId × ClassId} {kc : Nat → Nat} {fv : Value} {h : mH} (hx : p.tables.exec = Jvm.exec) (hb : c.code = code) (hml : c.maxLocals = 4) (hown : s.vm.findClass R_law = some m.cls) (hts : ∀ w ∈ lw_tbl, w.before #[Value.ref b] s = true) (hX : va_X b L xs s s.heap) (hbl : b < s.heap.size) (hfv : fv = .null ∨ ∃ a, fv = .ref a) (F : wFx D cs (adK s.heap.size kc) fv s s.heap) (I : Inv h) (hP : va_P D vwCl (wL cs (adK s.heap.size kc) h) H) (hS : va_S (fun q => s.heap.size ≤ q) s.heap H locs) (hl : lv_has ls 4 [(0, .ref b), (1, .ref (adK s.heap.size kc 0)), (2, .ref (adK s.heap.size kc 59)), (3, .int x3)]) (hin : ∀ j : Int32, j = 1 ∨ j = 2 ∨ j = 3 ∨ j = 4 ∨ j = 5 → vp_in (x3 + j) L) (hcl : cells ≤ 600000) (hsl : slots ≤ 7302250)
    (kk : ∀ (h2 : mH) (H1 : Heap) (locs1 : List Loc), Inv h2 → va_P D vwCl (wL cs (adK s.heap.size kc) h2) H1 → va_S (fun q => s.heap.size ≤ q) s.heap H1 locs1 → W p l e room_1 s m #[Value.ref b] below meth c H1 locs1 cells slots Q (F0 m 1235 ls [])) : W p l e room_1 s m #[Value.ref b] below meth c H locs cells slots Q (F0 m 1143 ls []) := by
  have hbA : ¬ (fun q : Nat => s.heap.size ≤ q) b := Nat.not_le.mpr hbl
  obtain ⟨v, h1, h2, ⟨x, rfl⟩, c1, c2, I2⟩ := pf_lots (xs (x3 + 1).toNatClampNeg) (xs (x3 + 2).toNatClampNeg) (xs (x3 + 3).toNatClampNeg) h I
  refine lv_aload_n hx hb dL_law_1143 rfl (lv_at hl 1 rfl) ?_
  refine lv_aload_n hx hb dL_law_1144 rfl (lv_at hl 0 rfl) ?_
  refine lv_iload_n hx hb dL_law_1145 rfl (lv_at hl 3 rfl) ?_
  refine lv_iconst (v := 1) hx hb dL_law_1146 (by decide) ?_
  refine lv_iadd hx hb dL_law_1147 ?_
  refine va_sld hx hb hX hbl hbA hS (hin 1 (by decide)) dL_law_1148 ?_
  refine lv_aload_n hx hb dL_law_1149 rfl (lv_at hl 0 rfl) ?_
  refine lv_iload_n hx hb dL_law_1150 rfl (lv_at hl 3 rfl) ?_
  refine lv_iconst (v := 2) hx hb dL_law_1151 (by decide) ?_
  refine lv_iadd hx hb dL_law_1152 ?_
  refine va_sld hx hb hX hbl hbA hS (hin 2 (by decide)) dL_law_1153 ?_
  refine lv_aload_n hx hb dL_law_1154 rfl (lv_at hl 0 rfl) ?_
  refine lv_iload_n hx hb dL_law_1155 rfl (lv_at hl 3 rfl) ?_
  refine lv_iconst (v := 3) hx hb dL_law_1156 (by decide) ?_
  refine lv_iadd hx hb dL_law_1157 ?_
  refine va_sld hx hb hX hbl hbA hS (hin 3 (by decide)) dL_law_1158 ?_
  refine lw_call (E := eX5_lots) (as := [.int (xs (x3 + 1).toNatClampNeg), .int (xs (x3 + 2).toNatClampNeg), .int (xs (x3 + 3).toNatClampNeg)]) (b := 0) (nn := 3) (rest := []) ⟨hx, hb, hml, hown, hts⟩ hfv F hP hS kE_X5_lots (by decide) rfl (Or.inl rfl) lwM_eX5_lots lwI_eX5_lots lwS_eX5_lots (by decide +kernel) rfl c1 rfl ⟨Nat.le_of_ble_eq_true rfl, Nat.le_of_ble_eq_true rfl⟩ hl.1 (lv_room (Nat.le_of_ble_eq_true rfl)) hcl hsl dL_law_1159 (fun H locs hP hS => ?_)
  refine lv_aload_n hx hb dL_law_1162 rfl (lv_at hl 2 rfl) ?_
  refine lv_aload_n hx hb dL_law_1163 rfl (lv_at hl 0 rfl) ?_
  refine lv_iload_n hx hb dL_law_1164 rfl (lv_at hl 3 rfl) ?_
  refine lv_iconst (v := 1) hx hb dL_law_1165 (by decide) ?_
  refine lv_iadd hx hb dL_law_1166 ?_
  refine va_sld hx hb hX hbl hbA hS (hin 1 (by decide)) dL_law_1167 ?_
  refine lv_aload_n hx hb dL_law_1168 rfl (lv_at hl 0 rfl) ?_
  refine lv_iload_n hx hb dL_law_1169 rfl (lv_at hl 3 rfl) ?_
  refine lv_iconst (v := 2) hx hb dL_law_1170 (by decide) ?_
  refine lv_iadd hx hb dL_law_1171 ?_
  refine va_sld hx hb hX hbl hbA hS (hin 2 (by decide)) dL_law_1172 ?_
  refine lv_aload_n hx hb dL_law_1173 rfl (lv_at hl 0 rfl) ?_
  refine lv_iload_n hx hb dL_law_1174 rfl (lv_at hl 3 rfl) ?_
  refine lv_iconst (v := 3) hx hb dL_law_1175 (by decide) ?_
  refine lv_iadd hx hb dL_law_1176 ?_
  refine va_sld hx hb hX hbl hbA hS (hin 3 (by decide)) dL_law_1177 ?_
  refine lw_call (E := eX6_lots) (as := [.int (xs (x3 + 1).toNatClampNeg), .int (xs (x3 + 2).toNatClampNeg), .int (xs (x3 + 3).toNatClampNeg)]) (b := 59) (nn := 3) (rest := [.int x]) ⟨hx, hb, hml, hown, hts⟩ hfv F hP hS kE_X6_lots (by decide) rfl (Or.inr rfl) lwM_eX6_lots lwI_eX6_lots lwS_eX6_lots (by decide +kernel) rfl c2 rfl ⟨Nat.le_of_ble_eq_true rfl, Nat.le_of_ble_eq_true rfl⟩ hl.1 (lv_room (Nat.le_of_ble_eq_true rfl)) hcl hsl dL_law_1178 (fun H locs hP hS => ?_)
  exact lv_icmp_eq (tgt := 1235) hx hb dL_law_1181 (by decide) (fun _ => kk h2 _ _ I2 hP hS) (fun q => absurd rfl q)
theorem lwM_eX5_image : inW (.methodLink R_law 158 yX5_image) := ⟨(lw_m4 (List.mem_of_getElem? (i := 76) rfl)), rfl⟩
theorem lwI_eX5_image : inW (.instanceMethod yX5_image) := ⟨(lw_m4 (List.mem_of_getElem? (i := 77) rfl)), rfl⟩
theorem lwS_eX5_image : inW (.selects RX5 yX5_image yX5_image) := ⟨(lw_m4 (List.mem_of_getElem? (i := 78) rfl)), rfl⟩
theorem lwM_eX6_image : inW (.methodLink R_law 161 yX6_image) := ⟨(lw_m5 (List.mem_of_getElem? (i := 227) rfl)), rfl⟩
theorem lwI_eX6_image : inW (.instanceMethod yX6_image) := ⟨(lw_m5 (List.mem_of_getElem? (i := 228) rfl)), rfl⟩
theorem lwS_eX6_image : inW (.selects RX6 yX6_image yX6_image) := ⟨(lw_m5 (List.mem_of_getElem? (i := 229) rfl)), rfl⟩
theorem lc_image {p : Program} {l : Launch} {e : Env} {s : State} {m : MethodId} {below : List Frame} {meth : Method} {c : Code} {H : Heap} {locs : List Loc} {cells slots : Nat} {Q : State → Prop} {ls : Array Slot} {b L : Nat} {xs : Nat → Int32} {x3 : Int32} {D : va_G} {cs : ClassId × ClassId × ClassId} {kc : Nat → Nat} {fv : Value} {h : mH} (hx : p.tables.exec = Jvm.exec) (hb : c.code = code) (hml : c.maxLocals = 4) (hown : s.vm.findClass R_law = some m.cls) (hts : ∀ w ∈ lw_tbl, w.before #[Value.ref b] s = true) (hX : va_X b L xs s s.heap) (hbl : b < s.heap.size) (hfv : fv = .null ∨ ∃ a, fv = .ref a) (F : wFx D cs (adK s.heap.size kc) fv s s.heap) (I : Inv h) (hP : va_P D vwCl (wL cs (adK s.heap.size kc) h) H) (hS : va_S (fun q => s.heap.size ≤ q) s.heap H locs) (hl : lv_has ls 4 [(0, .ref b), (1, .ref (adK s.heap.size kc 0)), (2, .ref (adK s.heap.size kc 59)), (3, .int x3)]) (hin : ∀ j : Int32, j = 1 ∨ j = 2 ∨ j = 3 ∨ j = 4 ∨ j = 5 → vp_in (x3 + j) L) (hcl : cells ≤ 600000) (hsl : slots ≤ 7302250)
    (kk : ∀ (h2 : mH) (H1 : Heap) (locs1 : List Loc), Inv h2 → va_P D vwCl (wL cs (adK s.heap.size kc) h2) H1 → va_S (fun q => s.heap.size ≤ q) s.heap H1 locs1 → W p l e room_1 s m #[Value.ref b] below meth c H1 locs1 cells slots Q (F0 m 1235 ls [])) : W p l e room_1 s m #[Value.ref b] below meth c H locs cells slots Q (F0 m 1186 ls []) := by
  have hbA : ¬ (fun q : Nat => s.heap.size ≤ q) b := Nat.not_le.mpr hbl
  obtain ⟨v, h1, h2, ⟨x, rfl⟩, c1, c2, I2⟩ := pf_image h I
  refine lv_aload_n hx hb dL_law_1186 rfl (lv_at hl 1 rfl) ?_
  refine lw_call (E := eX5_image) (as := []) (b := 0) (nn := 0) (rest := []) ⟨hx, hb, hml, hown, hts⟩ hfv F hP hS kE_X5_image (by decide) rfl (Or.inl rfl) lwM_eX5_image lwI_eX5_image lwS_eX5_image (by decide +kernel) rfl c1 rfl ⟨Nat.le_of_ble_eq_true rfl, Nat.le_of_ble_eq_true rfl⟩ hl.1 (lv_room (Nat.le_of_ble_eq_true rfl)) hcl hsl dL_law_1187 (fun H locs hP hS => ?_)
  refine lv_aload_n hx hb dL_law_1190 rfl (lv_at hl 2 rfl) ?_
  refine lw_call (E := eX6_image) (as := []) (b := 59) (nn := 0) (rest := [.int x]) ⟨hx, hb, hml, hown, hts⟩ hfv F hP hS kE_X6_image (by decide) rfl (Or.inr rfl) lwM_eX6_image lwI_eX6_image lwS_eX6_image (by decide +kernel) rfl c2 rfl ⟨Nat.le_of_ble_eq_true rfl, Nat.le_of_ble_eq_true rfl⟩ hl.1 (lv_room (Nat.le_of_ble_eq_true rfl)) hcl hsl dL_law_1191 (fun H locs hP hS => ?_)
  exact lv_icmp_eq (tgt := 1235) hx hb dL_law_1194 (by decide) (fun _ => kk h2 _ _ I2 hP hS) (fun q => absurd rfl q)
theorem lwM_eX5_on : inW (.methodLink R_law 162 yX5_on) := ⟨(lw_m4 (List.mem_of_getElem? (i := 80) rfl)), rfl⟩
theorem lwI_eX5_on : inW (.instanceMethod yX5_on) := ⟨(lw_m4 (List.mem_of_getElem? (i := 81) rfl)), rfl⟩
theorem lwS_eX5_on : inW (.selects RX5 yX5_on yX5_on) := ⟨(lw_m4 (List.mem_of_getElem? (i := 82) rfl)), rfl⟩
theorem lwM_eX6_on : inW (.methodLink R_law 165 yX6_on) := ⟨(lw_m5 (List.mem_of_getElem? (i := 231) rfl)), rfl⟩
theorem lwI_eX6_on : inW (.instanceMethod yX6_on) := ⟨(lw_m5 (List.mem_of_getElem? (i := 232) rfl)), rfl⟩
theorem lwS_eX6_on : inW (.selects RX6 yX6_on yX6_on) := ⟨(lw_m5 (List.mem_of_getElem? (i := 233) rfl)), rfl⟩
theorem lc_on {p : Program} {l : Launch} {e : Env} {s : State} {m : MethodId} {below : List Frame} {meth : Method} {c : Code} {H : Heap} {locs : List Loc} {cells slots : Nat} {Q : State → Prop} {ls : Array Slot} {b L : Nat} {xs : Nat → Int32} {x3 : Int32} {D : va_G} {cs : ClassId × ClassId × ClassId} {kc : Nat → Nat} {fv : Value} {h : mH} (hx : p.tables.exec = Jvm.exec) (hb : c.code = code) (hml : c.maxLocals = 4) (hown : s.vm.findClass R_law = some m.cls) (hts : ∀ w ∈ lw_tbl, w.before #[Value.ref b] s = true) (hX : va_X b L xs s s.heap) (hbl : b < s.heap.size) (hfv : fv = .null ∨ ∃ a, fv = .ref a) (F : wFx D cs (adK s.heap.size kc) fv s s.heap) (I : Inv h) (hP : va_P D vwCl (wL cs (adK s.heap.size kc) h) H) (hS : va_S (fun q => s.heap.size ≤ q) s.heap H locs) (hl : lv_has ls 4 [(0, .ref b), (1, .ref (adK s.heap.size kc 0)), (2, .ref (adK s.heap.size kc 59)), (3, .int x3)]) (hin : ∀ j : Int32, j = 1 ∨ j = 2 ∨ j = 3 ∨ j = 4 ∨ j = 5 → vp_in (x3 + j) L) (hcl : cells ≤ 600000) (hsl : slots ≤ 7302250)
    (kk : ∀ (h2 : mH) (H1 : Heap) (locs1 : List Loc), Inv h2 → va_P D vwCl (wL cs (adK s.heap.size kc) h2) H1 → va_S (fun q => s.heap.size ≤ q) s.heap H1 locs1 → W p l e room_1 s m #[Value.ref b] below meth c H1 locs1 cells slots Q (F0 m 1235 ls [])) : W p l e room_1 s m #[Value.ref b] below meth c H locs cells slots Q (F0 m 1199 ls []) := by
  have hbA : ¬ (fun q : Nat => s.heap.size ≤ q) b := Nat.not_le.mpr hbl
  obtain ⟨v, h1, h2, ⟨x, rfl⟩, c1, c2, I2⟩ := pf_on h I
  refine lv_aload_n hx hb dL_law_1199 rfl (lv_at hl 1 rfl) ?_
  refine lw_call (E := eX5_on) (as := []) (b := 0) (nn := 0) (rest := []) ⟨hx, hb, hml, hown, hts⟩ hfv F hP hS kE_X5_on (by decide) rfl (Or.inl rfl) lwM_eX5_on lwI_eX5_on lwS_eX5_on (by decide +kernel) rfl c1 rfl ⟨Nat.le_of_ble_eq_true rfl, Nat.le_of_ble_eq_true rfl⟩ hl.1 (lv_room (Nat.le_of_ble_eq_true rfl)) hcl hsl dL_law_1200 (fun H locs hP hS => ?_)
  refine lv_aload_n hx hb dL_law_1203 rfl (lv_at hl 2 rfl) ?_
  refine lw_call (E := eX6_on) (as := []) (b := 59) (nn := 0) (rest := [.int x]) ⟨hx, hb, hml, hown, hts⟩ hfv F hP hS kE_X6_on (by decide) rfl (Or.inr rfl) lwM_eX6_on lwI_eX6_on lwS_eX6_on (by decide +kernel) rfl c2 rfl ⟨Nat.le_of_ble_eq_true rfl, Nat.le_of_ble_eq_true rfl⟩ hl.1 (lv_room (Nat.le_of_ble_eq_true rfl)) hcl hsl dL_law_1204 (fun H locs hP hS => ?_)
  exact lv_icmp_eq (tgt := 1235) hx hb dL_law_1207 (by decide) (fun _ => kk h2 _ _ I2 hP hS) (fun q => absurd rfl q)
theorem lwM_eX5_count : inW (.methodLink R_law 166 yX5_count) := ⟨(lw_m4 (List.mem_of_getElem? (i := 84) rfl)), rfl⟩
theorem lwI_eX5_count : inW (.instanceMethod yX5_count) := ⟨(lw_m4 (List.mem_of_getElem? (i := 85) rfl)), rfl⟩
theorem lwS_eX5_count : inW (.selects RX5 yX5_count yX5_count) := ⟨(lw_m4 (List.mem_of_getElem? (i := 86) rfl)), rfl⟩
theorem lwM_eX6_count : inW (.methodLink R_law 169 yX6_count) := ⟨(lw_m5 (List.mem_of_getElem? (i := 235) rfl)), rfl⟩
theorem lwI_eX6_count : inW (.instanceMethod yX6_count) := ⟨(lw_m5 (List.mem_of_getElem? (i := 236) rfl)), rfl⟩
theorem lwS_eX6_count : inW (.selects RX6 yX6_count yX6_count) := ⟨(lw_m5 (List.mem_of_getElem? (i := 237) rfl)), rfl⟩
theorem lc_count {p : Program} {l : Launch} {e : Env} {s : State} {m : MethodId} {below : List Frame} {meth : Method} {c : Code} {H : Heap} {locs : List Loc} {cells slots : Nat} {Q : State → Prop} {ls : Array Slot} {b L : Nat} {xs : Nat → Int32} {x3 : Int32} {D : va_G} {cs : ClassId × ClassId × ClassId} {kc : Nat → Nat} {fv : Value} {h : mH} (hx : p.tables.exec = Jvm.exec) (hb : c.code = code) (hml : c.maxLocals = 4) (hown : s.vm.findClass R_law = some m.cls) (hts : ∀ w ∈ lw_tbl, w.before #[Value.ref b] s = true) (hX : va_X b L xs s s.heap) (hbl : b < s.heap.size) (hfv : fv = .null ∨ ∃ a, fv = .ref a) (F : wFx D cs (adK s.heap.size kc) fv s s.heap) (I : Inv h) (hP : va_P D vwCl (wL cs (adK s.heap.size kc) h) H) (hS : va_S (fun q => s.heap.size ≤ q) s.heap H locs) (hl : lv_has ls 4 [(0, .ref b), (1, .ref (adK s.heap.size kc 0)), (2, .ref (adK s.heap.size kc 59)), (3, .int x3)]) (hin : ∀ j : Int32, j = 1 ∨ j = 2 ∨ j = 3 ∨ j = 4 ∨ j = 5 → vp_in (x3 + j) L) (hcl : cells ≤ 600000) (hsl : slots ≤ 7302250)
    (kk : ∀ (h2 : mH) (H1 : Heap) (locs1 : List Loc), Inv h2 → va_P D vwCl (wL cs (adK s.heap.size kc) h2) H1 → va_S (fun q => s.heap.size ≤ q) s.heap H1 locs1 → W p l e room_1 s m #[Value.ref b] below meth c H1 locs1 cells slots Q (F0 m 1235 ls [])) : W p l e room_1 s m #[Value.ref b] below meth c H locs cells slots Q (F0 m 1212 ls []) := by
  have hbA : ¬ (fun q : Nat => s.heap.size ≤ q) b := Nat.not_le.mpr hbl
  obtain ⟨v, h1, h2, ⟨x, rfl⟩, c1, c2, I2⟩ := pf_count (xs (x3 + 1).toNatClampNeg) h I
  refine lv_aload_n hx hb dL_law_1212 rfl (lv_at hl 1 rfl) ?_
  refine lv_aload_n hx hb dL_law_1213 rfl (lv_at hl 0 rfl) ?_
  refine lv_iload_n hx hb dL_law_1214 rfl (lv_at hl 3 rfl) ?_
  refine lv_iconst (v := 1) hx hb dL_law_1215 (by decide) ?_
  refine lv_iadd hx hb dL_law_1216 ?_
  refine va_sld hx hb hX hbl hbA hS (hin 1 (by decide)) dL_law_1217 ?_
  refine lw_call (E := eX5_count) (as := [.int (xs (x3 + 1).toNatClampNeg)]) (b := 0) (nn := 1) (rest := []) ⟨hx, hb, hml, hown, hts⟩ hfv F hP hS kE_X5_count (by decide) rfl (Or.inl rfl) lwM_eX5_count lwI_eX5_count lwS_eX5_count (by decide +kernel) rfl c1 rfl ⟨Nat.le_of_ble_eq_true rfl, Nat.le_of_ble_eq_true rfl⟩ hl.1 (lv_room (Nat.le_of_ble_eq_true rfl)) hcl hsl dL_law_1218 (fun H locs hP hS => ?_)
  refine lv_aload_n hx hb dL_law_1221 rfl (lv_at hl 2 rfl) ?_
  refine lv_aload_n hx hb dL_law_1222 rfl (lv_at hl 0 rfl) ?_
  refine lv_iload_n hx hb dL_law_1223 rfl (lv_at hl 3 rfl) ?_
  refine lv_iconst (v := 1) hx hb dL_law_1224 (by decide) ?_
  refine lv_iadd hx hb dL_law_1225 ?_
  refine va_sld hx hb hX hbl hbA hS (hin 1 (by decide)) dL_law_1226 ?_
  refine lw_call (E := eX6_count) (as := [.int (xs (x3 + 1).toNatClampNeg)]) (b := 59) (nn := 1) (rest := [.int x]) ⟨hx, hb, hml, hown, hts⟩ hfv F hP hS kE_X6_count (by decide) rfl (Or.inr rfl) lwM_eX6_count lwI_eX6_count lwS_eX6_count (by decide +kernel) rfl c2 rfl ⟨Nat.le_of_ble_eq_true rfl, Nat.le_of_ble_eq_true rfl⟩ hl.1 (lv_room (Nat.le_of_ble_eq_true rfl)) hcl hsl dL_law_1227 (fun H locs hP hS => ?_)
  exact lv_icmp_eq (tgt := 1235) hx hb dL_law_1230 (by decide) (fun _ => kk h2 _ _ I2 hP hS) (fun q => absurd rfl q)
set_option maxRecDepth 100000 in
theorem lc_all {p : Program} {l : Launch} {e : Env} {s : State} {m : MethodId} {below : List Frame} {meth : Method} {c : Code} {H : Heap} {locs : List Loc} {cells slots : Nat} {Q : State → Prop} {ls : Array Slot} {b L : Nat} {xs : Nat → Int32} {x3 : Int32} {D : va_G} {cs : ClassId × ClassId × ClassId} {kc : Nat → Nat} {fv : Value} {h : mH} {j : Nat} (hj : j < 38) (hx : p.tables.exec = Jvm.exec) (hb : c.code = code) (hml : c.maxLocals = 4) (hown : s.vm.findClass R_law = some m.cls) (hts : ∀ w ∈ lw_tbl, w.before #[Value.ref b] s = true) (hX : va_X b L xs s s.heap) (hbl : b < s.heap.size) (hfv : fv = .null ∨ ∃ a, fv = .ref a) (F : wFx D cs (adK s.heap.size kc) fv s s.heap) (I : Inv h) (hP : va_P D vwCl (wL cs (adK s.heap.size kc) h) H) (hS : va_S (fun q => s.heap.size ≤ q) s.heap H locs) (hl : lv_has ls 4 [(0, .ref b), (1, .ref (adK s.heap.size kc 0)), (2, .ref (adK s.heap.size kc 59)), (3, .int x3)]) (hin : ∀ j : Int32, j = 1 ∨ j = 2 ∨ j = 3 ∨ j = 4 ∨ j = 5 → vp_in (x3 + j) L) (hcl : cells ≤ 600000) (hsl : slots ≤ 7302250)
    (kk : ∀ (h2 : mH) (H1 : Heap) (locs1 : List Loc), Inv h2 → va_P D vwCl (wL cs (adK s.heap.size kc) h2) H1 → va_S (fun q => s.heap.size ≤ q) s.heap H1 locs1 → W p l e room_1 s m #[Value.ref b] below meth c H1 locs1 cells slots Q (F0 m 1235 ls [])) : W p l e room_1 s m #[Value.ref b] below meth c H locs cells slots Q (F0 m 33 ls [.int (nI j)]) := by
  match j, hj with
  | 0, _ => exact lv_tableIn (off := 167) (tgt := 200) hx hb dL_law_33 (by decide +kernel) (by decide +kernel) (by decide +kernel) (by decide) (lc_letter hx hb hml hown hts hX hbl hfv F I hP hS hl hin hcl hsl kk)
  | 1, _ => exact lv_tableIn (off := 190) (tgt := 223) hx hb dL_law_33 (by decide +kernel) (by decide +kernel) (by decide +kernel) (by decide) (lc_lock hx hb hml hown hts hX hbl hfv F I hP hS hl hin hcl hsl kk)
  | 2, _ => exact lv_tableIn (off := 203) (tgt := 236) hx hb dL_law_33 (by decide +kernel) (by decide +kernel) (by decide +kernel) (by decide) (lc_pin hx hb hml hown hts hX hbl hfv F I hP hS hl hin hcl hsl kk)
  | 3, _ => exact lv_tableIn (off := 226) (tgt := 259) hx hb dL_law_33 (by decide +kernel) (by decide +kernel) (by decide +kernel) (by decide) (lc_key hx hb hml hown hts hX hbl hfv F I hP hS hl hin hcl hsl kk)
  | 4, _ => exact lv_tableIn (off := 259) (tgt := 292) hx hb dL_law_33 (by decide +kernel) (by decide +kernel) (by decide +kernel) (by decide) (lc_machine hx hb hml hown hts hX hbl hfv F I hP hS hl hin hcl hsl kk)
  | 5, _ => exact lv_tableIn (off := 292) (tgt := 325) hx hb dL_law_33 (by decide +kernel) (by decide +kernel) (by decide +kernel) (by decide) (lc_sets hx hb hml hown hts hX hbl hfv F I hP hS hl hin hcl hsl kk)
  | 6, _ => exact lv_tableIn (off := 325) (tgt := 358) hx hb dL_law_33 (by decide +kernel) (by decide +kernel) (by decide +kernel) (by decide) (lc_slack hx hb hml hown hts hX hbl hfv F I hP hS hl hin hcl hsl kk)
  | 7, _ => exact lv_tableIn (off := 348) (tgt := 381) hx hb dL_law_33 (by decide +kernel) (by decide +kernel) (by decide +kernel) (by decide) (lc_files hx hb hml hown hts hX hbl hfv F I hP hS hl hin hcl hsl kk)
  | 8, _ => exact lv_tableIn (off := 391) (tgt := 424) hx hb dL_law_33 (by decide +kernel) (by decide +kernel) (by decide +kernel) (by decide) (lc_turn hx hb hml hown hts hX hbl hfv F I hP hS hl hin hcl hsl kk)
  | 9, _ => exact lv_tableIn (off := 434) (tgt := 467) hx hb dL_law_33 (by decide +kernel) (by decide +kernel) (by decide +kernel) (by decide) (lc_cut hx hb hml hown hts hX hbl hfv F I hP hS hl hin hcl hsl kk)
  | 10, _ => exact lv_tableIn (off := 467) (tgt := 500) hx hb dL_law_33 (by decide +kernel) (by decide +kernel) (by decide +kernel) (by decide) (lc_uses hx hb hml hown hts hX hbl hfv F I hP hS hl hin hcl hsl kk)
  | 11, _ => exact lv_tableIn (off := 500) (tgt := 533) hx hb dL_law_33 (by decide +kernel) (by decide +kernel) (by decide +kernel) (by decide) (lc_snaps hx hb hml hown hts hX hbl hfv F I hP hS hl hin hcl hsl kk)
  | 12, _ => exact lv_tableIn (off := 523) (tgt := 556) hx hb dL_law_33 (by decide +kernel) (by decide +kernel) (by decide +kernel) (by decide) (lc_opening hx hb hml hown hts hX hbl hfv F I hP hS hl hin hcl hsl kk)
  | 13, _ => exact lv_tableIn (off := 536) (tgt := 569) hx hb dL_law_33 (by decide +kernel) (by decide +kernel) (by decide +kernel) (by decide) (lc_family hx hb hml hown hts hX hbl hfv F I hP hS hl hin hcl hsl kk)
  | 14, _ => exact lv_tableIn (off := 569) (tgt := 602) hx hb dL_law_33 (by decide +kernel) (by decide +kernel) (by decide +kernel) (by decide) (lc_common hx hb hml hown hts hX hbl hfv F I hP hS hl hin hcl hsl kk)
  | 15, _ => exact lv_tableIn (off := 602) (tgt := 635) hx hb dL_law_33 (by decide +kernel) (by decide +kernel) (by decide +kernel) (by decide) (lc_nearest hx hb hml hown hts hX hbl hfv F I hP hS hl hin hcl hsl kk)
  | 16, _ => exact lv_tableIn (off := 615) (tgt := 648) hx hb dL_law_33 (by decide +kernel) (by decide +kernel) (by decide +kernel) (by decide) (lc_next hx hb hml hown hts hX hbl hfv F I hP hS hl hin hcl hsl kk)
  | 17, _ => exact lv_tableIn (off := 638) (tgt := 671) hx hb dL_law_33 (by decide +kernel) (by decide +kernel) (by decide +kernel) (by decide) (lc_inRow hx hb hml hown hts hX hbl hfv F I hP hS hl hin hcl hsl kk)
  | 18, _ => exact lv_tableIn (off := 681) (tgt := 714) hx hb dL_law_33 (by decide +kernel) (by decide +kernel) (by decide +kernel) (by decide) (lc_lasts hx hb hml hown hts hX hbl hfv F I hP hS hl hin hcl hsl kk)
  | 19, _ => exact lv_tableIn (off := 704) (tgt := 737) hx hb dL_law_33 (by decide +kernel) (by decide +kernel) (by decide +kernel) (by decide) (lc_fit hx hb hml hown hts hX hbl hfv F I hP hS hl hin hcl hsl kk)
  | 20, _ => exact lv_tableIn (off := 727) (tgt := 760) hx hb dL_law_33 (by decide +kernel) (by decide +kernel) (by decide +kernel) (by decide) (lc_anew hx hb hml hown hts hX hbl hfv F I hP hS hl hin hcl hsl kk)
  | 21, _ => exact lv_tableIn (off := 750) (tgt := 783) hx hb dL_law_33 (by decide +kernel) (by decide +kernel) (by decide +kernel) (by decide) (lc_first hx hb hml hown hts hX hbl hfv F I hP hS hl hin hcl hsl kk)
  | 22, _ => exact lv_tableIn (off := 783) (tgt := 816) hx hb dL_law_33 (by decide +kernel) (by decide +kernel) (by decide +kernel) (by decide) (lc_unlike hx hb hml hown hts hX hbl hfv F I hP hS hl hin hcl hsl kk)
  | 23, _ => exact lv_tableIn (off := 816) (tgt := 849) hx hb dL_law_33 (by decide +kernel) (by decide +kernel) (by decide +kernel) (by decide) (lc_mend hx hb hml hown hts hX hbl hfv F I hP hS hl hin hcl hsl kk)
  | 24, _ => exact lv_tableIn (off := 839) (tgt := 872) hx hb dL_law_33 (by decide +kernel) (by decide +kernel) (by decide +kernel) (by decide) (lc_line hx hb hml hown hts hX hbl hfv F I hP hS hl hin hcl hsl kk)
  | 25, _ => exact lv_tableIn (off := 862) (tgt := 895) hx hb dL_law_33 (by decide +kernel) (by decide +kernel) (by decide +kernel) (by decide) (lc_bestLine hx hb hml hown hts hX hbl hfv F I hP hS hl hin hcl hsl kk)
  | 26, _ => exact lv_tableIn (off := 875) (tgt := 908) hx hb dL_law_33 (by decide +kernel) (by decide +kernel) (by decide +kernel) (by decide) (lc_ask hx hb hml hown hts hX hbl hfv F I hP hS hl hin hcl hsl kk)
  | 27, _ => exact lv_tableIn (off := 898) (tgt := 931) hx hb dL_law_33 (by decide +kernel) (by decide +kernel) (by decide +kernel) (by decide) (lc_spare hx hb hml hown hts hX hbl hfv F I hP hS hl hin hcl hsl kk)
  | 28, _ => exact lv_tableIn (off := 911) (tgt := 944) hx hb dL_law_33 (by decide +kernel) (by decide +kernel) (by decide +kernel) (by decide) (lc_slip hx hb hml hown hts hX hbl hfv F I hP hS hl hin hcl hsl kk)
  | 29, _ => exact lv_tableIn (off := 975) (tgt := 1008) hx hb dL_law_33 (by decide +kernel) (by decide +kernel) (by decide +kernel) (by decide) (lc_two hx hb hml hown hts hX hbl hfv F I hP hS hl hin hcl hsl kk)
  | 30, _ => exact lv_tableIn (off := 1008) (tgt := 1041) hx hb dL_law_33 (by decide +kernel) (by decide +kernel) (by decide +kernel) (by decide) (lc_which hx hb hml hown hts hX hbl hfv F I hP hS hl hin hcl hsl kk)
  | 31, _ => exact lv_tableIn (off := 1051) (tgt := 1084) hx hb dL_law_33 (by decide +kernel) (by decide +kernel) (by decide +kernel) (by decide) (lc_row hx hb hml hown hts hX hbl hfv F I hP hS hl hin hcl hsl kk)
  | 32, _ => exact lv_tableIn (off := 1074) (tgt := 1107) hx hb dL_law_33 (by decide +kernel) (by decide +kernel) (by decide +kernel) (by decide) (lc_judge hx hb hml hown hts hX hbl hfv F I hP hS hl hin hcl hsl kk)
  | 33, _ => exact lv_tableIn (off := 1097) (tgt := 1130) hx hb dL_law_33 (by decide +kernel) (by decide +kernel) (by decide +kernel) (by decide) (lc_clear hx hb hml hown hts hX hbl hfv F I hP hS hl hin hcl hsl kk)
  | 34, _ => exact lv_tableIn (off := 1110) (tgt := 1143) hx hb dL_law_33 (by decide +kernel) (by decide +kernel) (by decide +kernel) (by decide) (lc_lots hx hb hml hown hts hX hbl hfv F I hP hS hl hin hcl hsl kk)
  | 35, _ => exact lv_tableIn (off := 1153) (tgt := 1186) hx hb dL_law_33 (by decide +kernel) (by decide +kernel) (by decide +kernel) (by decide) (lc_image hx hb hml hown hts hX hbl hfv F I hP hS hl hin hcl hsl kk)
  | 36, _ => exact lv_tableIn (off := 1166) (tgt := 1199) hx hb dL_law_33 (by decide +kernel) (by decide +kernel) (by decide +kernel) (by decide) (lc_on hx hb hml hown hts hX hbl hfv F I hP hS hl hin hcl hsl kk)
  | 37, _ => exact lv_tableIn (off := 1179) (tgt := 1212) hx hb dL_law_33 (by decide +kernel) (by decide +kernel) (by decide +kernel) (by decide) (lc_count hx hb hml hown hts hX hbl hfv F I hP hS hl hin hcl hsl kk)
  | k + 38, hj => exact absurd hj (by omega)
