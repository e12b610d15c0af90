theorem lw_m0 {w : Cond} (h : w ∈ k2_sels lw_privs) : w ∈ lw_tbl := List.mem_append_left _ h
theorem lw_m1 {w : Cond} (h : w ∈ tables_1_1) : w ∈ lw_tbl := List.mem_append_right _ (show w ∈ tables_1 from (List.mem_append_left _ h))
theorem lw_m2 {w : Cond} (h : w ∈ tables_1_2) : w ∈ lw_tbl := List.mem_append_right _ (show w ∈ tables_1 from (List.mem_append_right _ (List.mem_append_left _ h)))
theorem lw_m3 {w : Cond} (h : w ∈ tables_1_3) : w ∈ lw_tbl := List.mem_append_right _ (show w ∈ tables_1 from (List.mem_append_right _ (List.mem_append_right _ (List.mem_append_left _ h))))
theorem lw_m4 {w : Cond} (h : w ∈ tables_1_4) : w ∈ lw_tbl := List.mem_append_right _ (show w ∈ tables_1 from (List.mem_append_right _ (List.mem_append_right _ (List.mem_append_right _ (List.mem_append_left _ h)))))
theorem lw_m5 {w : Cond} (h : w ∈ tables_1_5) : w ∈ lw_tbl := List.mem_append_right _ (show w ∈ tables_1 from (List.mem_append_right _ (List.mem_append_right _ (List.mem_append_right _ (List.mem_append_right _ (List.mem_append_left _ h))))))
theorem lw_m6 {w : Cond} (h : w ∈ tables_1_6) : w ∈ lw_tbl := List.mem_append_right _ (show w ∈ tables_1 from (List.mem_append_right _ (List.mem_append_right _ (List.mem_append_right _ (List.mem_append_right _ (List.mem_append_right _ (h)))))))
def inW (w : Cond) : Prop := w ∈ lw_tbl ∧ goodWord w = true
def ownS : Nat → String
  | 0 => RX0
  | 1 => RX1
  | 2 => RX2
  | 3 => RX3
  | 4 => RX4
  | 5 => RX5
  | 6 => RX6
  | 10 => RJ0
  | 11 => RJ1
  | 13 => RJ3
  | 16 => RJ6
  | 19 => RJ9
  | _ => ""
def TT : Nat → u_T
  | 2 => TX2
  | 3 => TX3
  | 4 => TX4
  | 5 => TX5
  | _ => TX6
def tyT : Nat → Nat → FieldType
  | 2 => tyX2
  | 3 => tyX3
  | 4 => tyX4
  | 5 => tyX5
  | _ => tyX6
def NN : Nat → Nat
  | 2 => 3
  | 3 => 10
  | 4 => 2
  | 5 => 9
  | _ => 13
def fkL : Nat → List Nat
  | 2 => [2, 2, 0]
  | 3 => [2, 0, 0, 2, 2, 2, 0, 2, 2, 0]
  | 4 => [2, 0]
  | 5 => [2, 2, 2, 1, 2, 2, 2, 0, 2]
  | _ => [2, 2, 2, 1, 2, 2, 2, 0, 0, 2, 0, 2, 0]
def fk (t k : Nat) : Nat := (fkL t).getD k 0
abbrev eY (E : mE) : MethodName := E.2.2.1
abbrev eC (E : mE) : ByteArray := E.2.2.2.1
abbrev eL (E : mE) : Nat := E.2.2.2.2.1
abbrev eR (E : mE) : Option FieldType := E.2.2.2.2.2
def nestW : List Cond := [.methodLinkNest RX1 37 yX5_holds "CopyOfACopy", .methodLinkNest RX3 115 yX5_holds "CopyOfACopy", .methodLinkNest RX2 119 yX5_holds "CopyOfACopy", .methodLinkNest RX2 150 yX5_power "CopyOfACopy"]
def okE (E : mE) : Prop := plainName (eY E).cls = true ∧ inW (.code (eY E) (eC E) (eL E) (eR E)) ∧ inW (.initialized (eY E).cls) ∧ (eY E).cls = ownS E.1 ∧ ((eY E).cls ≠ "java/lang/invoke/MethodHandle" ∧ (eY E).cls ≠ "java/lang/invoke/VarHandle") ∧ eL E ≤ 21
def okL (c : Nat) (q : Nat × Nat × Nat × mE) : Prop := match q with
  | (i, 0, n, E) => (2 ≤ E.1 ∧ E.1 ≤ 6 ∨ E.1 = 10) ∧ okE E ∧ (parseMethodDescriptor (eY E).desc).map (fun d => d.parameters.length) = some n ∧ inW (.methodLink (ownS c) i (eY E)) ∧ inW (.instanceMethod (eY E)) ∧ inW (.selects (eY E).cls (eY E) (eY E))
  | (i, 1, n, E) => okE E ∧ (parseMethodDescriptor (eY E).desc).map (fun d => d.parameters.length) = some n ∧ inW (.methodLink (ownS c) i (eY E)) ∧ inW (.static (eY E))
  | (i, 2, n, E) => okE E ∧ (parseMethodDescriptor (eY E).desc).map (fun d => d.parameters.length) = some n ∧ Cond.methodLinkNest (ownS c) i (eY E) "CopyOfACopy" ∈ nestW ∧ inW (.static (eY E))
  | (i, 3, _, _) => inW (.methodLink (ownS c) i arraycopyName) ∧ inW (.native arraycopyName) ∧ inW (.static arraycopyName) ∧ inW (.initialized "java/lang/System")
  | (i, 4, _, _) => inW (.methodLink (ownS c) i Lib.Math.max.name) ∧ inW (.static Lib.Math.max.name) ∧ inW (.initialized "java/lang/Math") ∧ inW (.code Lib.Math.max.name Lib.Math.max.code 2 (some .int))
  | (i, 5, _, _) => inW (.methodLink (ownS c) i Lib.Math.min.name) ∧ inW (.static Lib.Math.min.name) ∧ inW (.initialized "java/lang/Math") ∧ inW (.code Lib.Math.min.name Lib.Math.min.code 2 (some .int))
  | (i, 6, _, _) => inW (.methodLink (ownS c) i Lib.Math.abs.name) ∧ inW (.static Lib.Math.abs.name) ∧ inW (.initialized "java/lang/Math") ∧ inW (.code Lib.Math.abs.name Lib.Math.abs.code 1 (some .int))
  | (i, 7, _, _) => inW (.methodLink (ownS c) i Lib.MathLoose.max_long.x) ∧ inW (.static Lib.MathLoose.max_long.x) ∧ inW (.initialized "java/lang/Math") ∧ inW (.code Lib.MathLoose.max_long.x Lib.MathLoose.max_long.code 4 (some .long))
  | _ => False
def okF (c : Nat) (q : Nat × Nat × Nat × Nat) : Prop := ((2 ≤ q.2.1 ∧ q.2.1 ≤ 6 ∧ q.2.2.1 < NN q.2.1 ∧ fk q.2.1 q.2.2.1 = q.2.2.2 ∧ q.2.2.2 ≤ 2) ∧ inW (.fieldLink (ownS c) q.1 (ownS q.2.1) (TT q.2.1 q.2.2.1).2.1 (TT q.2.1 q.2.2.1).2.2.1)) ∨ (q.2 = (10, 0, 2) ∧ inW (.fieldLink (ownS c) q.1 "java/lang/String" "value" "[B")) ∨ (q.2 = (10, 1, 3) ∧ inW (.fieldLink (ownS c) q.1 "java/lang/String" "coder" "B"))
def siL : List Nat := [125, 127, 129, 131, 133, 135, 120]
def okC (c : Nat) (q : Nat × Value) : Prop := match q with
  | (i, .int v) => inW (.constant (ownS c) i v)
  | (i, .long v) => inW (.constantLong (ownS c) i v)
  | (i, .ref a) => c = 4 ∧ ∃ j, j < 7 ∧ a = 100 + j ∧ siL.getD j 0 = i
  | _ => False
set_option maxRecDepth 20000 in
theorem kE_X5_letter : okE eX5_letter := ⟨by decide +kernel, ⟨(lw_m1 (List.mem_of_getElem? (i := 154) rfl)), rfl⟩, ⟨(lw_m1 (List.mem_of_getElem? (i := 1) rfl)), rfl⟩, rfl, ⟨by decide +kernel, by decide +kernel⟩, Nat.le_of_ble_eq_true rfl⟩
set_option maxRecDepth 20000 in
theorem kI_X5_letter : inW (.instanceMethod yX5_letter) ∧ inW (.selects (yX5_letter).cls yX5_letter yX5_letter) := ⟨⟨(lw_m1 (List.mem_of_getElem? (i := 152) rfl)), rfl⟩, ⟨(lw_m1 (List.mem_of_getElem? (i := 153) rfl)), rfl⟩⟩
theorem kN_X5_letter : (parseMethodDescriptor (yX5_letter).desc).map (fun d => d.parameters.length) = some 1 := by decide +kernel
set_option maxRecDepth 20000 in
theorem kE_X5_refuse : okE eX5_refuse := ⟨by decide +kernel, ⟨(lw_m1 (List.mem_of_getElem? (i := 158) rfl)), rfl⟩, ⟨(lw_m1 (List.mem_of_getElem? (i := 1) rfl)), rfl⟩, rfl, ⟨by decide +kernel, by decide +kernel⟩, Nat.le_of_ble_eq_true rfl⟩
set_option maxRecDepth 20000 in
theorem kI_X5_refuse : inW (.instanceMethod yX5_refuse) ∧ inW (.selects (yX5_refuse).cls yX5_refuse yX5_refuse) := ⟨⟨(lw_m1 (List.mem_of_getElem? (i := 157) rfl)), rfl⟩, ⟨(lw_m0 (List.mem_of_getElem? (i := 0) rfl)), rfl⟩⟩
theorem kN_X5_refuse : (parseMethodDescriptor (yX5_refuse).desc).map (fun d => d.parameters.length) = some 1 := by decide +kernel
set_option maxRecDepth 20000 in
theorem kE_X4_isFull : okE eX4_isFull := ⟨by decide +kernel, ⟨(lw_m1 (List.mem_of_getElem? (i := 162) rfl)), rfl⟩, ⟨(lw_m1 (List.mem_of_getElem? (i := 5) rfl)), rfl⟩, rfl, ⟨by decide +kernel, by decide +kernel⟩, Nat.le_of_ble_eq_true rfl⟩
set_option maxRecDepth 20000 in
theorem kI_X4_isFull : inW (.instanceMethod yX4_isFull) ∧ inW (.selects (yX4_isFull).cls yX4_isFull yX4_isFull) := ⟨⟨(lw_m1 (List.mem_of_getElem? (i := 160) rfl)), rfl⟩, ⟨(lw_m1 (List.mem_of_getElem? (i := 161) rfl)), rfl⟩⟩
theorem kN_X4_isFull : (parseMethodDescriptor (yX4_isFull).desc).map (fun d => d.parameters.length) = some 0 := by decide +kernel
set_option maxRecDepth 20000 in
theorem kE_X4_take : okE eX4_take := ⟨by decide +kernel, ⟨(lw_m1 (List.mem_of_getElem? (i := 166) rfl)), rfl⟩, ⟨(lw_m1 (List.mem_of_getElem? (i := 5) rfl)), rfl⟩, rfl, ⟨by decide +kernel, by decide +kernel⟩, Nat.le_of_ble_eq_true rfl⟩
set_option maxRecDepth 20000 in
theorem kI_X4_take : inW (.instanceMethod yX4_take) ∧ inW (.selects (yX4_take).cls yX4_take yX4_take) := ⟨⟨(lw_m1 (List.mem_of_getElem? (i := 164) rfl)), rfl⟩, ⟨(lw_m1 (List.mem_of_getElem? (i := 165) rfl)), rfl⟩⟩
theorem kN_X4_take : (parseMethodDescriptor (yX4_take).desc).map (fun d => d.parameters.length) = some 1 := by decide +kernel
set_option maxRecDepth 20000 in
theorem kE_X5_lock : okE eX5_lock := ⟨by decide +kernel, ⟨(lw_m1 (List.mem_of_getElem? (i := 170) rfl)), rfl⟩, ⟨(lw_m1 (List.mem_of_getElem? (i := 1) rfl)), rfl⟩, rfl, ⟨by decide +kernel, by decide +kernel⟩, Nat.le_of_ble_eq_true rfl⟩
set_option maxRecDepth 20000 in
theorem kI_X5_lock : inW (.instanceMethod yX5_lock) ∧ inW (.selects (yX5_lock).cls yX5_lock yX5_lock) := ⟨⟨(lw_m1 (List.mem_of_getElem? (i := 168) rfl)), rfl⟩, ⟨(lw_m1 (List.mem_of_getElem? (i := 169) rfl)), rfl⟩⟩
theorem kN_X5_lock : (parseMethodDescriptor (yX5_lock).desc).map (fun d => d.parameters.length) = some 0 := by decide +kernel
set_option maxRecDepth 20000 in
theorem kE_X4_misshapenPlace : okE eX4_misshapenPlace := ⟨by decide +kernel, ⟨(lw_m1 (List.mem_of_getElem? (i := 174) rfl)), rfl⟩, ⟨(lw_m1 (List.mem_of_getElem? (i := 5) rfl)), rfl⟩, rfl, ⟨by decide +kernel, by decide +kernel⟩, Nat.le_of_ble_eq_true rfl⟩
set_option maxRecDepth 20000 in
theorem kI_X4_misshapenPlace : inW (.instanceMethod yX4_misshapenPlace) ∧ inW (.selects (yX4_misshapenPlace).cls yX4_misshapenPlace yX4_misshapenPlace) := ⟨⟨(lw_m1 (List.mem_of_getElem? (i := 172) rfl)), rfl⟩, ⟨(lw_m1 (List.mem_of_getElem? (i := 173) rfl)), rfl⟩⟩
theorem kN_X4_misshapenPlace : (parseMethodDescriptor (yX4_misshapenPlace).desc).map (fun d => d.parameters.length) = some 0 := by decide +kernel
set_option maxRecDepth 20000 in
theorem kE_X4_shapeBehind : okE eX4_shapeBehind := ⟨by decide +kernel, ⟨(lw_m1 (List.mem_of_getElem? (i := 177) rfl)), rfl⟩, ⟨(lw_m1 (List.mem_of_getElem? (i := 5) rfl)), rfl⟩, rfl, ⟨by decide +kernel, by decide +kernel⟩, Nat.le_of_ble_eq_true rfl⟩
set_option maxRecDepth 20000 in
theorem kS_X4_shapeBehind : inW (.static yX4_shapeBehind) := ⟨(lw_m1 (List.mem_of_getElem? (i := 176) rfl)), rfl⟩
theorem kN_X4_shapeBehind : (parseMethodDescriptor (yX4_shapeBehind).desc).map (fun d => d.parameters.length) = some 1 := by decide +kernel
set_option maxRecDepth 20000 in
theorem kE_J0_isEmpty_aae02 : okE eJ0_isEmpty_aae02 := ⟨by decide +kernel, ⟨(lw_m1 (List.mem_of_getElem? (i := 187) rfl)), rfl⟩, ⟨(lw_m1 (List.mem_of_getElem? (i := 7) rfl)), rfl⟩, rfl, ⟨by decide +kernel, by decide +kernel⟩, Nat.le_of_ble_eq_true rfl⟩
set_option maxRecDepth 20000 in
theorem kI_J0_isEmpty_aae02 : inW (.instanceMethod yJ0_isEmpty_aae02) ∧ inW (.selects (yJ0_isEmpty_aae02).cls yJ0_isEmpty_aae02 yJ0_isEmpty_aae02) := ⟨⟨(lw_m1 (List.mem_of_getElem? (i := 185) rfl)), rfl⟩, ⟨(lw_m1 (List.mem_of_getElem? (i := 186) rfl)), rfl⟩⟩
theorem kN_J0_isEmpty_aae02 : (parseMethodDescriptor (yJ0_isEmpty_aae02).desc).map (fun d => d.parameters.length) = some 0 := by decide +kernel
set_option maxRecDepth 20000 in
theorem kE_J0_length_8abf5 : okE eJ0_length_8abf5 := ⟨by decide +kernel, ⟨(lw_m1 (List.mem_of_getElem? (i := 191) rfl)), rfl⟩, ⟨(lw_m1 (List.mem_of_getElem? (i := 7) rfl)), rfl⟩, rfl, ⟨by decide +kernel, by decide +kernel⟩, Nat.le_of_ble_eq_true rfl⟩
set_option maxRecDepth 20000 in
theorem kI_J0_length_8abf5 : inW (.instanceMethod yJ0_length_8abf5) ∧ inW (.selects (yJ0_length_8abf5).cls yJ0_length_8abf5 yJ0_length_8abf5) := ⟨⟨(lw_m1 (List.mem_of_getElem? (i := 189) rfl)), rfl⟩, ⟨(lw_m1 (List.mem_of_getElem? (i := 190) rfl)), rfl⟩⟩
theorem kN_J0_length_8abf5 : (parseMethodDescriptor (yJ0_length_8abf5).desc).map (fun d => d.parameters.length) = some 0 := by decide +kernel
set_option maxRecDepth 20000 in
theorem kE_J0_coder_7d493 : okE eJ0_coder_7d493 := ⟨by decide +kernel, ⟨(lw_m1 (List.mem_of_getElem? (i := 195) rfl)), rfl⟩, ⟨(lw_m1 (List.mem_of_getElem? (i := 7) rfl)), rfl⟩, rfl, ⟨by decide +kernel, by decide +kernel⟩, Nat.le_of_ble_eq_true rfl⟩
set_option maxRecDepth 20000 in
theorem kI_J0_coder_7d493 : inW (.instanceMethod yJ0_coder_7d493) ∧ inW (.selects (yJ0_coder_7d493).cls yJ0_coder_7d493 yJ0_coder_7d493) := ⟨⟨(lw_m1 (List.mem_of_getElem? (i := 193) rfl)), rfl⟩, ⟨(lw_m1 (List.mem_of_getElem? (i := 194) rfl)), rfl⟩⟩
theorem kN_J0_coder_7d493 : (parseMethodDescriptor (yJ0_coder_7d493).desc).map (fun d => d.parameters.length) = some 0 := by decide +kernel
set_option maxRecDepth 20000 in
theorem kE_J0_charAt_5068e : okE eJ0_charAt_5068e := ⟨by decide +kernel, ⟨(lw_m1 (List.mem_of_getElem? (i := 201) rfl)), rfl⟩, ⟨(lw_m1 (List.mem_of_getElem? (i := 7) rfl)), rfl⟩, rfl, ⟨by decide +kernel, by decide +kernel⟩, Nat.le_of_ble_eq_true rfl⟩
set_option maxRecDepth 20000 in
theorem kI_J0_charAt_5068e : inW (.instanceMethod yJ0_charAt_5068e) ∧ inW (.selects (yJ0_charAt_5068e).cls yJ0_charAt_5068e yJ0_charAt_5068e) := ⟨⟨(lw_m1 (List.mem_of_getElem? (i := 199) rfl)), rfl⟩, ⟨(lw_m1 (List.mem_of_getElem? (i := 200) rfl)), rfl⟩⟩
theorem kN_J0_charAt_5068e : (parseMethodDescriptor (yJ0_charAt_5068e).desc).map (fun d => d.parameters.length) = some 1 := by decide +kernel
set_option maxRecDepth 20000 in
theorem kE_J0_isLatin1_aae02 : okE eJ0_isLatin1_aae02 := ⟨by decide +kernel, ⟨(lw_m1 (List.mem_of_getElem? (i := 205) rfl)), rfl⟩, ⟨(lw_m1 (List.mem_of_getElem? (i := 7) rfl)), rfl⟩, rfl, ⟨by decide +kernel, by decide +kernel⟩, Nat.le_of_ble_eq_true rfl⟩
set_option maxRecDepth 20000 in
theorem kI_J0_isLatin1_aae02 : inW (.instanceMethod yJ0_isLatin1_aae02) ∧ inW (.selects (yJ0_isLatin1_aae02).cls yJ0_isLatin1_aae02 yJ0_isLatin1_aae02) := ⟨⟨(lw_m1 (List.mem_of_getElem? (i := 203) rfl)), rfl⟩, ⟨(lw_m1 (List.mem_of_getElem? (i := 204) rfl)), rfl⟩⟩
theorem kN_J0_isLatin1_aae02 : (parseMethodDescriptor (yJ0_isLatin1_aae02).desc).map (fun d => d.parameters.length) = some 0 := by decide +kernel
set_option maxRecDepth 20000 in
theorem kE_J1_charAt_3b067 : okE eJ1_charAt_3b067 := ⟨by decide +kernel, ⟨(lw_m1 (List.mem_of_getElem? (i := 208) rfl)), rfl⟩, ⟨(lw_m1 (List.mem_of_getElem? (i := 8) rfl)), rfl⟩, rfl, ⟨by decide +kernel, by decide +kernel⟩, Nat.le_of_ble_eq_true rfl⟩
set_option maxRecDepth 20000 in
theorem kS_J1_charAt_3b067 : inW (.static yJ1_charAt_3b067) := ⟨(lw_m1 (List.mem_of_getElem? (i := 207) rfl)), rfl⟩
theorem kN_J1_charAt_3b067 : (parseMethodDescriptor (yJ1_charAt_3b067).desc).map (fun d => d.parameters.length) = some 2 := by decide +kernel
set_option maxRecDepth 20000 in
theorem kE_J0_checkIndex_df160 : okE eJ0_checkIndex_df160 := ⟨by decide +kernel, ⟨(lw_m1 (List.mem_of_getElem? (i := 211) rfl)), rfl⟩, ⟨(lw_m1 (List.mem_of_getElem? (i := 7) rfl)), rfl⟩, rfl, ⟨by decide +kernel, by decide +kernel⟩, Nat.le_of_ble_eq_true rfl⟩
set_option maxRecDepth 20000 in
theorem kS_J0_checkIndex_df160 : inW (.static yJ0_checkIndex_df160) := ⟨(lw_m1 (List.mem_of_getElem? (i := 210) rfl)), rfl⟩
theorem kN_J0_checkIndex_df160 : (parseMethodDescriptor (yJ0_checkIndex_df160).desc).map (fun d => d.parameters.length) = some 2 := by decide +kernel
set_option maxRecDepth 20000 in
theorem kE_J3_checkIndex_8e157 : okE eJ3_checkIndex_8e157 := ⟨by decide +kernel, ⟨(lw_m1 (List.mem_of_getElem? (i := 216) rfl)), rfl⟩, ⟨(lw_m1 (List.mem_of_getElem? (i := 9) rfl)), rfl⟩, rfl, ⟨by decide +kernel, by decide +kernel⟩, Nat.le_of_ble_eq_true rfl⟩
set_option maxRecDepth 20000 in
theorem kS_J3_checkIndex_8e157 : inW (.static yJ3_checkIndex_8e157) := ⟨(lw_m1 (List.mem_of_getElem? (i := 215) rfl)), rfl⟩
theorem kN_J3_checkIndex_8e157 : (parseMethodDescriptor (yJ3_checkIndex_8e157).desc).map (fun d => d.parameters.length) = some 3 := by decide +kernel
set_option maxRecDepth 20000 in
theorem kE_X4_fitsShape : okE eX4_fitsShape := ⟨by decide +kernel, ⟨(lw_m1 (List.mem_of_getElem? (i := 238) rfl)), rfl⟩, ⟨(lw_m1 (List.mem_of_getElem? (i := 5) rfl)), rfl⟩, rfl, ⟨by decide +kernel, by decide +kernel⟩, Nat.le_of_ble_eq_true rfl⟩
set_option maxRecDepth 20000 in
theorem kS_X4_fitsShape : inW (.static yX4_fitsShape) := ⟨(lw_m1 (List.mem_of_getElem? (i := 237) rfl)), rfl⟩
theorem kN_X4_fitsShape : (parseMethodDescriptor (yX4_fitsShape).desc).map (fun d => d.parameters.length) = some 2 := by decide +kernel
set_option maxRecDepth 20000 in
theorem kE_J0_indexOf_0f7a4 : okE eJ0_indexOf_0f7a4 := ⟨by decide +kernel, ⟨(lw_m2 (List.mem_of_getElem? (i := 3) rfl)), rfl⟩, ⟨(lw_m1 (List.mem_of_getElem? (i := 7) rfl)), rfl⟩, rfl, ⟨by decide +kernel, by decide +kernel⟩, Nat.le_of_ble_eq_true rfl⟩
set_option maxRecDepth 20000 in
theorem kI_J0_indexOf_0f7a4 : inW (.instanceMethod yJ0_indexOf_0f7a4) ∧ inW (.selects (yJ0_indexOf_0f7a4).cls yJ0_indexOf_0f7a4 yJ0_indexOf_0f7a4) := ⟨⟨(lw_m2 (List.mem_of_getElem? (i := 1) rfl)), rfl⟩, ⟨(lw_m2 (List.mem_of_getElem? (i := 2) rfl)), rfl⟩⟩
theorem kN_J0_indexOf_0f7a4 : (parseMethodDescriptor (yJ0_indexOf_0f7a4).desc).map (fun d => d.parameters.length) = some 1 := by decide +kernel
set_option maxRecDepth 20000 in
theorem kE_J0_indexOf_7cf53 : okE eJ0_indexOf_7cf53 := ⟨by decide +kernel, ⟨(lw_m2 (List.mem_of_getElem? (i := 7) rfl)), rfl⟩, ⟨(lw_m1 (List.mem_of_getElem? (i := 7) rfl)), rfl⟩, rfl, ⟨by decide +kernel, by decide +kernel⟩, Nat.le_of_ble_eq_true rfl⟩
set_option maxRecDepth 20000 in
theorem kI_J0_indexOf_7cf53 : inW (.instanceMethod yJ0_indexOf_7cf53) ∧ inW (.selects (yJ0_indexOf_7cf53).cls yJ0_indexOf_7cf53 yJ0_indexOf_7cf53) := ⟨⟨(lw_m2 (List.mem_of_getElem? (i := 5) rfl)), rfl⟩, ⟨(lw_m2 (List.mem_of_getElem? (i := 6) rfl)), rfl⟩⟩
theorem kN_J0_indexOf_7cf53 : (parseMethodDescriptor (yJ0_indexOf_7cf53).desc).map (fun d => d.parameters.length) = some 2 := by decide +kernel
set_option maxRecDepth 20000 in
theorem kE_J1_indexOf_4cfef : okE eJ1_indexOf_4cfef := ⟨by decide +kernel, ⟨(lw_m2 (List.mem_of_getElem? (i := 11) rfl)), rfl⟩, ⟨(lw_m1 (List.mem_of_getElem? (i := 8) rfl)), rfl⟩, rfl, ⟨by decide +kernel, by decide +kernel⟩, Nat.le_of_ble_eq_true rfl⟩
set_option maxRecDepth 20000 in
theorem kS_J1_indexOf_4cfef : inW (.static yJ1_indexOf_4cfef) := ⟨(lw_m2 (List.mem_of_getElem? (i := 10) rfl)), rfl⟩
theorem kN_J1_indexOf_4cfef : (parseMethodDescriptor (yJ1_indexOf_4cfef).desc).map (fun d => d.parameters.length) = some 4 := by decide +kernel
set_option maxRecDepth 20000 in
theorem kE_J1_canEncode_9a6ad : okE eJ1_canEncode_9a6ad := ⟨by decide +kernel, ⟨(lw_m2 (List.mem_of_getElem? (i := 14) rfl)), rfl⟩, ⟨(lw_m1 (List.mem_of_getElem? (i := 8) rfl)), rfl⟩, rfl, ⟨by decide +kernel, by decide +kernel⟩, Nat.le_of_ble_eq_true rfl⟩
set_option maxRecDepth 20000 in
theorem kS_J1_canEncode_9a6ad : inW (.static yJ1_canEncode_9a6ad) := ⟨(lw_m2 (List.mem_of_getElem? (i := 13) rfl)), rfl⟩
theorem kN_J1_canEncode_9a6ad : (parseMethodDescriptor (yJ1_canEncode_9a6ad).desc).map (fun d => d.parameters.length) = some 1 := by decide +kernel
set_option maxRecDepth 20000 in
theorem kE_J1_indexOfChar_4cfef : okE eJ1_indexOfChar_4cfef := ⟨by decide +kernel, ⟨(lw_m2 (List.mem_of_getElem? (i := 23) rfl)), rfl⟩, ⟨(lw_m1 (List.mem_of_getElem? (i := 8) rfl)), rfl⟩, rfl, ⟨by decide +kernel, by decide +kernel⟩, Nat.le_of_ble_eq_true rfl⟩
set_option maxRecDepth 20000 in
theorem kS_J1_indexOfChar_4cfef : inW (.static yJ1_indexOfChar_4cfef) := ⟨(lw_m2 (List.mem_of_getElem? (i := 22) rfl)), rfl⟩
theorem kN_J1_indexOfChar_4cfef : (parseMethodDescriptor (yJ1_indexOfChar_4cfef).desc).map (fun d => d.parameters.length) = some 4 := by decide +kernel
set_option maxRecDepth 20000 in
theorem kE_X3_becomes : okE eX3_becomes := ⟨by decide +kernel, ⟨(lw_m2 (List.mem_of_getElem? (i := 62) rfl)), rfl⟩, ⟨(lw_m1 (List.mem_of_getElem? (i := 2) rfl)), rfl⟩, rfl, ⟨by decide +kernel, by decide +kernel⟩, Nat.le_of_ble_eq_true rfl⟩
set_option maxRecDepth 20000 in
theorem kI_X3_becomes : inW (.instanceMethod yX3_becomes) ∧ inW (.selects (yX3_becomes).cls yX3_becomes yX3_becomes) := ⟨⟨(lw_m2 (List.mem_of_getElem? (i := 60) rfl)), rfl⟩, ⟨(lw_m2 (List.mem_of_getElem? (i := 61) rfl)), rfl⟩⟩
theorem kN_X3_becomes : (parseMethodDescriptor (yX3_becomes).desc).map (fun d => d.parameters.length) = some 1 := by decide +kernel
set_option maxRecDepth 20000 in
theorem kE_X4_happenIn : okE eX4_happenIn := ⟨by decide +kernel, ⟨(lw_m2 (List.mem_of_getElem? (i := 69) rfl)), rfl⟩, ⟨(lw_m1 (List.mem_of_getElem? (i := 5) rfl)), rfl⟩, rfl, ⟨by decide +kernel, by decide +kernel⟩, Nat.le_of_ble_eq_true rfl⟩
set_option maxRecDepth 20000 in
theorem kI_X4_happenIn : inW (.instanceMethod yX4_happenIn) ∧ inW (.selects (yX4_happenIn).cls yX4_happenIn yX4_happenIn) := ⟨⟨(lw_m2 (List.mem_of_getElem? (i := 67) rfl)), rfl⟩, ⟨(lw_m2 (List.mem_of_getElem? (i := 68) rfl)), rfl⟩⟩
theorem kN_X4_happenIn : (parseMethodDescriptor (yX4_happenIn).desc).map (fun d => d.parameters.length) = some 1 := by decide +kernel
set_option maxRecDepth 20000 in
theorem kE_X4_happens : okE eX4_happens := ⟨by decide +kernel, ⟨(lw_m2 (List.mem_of_getElem? (i := 73) rfl)), rfl⟩, ⟨(lw_m1 (List.mem_of_getElem? (i := 5) rfl)), rfl⟩, rfl, ⟨by decide +kernel, by decide +kernel⟩, Nat.le_of_ble_eq_true rfl⟩
set_option maxRecDepth 20000 in
theorem kI_X4_happens : inW (.instanceMethod yX4_happens) ∧ inW (.selects (yX4_happens).cls yX4_happens yX4_happens) := ⟨⟨(lw_m2 (List.mem_of_getElem? (i := 72) rfl)), rfl⟩, ⟨(lw_m0 (List.mem_of_getElem? (i := 1) rfl)), rfl⟩⟩
theorem kN_X4_happens : (parseMethodDescriptor (yX4_happens).desc).map (fun d => d.parameters.length) = some 2 := by decide +kernel
set_option maxRecDepth 20000 in
theorem kE_X4_digitAt : okE eX4_digitAt := ⟨by decide +kernel, ⟨(lw_m2 (List.mem_of_getElem? (i := 77) rfl)), rfl⟩, ⟨(lw_m1 (List.mem_of_getElem? (i := 5) rfl)), rfl⟩, rfl, ⟨by decide +kernel, by decide +kernel⟩, Nat.le_of_ble_eq_true rfl⟩
set_option maxRecDepth 20000 in
theorem kI_X4_digitAt : inW (.instanceMethod yX4_digitAt) ∧ inW (.selects (yX4_digitAt).cls yX4_digitAt yX4_digitAt) := ⟨⟨(lw_m2 (List.mem_of_getElem? (i := 76) rfl)), rfl⟩, ⟨(lw_m0 (List.mem_of_getElem? (i := 2) rfl)), rfl⟩⟩
theorem kN_X4_digitAt : (parseMethodDescriptor (yX4_digitAt).desc).map (fun d => d.parameters.length) = some 1 := by decide +kernel
set_option maxRecDepth 20000 in
theorem kE_X4_letterAt : okE eX4_letterAt := ⟨by decide +kernel, ⟨(lw_m2 (List.mem_of_getElem? (i := 81) rfl)), rfl⟩, ⟨(lw_m1 (List.mem_of_getElem? (i := 5) rfl)), rfl⟩, rfl, ⟨by decide +kernel, by decide +kernel⟩, Nat.le_of_ble_eq_true rfl⟩
set_option maxRecDepth 20000 in
theorem kI_X4_letterAt : inW (.instanceMethod yX4_letterAt) ∧ inW (.selects (yX4_letterAt).cls yX4_letterAt yX4_letterAt) := ⟨⟨(lw_m2 (List.mem_of_getElem? (i := 80) rfl)), rfl⟩, ⟨(lw_m0 (List.mem_of_getElem? (i := 3) rfl)), rfl⟩⟩
theorem kN_X4_letterAt : (parseMethodDescriptor (yX4_letterAt).desc).map (fun d => d.parameters.length) = some 1 := by decide +kernel
set_option maxRecDepth 20000 in
theorem kE_X4_readFive : okE eX4_readFive := ⟨by decide +kernel, ⟨(lw_m2 (List.mem_of_getElem? (i := 87) rfl)), rfl⟩, ⟨(lw_m1 (List.mem_of_getElem? (i := 5) rfl)), rfl⟩, rfl, ⟨by decide +kernel, by decide +kernel⟩, Nat.le_of_ble_eq_true rfl⟩
set_option maxRecDepth 20000 in
theorem kI_X4_readFive : inW (.instanceMethod yX4_readFive) ∧ inW (.selects (yX4_readFive).cls yX4_readFive yX4_readFive) := ⟨⟨(lw_m2 (List.mem_of_getElem? (i := 86) rfl)), rfl⟩, ⟨(lw_m0 (List.mem_of_getElem? (i := 4) rfl)), rfl⟩⟩
theorem kN_X4_readFive : (parseMethodDescriptor (yX4_readFive).desc).map (fun d => d.parameters.length) = some 2 := by decide +kernel
set_option maxRecDepth 20000 in
theorem kE_X4_twoDigitsAt : okE eX4_twoDigitsAt := ⟨by decide +kernel, ⟨(lw_m2 (List.mem_of_getElem? (i := 91) rfl)), rfl⟩, ⟨(lw_m1 (List.mem_of_getElem? (i := 5) rfl)), rfl⟩, rfl, ⟨by decide +kernel, by decide +kernel⟩, Nat.le_of_ble_eq_true rfl⟩
set_option maxRecDepth 20000 in
theorem kI_X4_twoDigitsAt : inW (.instanceMethod yX4_twoDigitsAt) ∧ inW (.selects (yX4_twoDigitsAt).cls yX4_twoDigitsAt yX4_twoDigitsAt) := ⟨⟨(lw_m2 (List.mem_of_getElem? (i := 90) rfl)), rfl⟩, ⟨(lw_m0 (List.mem_of_getElem? (i := 5) rfl)), rfl⟩⟩
theorem kN_X4_twoDigitsAt : (parseMethodDescriptor (yX4_twoDigitsAt).desc).map (fun d => d.parameters.length) = some 1 := by decide +kernel
set_option maxRecDepth 20000 in
theorem kE_X4_keyComes : okE eX4_keyComes := ⟨by decide +kernel, ⟨(lw_m2 (List.mem_of_getElem? (i := 95) rfl)), rfl⟩, ⟨(lw_m1 (List.mem_of_getElem? (i := 5) rfl)), rfl⟩, rfl, ⟨by decide +kernel, by decide +kernel⟩, Nat.le_of_ble_eq_true rfl⟩
set_option maxRecDepth 20000 in
theorem kI_X4_keyComes : inW (.instanceMethod yX4_keyComes) ∧ inW (.selects (yX4_keyComes).cls yX4_keyComes yX4_keyComes) := ⟨⟨(lw_m2 (List.mem_of_getElem? (i := 94) rfl)), rfl⟩, ⟨(lw_m0 (List.mem_of_getElem? (i := 6) rfl)), rfl⟩⟩
theorem kN_X4_keyComes : (parseMethodDescriptor (yX4_keyComes).desc).map (fun d => d.parameters.length) = some 2 := by decide +kernel
set_option maxRecDepth 20000 in
theorem kE_X3_addKey : okE eX3_addKey := ⟨by decide +kernel, ⟨(lw_m2 (List.mem_of_getElem? (i := 99) rfl)), rfl⟩, ⟨(lw_m1 (List.mem_of_getElem? (i := 2) rfl)), rfl⟩, rfl, ⟨by decide +kernel, by decide +kernel⟩, Nat.le_of_ble_eq_true rfl⟩
set_option maxRecDepth 20000 in
theorem kI_X3_addKey : inW (.instanceMethod yX3_addKey) ∧ inW (.selects (yX3_addKey).cls yX3_addKey yX3_addKey) := ⟨⟨(lw_m2 (List.mem_of_getElem? (i := 97) rfl)), rfl⟩, ⟨(lw_m2 (List.mem_of_getElem? (i := 98) rfl)), rfl⟩⟩
theorem kN_X3_addKey : (parseMethodDescriptor (yX3_addKey).desc).map (fun d => d.parameters.length) = some 1 := by decide +kernel
set_option maxRecDepth 20000 in
theorem kE_X4_kindAt : okE eX4_kindAt := ⟨by decide +kernel, ⟨(lw_m2 (List.mem_of_getElem? (i := 103) rfl)), rfl⟩, ⟨(lw_m1 (List.mem_of_getElem? (i := 5) rfl)), rfl⟩, rfl, ⟨by decide +kernel, by decide +kernel⟩, Nat.le_of_ble_eq_true rfl⟩
set_option maxRecDepth 20000 in
theorem kI_X4_kindAt : inW (.instanceMethod yX4_kindAt) ∧ inW (.selects (yX4_kindAt).cls yX4_kindAt yX4_kindAt) := ⟨⟨(lw_m2 (List.mem_of_getElem? (i := 102) rfl)), rfl⟩, ⟨(lw_m0 (List.mem_of_getElem? (i := 7) rfl)), rfl⟩⟩
theorem kN_X4_kindAt : (parseMethodDescriptor (yX4_kindAt).desc).map (fun d => d.parameters.length) = some 1 := by decide +kernel
set_option maxRecDepth 20000 in
theorem kE_X3_addMachine : okE eX3_addMachine := ⟨by decide +kernel, ⟨(lw_m2 (List.mem_of_getElem? (i := 107) rfl)), rfl⟩, ⟨(lw_m1 (List.mem_of_getElem? (i := 2) rfl)), rfl⟩, rfl, ⟨by decide +kernel, by decide +kernel⟩, Nat.le_of_ble_eq_true rfl⟩
set_option maxRecDepth 20000 in
theorem kI_X3_addMachine : inW (.instanceMethod yX3_addMachine) ∧ inW (.selects (yX3_addMachine).cls yX3_addMachine yX3_addMachine) := ⟨⟨(lw_m2 (List.mem_of_getElem? (i := 105) rfl)), rfl⟩, ⟨(lw_m2 (List.mem_of_getElem? (i := 106) rfl)), rfl⟩⟩
theorem kN_X3_addMachine : (parseMethodDescriptor (yX3_addMachine).desc).map (fun d => d.parameters.length) = some 2 := by decide +kernel
set_option maxRecDepth 20000 in
theorem kE_X3_hasWholeKey : okE eX3_hasWholeKey := ⟨by decide +kernel, ⟨(lw_m2 (List.mem_of_getElem? (i := 111) rfl)), rfl⟩, ⟨(lw_m1 (List.mem_of_getElem? (i := 2) rfl)), rfl⟩, rfl, ⟨by decide +kernel, by decide +kernel⟩, Nat.le_of_ble_eq_true rfl⟩
set_option maxRecDepth 20000 in
theorem kI_X3_hasWholeKey : inW (.instanceMethod yX3_hasWholeKey) ∧ inW (.selects (yX3_hasWholeKey).cls yX3_hasWholeKey yX3_hasWholeKey) := ⟨⟨(lw_m2 (List.mem_of_getElem? (i := 109) rfl)), rfl⟩, ⟨(lw_m2 (List.mem_of_getElem? (i := 110) rfl)), rfl⟩⟩
theorem kN_X3_hasWholeKey : (parseMethodDescriptor (yX3_hasWholeKey).desc).map (fun d => d.parameters.length) = some 1 := by decide +kernel
set_option maxRecDepth 20000 in
theorem kE_X3_hasKey : okE eX3_hasKey := ⟨by decide +kernel, ⟨(lw_m2 (List.mem_of_getElem? (i := 115) rfl)), rfl⟩, ⟨(lw_m1 (List.mem_of_getElem? (i := 2) rfl)), rfl⟩, rfl, ⟨by decide +kernel, by decide +kernel⟩, Nat.le_of_ble_eq_true rfl⟩
set_option maxRecDepth 20000 in
theorem kI_X3_hasKey : inW (.instanceMethod yX3_hasKey) ∧ inW (.selects (yX3_hasKey).cls yX3_hasKey yX3_hasKey) := ⟨⟨(lw_m2 (List.mem_of_getElem? (i := 113) rfl)), rfl⟩, ⟨(lw_m2 (List.mem_of_getElem? (i := 114) rfl)), rfl⟩⟩
theorem kN_X3_hasKey : (parseMethodDescriptor (yX3_hasKey).desc).map (fun d => d.parameters.length) = some 1 := by decide +kernel
set_option maxRecDepth 20000 in
theorem kE_X3_addCopy : okE eX3_addCopy := ⟨by decide +kernel, ⟨(lw_m2 (List.mem_of_getElem? (i := 119) rfl)), rfl⟩, ⟨(lw_m1 (List.mem_of_getElem? (i := 2) rfl)), rfl⟩, rfl, ⟨by decide +kernel, by decide +kernel⟩, Nat.le_of_ble_eq_true rfl⟩
set_option maxRecDepth 20000 in
theorem kI_X3_addCopy : inW (.instanceMethod yX3_addCopy) ∧ inW (.selects (yX3_addCopy).cls yX3_addCopy yX3_addCopy) := ⟨⟨(lw_m2 (List.mem_of_getElem? (i := 117) rfl)), rfl⟩, ⟨(lw_m2 (List.mem_of_getElem? (i := 118) rfl)), rfl⟩⟩
theorem kN_X3_addCopy : (parseMethodDescriptor (yX3_addCopy).desc).map (fun d => d.parameters.length) = some 2 := by decide +kernel
set_option maxRecDepth 20000 in
theorem kE_X3_hasMachine : okE eX3_hasMachine := ⟨by decide +kernel, ⟨(lw_m2 (List.mem_of_getElem? (i := 123) rfl)), rfl⟩, ⟨(lw_m1 (List.mem_of_getElem? (i := 2) rfl)), rfl⟩, rfl, ⟨by decide +kernel, by decide +kernel⟩, Nat.le_of_ble_eq_true rfl⟩
set_option maxRecDepth 20000 in
theorem kI_X3_hasMachine : inW (.instanceMethod yX3_hasMachine) ∧ inW (.selects (yX3_hasMachine).cls yX3_hasMachine yX3_hasMachine) := ⟨⟨(lw_m2 (List.mem_of_getElem? (i := 121) rfl)), rfl⟩, ⟨(lw_m2 (List.mem_of_getElem? (i := 122) rfl)), rfl⟩⟩
theorem kN_X3_hasMachine : (parseMethodDescriptor (yX3_hasMachine).desc).map (fun d => d.parameters.length) = some 1 := by decide +kernel
set_option maxRecDepth 20000 in
theorem kE_X3_cutBy : okE eX3_cutBy := ⟨by decide +kernel, ⟨(lw_m2 (List.mem_of_getElem? (i := 128) rfl)), rfl⟩, ⟨(lw_m1 (List.mem_of_getElem? (i := 2) rfl)), rfl⟩, rfl, ⟨by decide +kernel, by decide +kernel⟩, Nat.le_of_ble_eq_true rfl⟩
set_option maxRecDepth 20000 in
theorem kI_X3_cutBy : inW (.instanceMethod yX3_cutBy) ∧ inW (.selects (yX3_cutBy).cls yX3_cutBy yX3_cutBy) := ⟨⟨(lw_m2 (List.mem_of_getElem? (i := 126) rfl)), rfl⟩, ⟨(lw_m2 (List.mem_of_getElem? (i := 127) rfl)), rfl⟩⟩
theorem kN_X3_cutBy : (parseMethodDescriptor (yX3_cutBy).desc).map (fun d => d.parameters.length) = some 3 := by decide +kernel
set_option maxRecDepth 20000 in
theorem kE_X0_cutHeight : okE eX0_cutHeight := ⟨by decide +kernel, ⟨(lw_m2 (List.mem_of_getElem? (i := 131) rfl)), rfl⟩, ⟨(lw_m1 (List.mem_of_getElem? (i := 14) rfl)), rfl⟩, rfl, ⟨by decide +kernel, by decide +kernel⟩, Nat.le_of_ble_eq_true rfl⟩
set_option maxRecDepth 20000 in
theorem kS_X0_cutHeight : inW (.static yX0_cutHeight) := ⟨(lw_m2 (List.mem_of_getElem? (i := 130) rfl)), rfl⟩
theorem kN_X0_cutHeight : (parseMethodDescriptor (yX0_cutHeight).desc).map (fun d => d.parameters.length) = some 4 := by decide +kernel
set_option maxRecDepth 20000 in
theorem kE_X0_held : okE eX0_held := ⟨by decide +kernel, ⟨(lw_m2 (List.mem_of_getElem? (i := 134) rfl)), rfl⟩, ⟨(lw_m1 (List.mem_of_getElem? (i := 14) rfl)), rfl⟩, rfl, ⟨by decide +kernel, by decide +kernel⟩, Nat.le_of_ble_eq_true rfl⟩
set_option maxRecDepth 20000 in
theorem kS_X0_held : inW (.static yX0_held) := ⟨(lw_m2 (List.mem_of_getElem? (i := 133) rfl)), rfl⟩
theorem kN_X0_held : (parseMethodDescriptor (yX0_held).desc).map (fun d => d.parameters.length) = some 1 := by decide +kernel
set_option maxRecDepth 20000 in
theorem kE_X0_nearestTen : okE eX0_nearestTen := ⟨by decide +kernel, ⟨(lw_m2 (List.mem_of_getElem? (i := 137) rfl)), rfl⟩, ⟨(lw_m1 (List.mem_of_getElem? (i := 14) rfl)), rfl⟩, rfl, ⟨by decide +kernel, by decide +kernel⟩, Nat.le_of_ble_eq_true rfl⟩
set_option maxRecDepth 20000 in
theorem kS_X0_nearestTen : inW (.static yX0_nearestTen) := ⟨(lw_m2 (List.mem_of_getElem? (i := 136) rfl)), rfl⟩
theorem kN_X0_nearestTen : (parseMethodDescriptor (yX0_nearestTen).desc).map (fun d => d.parameters.length) = some 1 := by decide +kernel
set_option maxRecDepth 20000 in
theorem kE_X4_isUsed : okE eX4_isUsed := ⟨by decide +kernel, ⟨(lw_m2 (List.mem_of_getElem? (i := 140) rfl)), rfl⟩, ⟨(lw_m1 (List.mem_of_getElem? (i := 5) rfl)), rfl⟩, rfl, ⟨by decide +kernel, by decide +kernel⟩, Nat.le_of_ble_eq_true rfl⟩
set_option maxRecDepth 20000 in
theorem kS_X4_isUsed : inW (.static yX4_isUsed) := ⟨(lw_m2 (List.mem_of_getElem? (i := 139) rfl)), rfl⟩
theorem kN_X4_isUsed : (parseMethodDescriptor (yX4_isUsed).desc).map (fun d => d.parameters.length) = some 3 := by decide +kernel
set_option maxRecDepth 20000 in
theorem kE_X3_wear : okE eX3_wear := ⟨by decide +kernel, ⟨(lw_m2 (List.mem_of_getElem? (i := 144) rfl)), rfl⟩, ⟨(lw_m1 (List.mem_of_getElem? (i := 2) rfl)), rfl⟩, rfl, ⟨by decide +kernel, by decide +kernel⟩, Nat.le_of_ble_eq_true rfl⟩
set_option maxRecDepth 20000 in
theorem kI_X3_wear : inW (.instanceMethod yX3_wear) ∧ inW (.selects (yX3_wear).cls yX3_wear yX3_wear) := ⟨⟨(lw_m2 (List.mem_of_getElem? (i := 142) rfl)), rfl⟩, ⟨(lw_m2 (List.mem_of_getElem? (i := 143) rfl)), rfl⟩⟩
theorem kN_X3_wear : (parseMethodDescriptor (yX3_wear).desc).map (fun d => d.parameters.length) = some 2 := by decide +kernel
set_option maxRecDepth 20000 in
theorem kE_X3_wornHeight : okE eX3_wornHeight := ⟨by decide +kernel, ⟨(lw_m2 (List.mem_of_getElem? (i := 147) rfl)), rfl⟩, ⟨(lw_m1 (List.mem_of_getElem? (i := 2) rfl)), rfl⟩, rfl, ⟨by decide +kernel, by decide +kernel⟩, Nat.le_of_ble_eq_true rfl⟩
set_option maxRecDepth 20000 in
theorem kS_X3_wornHeight : inW (.static yX3_wornHeight) := ⟨(lw_m2 (List.mem_of_getElem? (i := 146) rfl)), rfl⟩
theorem kN_X3_wornHeight : (parseMethodDescriptor (yX3_wornHeight).desc).map (fun d => d.parameters.length) = some 2 := by decide +kernel
set_option maxRecDepth 20000 in
theorem kE_X3_wornPin : okE eX3_wornPin := ⟨by decide +kernel, ⟨(lw_m2 (List.mem_of_getElem? (i := 151) rfl)), rfl⟩, ⟨(lw_m1 (List.mem_of_getElem? (i := 2) rfl)), rfl⟩, rfl, ⟨by decide +kernel, by decide +kernel⟩, Nat.le_of_ble_eq_true rfl⟩
set_option maxRecDepth 20000 in
theorem kS_X3_wornPin : inW (.static yX3_wornPin) := ⟨(lw_m2 (List.mem_of_getElem? (i := 150) rfl)), rfl⟩
theorem kN_X3_wornPin : (parseMethodDescriptor (yX3_wornPin).desc).map (fun d => d.parameters.length) = some 2 := by decide +kernel
set_option maxRecDepth 20000 in
theorem kE_X4_isSnapped : okE eX4_isSnapped := ⟨by decide +kernel, ⟨(lw_m2 (List.mem_of_getElem? (i := 154) rfl)), rfl⟩, ⟨(lw_m1 (List.mem_of_getElem? (i := 5) rfl)), rfl⟩, rfl, ⟨by decide +kernel, by decide +kernel⟩, Nat.le_of_ble_eq_true rfl⟩
set_option maxRecDepth 20000 in
theorem kS_X4_isSnapped : inW (.static yX4_isSnapped) := ⟨(lw_m2 (List.mem_of_getElem? (i := 153) rfl)), rfl⟩
theorem kN_X4_isSnapped : (parseMethodDescriptor (yX4_isSnapped).desc).map (fun d => d.parameters.length) = some 2 := by decide +kernel
set_option maxRecDepth 20000 in
theorem kE_X4_forget : okE eX4_forget := ⟨by decide +kernel, ⟨(lw_m2 (List.mem_of_getElem? (i := 158) rfl)), rfl⟩, ⟨(lw_m1 (List.mem_of_getElem? (i := 5) rfl)), rfl⟩, rfl, ⟨by decide +kernel, by decide +kernel⟩, Nat.le_of_ble_eq_true rfl⟩
set_option maxRecDepth 20000 in
theorem kI_X4_forget : inW (.instanceMethod yX4_forget) ∧ inW (.selects (yX4_forget).cls yX4_forget yX4_forget) := ⟨⟨(lw_m2 (List.mem_of_getElem? (i := 156) rfl)), rfl⟩, ⟨(lw_m2 (List.mem_of_getElem? (i := 157) rfl)), rfl⟩⟩
theorem kN_X4_forget : (parseMethodDescriptor (yX4_forget).desc).map (fun d => d.parameters.length) = some 0 := by decide +kernel
set_option maxRecDepth 20000 in
theorem kE_X5_pin : okE eX5_pin := ⟨by decide +kernel, ⟨(lw_m2 (List.mem_of_getElem? (i := 163) rfl)), rfl⟩, ⟨(lw_m1 (List.mem_of_getElem? (i := 1) rfl)), rfl⟩, rfl, ⟨by decide +kernel, by decide +kernel⟩, Nat.le_of_ble_eq_true rfl⟩
set_option maxRecDepth 20000 in
theorem kI_X5_pin : inW (.instanceMethod yX5_pin) ∧ inW (.selects (yX5_pin).cls yX5_pin yX5_pin) := ⟨⟨(lw_m2 (List.mem_of_getElem? (i := 161) rfl)), rfl⟩, ⟨(lw_m2 (List.mem_of_getElem? (i := 162) rfl)), rfl⟩⟩
theorem kN_X5_pin : (parseMethodDescriptor (yX5_pin).desc).map (fun d => d.parameters.length) = some 1 := by decide +kernel
set_option maxRecDepth 20000 in
theorem kE_X5_isTooth : okE eX5_isTooth := ⟨by decide +kernel, ⟨(lw_m2 (List.mem_of_getElem? (i := 166) rfl)), rfl⟩, ⟨(lw_m1 (List.mem_of_getElem? (i := 1) rfl)), rfl⟩, rfl, ⟨by decide +kernel, by decide +kernel⟩, Nat.le_of_ble_eq_true rfl⟩
set_option maxRecDepth 20000 in
theorem kS_X5_isTooth : inW (.static yX5_isTooth) := ⟨(lw_m2 (List.mem_of_getElem? (i := 165) rfl)), rfl⟩
theorem kN_X5_isTooth : (parseMethodDescriptor (yX5_isTooth).desc).map (fun d => d.parameters.length) = some 1 := by decide +kernel
set_option maxRecDepth 20000 in
theorem kE_X5_key : okE eX5_key := ⟨by decide +kernel, ⟨(lw_m2 (List.mem_of_getElem? (i := 170) rfl)), rfl⟩, ⟨(lw_m1 (List.mem_of_getElem? (i := 1) rfl)), rfl⟩, rfl, ⟨by decide +kernel, by decide +kernel⟩, Nat.le_of_ble_eq_true rfl⟩
set_option maxRecDepth 20000 in
theorem kI_X5_key : inW (.instanceMethod yX5_key) ∧ inW (.selects (yX5_key).cls yX5_key yX5_key) := ⟨⟨(lw_m2 (List.mem_of_getElem? (i := 168) rfl)), rfl⟩, ⟨(lw_m2 (List.mem_of_getElem? (i := 169) rfl)), rfl⟩⟩
theorem kN_X5_key : (parseMethodDescriptor (yX5_key).desc).map (fun d => d.parameters.length) = some 2 := by decide +kernel
set_option maxRecDepth 20000 in
theorem kE_X3_opens : okE eX3_opens := ⟨by decide +kernel, ⟨(lw_m2 (List.mem_of_getElem? (i := 175) rfl)), rfl⟩, ⟨(lw_m1 (List.mem_of_getElem? (i := 2) rfl)), rfl⟩, rfl, ⟨by decide +kernel, by decide +kernel⟩, Nat.le_of_ble_eq_true rfl⟩
set_option maxRecDepth 20000 in
theorem kI_X3_opens : inW (.instanceMethod yX3_opens) ∧ inW (.selects (yX3_opens).cls yX3_opens yX3_opens) := ⟨⟨(lw_m2 (List.mem_of_getElem? (i := 173) rfl)), rfl⟩, ⟨(lw_m2 (List.mem_of_getElem? (i := 174) rfl)), rfl⟩⟩
theorem kN_X3_opens : (parseMethodDescriptor (yX3_opens).desc).map (fun d => d.parameters.length) = some 1 := by decide +kernel
set_option maxRecDepth 20000 in
theorem kE_X3_fits : okE eX3_fits := ⟨by decide +kernel, ⟨(lw_m2 (List.mem_of_getElem? (i := 179) rfl)), rfl⟩, ⟨(lw_m1 (List.mem_of_getElem? (i := 2) rfl)), rfl⟩, rfl, ⟨by decide +kernel, by decide +kernel⟩, Nat.le_of_ble_eq_true rfl⟩
set_option maxRecDepth 20000 in
theorem kI_X3_fits : inW (.instanceMethod yX3_fits) ∧ inW (.selects (yX3_fits).cls yX3_fits yX3_fits) := ⟨⟨(lw_m2 (List.mem_of_getElem? (i := 177) rfl)), rfl⟩, ⟨(lw_m2 (List.mem_of_getElem? (i := 178) rfl)), rfl⟩⟩
theorem kN_X3_fits : (parseMethodDescriptor (yX3_fits).desc).map (fun d => d.parameters.length) = some 1 := by decide +kernel
set_option maxRecDepth 20000 in
theorem kE_X3_leastTooFar : okE eX3_leastTooFar := ⟨by decide +kernel, ⟨(lw_m2 (List.mem_of_getElem? (i := 183) rfl)), rfl⟩, ⟨(lw_m1 (List.mem_of_getElem? (i := 2) rfl)), rfl⟩, rfl, ⟨by decide +kernel, by decide +kernel⟩, Nat.le_of_ble_eq_true rfl⟩
set_option maxRecDepth 20000 in
theorem kI_X3_leastTooFar : inW (.instanceMethod yX3_leastTooFar) ∧ inW (.selects (yX3_leastTooFar).cls yX3_leastTooFar yX3_leastTooFar) := ⟨⟨(lw_m2 (List.mem_of_getElem? (i := 181) rfl)), rfl⟩, ⟨(lw_m2 (List.mem_of_getElem? (i := 182) rfl)), rfl⟩⟩
theorem kN_X3_leastTooFar : (parseMethodDescriptor (yX3_leastTooFar).desc).map (fun d => d.parameters.length) = some 1 := by decide +kernel
set_option maxRecDepth 20000 in
theorem kE_X3_wiggleOf : okE eX3_wiggleOf := ⟨by decide +kernel, ⟨(lw_m2 (List.mem_of_getElem? (i := 190) rfl)), rfl⟩, ⟨(lw_m1 (List.mem_of_getElem? (i := 2) rfl)), rfl⟩, rfl, ⟨by decide +kernel, by decide +kernel⟩, Nat.le_of_ble_eq_true rfl⟩
set_option maxRecDepth 20000 in
theorem kI_X3_wiggleOf : inW (.instanceMethod yX3_wiggleOf) ∧ inW (.selects (yX3_wiggleOf).cls yX3_wiggleOf yX3_wiggleOf) := ⟨⟨(lw_m2 (List.mem_of_getElem? (i := 188) rfl)), rfl⟩, ⟨(lw_m2 (List.mem_of_getElem? (i := 189) rfl)), rfl⟩⟩
theorem kN_X3_wiggleOf : (parseMethodDescriptor (yX3_wiggleOf).desc).map (fun d => d.parameters.length) = some 1 := by decide +kernel
set_option maxRecDepth 20000 in
theorem kE_X3_worstTooth : okE eX3_worstTooth := ⟨by decide +kernel, ⟨(lw_m2 (List.mem_of_getElem? (i := 194) rfl)), rfl⟩, ⟨(lw_m1 (List.mem_of_getElem? (i := 2) rfl)), rfl⟩, rfl, ⟨by decide +kernel, by decide +kernel⟩, Nat.le_of_ble_eq_true rfl⟩
set_option maxRecDepth 20000 in
theorem kI_X3_worstTooth : inW (.instanceMethod yX3_worstTooth) ∧ inW (.selects (yX3_worstTooth).cls yX3_worstTooth yX3_worstTooth) := ⟨⟨(lw_m2 (List.mem_of_getElem? (i := 192) rfl)), rfl⟩, ⟨(lw_m2 (List.mem_of_getElem? (i := 193) rfl)), rfl⟩⟩
theorem kN_X3_worstTooth : (parseMethodDescriptor (yX3_worstTooth).desc).map (fun d => d.parameters.length) = some 1 := by decide +kernel
set_option maxRecDepth 20000 in
theorem kE_X5_machine : okE eX5_machine := ⟨by decide +kernel, ⟨(lw_m2 (List.mem_of_getElem? (i := 198) rfl)), rfl⟩, ⟨(lw_m1 (List.mem_of_getElem? (i := 1) rfl)), rfl⟩, rfl, ⟨by decide +kernel, by decide +kernel⟩, Nat.le_of_ble_eq_true rfl⟩
set_option maxRecDepth 20000 in
theorem kI_X5_machine : inW (.instanceMethod yX5_machine) ∧ inW (.selects (yX5_machine).cls yX5_machine yX5_machine) := ⟨⟨(lw_m2 (List.mem_of_getElem? (i := 196) rfl)), rfl⟩, ⟨(lw_m2 (List.mem_of_getElem? (i := 197) rfl)), rfl⟩⟩
theorem kN_X5_machine : (parseMethodDescriptor (yX5_machine).desc).map (fun d => d.parameters.length) = some 2 := by decide +kernel
set_option maxRecDepth 20000 in
theorem kE_X5_isZeroOrOne : okE eX5_isZeroOrOne := ⟨by decide +kernel, ⟨(lw_m2 (List.mem_of_getElem? (i := 202) rfl)), rfl⟩, ⟨(lw_m1 (List.mem_of_getElem? (i := 1) rfl)), rfl⟩, rfl, ⟨by decide +kernel, by decide +kernel⟩, Nat.le_of_ble_eq_true rfl⟩
set_option maxRecDepth 20000 in
theorem kS_X5_isZeroOrOne : inW (.static yX5_isZeroOrOne) := ⟨(lw_m2 (List.mem_of_getElem? (i := 201) rfl)), rfl⟩
theorem kN_X5_isZeroOrOne : (parseMethodDescriptor (yX5_isZeroOrOne).desc).map (fun d => d.parameters.length) = some 1 := by decide +kernel
set_option maxRecDepth 20000 in
theorem kE_X5_sets : okE eX5_sets := ⟨by decide +kernel, ⟨(lw_m2 (List.mem_of_getElem? (i := 206) rfl)), rfl⟩, ⟨(lw_m1 (List.mem_of_getElem? (i := 1) rfl)), rfl⟩, rfl, ⟨by decide +kernel, by decide +kernel⟩, Nat.le_of_ble_eq_true rfl⟩
set_option maxRecDepth 20000 in
theorem kI_X5_sets : inW (.instanceMethod yX5_sets) ∧ inW (.selects (yX5_sets).cls yX5_sets yX5_sets) := ⟨⟨(lw_m2 (List.mem_of_getElem? (i := 204) rfl)), rfl⟩, ⟨(lw_m2 (List.mem_of_getElem? (i := 205) rfl)), rfl⟩⟩
theorem kN_X5_sets : (parseMethodDescriptor (yX5_sets).desc).map (fun d => d.parameters.length) = some 2 := by decide +kernel
set_option maxRecDepth 20000 in
theorem kE_X5_outside : okE eX5_outside := ⟨by decide +kernel, ⟨(lw_m2 (List.mem_of_getElem? (i := 209) rfl)), rfl⟩, ⟨(lw_m1 (List.mem_of_getElem? (i := 1) rfl)), rfl⟩, rfl, ⟨by decide +kernel, by decide +kernel⟩, Nat.le_of_ble_eq_true rfl⟩
set_option maxRecDepth 20000 in
theorem kS_X5_outside : inW (.static yX5_outside) := ⟨(lw_m2 (List.mem_of_getElem? (i := 208) rfl)), rfl⟩
theorem kN_X5_outside : (parseMethodDescriptor (yX5_outside).desc).map (fun d => d.parameters.length) = some 3 := by decide +kernel
set_option maxRecDepth 20000 in
theorem kE_X5_slack : okE eX5_slack := ⟨by decide +kernel, ⟨(lw_m2 (List.mem_of_getElem? (i := 213) rfl)), rfl⟩, ⟨(lw_m1 (List.mem_of_getElem? (i := 1) rfl)), rfl⟩, rfl, ⟨by decide +kernel, by decide +kernel⟩, Nat.le_of_ble_eq_true rfl⟩
set_option maxRecDepth 20000 in
theorem kI_X5_slack : inW (.instanceMethod yX5_slack) ∧ inW (.selects (yX5_slack).cls yX5_slack yX5_slack) := ⟨⟨(lw_m2 (List.mem_of_getElem? (i := 211) rfl)), rfl⟩, ⟨(lw_m2 (List.mem_of_getElem? (i := 212) rfl)), rfl⟩⟩
theorem kN_X5_slack : (parseMethodDescriptor (yX5_slack).desc).map (fun d => d.parameters.length) = some 1 := by decide +kernel
set_option maxRecDepth 20000 in
theorem kE_X5_files : okE eX5_files := ⟨by decide +kernel, ⟨(lw_m2 (List.mem_of_getElem? (i := 217) rfl)), rfl⟩, ⟨(lw_m1 (List.mem_of_getElem? (i := 1) rfl)), rfl⟩, rfl, ⟨by decide +kernel, by decide +kernel⟩, Nat.le_of_ble_eq_true rfl⟩
set_option maxRecDepth 20000 in
theorem kI_X5_files : inW (.instanceMethod yX5_files) ∧ inW (.selects (yX5_files).cls yX5_files yX5_files) := ⟨⟨(lw_m2 (List.mem_of_getElem? (i := 215) rfl)), rfl⟩, ⟨(lw_m2 (List.mem_of_getElem? (i := 216) rfl)), rfl⟩⟩
theorem kN_X5_files : (parseMethodDescriptor (yX5_files).desc).map (fun d => d.parameters.length) = some 3 := by decide +kernel
set_option maxRecDepth 20000 in
theorem kE_X5_turn : okE eX5_turn := ⟨by decide +kernel, ⟨(lw_m2 (List.mem_of_getElem? (i := 221) rfl)), rfl⟩, ⟨(lw_m1 (List.mem_of_getElem? (i := 1) rfl)), rfl⟩, rfl, ⟨by decide +kernel, by decide +kernel⟩, Nat.le_of_ble_eq_true rfl⟩
set_option maxRecDepth 20000 in
theorem kI_X5_turn : inW (.instanceMethod yX5_turn) ∧ inW (.selects (yX5_turn).cls yX5_turn yX5_turn) := ⟨⟨(lw_m2 (List.mem_of_getElem? (i := 219) rfl)), rfl⟩, ⟨(lw_m2 (List.mem_of_getElem? (i := 220) rfl)), rfl⟩⟩
theorem kN_X5_turn : (parseMethodDescriptor (yX5_turn).desc).map (fun d => d.parameters.length) = some 3 := by decide +kernel
set_option maxRecDepth 20000 in
theorem kE_X5_cut : okE eX5_cut := ⟨by decide +kernel, ⟨(lw_m2 (List.mem_of_getElem? (i := 225) rfl)), rfl⟩, ⟨(lw_m1 (List.mem_of_getElem? (i := 1) rfl)), rfl⟩, rfl, ⟨by decide +kernel, by decide +kernel⟩, Nat.le_of_ble_eq_true rfl⟩
set_option maxRecDepth 20000 in
theorem kI_X5_cut : inW (.instanceMethod yX5_cut) ∧ inW (.selects (yX5_cut).cls yX5_cut yX5_cut) := ⟨⟨(lw_m2 (List.mem_of_getElem? (i := 223) rfl)), rfl⟩, ⟨(lw_m2 (List.mem_of_getElem? (i := 224) rfl)), rfl⟩⟩
theorem kN_X5_cut : (parseMethodDescriptor (yX5_cut).desc).map (fun d => d.parameters.length) = some 2 := by decide +kernel
set_option maxRecDepth 20000 in
theorem kE_X5_uses : okE eX5_uses := ⟨by decide +kernel, ⟨(lw_m2 (List.mem_of_getElem? (i := 230) rfl)), rfl⟩, ⟨(lw_m1 (List.mem_of_getElem? (i := 1) rfl)), rfl⟩, rfl, ⟨by decide +kernel, by decide +kernel⟩, Nat.le_of_ble_eq_true rfl⟩
set_option maxRecDepth 20000 in
theorem kI_X5_uses : inW (.instanceMethod yX5_uses) ∧ inW (.selects (yX5_uses).cls yX5_uses yX5_uses) := ⟨⟨(lw_m2 (List.mem_of_getElem? (i := 228) rfl)), rfl⟩, ⟨(lw_m2 (List.mem_of_getElem? (i := 229) rfl)), rfl⟩⟩
theorem kN_X5_uses : (parseMethodDescriptor (yX5_uses).desc).map (fun d => d.parameters.length) = some 2 := by decide +kernel
set_option maxRecDepth 20000 in
theorem kE_X5_snaps : okE eX5_snaps := ⟨by decide +kernel, ⟨(lw_m2 (List.mem_of_getElem? (i := 235) rfl)), rfl⟩, ⟨(lw_m1 (List.mem_of_getElem? (i := 1) rfl)), rfl⟩, rfl, ⟨by decide +kernel, by decide +kernel⟩, Nat.le_of_ble_eq_true rfl⟩
set_option maxRecDepth 20000 in
theorem kI_X5_snaps : inW (.instanceMethod yX5_snaps) ∧ inW (.selects (yX5_snaps).cls yX5_snaps yX5_snaps) := ⟨⟨(lw_m2 (List.mem_of_getElem? (i := 233) rfl)), rfl⟩, ⟨(lw_m2 (List.mem_of_getElem? (i := 234) rfl)), rfl⟩⟩
theorem kN_X5_snaps : (parseMethodDescriptor (yX5_snaps).desc).map (fun d => d.parameters.length) = some 1 := by decide +kernel
set_option maxRecDepth 20000 in
theorem kE_X3_snappedBits : okE eX3_snappedBits := ⟨by decide +kernel, ⟨(lw_m2 (List.mem_of_getElem? (i := 239) rfl)), rfl⟩, ⟨(lw_m1 (List.mem_of_getElem? (i := 2) rfl)), rfl⟩, rfl, ⟨by decide +kernel, by decide +kernel⟩, Nat.le_of_ble_eq_true rfl⟩
set_option maxRecDepth 20000 in
theorem kI_X3_snappedBits : inW (.instanceMethod yX3_snappedBits) ∧ inW (.selects (yX3_snappedBits).cls yX3_snappedBits yX3_snappedBits) := ⟨⟨(lw_m2 (List.mem_of_getElem? (i := 237) rfl)), rfl⟩, ⟨(lw_m2 (List.mem_of_getElem? (i := 238) rfl)), rfl⟩⟩
theorem kN_X3_snappedBits : (parseMethodDescriptor (yX3_snappedBits).desc).map (fun d => d.parameters.length) = some 0 := by decide +kernel
set_option maxRecDepth 20000 in
theorem kE_J6_bitCount_0f7a4 : okE eJ6_bitCount_0f7a4 := ⟨by decide +kernel, ⟨(lw_m3 (List.mem_of_getElem? (i := 2) rfl)), rfl⟩, ⟨(lw_m1 (List.mem_of_getElem? (i := 15) rfl)), rfl⟩, rfl, ⟨by decide +kernel, by decide +kernel⟩, Nat.le_of_ble_eq_true rfl⟩
set_option maxRecDepth 20000 in
theorem kS_J6_bitCount_0f7a4 : inW (.static yJ6_bitCount_0f7a4) := ⟨(lw_m3 (List.mem_of_getElem? (i := 1) rfl)), rfl⟩
theorem kN_J6_bitCount_0f7a4 : (parseMethodDescriptor (yJ6_bitCount_0f7a4).desc).map (fun d => d.parameters.length) = some 1 := by decide +kernel
set_option maxRecDepth 20000 in
theorem kE_X5_opening : okE eX5_opening := ⟨by decide +kernel, ⟨(lw_m3 (List.mem_of_getElem? (i := 9) rfl)), rfl⟩, ⟨(lw_m1 (List.mem_of_getElem? (i := 1) rfl)), rfl⟩, rfl, ⟨by decide +kernel, by decide +kernel⟩, Nat.le_of_ble_eq_true rfl⟩
set_option maxRecDepth 20000 in
theorem kI_X5_opening : inW (.instanceMethod yX5_opening) ∧ inW (.selects (yX5_opening).cls yX5_opening yX5_opening) := ⟨⟨(lw_m3 (List.mem_of_getElem? (i := 7) rfl)), rfl⟩, ⟨(lw_m3 (List.mem_of_getElem? (i := 8) rfl)), rfl⟩⟩
theorem kN_X5_opening : (parseMethodDescriptor (yX5_opening).desc).map (fun d => d.parameters.length) = some 0 := by decide +kernel
set_option maxRecDepth 20000 in
theorem kE_X3_openingBits : okE eX3_openingBits := ⟨by decide +kernel, ⟨(lw_m3 (List.mem_of_getElem? (i := 13) rfl)), rfl⟩, ⟨(lw_m1 (List.mem_of_getElem? (i := 2) rfl)), rfl⟩, rfl, ⟨by decide +kernel, by decide +kernel⟩, Nat.le_of_ble_eq_true rfl⟩
set_option maxRecDepth 20000 in
theorem kI_X3_openingBits : inW (.instanceMethod yX3_openingBits) ∧ inW (.selects (yX3_openingBits).cls yX3_openingBits yX3_openingBits) := ⟨⟨(lw_m3 (List.mem_of_getElem? (i := 11) rfl)), rfl⟩, ⟨(lw_m3 (List.mem_of_getElem? (i := 12) rfl)), rfl⟩⟩
theorem kN_X3_openingBits : (parseMethodDescriptor (yX3_openingBits).desc).map (fun d => d.parameters.length) = some 0 := by decide +kernel
set_option maxRecDepth 20000 in
theorem kE_X5_family : okE eX5_family := ⟨by decide +kernel, ⟨(lw_m3 (List.mem_of_getElem? (i := 18) rfl)), rfl⟩, ⟨(lw_m1 (List.mem_of_getElem? (i := 1) rfl)), rfl⟩, rfl, ⟨by decide +kernel, by decide +kernel⟩, Nat.le_of_ble_eq_true rfl⟩
set_option maxRecDepth 20000 in
theorem kI_X5_family : inW (.instanceMethod yX5_family) ∧ inW (.selects (yX5_family).cls yX5_family yX5_family) := ⟨⟨(lw_m3 (List.mem_of_getElem? (i := 16) rfl)), rfl⟩, ⟨(lw_m3 (List.mem_of_getElem? (i := 17) rfl)), rfl⟩⟩
theorem kN_X5_family : (parseMethodDescriptor (yX5_family).desc).map (fun d => d.parameters.length) = some 2 := by decide +kernel
set_option maxRecDepth 20000 in
theorem kE_X1_depthOf : okE eX1_depthOf := ⟨by decide +kernel, ⟨(lw_m3 (List.mem_of_getElem? (i := 21) rfl)), rfl⟩, ⟨(lw_m1 (List.mem_of_getElem? (i := 16) rfl)), rfl⟩, rfl, ⟨by decide +kernel, by decide +kernel⟩, Nat.le_of_ble_eq_true rfl⟩
set_option maxRecDepth 20000 in
theorem kS_X1_depthOf : inW (.static yX1_depthOf) := ⟨(lw_m3 (List.mem_of_getElem? (i := 20) rfl)), rfl⟩
theorem kN_X1_depthOf : (parseMethodDescriptor (yX1_depthOf).desc).map (fun d => d.parameters.length) = some 2 := by decide +kernel
set_option maxRecDepth 20000 in
theorem kE_X1_elders : okE eX1_elders := ⟨by decide +kernel, ⟨(lw_m3 (List.mem_of_getElem? (i := 24) rfl)), rfl⟩, ⟨(lw_m1 (List.mem_of_getElem? (i := 16) rfl)), rfl⟩, rfl, ⟨by decide +kernel, by decide +kernel⟩, Nat.le_of_ble_eq_true rfl⟩
set_option maxRecDepth 20000 in
theorem kS_X1_elders : inW (.static yX1_elders) := ⟨(lw_m3 (List.mem_of_getElem? (i := 23) rfl)), rfl⟩
theorem kN_X1_elders : (parseMethodDescriptor (yX1_elders).desc).map (fun d => d.parameters.length) = some 2 := by decide +kernel
set_option maxRecDepth 20000 in
theorem kE_X1_rootOf : okE eX1_rootOf := ⟨by decide +kernel, ⟨(lw_m3 (List.mem_of_getElem? (i := 29) rfl)), rfl⟩, ⟨(lw_m1 (List.mem_of_getElem? (i := 16) rfl)), rfl⟩, rfl, ⟨by decide +kernel, by decide +kernel⟩, Nat.le_of_ble_eq_true rfl⟩
set_option maxRecDepth 20000 in
theorem kS_X1_rootOf : inW (.static yX1_rootOf) := ⟨(lw_m3 (List.mem_of_getElem? (i := 28) rfl)), rfl⟩
theorem kN_X1_rootOf : (parseMethodDescriptor (yX1_rootOf).desc).map (fun d => d.parameters.length) = some 2 := by decide +kernel
set_option maxRecDepth 20000 in
theorem kE_J6_numberOfTrailingZeros_0f7a4 : okE eJ6_numberOfTrailingZeros_0f7a4 := ⟨by decide +kernel, ⟨(lw_m3 (List.mem_of_getElem? (i := 32) rfl)), rfl⟩, ⟨(lw_m1 (List.mem_of_getElem? (i := 15) rfl)), rfl⟩, rfl, ⟨by decide +kernel, by decide +kernel⟩, Nat.le_of_ble_eq_true rfl⟩
set_option maxRecDepth 20000 in
theorem kS_J6_numberOfTrailingZeros_0f7a4 : inW (.static yJ6_numberOfTrailingZeros_0f7a4) := ⟨(lw_m3 (List.mem_of_getElem? (i := 31) rfl)), rfl⟩
theorem kN_J6_numberOfTrailingZeros_0f7a4 : (parseMethodDescriptor (yJ6_numberOfTrailingZeros_0f7a4).desc).map (fun d => d.parameters.length) = some 1 := by decide +kernel
set_option maxRecDepth 20000 in
theorem kE_X1_childrenOf : okE eX1_childrenOf := ⟨by decide +kernel, ⟨(lw_m3 (List.mem_of_getElem? (i := 36) rfl)), rfl⟩, ⟨(lw_m1 (List.mem_of_getElem? (i := 16) rfl)), rfl⟩, rfl, ⟨by decide +kernel, by decide +kernel⟩, Nat.le_of_ble_eq_true rfl⟩
set_option maxRecDepth 20000 in
theorem kS_X1_childrenOf : inW (.static yX1_childrenOf) := ⟨(lw_m3 (List.mem_of_getElem? (i := 35) rfl)), rfl⟩
theorem kN_X1_childrenOf : (parseMethodDescriptor (yX1_childrenOf).desc).map (fun d => d.parameters.length) = some 2 := by decide +kernel
set_option maxRecDepth 20000 in
theorem kE_X1_childBits : okE eX1_childBits := ⟨by decide +kernel, ⟨(lw_m3 (List.mem_of_getElem? (i := 39) rfl)), rfl⟩, ⟨(lw_m1 (List.mem_of_getElem? (i := 16) rfl)), rfl⟩, rfl, ⟨by decide +kernel, by decide +kernel⟩, Nat.le_of_ble_eq_true rfl⟩
set_option maxRecDepth 20000 in
theorem kS_X1_childBits : inW (.static yX1_childBits) := ⟨(lw_m3 (List.mem_of_getElem? (i := 38) rfl)), rfl⟩
theorem kN_X1_childBits : (parseMethodDescriptor (yX1_childBits).desc).map (fun d => d.parameters.length) = some 2 := by decide +kernel
set_option maxRecDepth 20000 in
theorem kE_X1_heirsOf : okE eX1_heirsOf := ⟨by decide +kernel, ⟨(lw_m3 (List.mem_of_getElem? (i := 42) rfl)), rfl⟩, ⟨(lw_m1 (List.mem_of_getElem? (i := 16) rfl)), rfl⟩, rfl, ⟨by decide +kernel, by decide +kernel⟩, Nat.le_of_ble_eq_true rfl⟩
set_option maxRecDepth 20000 in
theorem kS_X1_heirsOf : inW (.static yX1_heirsOf) := ⟨(lw_m3 (List.mem_of_getElem? (i := 41) rfl)), rfl⟩
theorem kN_X1_heirsOf : (parseMethodDescriptor (yX1_heirsOf).desc).map (fun d => d.parameters.length) = some 2 := by decide +kernel
set_option maxRecDepth 20000 in
theorem kE_X5_holds : okE eX5_holds := ⟨by decide +kernel, ⟨(lw_m3 (List.mem_of_getElem? (i := 45) rfl)), rfl⟩, ⟨(lw_m1 (List.mem_of_getElem? (i := 1) rfl)), rfl⟩, rfl, ⟨by decide +kernel, by decide +kernel⟩, Nat.le_of_ble_eq_true rfl⟩
set_option maxRecDepth 20000 in
theorem kS_X5_holds : inW (.static yX5_holds) := ⟨(lw_m3 (List.mem_of_getElem? (i := 44) rfl)), rfl⟩
theorem kN_X5_holds : (parseMethodDescriptor (yX5_holds).desc).map (fun d => d.parameters.length) = some 2 := by decide +kernel
set_option maxRecDepth 20000 in
theorem kE_X5_common : okE eX5_common := ⟨by decide +kernel, ⟨(lw_m3 (List.mem_of_getElem? (i := 49) rfl)), rfl⟩, ⟨(lw_m1 (List.mem_of_getElem? (i := 1) rfl)), rfl⟩, rfl, ⟨by decide +kernel, by decide +kernel⟩, Nat.le_of_ble_eq_true rfl⟩
set_option maxRecDepth 20000 in
theorem kI_X5_common : inW (.instanceMethod yX5_common) ∧ inW (.selects (yX5_common).cls yX5_common yX5_common) := ⟨⟨(lw_m3 (List.mem_of_getElem? (i := 47) rfl)), rfl⟩, ⟨(lw_m3 (List.mem_of_getElem? (i := 48) rfl)), rfl⟩⟩
theorem kN_X5_common : (parseMethodDescriptor (yX5_common).desc).map (fun d => d.parameters.length) = some 2 := by decide +kernel
set_option maxRecDepth 20000 in
theorem kE_X1_commonOf : okE eX1_commonOf := ⟨by decide +kernel, ⟨(lw_m3 (List.mem_of_getElem? (i := 52) rfl)), rfl⟩, ⟨(lw_m1 (List.mem_of_getElem? (i := 16) rfl)), rfl⟩, rfl, ⟨by decide +kernel, by decide +kernel⟩, Nat.le_of_ble_eq_true rfl⟩
set_option maxRecDepth 20000 in
theorem kS_X1_commonOf : inW (.static yX1_commonOf) := ⟨(lw_m3 (List.mem_of_getElem? (i := 51) rfl)), rfl⟩
theorem kN_X1_commonOf : (parseMethodDescriptor (yX1_commonOf).desc).map (fun d => d.parameters.length) = some 3 := by decide +kernel
set_option maxRecDepth 20000 in
theorem kE_J6_numberOfLeadingZeros_0f7a4 : okE eJ6_numberOfLeadingZeros_0f7a4 := ⟨by decide +kernel, ⟨(lw_m3 (List.mem_of_getElem? (i := 55) rfl)), rfl⟩, ⟨(lw_m1 (List.mem_of_getElem? (i := 15) rfl)), rfl⟩, rfl, ⟨by decide +kernel, by decide +kernel⟩, Nat.le_of_ble_eq_true rfl⟩
set_option maxRecDepth 20000 in
theorem kS_J6_numberOfLeadingZeros_0f7a4 : inW (.static yJ6_numberOfLeadingZeros_0f7a4) := ⟨(lw_m3 (List.mem_of_getElem? (i := 54) rfl)), rfl⟩
theorem kN_J6_numberOfLeadingZeros_0f7a4 : (parseMethodDescriptor (yJ6_numberOfLeadingZeros_0f7a4).desc).map (fun d => d.parameters.length) = some 1 := by decide +kernel
set_option maxRecDepth 20000 in
theorem kE_X5_nearest : okE eX5_nearest := ⟨by decide +kernel, ⟨(lw_m3 (List.mem_of_getElem? (i := 59) rfl)), rfl⟩, ⟨(lw_m1 (List.mem_of_getElem? (i := 1) rfl)), rfl⟩, rfl, ⟨by decide +kernel, by decide +kernel⟩, Nat.le_of_ble_eq_true rfl⟩
set_option maxRecDepth 20000 in
theorem kI_X5_nearest : inW (.instanceMethod yX5_nearest) ∧ inW (.selects (yX5_nearest).cls yX5_nearest yX5_nearest) := ⟨⟨(lw_m3 (List.mem_of_getElem? (i := 57) rfl)), rfl⟩, ⟨(lw_m3 (List.mem_of_getElem? (i := 58) rfl)), rfl⟩⟩
theorem kN_X5_nearest : (parseMethodDescriptor (yX5_nearest).desc).map (fun d => d.parameters.length) = some 0 := by decide +kernel
set_option maxRecDepth 20000 in
theorem kE_X3_nearestKey : okE eX3_nearestKey := ⟨by decide +kernel, ⟨(lw_m3 (List.mem_of_getElem? (i := 63) rfl)), rfl⟩, ⟨(lw_m1 (List.mem_of_getElem? (i := 2) rfl)), rfl⟩, rfl, ⟨by decide +kernel, by decide +kernel⟩, Nat.le_of_ble_eq_true rfl⟩
set_option maxRecDepth 20000 in
theorem kI_X3_nearestKey : inW (.instanceMethod yX3_nearestKey) ∧ inW (.selects (yX3_nearestKey).cls yX3_nearestKey yX3_nearestKey) := ⟨⟨(lw_m3 (List.mem_of_getElem? (i := 61) rfl)), rfl⟩, ⟨(lw_m3 (List.mem_of_getElem? (i := 62) rfl)), rfl⟩⟩
theorem kN_X3_nearestKey : (parseMethodDescriptor (yX3_nearestKey).desc).map (fun d => d.parameters.length) = some 0 := by decide +kernel
set_option maxRecDepth 20000 in
theorem kE_X3_allKeysBits : okE eX3_allKeysBits := ⟨by decide +kernel, ⟨(lw_m3 (List.mem_of_getElem? (i := 67) rfl)), rfl⟩, ⟨(lw_m1 (List.mem_of_getElem? (i := 2) rfl)), rfl⟩, rfl, ⟨by decide +kernel, by decide +kernel⟩, Nat.le_of_ble_eq_true rfl⟩
set_option maxRecDepth 20000 in
theorem kI_X3_allKeysBits : inW (.instanceMethod yX3_allKeysBits) ∧ inW (.selects (yX3_allKeysBits).cls yX3_allKeysBits yX3_allKeysBits) := ⟨⟨(lw_m3 (List.mem_of_getElem? (i := 65) rfl)), rfl⟩, ⟨(lw_m3 (List.mem_of_getElem? (i := 66) rfl)), rfl⟩⟩
theorem kN_X3_allKeysBits : (parseMethodDescriptor (yX3_allKeysBits).desc).map (fun d => d.parameters.length) = some 0 := by decide +kernel
set_option maxRecDepth 20000 in
theorem kE_X3_leastWiggleOf : okE eX3_leastWiggleOf := ⟨by decide +kernel, ⟨(lw_m3 (List.mem_of_getElem? (i := 72) rfl)), rfl⟩, ⟨(lw_m1 (List.mem_of_getElem? (i := 2) rfl)), rfl⟩, rfl, ⟨by decide +kernel, by decide +kernel⟩, Nat.le_of_ble_eq_true rfl⟩
set_option maxRecDepth 20000 in
theorem kI_X3_leastWiggleOf : inW (.instanceMethod yX3_leastWiggleOf) ∧ inW (.selects (yX3_leastWiggleOf).cls yX3_leastWiggleOf yX3_leastWiggleOf) := ⟨⟨(lw_m3 (List.mem_of_getElem? (i := 70) rfl)), rfl⟩, ⟨(lw_m3 (List.mem_of_getElem? (i := 71) rfl)), rfl⟩⟩
theorem kN_X3_leastWiggleOf : (parseMethodDescriptor (yX3_leastWiggleOf).desc).map (fun d => d.parameters.length) = some 1 := by decide +kernel
set_option maxRecDepth 20000 in
theorem kE_X5_next : okE eX5_next := ⟨by decide +kernel, ⟨(lw_m3 (List.mem_of_getElem? (i := 78) rfl)), rfl⟩, ⟨(lw_m1 (List.mem_of_getElem? (i := 1) rfl)), rfl⟩, rfl, ⟨by decide +kernel, by decide +kernel⟩, Nat.le_of_ble_eq_true rfl⟩
set_option maxRecDepth 20000 in
theorem kI_X5_next : inW (.instanceMethod yX5_next) ∧ inW (.selects (yX5_next).cls yX5_next yX5_next) := ⟨⟨(lw_m3 (List.mem_of_getElem? (i := 76) rfl)), rfl⟩, ⟨(lw_m3 (List.mem_of_getElem? (i := 77) rfl)), rfl⟩⟩
theorem kN_X5_next : (parseMethodDescriptor (yX5_next).desc).map (fun d => d.parameters.length) = some 1 := by decide +kernel
set_option maxRecDepth 20000 in
theorem kE_X2_bestNext : okE eX2_bestNext := ⟨by decide +kernel, ⟨(lw_m3 (List.mem_of_getElem? (i := 82) rfl)), rfl⟩, ⟨(lw_m1 (List.mem_of_getElem? (i := 4) rfl)), rfl⟩, rfl, ⟨by decide +kernel, by decide +kernel⟩, Nat.le_of_ble_eq_true rfl⟩
set_option maxRecDepth 20000 in
theorem kI_X2_bestNext : inW (.instanceMethod yX2_bestNext) ∧ inW (.selects (yX2_bestNext).cls yX2_bestNext yX2_bestNext) := ⟨⟨(lw_m3 (List.mem_of_getElem? (i := 80) rfl)), rfl⟩, ⟨(lw_m3 (List.mem_of_getElem? (i := 81) rfl)), rfl⟩⟩
theorem kN_X2_bestNext : (parseMethodDescriptor (yX2_bestNext).desc).map (fun d => d.parameters.length) = some 2 := by decide +kernel
set_option maxRecDepth 20000 in
theorem kE_X2_takeKey : okE eX2_takeKey := ⟨by decide +kernel, ⟨(lw_m3 (List.mem_of_getElem? (i := 86) rfl)), rfl⟩, ⟨(lw_m1 (List.mem_of_getElem? (i := 4) rfl)), rfl⟩, rfl, ⟨by decide +kernel, by decide +kernel⟩, Nat.le_of_ble_eq_true rfl⟩
set_option maxRecDepth 20000 in
theorem kI_X2_takeKey : inW (.instanceMethod yX2_takeKey) ∧ inW (.selects (yX2_takeKey).cls yX2_takeKey yX2_takeKey) := ⟨⟨(lw_m3 (List.mem_of_getElem? (i := 85) rfl)), rfl⟩, ⟨(lw_m0 (List.mem_of_getElem? (i := 8) rfl)), rfl⟩⟩
theorem kN_X2_takeKey : (parseMethodDescriptor (yX2_takeKey).desc).map (fun d => d.parameters.length) = some 2 := by decide +kernel
set_option maxRecDepth 20000 in
theorem kE_X2_cutCopyBy : okE eX2_cutCopyBy := ⟨by decide +kernel, ⟨(lw_m3 (List.mem_of_getElem? (i := 91) rfl)), rfl⟩, ⟨(lw_m1 (List.mem_of_getElem? (i := 4) rfl)), rfl⟩, rfl, ⟨by decide +kernel, by decide +kernel⟩, Nat.le_of_ble_eq_true rfl⟩
set_option maxRecDepth 20000 in
theorem kI_X2_cutCopyBy : inW (.instanceMethod yX2_cutCopyBy) ∧ inW (.selects (yX2_cutCopyBy).cls yX2_cutCopyBy yX2_cutCopyBy) := ⟨⟨(lw_m3 (List.mem_of_getElem? (i := 90) rfl)), rfl⟩, ⟨(lw_m0 (List.mem_of_getElem? (i := 9) rfl)), rfl⟩⟩
theorem kN_X2_cutCopyBy : (parseMethodDescriptor (yX2_cutCopyBy).desc).map (fun d => d.parameters.length) = some 2 := by decide +kernel
set_option maxRecDepth 20000 in
theorem kE_X2_cutCopy : okE eX2_cutCopy := ⟨by decide +kernel, ⟨(lw_m3 (List.mem_of_getElem? (i := 95) rfl)), rfl⟩, ⟨(lw_m1 (List.mem_of_getElem? (i := 4) rfl)), rfl⟩, rfl, ⟨by decide +kernel, by decide +kernel⟩, Nat.le_of_ble_eq_true rfl⟩
set_option maxRecDepth 20000 in
theorem kI_X2_cutCopy : inW (.instanceMethod yX2_cutCopy) ∧ inW (.selects (yX2_cutCopy).cls yX2_cutCopy yX2_cutCopy) := ⟨⟨(lw_m3 (List.mem_of_getElem? (i := 94) rfl)), rfl⟩, ⟨(lw_m0 (List.mem_of_getElem? (i := 10) rfl)), rfl⟩⟩
theorem kN_X2_cutCopy : (parseMethodDescriptor (yX2_cutCopy).desc).map (fun d => d.parameters.length) = some 2 := by decide +kernel
set_option maxRecDepth 20000 in
theorem kE_X5_inRow : okE eX5_inRow := ⟨by decide +kernel, ⟨(lw_m3 (List.mem_of_getElem? (i := 101) rfl)), rfl⟩, ⟨(lw_m1 (List.mem_of_getElem? (i := 1) rfl)), rfl⟩, rfl, ⟨by decide +kernel, by decide +kernel⟩, Nat.le_of_ble_eq_true rfl⟩
set_option maxRecDepth 20000 in
theorem kI_X5_inRow : inW (.instanceMethod yX5_inRow) ∧ inW (.selects (yX5_inRow).cls yX5_inRow yX5_inRow) := ⟨⟨(lw_m3 (List.mem_of_getElem? (i := 99) rfl)), rfl⟩, ⟨(lw_m3 (List.mem_of_getElem? (i := 100) rfl)), rfl⟩⟩
theorem kN_X5_inRow : (parseMethodDescriptor (yX5_inRow).desc).map (fun d => d.parameters.length) = some 3 := by decide +kernel
set_option maxRecDepth 20000 in
theorem kE_X2_copiesThatOpen : okE eX2_copiesThatOpen := ⟨by decide +kernel, ⟨(lw_m3 (List.mem_of_getElem? (i := 105) rfl)), rfl⟩, ⟨(lw_m1 (List.mem_of_getElem? (i := 4) rfl)), rfl⟩, rfl, ⟨by decide +kernel, by decide +kernel⟩, Nat.le_of_ble_eq_true rfl⟩
set_option maxRecDepth 20000 in
theorem kI_X2_copiesThatOpen : inW (.instanceMethod yX2_copiesThatOpen) ∧ inW (.selects (yX2_copiesThatOpen).cls yX2_copiesThatOpen yX2_copiesThatOpen) := ⟨⟨(lw_m3 (List.mem_of_getElem? (i := 103) rfl)), rfl⟩, ⟨(lw_m3 (List.mem_of_getElem? (i := 104) rfl)), rfl⟩⟩
theorem kN_X2_copiesThatOpen : (parseMethodDescriptor (yX2_copiesThatOpen).desc).map (fun d => d.parameters.length) = some 3 := by decide +kernel
set_option maxRecDepth 20000 in
theorem kE_X2_toothThatGoesFirst : okE eX2_toothThatGoesFirst := ⟨by decide +kernel, ⟨(lw_m3 (List.mem_of_getElem? (i := 110) rfl)), rfl⟩, ⟨(lw_m1 (List.mem_of_getElem? (i := 4) rfl)), rfl⟩, rfl, ⟨by decide +kernel, by decide +kernel⟩, Nat.le_of_ble_eq_true rfl⟩
set_option maxRecDepth 20000 in
theorem kI_X2_toothThatGoesFirst : inW (.instanceMethod yX2_toothThatGoesFirst) ∧ inW (.selects (yX2_toothThatGoesFirst).cls yX2_toothThatGoesFirst yX2_toothThatGoesFirst) := ⟨⟨(lw_m3 (List.mem_of_getElem? (i := 108) rfl)), rfl⟩, ⟨(lw_m3 (List.mem_of_getElem? (i := 109) rfl)), rfl⟩⟩
theorem kN_X2_toothThatGoesFirst : (parseMethodDescriptor (yX2_toothThatGoesFirst).desc).map (fun d => d.parameters.length) = some 3 := by decide +kernel
set_option maxRecDepth 20000 in
theorem kE_X5_lasts : okE eX5_lasts := ⟨by decide +kernel, ⟨(lw_m3 (List.mem_of_getElem? (i := 115) rfl)), rfl⟩, ⟨(lw_m1 (List.mem_of_getElem? (i := 1) rfl)), rfl⟩, rfl, ⟨by decide +kernel, by decide +kernel⟩, Nat.le_of_ble_eq_true rfl⟩
set_option maxRecDepth 20000 in
theorem kI_X5_lasts : inW (.instanceMethod yX5_lasts) ∧ inW (.selects (yX5_lasts).cls yX5_lasts yX5_lasts) := ⟨⟨(lw_m3 (List.mem_of_getElem? (i := 113) rfl)), rfl⟩, ⟨(lw_m3 (List.mem_of_getElem? (i := 114) rfl)), rfl⟩⟩
theorem kN_X5_lasts : (parseMethodDescriptor (yX5_lasts).desc).map (fun d => d.parameters.length) = some 1 := by decide +kernel
set_option maxRecDepth 20000 in
theorem kE_X2_usesTillShut : okE eX2_usesTillShut := ⟨by decide +kernel, ⟨(lw_m3 (List.mem_of_getElem? (i := 119) rfl)), rfl⟩, ⟨(lw_m1 (List.mem_of_getElem? (i := 4) rfl)), rfl⟩, rfl, ⟨by decide +kernel, by decide +kernel⟩, Nat.le_of_ble_eq_true rfl⟩
set_option maxRecDepth 20000 in
theorem kI_X2_usesTillShut : inW (.instanceMethod yX2_usesTillShut) ∧ inW (.selects (yX2_usesTillShut).cls yX2_usesTillShut yX2_usesTillShut) := ⟨⟨(lw_m3 (List.mem_of_getElem? (i := 117) rfl)), rfl⟩, ⟨(lw_m3 (List.mem_of_getElem? (i := 118) rfl)), rfl⟩⟩
theorem kN_X2_usesTillShut : (parseMethodDescriptor (yX2_usesTillShut).desc).map (fun d => d.parameters.length) = some 2 := by decide +kernel
set_option maxRecDepth 20000 in
theorem kE_X2_opensWorn : okE eX2_opensWorn := ⟨by decide +kernel, ⟨(lw_m3 (List.mem_of_getElem? (i := 123) rfl)), rfl⟩, ⟨(lw_m1 (List.mem_of_getElem? (i := 4) rfl)), rfl⟩, rfl, ⟨by decide +kernel, by decide +kernel⟩, Nat.le_of_ble_eq_true rfl⟩
set_option maxRecDepth 20000 in
theorem kI_X2_opensWorn : inW (.instanceMethod yX2_opensWorn) ∧ inW (.selects (yX2_opensWorn).cls yX2_opensWorn yX2_opensWorn) := ⟨⟨(lw_m3 (List.mem_of_getElem? (i := 122) rfl)), rfl⟩, ⟨(lw_m0 (List.mem_of_getElem? (i := 11) rfl)), rfl⟩⟩
theorem kN_X2_opensWorn : (parseMethodDescriptor (yX2_opensWorn).desc).map (fun d => d.parameters.length) = some 3 := by decide +kernel
set_option maxRecDepth 20000 in
theorem kE_X5_fit : okE eX5_fit := ⟨by decide +kernel, ⟨(lw_m3 (List.mem_of_getElem? (i := 130) rfl)), rfl⟩, ⟨(lw_m1 (List.mem_of_getElem? (i := 1) rfl)), rfl⟩, rfl, ⟨by decide +kernel, by decide +kernel⟩, Nat.le_of_ble_eq_true rfl⟩
set_option maxRecDepth 20000 in
theorem kI_X5_fit : inW (.instanceMethod yX5_fit) ∧ inW (.selects (yX5_fit).cls yX5_fit yX5_fit) := ⟨⟨(lw_m3 (List.mem_of_getElem? (i := 128) rfl)), rfl⟩, ⟨(lw_m3 (List.mem_of_getElem? (i := 129) rfl)), rfl⟩⟩
theorem kN_X5_fit : (parseMethodDescriptor (yX5_fit).desc).map (fun d => d.parameters.length) = some 1 := by decide +kernel
set_option maxRecDepth 20000 in
theorem kE_X5_anew : okE eX5_anew := ⟨by decide +kernel, ⟨(lw_m3 (List.mem_of_getElem? (i := 135) rfl)), rfl⟩, ⟨(lw_m1 (List.mem_of_getElem? (i := 1) rfl)), rfl⟩, rfl, ⟨by decide +kernel, by decide +kernel⟩, Nat.le_of_ble_eq_true rfl⟩
set_option maxRecDepth 20000 in
theorem kI_X5_anew : inW (.instanceMethod yX5_anew) ∧ inW (.selects (yX5_anew).cls yX5_anew yX5_anew) := ⟨⟨(lw_m3 (List.mem_of_getElem? (i := 133) rfl)), rfl⟩, ⟨(lw_m3 (List.mem_of_getElem? (i := 134) rfl)), rfl⟩⟩
theorem kN_X5_anew : (parseMethodDescriptor (yX5_anew).desc).map (fun d => d.parameters.length) = some 1 := by decide +kernel
set_option maxRecDepth 20000 in
theorem kE_X2_openAnew : okE eX2_openAnew := ⟨by decide +kernel, ⟨(lw_m3 (List.mem_of_getElem? (i := 139) rfl)), rfl⟩, ⟨(lw_m1 (List.mem_of_getElem? (i := 4) rfl)), rfl⟩, rfl, ⟨by decide +kernel, by decide +kernel⟩, Nat.le_of_ble_eq_true rfl⟩
set_option maxRecDepth 20000 in
theorem kI_X2_openAnew : inW (.instanceMethod yX2_openAnew) ∧ inW (.selects (yX2_openAnew).cls yX2_openAnew yX2_openAnew) := ⟨⟨(lw_m3 (List.mem_of_getElem? (i := 137) rfl)), rfl⟩, ⟨(lw_m3 (List.mem_of_getElem? (i := 138) rfl)), rfl⟩⟩
theorem kN_X2_openAnew : (parseMethodDescriptor (yX2_openAnew).desc).map (fun d => d.parameters.length) = some 1 := by decide +kernel
set_option maxRecDepth 20000 in
theorem kE_X2_pinAnew : okE eX2_pinAnew := ⟨by decide +kernel, ⟨(lw_m3 (List.mem_of_getElem? (i := 143) rfl)), rfl⟩, ⟨(lw_m1 (List.mem_of_getElem? (i := 4) rfl)), rfl⟩, rfl, ⟨by decide +kernel, by decide +kernel⟩, Nat.le_of_ble_eq_true rfl⟩
set_option maxRecDepth 20000 in
theorem kI_X2_pinAnew : inW (.instanceMethod yX2_pinAnew) ∧ inW (.selects (yX2_pinAnew).cls yX2_pinAnew yX2_pinAnew) := ⟨⟨(lw_m3 (List.mem_of_getElem? (i := 141) rfl)), rfl⟩, ⟨(lw_m3 (List.mem_of_getElem? (i := 142) rfl)), rfl⟩⟩
theorem kN_X2_pinAnew : (parseMethodDescriptor (yX2_pinAnew).desc).map (fun d => d.parameters.length) = some 2 := by decide +kernel
set_option maxRecDepth 20000 in
theorem kE_X2_wholeKeysWithin : okE eX2_wholeKeysWithin := ⟨by decide +kernel, ⟨(lw_m3 (List.mem_of_getElem? (i := 147) rfl)), rfl⟩, ⟨(lw_m1 (List.mem_of_getElem? (i := 4) rfl)), rfl⟩, rfl, ⟨by decide +kernel, by decide +kernel⟩, Nat.le_of_ble_eq_true rfl⟩
set_option maxRecDepth 20000 in
theorem kI_X2_wholeKeysWithin : inW (.instanceMethod yX2_wholeKeysWithin) ∧ inW (.selects (yX2_wholeKeysWithin).cls yX2_wholeKeysWithin yX2_wholeKeysWithin) := ⟨⟨(lw_m3 (List.mem_of_getElem? (i := 146) rfl)), rfl⟩, ⟨(lw_m0 (List.mem_of_getElem? (i := 12) rfl)), rfl⟩⟩
theorem kN_X2_wholeKeysWithin : (parseMethodDescriptor (yX2_wholeKeysWithin).desc).map (fun d => d.parameters.length) = some 3 := by decide +kernel
set_option maxRecDepth 20000 in
theorem kE_X2_teethWithin : okE eX2_teethWithin := ⟨by decide +kernel, ⟨(lw_m3 (List.mem_of_getElem? (i := 151) rfl)), rfl⟩, ⟨(lw_m1 (List.mem_of_getElem? (i := 4) rfl)), rfl⟩, rfl, ⟨by decide +kernel, by decide +kernel⟩, Nat.le_of_ble_eq_true rfl⟩
set_option maxRecDepth 20000 in
theorem kI_X2_teethWithin : inW (.instanceMethod yX2_teethWithin) ∧ inW (.selects (yX2_teethWithin).cls yX2_teethWithin yX2_teethWithin) := ⟨⟨(lw_m3 (List.mem_of_getElem? (i := 150) rfl)), rfl⟩, ⟨(lw_m0 (List.mem_of_getElem? (i := 13) rfl)), rfl⟩⟩
theorem kN_X2_teethWithin : (parseMethodDescriptor (yX2_teethWithin).desc).map (fun d => d.parameters.length) = some 3 := by decide +kernel
set_option maxRecDepth 20000 in
theorem kE_X5_first : okE eX5_first := ⟨by decide +kernel, ⟨(lw_m3 (List.mem_of_getElem? (i := 156) rfl)), rfl⟩, ⟨(lw_m1 (List.mem_of_getElem? (i := 1) rfl)), rfl⟩, rfl, ⟨by decide +kernel, by decide +kernel⟩, Nat.le_of_ble_eq_true rfl⟩
set_option maxRecDepth 20000 in
theorem kI_X5_first : inW (.instanceMethod yX5_first) ∧ inW (.selects (yX5_first).cls yX5_first yX5_first) := ⟨⟨(lw_m3 (List.mem_of_getElem? (i := 154) rfl)), rfl⟩, ⟨(lw_m3 (List.mem_of_getElem? (i := 155) rfl)), rfl⟩⟩
theorem kN_X5_first : (parseMethodDescriptor (yX5_first).desc).map (fun d => d.parameters.length) = some 2 := by decide +kernel
set_option maxRecDepth 20000 in
theorem kE_X2_codeOfSet : okE eX2_codeOfSet := ⟨by decide +kernel, ⟨(lw_m3 (List.mem_of_getElem? (i := 161) rfl)), rfl⟩, ⟨(lw_m1 (List.mem_of_getElem? (i := 4) rfl)), rfl⟩, rfl, ⟨by decide +kernel, by decide +kernel⟩, Nat.le_of_ble_eq_true rfl⟩
set_option maxRecDepth 20000 in
theorem kI_X2_codeOfSet : inW (.instanceMethod yX2_codeOfSet) ∧ inW (.selects (yX2_codeOfSet).cls yX2_codeOfSet yX2_codeOfSet) := ⟨⟨(lw_m3 (List.mem_of_getElem? (i := 159) rfl)), rfl⟩, ⟨(lw_m3 (List.mem_of_getElem? (i := 160) rfl)), rfl⟩⟩
theorem kN_X2_codeOfSet : (parseMethodDescriptor (yX2_codeOfSet).desc).map (fun d => d.parameters.length) = some 3 := by decide +kernel
set_option maxRecDepth 20000 in
theorem kE_X2_middleHeight : okE eX2_middleHeight := ⟨by decide +kernel, ⟨(lw_m3 (List.mem_of_getElem? (i := 165) rfl)), rfl⟩, ⟨(lw_m1 (List.mem_of_getElem? (i := 4) rfl)), rfl⟩, rfl, ⟨by decide +kernel, by decide +kernel⟩, Nat.le_of_ble_eq_true rfl⟩
set_option maxRecDepth 20000 in
theorem kI_X2_middleHeight : inW (.instanceMethod yX2_middleHeight) ∧ inW (.selects (yX2_middleHeight).cls yX2_middleHeight yX2_middleHeight) := ⟨⟨(lw_m3 (List.mem_of_getElem? (i := 164) rfl)), rfl⟩, ⟨(lw_m0 (List.mem_of_getElem? (i := 14) rfl)), rfl⟩⟩
theorem kN_X2_middleHeight : (parseMethodDescriptor (yX2_middleHeight).desc).map (fun d => d.parameters.length) = some 3 := by decide +kernel
set_option maxRecDepth 20000 in
theorem kE_X0_codeOf : okE eX0_codeOf := ⟨by decide +kernel, ⟨(lw_m3 (List.mem_of_getElem? (i := 170) rfl)), rfl⟩, ⟨(lw_m1 (List.mem_of_getElem? (i := 14) rfl)), rfl⟩, rfl, ⟨by decide +kernel, by decide +kernel⟩, Nat.le_of_ble_eq_true rfl⟩
set_option maxRecDepth 20000 in
theorem kS_X0_codeOf : inW (.static yX0_codeOf) := ⟨(lw_m3 (List.mem_of_getElem? (i := 169) rfl)), rfl⟩
theorem kN_X0_codeOf : (parseMethodDescriptor (yX0_codeOf).desc).map (fun d => d.parameters.length) = some 1 := by decide +kernel
set_option maxRecDepth 20000 in
theorem kE_X5_unlike : okE eX5_unlike := ⟨by decide +kernel, ⟨(lw_m3 (List.mem_of_getElem? (i := 175) rfl)), rfl⟩, ⟨(lw_m1 (List.mem_of_getElem? (i := 1) rfl)), rfl⟩, rfl, ⟨by decide +kernel, by decide +kernel⟩, Nat.le_of_ble_eq_true rfl⟩
set_option maxRecDepth 20000 in
theorem kI_X5_unlike : inW (.instanceMethod yX5_unlike) ∧ inW (.selects (yX5_unlike).cls yX5_unlike yX5_unlike) := ⟨⟨(lw_m3 (List.mem_of_getElem? (i := 173) rfl)), rfl⟩, ⟨(lw_m3 (List.mem_of_getElem? (i := 174) rfl)), rfl⟩⟩
theorem kN_X5_unlike : (parseMethodDescriptor (yX5_unlike).desc).map (fun d => d.parameters.length) = some 2 := by decide +kernel
set_option maxRecDepth 20000 in
theorem kE_X2_unlikeTeeth : okE eX2_unlikeTeeth := ⟨by decide +kernel, ⟨(lw_m3 (List.mem_of_getElem? (i := 179) rfl)), rfl⟩, ⟨(lw_m1 (List.mem_of_getElem? (i := 4) rfl)), rfl⟩, rfl, ⟨by decide +kernel, by decide +kernel⟩, Nat.le_of_ble_eq_true rfl⟩
set_option maxRecDepth 20000 in
theorem kI_X2_unlikeTeeth : inW (.instanceMethod yX2_unlikeTeeth) ∧ inW (.selects (yX2_unlikeTeeth).cls yX2_unlikeTeeth yX2_unlikeTeeth) := ⟨⟨(lw_m3 (List.mem_of_getElem? (i := 177) rfl)), rfl⟩, ⟨(lw_m3 (List.mem_of_getElem? (i := 178) rfl)), rfl⟩⟩
theorem kN_X2_unlikeTeeth : (parseMethodDescriptor (yX2_unlikeTeeth).desc).map (fun d => d.parameters.length) = some 3 := by decide +kernel
set_option maxRecDepth 20000 in
theorem kE_X5_mend : okE eX5_mend := ⟨by decide +kernel, ⟨(lw_m3 (List.mem_of_getElem? (i := 184) rfl)), rfl⟩, ⟨(lw_m1 (List.mem_of_getElem? (i := 1) rfl)), rfl⟩, rfl, ⟨by decide +kernel, by decide +kernel⟩, Nat.le_of_ble_eq_true rfl⟩
set_option maxRecDepth 20000 in
theorem kI_X5_mend : inW (.instanceMethod yX5_mend) ∧ inW (.selects (yX5_mend).cls yX5_mend yX5_mend) := ⟨⟨(lw_m3 (List.mem_of_getElem? (i := 182) rfl)), rfl⟩, ⟨(lw_m3 (List.mem_of_getElem? (i := 183) rfl)), rfl⟩⟩
theorem kN_X5_mend : (parseMethodDescriptor (yX5_mend).desc).map (fun d => d.parameters.length) = some 1 := by decide +kernel
set_option maxRecDepth 20000 in
theorem kE_X2_lessByMending : okE eX2_lessByMending := ⟨by decide +kernel, ⟨(lw_m3 (List.mem_of_getElem? (i := 189) rfl)), rfl⟩, ⟨(lw_m1 (List.mem_of_getElem? (i := 4) rfl)), rfl⟩, rfl, ⟨by decide +kernel, by decide +kernel⟩, Nat.le_of_ble_eq_true rfl⟩
set_option maxRecDepth 20000 in
theorem kI_X2_lessByMending : inW (.instanceMethod yX2_lessByMending) ∧ inW (.selects (yX2_lessByMending).cls yX2_lessByMending yX2_lessByMending) := ⟨⟨(lw_m3 (List.mem_of_getElem? (i := 187) rfl)), rfl⟩, ⟨(lw_m3 (List.mem_of_getElem? (i := 188) rfl)), rfl⟩⟩
theorem kN_X2_lessByMending : (parseMethodDescriptor (yX2_lessByMending).desc).map (fun d => d.parameters.length) = some 2 := by decide +kernel
set_option maxRecDepth 20000 in
theorem kE_X5_line : okE eX5_line := ⟨by decide +kernel, ⟨(lw_m3 (List.mem_of_getElem? (i := 193) rfl)), rfl⟩, ⟨(lw_m1 (List.mem_of_getElem? (i := 1) rfl)), rfl⟩, rfl, ⟨by decide +kernel, by decide +kernel⟩, Nat.le_of_ble_eq_true rfl⟩
set_option maxRecDepth 20000 in
theorem kI_X5_line : inW (.instanceMethod yX5_line) ∧ inW (.selects (yX5_line).cls yX5_line yX5_line) := ⟨⟨(lw_m3 (List.mem_of_getElem? (i := 191) rfl)), rfl⟩, ⟨(lw_m3 (List.mem_of_getElem? (i := 192) rfl)), rfl⟩⟩
theorem kN_X5_line : (parseMethodDescriptor (yX5_line).desc).map (fun d => d.parameters.length) = some 1 := by decide +kernel
set_option maxRecDepth 20000 in
theorem kE_X1_openHeirsOf : okE eX1_openHeirsOf := ⟨by decide +kernel, ⟨(lw_m3 (List.mem_of_getElem? (i := 196) rfl)), rfl⟩, ⟨(lw_m1 (List.mem_of_getElem? (i := 16) rfl)), rfl⟩, rfl, ⟨by decide +kernel, by decide +kernel⟩, Nat.le_of_ble_eq_true rfl⟩
set_option maxRecDepth 20000 in
theorem kS_X1_openHeirsOf : inW (.static yX1_openHeirsOf) := ⟨(lw_m3 (List.mem_of_getElem? (i := 195) rfl)), rfl⟩
theorem kN_X1_openHeirsOf : (parseMethodDescriptor (yX1_openHeirsOf).desc).map (fun d => d.parameters.length) = some 2 := by decide +kernel
set_option maxRecDepth 20000 in
theorem kE_X5_bestLine : okE eX5_bestLine := ⟨by decide +kernel, ⟨(lw_m3 (List.mem_of_getElem? (i := 202) rfl)), rfl⟩, ⟨(lw_m1 (List.mem_of_getElem? (i := 1) rfl)), rfl⟩, rfl, ⟨by decide +kernel, by decide +kernel⟩, Nat.le_of_ble_eq_true rfl⟩
set_option maxRecDepth 20000 in
theorem kI_X5_bestLine : inW (.instanceMethod yX5_bestLine) ∧ inW (.selects (yX5_bestLine).cls yX5_bestLine yX5_bestLine) := ⟨⟨(lw_m3 (List.mem_of_getElem? (i := 200) rfl)), rfl⟩, ⟨(lw_m3 (List.mem_of_getElem? (i := 201) rfl)), rfl⟩⟩
theorem kN_X5_bestLine : (parseMethodDescriptor (yX5_bestLine).desc).map (fun d => d.parameters.length) = some 0 := by decide +kernel
set_option maxRecDepth 20000 in
theorem kE_X1_bestRoot : okE eX1_bestRoot := ⟨by decide +kernel, ⟨(lw_m3 (List.mem_of_getElem? (i := 205) rfl)), rfl⟩, ⟨(lw_m1 (List.mem_of_getElem? (i := 16) rfl)), rfl⟩, rfl, ⟨by decide +kernel, by decide +kernel⟩, Nat.le_of_ble_eq_true rfl⟩
set_option maxRecDepth 20000 in
theorem kS_X1_bestRoot : inW (.static yX1_bestRoot) := ⟨(lw_m3 (List.mem_of_getElem? (i := 204) rfl)), rfl⟩
theorem kN_X1_bestRoot : (parseMethodDescriptor (yX1_bestRoot).desc).map (fun d => d.parameters.length) = some 1 := by decide +kernel
set_option maxRecDepth 20000 in
theorem kE_X5_ask : okE eX5_ask := ⟨by decide +kernel, ⟨(lw_m3 (List.mem_of_getElem? (i := 209) rfl)), rfl⟩, ⟨(lw_m1 (List.mem_of_getElem? (i := 1) rfl)), rfl⟩, rfl, ⟨by decide +kernel, by decide +kernel⟩, Nat.le_of_ble_eq_true rfl⟩
set_option maxRecDepth 20000 in
theorem kI_X5_ask : inW (.instanceMethod yX5_ask) ∧ inW (.selects (yX5_ask).cls yX5_ask yX5_ask) := ⟨⟨(lw_m3 (List.mem_of_getElem? (i := 207) rfl)), rfl⟩, ⟨(lw_m3 (List.mem_of_getElem? (i := 208) rfl)), rfl⟩⟩
theorem kN_X5_ask : (parseMethodDescriptor (yX5_ask).desc).map (fun d => d.parameters.length) = some 1 := by decide +kernel
set_option maxRecDepth 20000 in
theorem kE_X1_whomToAsk : okE eX1_whomToAsk := ⟨by decide +kernel, ⟨(lw_m3 (List.mem_of_getElem? (i := 212) rfl)), rfl⟩, ⟨(lw_m1 (List.mem_of_getElem? (i := 16) rfl)), rfl⟩, rfl, ⟨by decide +kernel, by decide +kernel⟩, Nat.le_of_ble_eq_true rfl⟩
set_option maxRecDepth 20000 in
theorem kS_X1_whomToAsk : inW (.static yX1_whomToAsk) := ⟨(lw_m3 (List.mem_of_getElem? (i := 211) rfl)), rfl⟩
theorem kN_X1_whomToAsk : (parseMethodDescriptor (yX1_whomToAsk).desc).map (fun d => d.parameters.length) = some 2 := by decide +kernel
set_option maxRecDepth 20000 in
theorem kE_X5_spare : okE eX5_spare := ⟨by decide +kernel, ⟨(lw_m3 (List.mem_of_getElem? (i := 217) rfl)), rfl⟩, ⟨(lw_m1 (List.mem_of_getElem? (i := 1) rfl)), rfl⟩, rfl, ⟨by decide +kernel, by decide +kernel⟩, Nat.le_of_ble_eq_true rfl⟩
set_option maxRecDepth 20000 in
theorem kI_X5_spare : inW (.instanceMethod yX5_spare) ∧ inW (.selects (yX5_spare).cls yX5_spare yX5_spare) := ⟨⟨(lw_m3 (List.mem_of_getElem? (i := 215) rfl)), rfl⟩, ⟨(lw_m3 (List.mem_of_getElem? (i := 216) rfl)), rfl⟩⟩
theorem kN_X5_spare : (parseMethodDescriptor (yX5_spare).desc).map (fun d => d.parameters.length) = some 0 := by decide +kernel
set_option maxRecDepth 20000 in
theorem kE_X2_fewestEnough : okE eX2_fewestEnough := ⟨by decide +kernel, ⟨(lw_m3 (List.mem_of_getElem? (i := 221) rfl)), rfl⟩, ⟨(lw_m1 (List.mem_of_getElem? (i := 4) rfl)), rfl⟩, rfl, ⟨by decide +kernel, by decide +kernel⟩, Nat.le_of_ble_eq_true rfl⟩
set_option maxRecDepth 20000 in
theorem kI_X2_fewestEnough : inW (.instanceMethod yX2_fewestEnough) ∧ inW (.selects (yX2_fewestEnough).cls yX2_fewestEnough yX2_fewestEnough) := ⟨⟨(lw_m3 (List.mem_of_getElem? (i := 219) rfl)), rfl⟩, ⟨(lw_m3 (List.mem_of_getElem? (i := 220) rfl)), rfl⟩⟩
theorem kN_X2_fewestEnough : (parseMethodDescriptor (yX2_fewestEnough).desc).map (fun d => d.parameters.length) = some 1 := by decide +kernel
set_option maxRecDepth 20000 in
theorem kE_X2_isEnough : okE eX2_isEnough := ⟨by decide +kernel, ⟨(lw_m3 (List.mem_of_getElem? (i := 227) rfl)), rfl⟩, ⟨(lw_m1 (List.mem_of_getElem? (i := 4) rfl)), rfl⟩, rfl, ⟨by decide +kernel, by decide +kernel⟩, Nat.le_of_ble_eq_true rfl⟩
set_option maxRecDepth 20000 in
theorem kI_X2_isEnough : inW (.instanceMethod yX2_isEnough) ∧ inW (.selects (yX2_isEnough).cls yX2_isEnough yX2_isEnough) := ⟨⟨(lw_m3 (List.mem_of_getElem? (i := 226) rfl)), rfl⟩, ⟨(lw_m0 (List.mem_of_getElem? (i := 15) rfl)), rfl⟩⟩
theorem kN_X2_isEnough : (parseMethodDescriptor (yX2_isEnough).desc).map (fun d => d.parameters.length) = some 2 := by decide +kernel
set_option maxRecDepth 20000 in
theorem kE_X5_slip : okE eX5_slip := ⟨by decide +kernel, ⟨(lw_m3 (List.mem_of_getElem? (i := 231) rfl)), rfl⟩, ⟨(lw_m1 (List.mem_of_getElem? (i := 1) rfl)), rfl⟩, rfl, ⟨by decide +kernel, by decide +kernel⟩, Nat.le_of_ble_eq_true rfl⟩
set_option maxRecDepth 20000 in
theorem kI_X5_slip : inW (.instanceMethod yX5_slip) ∧ inW (.selects (yX5_slip).cls yX5_slip yX5_slip) := ⟨⟨(lw_m3 (List.mem_of_getElem? (i := 229) rfl)), rfl⟩, ⟨(lw_m3 (List.mem_of_getElem? (i := 230) rfl)), rfl⟩⟩
theorem kN_X5_slip : (parseMethodDescriptor (yX5_slip).desc).map (fun d => d.parameters.length) = some 5 := by decide +kernel
set_option maxRecDepth 20000 in
theorem kE_X2_waysToOpen : okE eX2_waysToOpen := ⟨by decide +kernel, ⟨(lw_m3 (List.mem_of_getElem? (i := 236) rfl)), rfl⟩, ⟨(lw_m1 (List.mem_of_getElem? (i := 4) rfl)), rfl⟩, rfl, ⟨by decide +kernel, by decide +kernel⟩, Nat.le_of_ble_eq_true rfl⟩
set_option maxRecDepth 20000 in
theorem kI_X2_waysToOpen : inW (.instanceMethod yX2_waysToOpen) ∧ inW (.selects (yX2_waysToOpen).cls yX2_waysToOpen yX2_waysToOpen) := ⟨⟨(lw_m3 (List.mem_of_getElem? (i := 234) rfl)), rfl⟩, ⟨(lw_m3 (List.mem_of_getElem? (i := 235) rfl)), rfl⟩⟩
theorem kN_X2_waysToOpen : (parseMethodDescriptor (yX2_waysToOpen).desc).map (fun d => d.parameters.length) = some 5 := by decide +kernel
set_option maxRecDepth 20000 in
theorem kE_X2_lastCopyFits : okE eX2_lastCopyFits := ⟨by decide +kernel, ⟨(lw_m4 (List.mem_of_getElem? (i := 1) rfl)), rfl⟩, ⟨(lw_m1 (List.mem_of_getElem? (i := 4) rfl)), rfl⟩, rfl, ⟨by decide +kernel, by decide +kernel⟩, Nat.le_of_ble_eq_true rfl⟩
set_option maxRecDepth 20000 in
theorem kI_X2_lastCopyFits : inW (.instanceMethod yX2_lastCopyFits) ∧ inW (.selects (yX2_lastCopyFits).cls yX2_lastCopyFits yX2_lastCopyFits) := ⟨⟨(lw_m4 (List.mem_of_getElem? (i := 0) rfl)), rfl⟩, ⟨(lw_m0 (List.mem_of_getElem? (i := 16) rfl)), rfl⟩⟩
theorem kN_X2_lastCopyFits : (parseMethodDescriptor (yX2_lastCopyFits).desc).map (fun d => d.parameters.length) = some 5 := by decide +kernel
set_option maxRecDepth 20000 in
theorem kE_X5_power : okE eX5_power := ⟨by decide +kernel, ⟨(lw_m4 (List.mem_of_getElem? (i := 4) rfl)), rfl⟩, ⟨(lw_m1 (List.mem_of_getElem? (i := 1) rfl)), rfl⟩, rfl, ⟨by decide +kernel, by decide +kernel⟩, Nat.le_of_ble_eq_true rfl⟩
set_option maxRecDepth 20000 in
theorem kS_X5_power : inW (.static yX5_power) := ⟨(lw_m4 (List.mem_of_getElem? (i := 3) rfl)), rfl⟩
theorem kN_X5_power : (parseMethodDescriptor (yX5_power).desc).map (fun d => d.parameters.length) = some 2 := by decide +kernel
set_option maxRecDepth 20000 in
theorem kE_X5_greatestDivisor : okE eX5_greatestDivisor := ⟨by decide +kernel, ⟨(lw_m4 (List.mem_of_getElem? (i := 8) rfl)), rfl⟩, ⟨(lw_m1 (List.mem_of_getElem? (i := 1) rfl)), rfl⟩, rfl, ⟨by decide +kernel, by decide +kernel⟩, Nat.le_of_ble_eq_true rfl⟩
set_option maxRecDepth 20000 in
theorem kS_X5_greatestDivisor : inW (.static yX5_greatestDivisor) := ⟨(lw_m4 (List.mem_of_getElem? (i := 7) rfl)), rfl⟩
theorem kN_X5_greatestDivisor : (parseMethodDescriptor (yX5_greatestDivisor).desc).map (fun d => d.parameters.length) = some 2 := by decide +kernel
set_option maxRecDepth 20000 in
theorem kE_X5_two : okE eX5_two := ⟨by decide +kernel, ⟨(lw_m4 (List.mem_of_getElem? (i := 15) rfl)), rfl⟩, ⟨(lw_m1 (List.mem_of_getElem? (i := 1) rfl)), rfl⟩, rfl, ⟨by decide +kernel, by decide +kernel⟩, Nat.le_of_ble_eq_true rfl⟩
set_option maxRecDepth 20000 in
theorem kI_X5_two : inW (.instanceMethod yX5_two) ∧ inW (.selects (yX5_two).cls yX5_two yX5_two) := ⟨⟨(lw_m4 (List.mem_of_getElem? (i := 13) rfl)), rfl⟩, ⟨(lw_m4 (List.mem_of_getElem? (i := 14) rfl)), rfl⟩⟩
theorem kN_X5_two : (parseMethodDescriptor (yX5_two).desc).map (fun d => d.parameters.length) = some 2 := by decide +kernel
set_option maxRecDepth 20000 in
theorem kE_X2_steadyPair : okE eX2_steadyPair := ⟨by decide +kernel, ⟨(lw_m4 (List.mem_of_getElem? (i := 19) rfl)), rfl⟩, ⟨(lw_m1 (List.mem_of_getElem? (i := 4) rfl)), rfl⟩, rfl, ⟨by decide +kernel, by decide +kernel⟩, Nat.le_of_ble_eq_true rfl⟩
set_option maxRecDepth 20000 in
theorem kI_X2_steadyPair : inW (.instanceMethod yX2_steadyPair) ∧ inW (.selects (yX2_steadyPair).cls yX2_steadyPair yX2_steadyPair) := ⟨⟨(lw_m4 (List.mem_of_getElem? (i := 17) rfl)), rfl⟩, ⟨(lw_m4 (List.mem_of_getElem? (i := 18) rfl)), rfl⟩⟩
theorem kN_X2_steadyPair : (parseMethodDescriptor (yX2_steadyPair).desc).map (fun d => d.parameters.length) = some 3 := by decide +kernel
set_option maxRecDepth 20000 in
theorem kE_X2_isSteady : okE eX2_isSteady := ⟨by decide +kernel, ⟨(lw_m4 (List.mem_of_getElem? (i := 23) rfl)), rfl⟩, ⟨(lw_m1 (List.mem_of_getElem? (i := 4) rfl)), rfl⟩, rfl, ⟨by decide +kernel, by decide +kernel⟩, Nat.le_of_ble_eq_true rfl⟩
set_option maxRecDepth 20000 in
theorem kI_X2_isSteady : inW (.instanceMethod yX2_isSteady) ∧ inW (.selects (yX2_isSteady).cls yX2_isSteady yX2_isSteady) := ⟨⟨(lw_m4 (List.mem_of_getElem? (i := 22) rfl)), rfl⟩, ⟨(lw_m0 (List.mem_of_getElem? (i := 17) rfl)), rfl⟩⟩
theorem kN_X2_isSteady : (parseMethodDescriptor (yX2_isSteady).desc).map (fun d => d.parameters.length) = some 5 := by decide +kernel
set_option maxRecDepth 20000 in
theorem kE_X2_cutTwice : okE eX2_cutTwice := ⟨by decide +kernel, ⟨(lw_m4 (List.mem_of_getElem? (i := 27) rfl)), rfl⟩, ⟨(lw_m1 (List.mem_of_getElem? (i := 4) rfl)), rfl⟩, rfl, ⟨by decide +kernel, by decide +kernel⟩, Nat.le_of_ble_eq_true rfl⟩
set_option maxRecDepth 20000 in
theorem kI_X2_cutTwice : inW (.instanceMethod yX2_cutTwice) ∧ inW (.selects (yX2_cutTwice).cls yX2_cutTwice yX2_cutTwice) := ⟨⟨(lw_m4 (List.mem_of_getElem? (i := 26) rfl)), rfl⟩, ⟨(lw_m0 (List.mem_of_getElem? (i := 18) rfl)), rfl⟩⟩
theorem kN_X2_cutTwice : (parseMethodDescriptor (yX2_cutTwice).desc).map (fun d => d.parameters.length) = some 5 := by decide +kernel
set_option maxRecDepth 20000 in
theorem kE_X5_which : okE eX5_which := ⟨by decide +kernel, ⟨(lw_m4 (List.mem_of_getElem? (i := 32) rfl)), rfl⟩, ⟨(lw_m1 (List.mem_of_getElem? (i := 1) rfl)), rfl⟩, rfl, ⟨by decide +kernel, by decide +kernel⟩, Nat.le_of_ble_eq_true rfl⟩
set_option maxRecDepth 20000 in
theorem kI_X5_which : inW (.instanceMethod yX5_which) ∧ inW (.selects (yX5_which).cls yX5_which yX5_which) := ⟨⟨(lw_m4 (List.mem_of_getElem? (i := 30) rfl)), rfl⟩, ⟨(lw_m4 (List.mem_of_getElem? (i := 31) rfl)), rfl⟩⟩
theorem kN_X5_which : (parseMethodDescriptor (yX5_which).desc).map (fun d => d.parameters.length) = some 3 := by decide +kernel
set_option maxRecDepth 20000 in
theorem kE_X2_machinesThatCut : okE eX2_machinesThatCut := ⟨by decide +kernel, ⟨(lw_m4 (List.mem_of_getElem? (i := 36) rfl)), rfl⟩, ⟨(lw_m1 (List.mem_of_getElem? (i := 4) rfl)), rfl⟩, rfl, ⟨by decide +kernel, by decide +kernel⟩, Nat.le_of_ble_eq_true rfl⟩
set_option maxRecDepth 20000 in
theorem kI_X2_machinesThatCut : inW (.instanceMethod yX2_machinesThatCut) ∧ inW (.selects (yX2_machinesThatCut).cls yX2_machinesThatCut yX2_machinesThatCut) := ⟨⟨(lw_m4 (List.mem_of_getElem? (i := 34) rfl)), rfl⟩, ⟨(lw_m4 (List.mem_of_getElem? (i := 35) rfl)), rfl⟩⟩
theorem kN_X2_machinesThatCut : (parseMethodDescriptor (yX2_machinesThatCut).desc).map (fun d => d.parameters.length) = some 3 := by decide +kernel
set_option maxRecDepth 20000 in
theorem kE_X2_cutsSo : okE eX2_cutsSo := ⟨by decide +kernel, ⟨(lw_m4 (List.mem_of_getElem? (i := 40) rfl)), rfl⟩, ⟨(lw_m1 (List.mem_of_getElem? (i := 4) rfl)), rfl⟩, rfl, ⟨by decide +kernel, by decide +kernel⟩, Nat.le_of_ble_eq_true rfl⟩
set_option maxRecDepth 20000 in
theorem kI_X2_cutsSo : inW (.instanceMethod yX2_cutsSo) ∧ inW (.selects (yX2_cutsSo).cls yX2_cutsSo yX2_cutsSo) := ⟨⟨(lw_m4 (List.mem_of_getElem? (i := 39) rfl)), rfl⟩, ⟨(lw_m0 (List.mem_of_getElem? (i := 19) rfl)), rfl⟩⟩
theorem kN_X2_cutsSo : (parseMethodDescriptor (yX2_cutsSo).desc).map (fun d => d.parameters.length) = some 5 := by decide +kernel
set_option maxRecDepth 20000 in
theorem kE_X2_kindsThatCut : okE eX2_kindsThatCut := ⟨by decide +kernel, ⟨(lw_m4 (List.mem_of_getElem? (i := 44) rfl)), rfl⟩, ⟨(lw_m1 (List.mem_of_getElem? (i := 4) rfl)), rfl⟩, rfl, ⟨by decide +kernel, by decide +kernel⟩, Nat.le_of_ble_eq_true rfl⟩
set_option maxRecDepth 20000 in
theorem kI_X2_kindsThatCut : inW (.instanceMethod yX2_kindsThatCut) ∧ inW (.selects (yX2_kindsThatCut).cls yX2_kindsThatCut yX2_kindsThatCut) := ⟨⟨(lw_m4 (List.mem_of_getElem? (i := 42) rfl)), rfl⟩, ⟨(lw_m4 (List.mem_of_getElem? (i := 43) rfl)), rfl⟩⟩
theorem kN_X2_kindsThatCut : (parseMethodDescriptor (yX2_kindsThatCut).desc).map (fun d => d.parameters.length) = some 4 := by decide +kernel
set_option maxRecDepth 20000 in
theorem kE_X5_row : okE eX5_row := ⟨by decide +kernel, ⟨(lw_m4 (List.mem_of_getElem? (i := 48) rfl)), rfl⟩, ⟨(lw_m1 (List.mem_of_getElem? (i := 1) rfl)), rfl⟩, rfl, ⟨by decide +kernel, by decide +kernel⟩, Nat.le_of_ble_eq_true rfl⟩
set_option maxRecDepth 20000 in
theorem kI_X5_row : inW (.instanceMethod yX5_row) ∧ inW (.selects (yX5_row).cls yX5_row yX5_row) := ⟨⟨(lw_m4 (List.mem_of_getElem? (i := 46) rfl)), rfl⟩, ⟨(lw_m4 (List.mem_of_getElem? (i := 47) rfl)), rfl⟩⟩
theorem kN_X5_row : (parseMethodDescriptor (yX5_row).desc).map (fun d => d.parameters.length) = some 1 := by decide +kernel
set_option maxRecDepth 20000 in
theorem kE_X5_judge : okE eX5_judge := ⟨by decide +kernel, ⟨(lw_m4 (List.mem_of_getElem? (i := 52) rfl)), rfl⟩, ⟨(lw_m1 (List.mem_of_getElem? (i := 1) rfl)), rfl⟩, rfl, ⟨by decide +kernel, by decide +kernel⟩, Nat.le_of_ble_eq_true rfl⟩
set_option maxRecDepth 20000 in
theorem kI_X5_judge : inW (.instanceMethod yX5_judge) ∧ inW (.selects (yX5_judge).cls yX5_judge yX5_judge) := ⟨⟨(lw_m4 (List.mem_of_getElem? (i := 50) rfl)), rfl⟩, ⟨(lw_m4 (List.mem_of_getElem? (i := 51) rfl)), rfl⟩⟩
theorem kN_X5_judge : (parseMethodDescriptor (yX5_judge).desc).map (fun d => d.parameters.length) = some 1 := by decide +kernel
set_option maxRecDepth 20000 in
theorem kE_X5_firstToldWrong : okE eX5_firstToldWrong := ⟨by decide +kernel, ⟨(lw_m4 (List.mem_of_getElem? (i := 56) rfl)), rfl⟩, ⟨(lw_m1 (List.mem_of_getElem? (i := 1) rfl)), rfl⟩, rfl, ⟨by decide +kernel, by decide +kernel⟩, Nat.le_of_ble_eq_true rfl⟩
set_option maxRecDepth 20000 in
theorem kI_X5_firstToldWrong : inW (.instanceMethod yX5_firstToldWrong) ∧ inW (.selects (yX5_firstToldWrong).cls yX5_firstToldWrong yX5_firstToldWrong) := ⟨⟨(lw_m4 (List.mem_of_getElem? (i := 55) rfl)), rfl⟩, ⟨(lw_m0 (List.mem_of_getElem? (i := 20) rfl)), rfl⟩⟩
theorem kN_X5_firstToldWrong : (parseMethodDescriptor (yX5_firstToldWrong).desc).map (fun d => d.parameters.length) = some 1 := by decide +kernel
set_option maxRecDepth 20000 in
theorem kE_X5_clear : okE eX5_clear := ⟨by decide +kernel, ⟨(lw_m4 (List.mem_of_getElem? (i := 60) rfl)), rfl⟩, ⟨(lw_m1 (List.mem_of_getElem? (i := 1) rfl)), rfl⟩, rfl, ⟨by decide +kernel, by decide +kernel⟩, Nat.le_of_ble_eq_true rfl⟩
set_option maxRecDepth 20000 in
theorem kI_X5_clear : inW (.instanceMethod yX5_clear) ∧ inW (.selects (yX5_clear).cls yX5_clear yX5_clear) := ⟨⟨(lw_m4 (List.mem_of_getElem? (i := 58) rfl)), rfl⟩, ⟨(lw_m4 (List.mem_of_getElem? (i := 59) rfl)), rfl⟩⟩
theorem kN_X5_clear : (parseMethodDescriptor (yX5_clear).desc).map (fun d => d.parameters.length) = some 0 := by decide +kernel
set_option maxRecDepth 20000 in
theorem kE_X5_lots : okE eX5_lots := ⟨by decide +kernel, ⟨(lw_m4 (List.mem_of_getElem? (i := 64) rfl)), rfl⟩, ⟨(lw_m1 (List.mem_of_getElem? (i := 1) rfl)), rfl⟩, rfl, ⟨by decide +kernel, by decide +kernel⟩, Nat.le_of_ble_eq_true rfl⟩
set_option maxRecDepth 20000 in
theorem kI_X5_lots : inW (.instanceMethod yX5_lots) ∧ inW (.selects (yX5_lots).cls yX5_lots yX5_lots) := ⟨⟨(lw_m4 (List.mem_of_getElem? (i := 62) rfl)), rfl⟩, ⟨(lw_m4 (List.mem_of_getElem? (i := 63) rfl)), rfl⟩⟩
theorem kN_X5_lots : (parseMethodDescriptor (yX5_lots).desc).map (fun d => d.parameters.length) = some 3 := by decide +kernel
set_option maxRecDepth 20000 in
theorem kE_X2_drawLots : okE eX2_drawLots := ⟨by decide +kernel, ⟨(lw_m4 (List.mem_of_getElem? (i := 68) rfl)), rfl⟩, ⟨(lw_m1 (List.mem_of_getElem? (i := 4) rfl)), rfl⟩, rfl, ⟨by decide +kernel, by decide +kernel⟩, Nat.le_of_ble_eq_true rfl⟩
set_option maxRecDepth 20000 in
theorem kI_X2_drawLots : inW (.instanceMethod yX2_drawLots) ∧ inW (.selects (yX2_drawLots).cls yX2_drawLots yX2_drawLots) := ⟨⟨(lw_m4 (List.mem_of_getElem? (i := 66) rfl)), rfl⟩, ⟨(lw_m4 (List.mem_of_getElem? (i := 67) rfl)), rfl⟩⟩
theorem kN_X2_drawLots : (parseMethodDescriptor (yX2_drawLots).desc).map (fun d => d.parameters.length) = some 4 := by decide +kernel
set_option maxRecDepth 20000 in
theorem kE_X2_drawBelow : okE eX2_drawBelow := ⟨by decide +kernel, ⟨(lw_m4 (List.mem_of_getElem? (i := 72) rfl)), rfl⟩, ⟨(lw_m1 (List.mem_of_getElem? (i := 4) rfl)), rfl⟩, rfl, ⟨by decide +kernel, by decide +kernel⟩, Nat.le_of_ble_eq_true rfl⟩
set_option maxRecDepth 20000 in
theorem kI_X2_drawBelow : inW (.instanceMethod yX2_drawBelow) ∧ inW (.selects (yX2_drawBelow).cls yX2_drawBelow yX2_drawBelow) := ⟨⟨(lw_m4 (List.mem_of_getElem? (i := 71) rfl)), rfl⟩, ⟨(lw_m0 (List.mem_of_getElem? (i := 21) rfl)), rfl⟩⟩
theorem kN_X2_drawBelow : (parseMethodDescriptor (yX2_drawBelow).desc).map (fun d => d.parameters.length) = some 1 := by decide +kernel
set_option maxRecDepth 20000 in
theorem kE_X5_image : okE eX5_image := ⟨by decide +kernel, ⟨(lw_m4 (List.mem_of_getElem? (i := 79) rfl)), rfl⟩, ⟨(lw_m1 (List.mem_of_getElem? (i := 1) rfl)), rfl⟩, rfl, ⟨by decide +kernel, by decide +kernel⟩, Nat.le_of_ble_eq_true rfl⟩
set_option maxRecDepth 20000 in
theorem kI_X5_image : inW (.instanceMethod yX5_image) ∧ inW (.selects (yX5_image).cls yX5_image yX5_image) := ⟨⟨(lw_m4 (List.mem_of_getElem? (i := 77) rfl)), rfl⟩, ⟨(lw_m4 (List.mem_of_getElem? (i := 78) rfl)), rfl⟩⟩
theorem kN_X5_image : (parseMethodDescriptor (yX5_image).desc).map (fun d => d.parameters.length) = some 0 := by decide +kernel
set_option maxRecDepth 20000 in
theorem kE_X5_on : okE eX5_on := ⟨by decide +kernel, ⟨(lw_m4 (List.mem_of_getElem? (i := 83) rfl)), rfl⟩, ⟨(lw_m1 (List.mem_of_getElem? (i := 1) rfl)), rfl⟩, rfl, ⟨by decide +kernel, by decide +kernel⟩, Nat.le_of_ble_eq_true rfl⟩
set_option maxRecDepth 20000 in
theorem kI_X5_on : inW (.instanceMethod yX5_on) ∧ inW (.selects (yX5_on).cls yX5_on yX5_on) := ⟨⟨(lw_m4 (List.mem_of_getElem? (i := 81) rfl)), rfl⟩, ⟨(lw_m4 (List.mem_of_getElem? (i := 82) rfl)), rfl⟩⟩
theorem kN_X5_on : (parseMethodDescriptor (yX5_on).desc).map (fun d => d.parameters.length) = some 0 := by decide +kernel
set_option maxRecDepth 20000 in
theorem kE_X5_count : okE eX5_count := ⟨by decide +kernel, ⟨(lw_m4 (List.mem_of_getElem? (i := 87) rfl)), rfl⟩, ⟨(lw_m1 (List.mem_of_getElem? (i := 1) rfl)), rfl⟩, rfl, ⟨by decide +kernel, by decide +kernel⟩, Nat.le_of_ble_eq_true rfl⟩
set_option maxRecDepth 20000 in
theorem kI_X5_count : inW (.instanceMethod yX5_count) ∧ inW (.selects (yX5_count).cls yX5_count yX5_count) := ⟨⟨(lw_m4 (List.mem_of_getElem? (i := 85) rfl)), rfl⟩, ⟨(lw_m4 (List.mem_of_getElem? (i := 86) rfl)), rfl⟩⟩
theorem kN_X5_count : (parseMethodDescriptor (yX5_count).desc).map (fun d => d.parameters.length) = some 1 := by decide +kernel
set_option maxRecDepth 20000 in
theorem kE_X4_size : okE eX4_size := ⟨by decide +kernel, ⟨(lw_m4 (List.mem_of_getElem? (i := 91) rfl)), rfl⟩, ⟨(lw_m1 (List.mem_of_getElem? (i := 5) rfl)), rfl⟩, rfl, ⟨by decide +kernel, by decide +kernel⟩, Nat.le_of_ble_eq_true rfl⟩
set_option maxRecDepth 20000 in
theorem kI_X4_size : inW (.instanceMethod yX4_size) ∧ inW (.selects (yX4_size).cls yX4_size yX4_size) := ⟨⟨(lw_m4 (List.mem_of_getElem? (i := 89) rfl)), rfl⟩, ⟨(lw_m4 (List.mem_of_getElem? (i := 90) rfl)), rfl⟩⟩
theorem kN_X4_size : (parseMethodDescriptor (yX4_size).desc).map (fun d => d.parameters.length) = some 0 := by decide +kernel
set_option maxRecDepth 20000 in
theorem kE_X6_letter : okE eX6_letter := ⟨by decide +kernel, ⟨(lw_m4 (List.mem_of_getElem? (i := 141) rfl)), rfl⟩, ⟨(lw_m1 (List.mem_of_getElem? (i := 6) rfl)), rfl⟩, rfl, ⟨by decide +kernel, by decide +kernel⟩, Nat.le_of_ble_eq_true rfl⟩
set_option maxRecDepth 20000 in
theorem kI_X6_letter : inW (.instanceMethod yX6_letter) ∧ inW (.selects (yX6_letter).cls yX6_letter yX6_letter) := ⟨⟨(lw_m4 (List.mem_of_getElem? (i := 139) rfl)), rfl⟩, ⟨(lw_m4 (List.mem_of_getElem? (i := 140) rfl)), rfl⟩⟩
theorem kN_X6_letter : (parseMethodDescriptor (yX6_letter).desc).map (fun d => d.parameters.length) = some 1 := by decide +kernel
set_option maxRecDepth 20000 in
theorem kE_X6_no : okE eX6_no := ⟨by decide +kernel, ⟨(lw_m4 (List.mem_of_getElem? (i := 145) rfl)), rfl⟩, ⟨(lw_m1 (List.mem_of_getElem? (i := 6) rfl)), rfl⟩, rfl, ⟨by decide +kernel, by decide +kernel⟩, Nat.le_of_ble_eq_true rfl⟩
set_option maxRecDepth 20000 in
theorem kI_X6_no : inW (.instanceMethod yX6_no) ∧ inW (.selects (yX6_no).cls yX6_no yX6_no) := ⟨⟨(lw_m4 (List.mem_of_getElem? (i := 144) rfl)), rfl⟩, ⟨(lw_m0 (List.mem_of_getElem? (i := 22) rfl)), rfl⟩⟩
theorem kN_X6_no : (parseMethodDescriptor (yX6_no).desc).map (fun d => d.parameters.length) = some 1 := by decide +kernel
set_option maxRecDepth 20000 in
theorem kE_X6_lock : okE eX6_lock := ⟨by decide +kernel, ⟨(lw_m4 (List.mem_of_getElem? (i := 149) rfl)), rfl⟩, ⟨(lw_m1 (List.mem_of_getElem? (i := 6) rfl)), rfl⟩, rfl, ⟨by decide +kernel, by decide +kernel⟩, Nat.le_of_ble_eq_true rfl⟩
set_option maxRecDepth 20000 in
theorem kI_X6_lock : inW (.instanceMethod yX6_lock) ∧ inW (.selects (yX6_lock).cls yX6_lock yX6_lock) := ⟨⟨(lw_m4 (List.mem_of_getElem? (i := 147) rfl)), rfl⟩, ⟨(lw_m4 (List.mem_of_getElem? (i := 148) rfl)), rfl⟩⟩
theorem kN_X6_lock : (parseMethodDescriptor (yX6_lock).desc).map (fun d => d.parameters.length) = some 0 := by decide +kernel
set_option maxRecDepth 20000 in
theorem kE_X6_readsStatement : okE eX6_readsStatement := ⟨by decide +kernel, ⟨(lw_m4 (List.mem_of_getElem? (i := 153) rfl)), rfl⟩, ⟨(lw_m1 (List.mem_of_getElem? (i := 6) rfl)), rfl⟩, rfl, ⟨by decide +kernel, by decide +kernel⟩, Nat.le_of_ble_eq_true rfl⟩
set_option maxRecDepth 20000 in
theorem kI_X6_readsStatement : inW (.instanceMethod yX6_readsStatement) ∧ inW (.selects (yX6_readsStatement).cls yX6_readsStatement yX6_readsStatement) := ⟨⟨(lw_m4 (List.mem_of_getElem? (i := 152) rfl)), rfl⟩, ⟨(lw_m0 (List.mem_of_getElem? (i := 23) rfl)), rfl⟩⟩
theorem kN_X6_readsStatement : (parseMethodDescriptor (yX6_readsStatement).desc).map (fun d => d.parameters.length) = some 0 := by decide +kernel
set_option maxRecDepth 20000 in
theorem kE_X6_here : okE eX6_here := ⟨by decide +kernel, ⟨(lw_m4 (List.mem_of_getElem? (i := 157) rfl)), rfl⟩, ⟨(lw_m1 (List.mem_of_getElem? (i := 6) rfl)), rfl⟩, rfl, ⟨by decide +kernel, by decide +kernel⟩, Nat.le_of_ble_eq_true rfl⟩
set_option maxRecDepth 20000 in
theorem kI_X6_here : inW (.instanceMethod yX6_here) ∧ inW (.selects (yX6_here).cls yX6_here yX6_here) := ⟨⟨(lw_m4 (List.mem_of_getElem? (i := 156) rfl)), rfl⟩, ⟨(lw_m0 (List.mem_of_getElem? (i := 24) rfl)), rfl⟩⟩
theorem kN_X6_here : (parseMethodDescriptor (yX6_here).desc).map (fun d => d.parameters.length) = some 0 := by decide +kernel
set_option maxRecDepth 20000 in
theorem kE_X6_readsFive : okE eX6_readsFive := ⟨by decide +kernel, ⟨(lw_m4 (List.mem_of_getElem? (i := 161) rfl)), rfl⟩, ⟨(lw_m1 (List.mem_of_getElem? (i := 6) rfl)), rfl⟩, rfl, ⟨by decide +kernel, by decide +kernel⟩, Nat.le_of_ble_eq_true rfl⟩
set_option maxRecDepth 20000 in
theorem kI_X6_readsFive : inW (.instanceMethod yX6_readsFive) ∧ inW (.selects (yX6_readsFive).cls yX6_readsFive yX6_readsFive) := ⟨⟨(lw_m4 (List.mem_of_getElem? (i := 160) rfl)), rfl⟩, ⟨(lw_m0 (List.mem_of_getElem? (i := 25) rfl)), rfl⟩⟩
theorem kN_X6_readsFive : (parseMethodDescriptor (yX6_readsFive).desc).map (fun d => d.parameters.length) = some 0 := by decide +kernel
set_option maxRecDepth 20000 in
theorem kE_X6_readsNumber : okE eX6_readsNumber := ⟨by decide +kernel, ⟨(lw_m4 (List.mem_of_getElem? (i := 165) rfl)), rfl⟩, ⟨(lw_m1 (List.mem_of_getElem? (i := 6) rfl)), rfl⟩, rfl, ⟨by decide +kernel, by decide +kernel⟩, Nat.le_of_ble_eq_true rfl⟩
set_option maxRecDepth 20000 in
theorem kI_X6_readsNumber : inW (.instanceMethod yX6_readsNumber) ∧ inW (.selects (yX6_readsNumber).cls yX6_readsNumber yX6_readsNumber) := ⟨⟨(lw_m4 (List.mem_of_getElem? (i := 164) rfl)), rfl⟩, ⟨(lw_m0 (List.mem_of_getElem? (i := 26) rfl)), rfl⟩⟩
theorem kN_X6_readsNumber : (parseMethodDescriptor (yX6_readsNumber).desc).map (fun d => d.parameters.length) = some 2 := by decide +kernel
set_option maxRecDepth 20000 in
theorem kE_X6_isIn : okE eX6_isIn := ⟨by decide +kernel, ⟨(lw_m4 (List.mem_of_getElem? (i := 168) rfl)), rfl⟩, ⟨(lw_m1 (List.mem_of_getElem? (i := 6) rfl)), rfl⟩, rfl, ⟨by decide +kernel, by decide +kernel⟩, Nat.le_of_ble_eq_true rfl⟩
set_option maxRecDepth 20000 in
theorem kS_X6_isIn : inW (.static yX6_isIn) := ⟨(lw_m4 (List.mem_of_getElem? (i := 167) rfl)), rfl⟩
theorem kN_X6_isIn : (parseMethodDescriptor (yX6_isIn).desc).map (fun d => d.parameters.length) = some 3 := by decide +kernel
set_option maxRecDepth 20000 in
theorem kE_X6_readsKind : okE eX6_readsKind := ⟨by decide +kernel, ⟨(lw_m4 (List.mem_of_getElem? (i := 172) rfl)), rfl⟩, ⟨(lw_m1 (List.mem_of_getElem? (i := 6) rfl)), rfl⟩, rfl, ⟨by decide +kernel, by decide +kernel⟩, Nat.le_of_ble_eq_true rfl⟩
set_option maxRecDepth 20000 in
theorem kI_X6_readsKind : inW (.instanceMethod yX6_readsKind) ∧ inW (.selects (yX6_readsKind).cls yX6_readsKind yX6_readsKind) := ⟨⟨(lw_m4 (List.mem_of_getElem? (i := 171) rfl)), rfl⟩, ⟨(lw_m0 (List.mem_of_getElem? (i := 27) rfl)), rfl⟩⟩
theorem kN_X6_readsKind : (parseMethodDescriptor (yX6_readsKind).desc).map (fun d => d.parameters.length) = some 0 := by decide +kernel
set_option maxRecDepth 20000 in
theorem kE_X6_kindBy : okE eX6_kindBy := ⟨by decide +kernel, ⟨(lw_m4 (List.mem_of_getElem? (i := 175) rfl)), rfl⟩, ⟨(lw_m1 (List.mem_of_getElem? (i := 6) rfl)), rfl⟩, rfl, ⟨by decide +kernel, by decide +kernel⟩, Nat.le_of_ble_eq_true rfl⟩
set_option maxRecDepth 20000 in
theorem kS_X6_kindBy : inW (.static yX6_kindBy) := ⟨(lw_m4 (List.mem_of_getElem? (i := 174) rfl)), rfl⟩
theorem kN_X6_kindBy : (parseMethodDescriptor (yX6_kindBy).desc).map (fun d => d.parameters.length) = some 1 := by decide +kernel
set_option maxRecDepth 20000 in
theorem kE_X6_lays : okE eX6_lays := ⟨by decide +kernel, ⟨(lw_m4 (List.mem_of_getElem? (i := 178) rfl)), rfl⟩, ⟨(lw_m1 (List.mem_of_getElem? (i := 6) rfl)), rfl⟩, rfl, ⟨by decide +kernel, by decide +kernel⟩, Nat.le_of_ble_eq_true rfl⟩
set_option maxRecDepth 20000 in
theorem kS_X6_lays : inW (.static yX6_lays) := ⟨(lw_m4 (List.mem_of_getElem? (i := 177) rfl)), rfl⟩
theorem kN_X6_lays : (parseMethodDescriptor (yX6_lays).desc).map (fun d => d.parameters.length) = some 2 := by decide +kernel
set_option maxRecDepth 20000 in
theorem kE_X6_isDone : okE eX6_isDone := ⟨by decide +kernel, ⟨(lw_m4 (List.mem_of_getElem? (i := 182) rfl)), rfl⟩, ⟨(lw_m1 (List.mem_of_getElem? (i := 6) rfl)), rfl⟩, rfl, ⟨by decide +kernel, by decide +kernel⟩, Nat.le_of_ble_eq_true rfl⟩
set_option maxRecDepth 20000 in
theorem kI_X6_isDone : inW (.instanceMethod yX6_isDone) ∧ inW (.selects (yX6_isDone).cls yX6_isDone yX6_isDone) := ⟨⟨(lw_m4 (List.mem_of_getElem? (i := 181) rfl)), rfl⟩, ⟨(lw_m0 (List.mem_of_getElem? (i := 28) rfl)), rfl⟩⟩
theorem kN_X6_isDone : (parseMethodDescriptor (yX6_isDone).desc).map (fun d => d.parameters.length) = some 1 := by decide +kernel
set_option maxRecDepth 20000 in
theorem kE_X6_of : okE eX6_of := ⟨by decide +kernel, ⟨(lw_m4 (List.mem_of_getElem? (i := 185) rfl)), rfl⟩, ⟨(lw_m1 (List.mem_of_getElem? (i := 6) rfl)), rfl⟩, rfl, ⟨by decide +kernel, by decide +kernel⟩, Nat.le_of_ble_eq_true rfl⟩
set_option maxRecDepth 20000 in
theorem kS_X6_of : inW (.static yX6_of) := ⟨(lw_m4 (List.mem_of_getElem? (i := 184) rfl)), rfl⟩
theorem kN_X6_of : (parseMethodDescriptor (yX6_of).desc).map (fun d => d.parameters.length) = some 2 := by decide +kernel
set_option maxRecDepth 20000 in
theorem kE_X6_isKey : okE eX6_isKey := ⟨by decide +kernel, ⟨(lw_m4 (List.mem_of_getElem? (i := 189) rfl)), rfl⟩, ⟨(lw_m1 (List.mem_of_getElem? (i := 6) rfl)), rfl⟩, rfl, ⟨by decide +kernel, by decide +kernel⟩, Nat.le_of_ble_eq_true rfl⟩
set_option maxRecDepth 20000 in
theorem kI_X6_isKey : inW (.instanceMethod yX6_isKey) ∧ inW (.selects (yX6_isKey).cls yX6_isKey yX6_isKey) := ⟨⟨(lw_m4 (List.mem_of_getElem? (i := 188) rfl)), rfl⟩, ⟨(lw_m0 (List.mem_of_getElem? (i := 29) rfl)), rfl⟩⟩
theorem kN_X6_isKey : (parseMethodDescriptor (yX6_isKey).desc).map (fun d => d.parameters.length) = some 1 := by decide +kernel
set_option maxRecDepth 20000 in
theorem kE_X6_isSnapped : okE eX6_isSnapped := ⟨by decide +kernel, ⟨(lw_m4 (List.mem_of_getElem? (i := 193) rfl)), rfl⟩, ⟨(lw_m1 (List.mem_of_getElem? (i := 6) rfl)), rfl⟩, rfl, ⟨by decide +kernel, by decide +kernel⟩, Nat.le_of_ble_eq_true rfl⟩
set_option maxRecDepth 20000 in
theorem kI_X6_isSnapped : inW (.instanceMethod yX6_isSnapped) ∧ inW (.selects (yX6_isSnapped).cls yX6_isSnapped yX6_isSnapped) := ⟨⟨(lw_m4 (List.mem_of_getElem? (i := 192) rfl)), rfl⟩, ⟨(lw_m0 (List.mem_of_getElem? (i := 30) rfl)), rfl⟩⟩
theorem kN_X6_isSnapped : (parseMethodDescriptor (yX6_isSnapped).desc).map (fun d => d.parameters.length) = some 1 := by decide +kernel
set_option maxRecDepth 20000 in
theorem kE_X6_isMachine : okE eX6_isMachine := ⟨by decide +kernel, ⟨(lw_m4 (List.mem_of_getElem? (i := 197) rfl)), rfl⟩, ⟨(lw_m1 (List.mem_of_getElem? (i := 6) rfl)), rfl⟩, rfl, ⟨by decide +kernel, by decide +kernel⟩, Nat.le_of_ble_eq_true rfl⟩
set_option maxRecDepth 20000 in
theorem kI_X6_isMachine : inW (.instanceMethod yX6_isMachine) ∧ inW (.selects (yX6_isMachine).cls yX6_isMachine yX6_isMachine) := ⟨⟨(lw_m4 (List.mem_of_getElem? (i := 196) rfl)), rfl⟩, ⟨(lw_m0 (List.mem_of_getElem? (i := 31) rfl)), rfl⟩⟩
theorem kN_X6_isMachine : (parseMethodDescriptor (yX6_isMachine).desc).map (fun d => d.parameters.length) = some 1 := by decide +kernel
set_option maxRecDepth 20000 in
theorem kE_X6_cuts : okE eX6_cuts := ⟨by decide +kernel, ⟨(lw_m4 (List.mem_of_getElem? (i := 201) rfl)), rfl⟩, ⟨(lw_m1 (List.mem_of_getElem? (i := 6) rfl)), rfl⟩, rfl, ⟨by decide +kernel, by decide +kernel⟩, Nat.le_of_ble_eq_true rfl⟩
set_option maxRecDepth 20000 in
theorem kI_X6_cuts : inW (.instanceMethod yX6_cuts) ∧ inW (.selects (yX6_cuts).cls yX6_cuts yX6_cuts) := ⟨⟨(lw_m4 (List.mem_of_getElem? (i := 200) rfl)), rfl⟩, ⟨(lw_m0 (List.mem_of_getElem? (i := 32) rfl)), rfl⟩⟩
theorem kN_X6_cuts : (parseMethodDescriptor (yX6_cuts).desc).map (fun d => d.parameters.length) = some 2 := by decide +kernel
set_option maxRecDepth 20000 in
theorem kE_X6_takes : okE eX6_takes := ⟨by decide +kernel, ⟨(lw_m4 (List.mem_of_getElem? (i := 205) rfl)), rfl⟩, ⟨(lw_m1 (List.mem_of_getElem? (i := 6) rfl)), rfl⟩, rfl, ⟨by decide +kernel, by decide +kernel⟩, Nat.le_of_ble_eq_true rfl⟩
set_option maxRecDepth 20000 in
theorem kI_X6_takes : inW (.instanceMethod yX6_takes) ∧ inW (.selects (yX6_takes).cls yX6_takes yX6_takes) := ⟨⟨(lw_m4 (List.mem_of_getElem? (i := 204) rfl)), rfl⟩, ⟨(lw_m0 (List.mem_of_getElem? (i := 33) rfl)), rfl⟩⟩
theorem kN_X6_takes : (parseMethodDescriptor (yX6_takes).desc).map (fun d => d.parameters.length) = some 1 := by decide +kernel
set_option maxRecDepth 20000 in
theorem kE_X6_cutsBy : okE eX6_cutsBy := ⟨by decide +kernel, ⟨(lw_m4 (List.mem_of_getElem? (i := 209) rfl)), rfl⟩, ⟨(lw_m1 (List.mem_of_getElem? (i := 6) rfl)), rfl⟩, rfl, ⟨by decide +kernel, by decide +kernel⟩, Nat.le_of_ble_eq_true rfl⟩
set_option maxRecDepth 20000 in
theorem kI_X6_cutsBy : inW (.instanceMethod yX6_cutsBy) ∧ inW (.selects (yX6_cutsBy).cls yX6_cutsBy yX6_cutsBy) := ⟨⟨(lw_m4 (List.mem_of_getElem? (i := 208) rfl)), rfl⟩, ⟨(lw_m0 (List.mem_of_getElem? (i := 34) rfl)), rfl⟩⟩
theorem kN_X6_cutsBy : (parseMethodDescriptor (yX6_cutsBy).desc).map (fun d => d.parameters.length) = some 2 := by decide +kernel
set_option maxRecDepth 20000 in
theorem kE_X6_cutsIn : okE eX6_cutsIn := ⟨by decide +kernel, ⟨(lw_m4 (List.mem_of_getElem? (i := 213) rfl)), rfl⟩, ⟨(lw_m1 (List.mem_of_getElem? (i := 6) rfl)), rfl⟩, rfl, ⟨by decide +kernel, by decide +kernel⟩, Nat.le_of_ble_eq_true rfl⟩
set_option maxRecDepth 20000 in
theorem kI_X6_cutsIn : inW (.instanceMethod yX6_cutsIn) ∧ inW (.selects (yX6_cutsIn).cls yX6_cutsIn yX6_cutsIn) := ⟨⟨(lw_m4 (List.mem_of_getElem? (i := 212) rfl)), rfl⟩, ⟨(lw_m0 (List.mem_of_getElem? (i := 35) rfl)), rfl⟩⟩
theorem kN_X6_cutsIn : (parseMethodDescriptor (yX6_cutsIn).desc).map (fun d => d.parameters.length) = some 2 := by decide +kernel
set_option maxRecDepth 20000 in
theorem kE_X6_cutBy : okE eX6_cutBy := ⟨by decide +kernel, ⟨(lw_m4 (List.mem_of_getElem? (i := 216) rfl)), rfl⟩, ⟨(lw_m1 (List.mem_of_getElem? (i := 6) rfl)), rfl⟩, rfl, ⟨by decide +kernel, by decide +kernel⟩, Nat.le_of_ble_eq_true rfl⟩
set_option maxRecDepth 20000 in
theorem kS_X6_cutBy : inW (.static yX6_cutBy) := ⟨(lw_m4 (List.mem_of_getElem? (i := 215) rfl)), rfl⟩
theorem kN_X6_cutBy : (parseMethodDescriptor (yX6_cutBy).desc).map (fun d => d.parameters.length) = some 4 := by decide +kernel
set_option maxRecDepth 20000 in
theorem kE_X6_held : okE eX6_held := ⟨by decide +kernel, ⟨(lw_m4 (List.mem_of_getElem? (i := 219) rfl)), rfl⟩, ⟨(lw_m1 (List.mem_of_getElem? (i := 6) rfl)), rfl⟩, rfl, ⟨by decide +kernel, by decide +kernel⟩, Nat.le_of_ble_eq_true rfl⟩
set_option maxRecDepth 20000 in
theorem kS_X6_held : inW (.static yX6_held) := ⟨(lw_m4 (List.mem_of_getElem? (i := 218) rfl)), rfl⟩
theorem kN_X6_held : (parseMethodDescriptor (yX6_held).desc).map (fun d => d.parameters.length) = some 1 := by decide +kernel
set_option maxRecDepth 20000 in
theorem kE_X6_least : okE eX6_least := ⟨by decide +kernel, ⟨(lw_m4 (List.mem_of_getElem? (i := 222) rfl)), rfl⟩, ⟨(lw_m1 (List.mem_of_getElem? (i := 6) rfl)), rfl⟩, rfl, ⟨by decide +kernel, by decide +kernel⟩, Nat.le_of_ble_eq_true rfl⟩
set_option maxRecDepth 20000 in
theorem kS_X6_least : inW (.static yX6_least) := ⟨(lw_m4 (List.mem_of_getElem? (i := 221) rfl)), rfl⟩
theorem kN_X6_least : (parseMethodDescriptor (yX6_least).desc).map (fun d => d.parameters.length) = some 2 := by decide +kernel
set_option maxRecDepth 20000 in
theorem kE_X6_most : okE eX6_most := ⟨by decide +kernel, ⟨(lw_m4 (List.mem_of_getElem? (i := 225) rfl)), rfl⟩, ⟨(lw_m1 (List.mem_of_getElem? (i := 6) rfl)), rfl⟩, rfl, ⟨by decide +kernel, by decide +kernel⟩, Nat.le_of_ble_eq_true rfl⟩
set_option maxRecDepth 20000 in
theorem kS_X6_most : inW (.static yX6_most) := ⟨(lw_m4 (List.mem_of_getElem? (i := 224) rfl)), rfl⟩
theorem kN_X6_most : (parseMethodDescriptor (yX6_most).desc).map (fun d => d.parameters.length) = some 2 := by decide +kernel
set_option maxRecDepth 20000 in
theorem kE_X6_round : okE eX6_round := ⟨by decide +kernel, ⟨(lw_m4 (List.mem_of_getElem? (i := 228) rfl)), rfl⟩, ⟨(lw_m1 (List.mem_of_getElem? (i := 6) rfl)), rfl⟩, rfl, ⟨by decide +kernel, by decide +kernel⟩, Nat.le_of_ble_eq_true rfl⟩
set_option maxRecDepth 20000 in
theorem kS_X6_round : inW (.static yX6_round) := ⟨(lw_m4 (List.mem_of_getElem? (i := 227) rfl)), rfl⟩
theorem kN_X6_round : (parseMethodDescriptor (yX6_round).desc).map (fun d => d.parameters.length) = some 1 := by decide +kernel
set_option maxRecDepth 20000 in
theorem kE_X6_used : okE eX6_used := ⟨by decide +kernel, ⟨(lw_m4 (List.mem_of_getElem? (i := 232) rfl)), rfl⟩, ⟨(lw_m1 (List.mem_of_getElem? (i := 6) rfl)), rfl⟩, rfl, ⟨by decide +kernel, by decide +kernel⟩, Nat.le_of_ble_eq_true rfl⟩
set_option maxRecDepth 20000 in
theorem kI_X6_used : inW (.instanceMethod yX6_used) ∧ inW (.selects (yX6_used).cls yX6_used yX6_used) := ⟨⟨(lw_m4 (List.mem_of_getElem? (i := 231) rfl)), rfl⟩, ⟨(lw_m0 (List.mem_of_getElem? (i := 36) rfl)), rfl⟩⟩
theorem kN_X6_used : (parseMethodDescriptor (yX6_used).desc).map (fun d => d.parameters.length) = some 2 := by decide +kernel
set_option maxRecDepth 20000 in
theorem kE_X6_pin : okE eX6_pin := ⟨by decide +kernel, ⟨(lw_m4 (List.mem_of_getElem? (i := 236) rfl)), rfl⟩, ⟨(lw_m1 (List.mem_of_getElem? (i := 6) rfl)), rfl⟩, rfl, ⟨by decide +kernel, by decide +kernel⟩, Nat.le_of_ble_eq_true rfl⟩
set_option maxRecDepth 20000 in
theorem kI_X6_pin : inW (.instanceMethod yX6_pin) ∧ inW (.selects (yX6_pin).cls yX6_pin yX6_pin) := ⟨⟨(lw_m4 (List.mem_of_getElem? (i := 234) rfl)), rfl⟩, ⟨(lw_m4 (List.mem_of_getElem? (i := 235) rfl)), rfl⟩⟩
theorem kN_X6_pin : (parseMethodDescriptor (yX6_pin).desc).map (fun d => d.parameters.length) = some 1 := by decide +kernel
set_option maxRecDepth 20000 in
theorem kE_X6_isTooth : okE eX6_isTooth := ⟨by decide +kernel, ⟨(lw_m4 (List.mem_of_getElem? (i := 239) rfl)), rfl⟩, ⟨(lw_m1 (List.mem_of_getElem? (i := 6) rfl)), rfl⟩, rfl, ⟨by decide +kernel, by decide +kernel⟩, Nat.le_of_ble_eq_true rfl⟩
set_option maxRecDepth 20000 in
theorem kS_X6_isTooth : inW (.static yX6_isTooth) := ⟨(lw_m4 (List.mem_of_getElem? (i := 238) rfl)), rfl⟩
theorem kN_X6_isTooth : (parseMethodDescriptor (yX6_isTooth).desc).map (fun d => d.parameters.length) = some 1 := by decide +kernel
set_option maxRecDepth 20000 in
theorem kE_X6_key : okE eX6_key := ⟨by decide +kernel, ⟨(lw_m5 (List.mem_of_getElem? (i := 3) rfl)), rfl⟩, ⟨(lw_m1 (List.mem_of_getElem? (i := 6) rfl)), rfl⟩, rfl, ⟨by decide +kernel, by decide +kernel⟩, Nat.le_of_ble_eq_true rfl⟩
set_option maxRecDepth 20000 in
theorem kI_X6_key : inW (.instanceMethod yX6_key) ∧ inW (.selects (yX6_key).cls yX6_key yX6_key) := ⟨⟨(lw_m5 (List.mem_of_getElem? (i := 1) rfl)), rfl⟩, ⟨(lw_m5 (List.mem_of_getElem? (i := 2) rfl)), rfl⟩⟩
theorem kN_X6_key : (parseMethodDescriptor (yX6_key).desc).map (fun d => d.parameters.length) = some 2 := by decide +kernel
set_option maxRecDepth 20000 in
theorem kE_X6_opens : okE eX6_opens := ⟨by decide +kernel, ⟨(lw_m5 (List.mem_of_getElem? (i := 7) rfl)), rfl⟩, ⟨(lw_m1 (List.mem_of_getElem? (i := 6) rfl)), rfl⟩, rfl, ⟨by decide +kernel, by decide +kernel⟩, Nat.le_of_ble_eq_true rfl⟩
set_option maxRecDepth 20000 in
theorem kI_X6_opens : inW (.instanceMethod yX6_opens) ∧ inW (.selects (yX6_opens).cls yX6_opens yX6_opens) := ⟨⟨(lw_m5 (List.mem_of_getElem? (i := 6) rfl)), rfl⟩, ⟨(lw_m0 (List.mem_of_getElem? (i := 37) rfl)), rfl⟩⟩
theorem kN_X6_opens : (parseMethodDescriptor (yX6_opens).desc).map (fun d => d.parameters.length) = some 1 := by decide +kernel
set_option maxRecDepth 20000 in
theorem kE_X6_opensIn : okE eX6_opensIn := ⟨by decide +kernel, ⟨(lw_m5 (List.mem_of_getElem? (i := 11) rfl)), rfl⟩, ⟨(lw_m1 (List.mem_of_getElem? (i := 6) rfl)), rfl⟩, rfl, ⟨by decide +kernel, by decide +kernel⟩, Nat.le_of_ble_eq_true rfl⟩
set_option maxRecDepth 20000 in
theorem kI_X6_opensIn : inW (.instanceMethod yX6_opensIn) ∧ inW (.selects (yX6_opensIn).cls yX6_opensIn yX6_opensIn) := ⟨⟨(lw_m5 (List.mem_of_getElem? (i := 10) rfl)), rfl⟩, ⟨(lw_m0 (List.mem_of_getElem? (i := 38) rfl)), rfl⟩⟩
theorem kN_X6_opensIn : (parseMethodDescriptor (yX6_opensIn).desc).map (fun d => d.parameters.length) = some 0 := by decide +kernel
set_option maxRecDepth 20000 in
theorem kE_X6_fitIn : okE eX6_fitIn := ⟨by decide +kernel, ⟨(lw_m5 (List.mem_of_getElem? (i := 15) rfl)), rfl⟩, ⟨(lw_m1 (List.mem_of_getElem? (i := 6) rfl)), rfl⟩, rfl, ⟨by decide +kernel, by decide +kernel⟩, Nat.le_of_ble_eq_true rfl⟩
set_option maxRecDepth 20000 in
theorem kI_X6_fitIn : inW (.instanceMethod yX6_fitIn) ∧ inW (.selects (yX6_fitIn).cls yX6_fitIn yX6_fitIn) := ⟨⟨(lw_m5 (List.mem_of_getElem? (i := 14) rfl)), rfl⟩, ⟨(lw_m0 (List.mem_of_getElem? (i := 39) rfl)), rfl⟩⟩
theorem kN_X6_fitIn : (parseMethodDescriptor (yX6_fitIn).desc).map (fun d => d.parameters.length) = some 0 := by decide +kernel
set_option maxRecDepth 20000 in
theorem kE_X6_apart : okE eX6_apart := ⟨by decide +kernel, ⟨(lw_m5 (List.mem_of_getElem? (i := 18) rfl)), rfl⟩, ⟨(lw_m1 (List.mem_of_getElem? (i := 6) rfl)), rfl⟩, rfl, ⟨by decide +kernel, by decide +kernel⟩, Nat.le_of_ble_eq_true rfl⟩
set_option maxRecDepth 20000 in
theorem kS_X6_apart : inW (.static yX6_apart) := ⟨(lw_m5 (List.mem_of_getElem? (i := 17) rfl)), rfl⟩
theorem kN_X6_apart : (parseMethodDescriptor (yX6_apart).desc).map (fun d => d.parameters.length) = some 2 := by decide +kernel
set_option maxRecDepth 20000 in
theorem kE_X6_wiggleOf : okE eX6_wiggleOf := ⟨by decide +kernel, ⟨(lw_m5 (List.mem_of_getElem? (i := 22) rfl)), rfl⟩, ⟨(lw_m1 (List.mem_of_getElem? (i := 6) rfl)), rfl⟩, rfl, ⟨by decide +kernel, by decide +kernel⟩, Nat.le_of_ble_eq_true rfl⟩
set_option maxRecDepth 20000 in
theorem kI_X6_wiggleOf : inW (.instanceMethod yX6_wiggleOf) ∧ inW (.selects (yX6_wiggleOf).cls yX6_wiggleOf yX6_wiggleOf) := ⟨⟨(lw_m5 (List.mem_of_getElem? (i := 21) rfl)), rfl⟩, ⟨(lw_m0 (List.mem_of_getElem? (i := 40) rfl)), rfl⟩⟩
theorem kN_X6_wiggleOf : (parseMethodDescriptor (yX6_wiggleOf).desc).map (fun d => d.parameters.length) = some 1 := by decide +kernel
set_option maxRecDepth 20000 in
theorem kE_X6_wiggle : okE eX6_wiggle := ⟨by decide +kernel, ⟨(lw_m5 (List.mem_of_getElem? (i := 26) rfl)), rfl⟩, ⟨(lw_m1 (List.mem_of_getElem? (i := 6) rfl)), rfl⟩, rfl, ⟨by decide +kernel, by decide +kernel⟩, Nat.le_of_ble_eq_true rfl⟩
set_option maxRecDepth 20000 in
theorem kI_X6_wiggle : inW (.instanceMethod yX6_wiggle) ∧ inW (.selects (yX6_wiggle).cls yX6_wiggle yX6_wiggle) := ⟨⟨(lw_m5 (List.mem_of_getElem? (i := 25) rfl)), rfl⟩, ⟨(lw_m0 (List.mem_of_getElem? (i := 41) rfl)), rfl⟩⟩
theorem kN_X6_wiggle : (parseMethodDescriptor (yX6_wiggle).desc).map (fun d => d.parameters.length) = some 0 := by decide +kernel
set_option maxRecDepth 20000 in
theorem kE_X6_worstOf : okE eX6_worstOf := ⟨by decide +kernel, ⟨(lw_m5 (List.mem_of_getElem? (i := 30) rfl)), rfl⟩, ⟨(lw_m1 (List.mem_of_getElem? (i := 6) rfl)), rfl⟩, rfl, ⟨by decide +kernel, by decide +kernel⟩, Nat.le_of_ble_eq_true rfl⟩
set_option maxRecDepth 20000 in
theorem kI_X6_worstOf : inW (.instanceMethod yX6_worstOf) ∧ inW (.selects (yX6_worstOf).cls yX6_worstOf yX6_worstOf) := ⟨⟨(lw_m5 (List.mem_of_getElem? (i := 29) rfl)), rfl⟩, ⟨(lw_m0 (List.mem_of_getElem? (i := 42) rfl)), rfl⟩⟩
theorem kN_X6_worstOf : (parseMethodDescriptor (yX6_worstOf).desc).map (fun d => d.parameters.length) = some 1 := by decide +kernel
set_option maxRecDepth 20000 in
theorem kE_X6_machine : okE eX6_machine := ⟨by decide +kernel, ⟨(lw_m5 (List.mem_of_getElem? (i := 34) rfl)), rfl⟩, ⟨(lw_m1 (List.mem_of_getElem? (i := 6) rfl)), rfl⟩, rfl, ⟨by decide +kernel, by decide +kernel⟩, Nat.le_of_ble_eq_true rfl⟩
set_option maxRecDepth 20000 in
theorem kI_X6_machine : inW (.instanceMethod yX6_machine) ∧ inW (.selects (yX6_machine).cls yX6_machine yX6_machine) := ⟨⟨(lw_m5 (List.mem_of_getElem? (i := 32) rfl)), rfl⟩, ⟨(lw_m5 (List.mem_of_getElem? (i := 33) rfl)), rfl⟩⟩
theorem kN_X6_machine : (parseMethodDescriptor (yX6_machine).desc).map (fun d => d.parameters.length) = some 2 := by decide +kernel
set_option maxRecDepth 20000 in
theorem kE_X6_sets : okE eX6_sets := ⟨by decide +kernel, ⟨(lw_m5 (List.mem_of_getElem? (i := 38) rfl)), rfl⟩, ⟨(lw_m1 (List.mem_of_getElem? (i := 6) rfl)), rfl⟩, rfl, ⟨by decide +kernel, by decide +kernel⟩, Nat.le_of_ble_eq_true rfl⟩
set_option maxRecDepth 20000 in
theorem kI_X6_sets : inW (.instanceMethod yX6_sets) ∧ inW (.selects (yX6_sets).cls yX6_sets yX6_sets) := ⟨⟨(lw_m5 (List.mem_of_getElem? (i := 36) rfl)), rfl⟩, ⟨(lw_m5 (List.mem_of_getElem? (i := 37) rfl)), rfl⟩⟩
theorem kN_X6_sets : (parseMethodDescriptor (yX6_sets).desc).map (fun d => d.parameters.length) = some 2 := by decide +kernel
set_option maxRecDepth 20000 in
theorem kE_X6_wrong : okE eX6_wrong := ⟨by decide +kernel, ⟨(lw_m5 (List.mem_of_getElem? (i := 41) rfl)), rfl⟩, ⟨(lw_m1 (List.mem_of_getElem? (i := 6) rfl)), rfl⟩, rfl, ⟨by decide +kernel, by decide +kernel⟩, Nat.le_of_ble_eq_true rfl⟩
set_option maxRecDepth 20000 in
theorem kS_X6_wrong : inW (.static yX6_wrong) := ⟨(lw_m5 (List.mem_of_getElem? (i := 40) rfl)), rfl⟩
theorem kN_X6_wrong : (parseMethodDescriptor (yX6_wrong).desc).map (fun d => d.parameters.length) = some 2 := by decide +kernel
set_option maxRecDepth 20000 in
theorem kE_X6_slack : okE eX6_slack := ⟨by decide +kernel, ⟨(lw_m5 (List.mem_of_getElem? (i := 45) rfl)), rfl⟩, ⟨(lw_m1 (List.mem_of_getElem? (i := 6) rfl)), rfl⟩, rfl, ⟨by decide +kernel, by decide +kernel⟩, Nat.le_of_ble_eq_true rfl⟩
set_option maxRecDepth 20000 in
theorem kI_X6_slack : inW (.instanceMethod yX6_slack) ∧ inW (.selects (yX6_slack).cls yX6_slack yX6_slack) := ⟨⟨(lw_m5 (List.mem_of_getElem? (i := 43) rfl)), rfl⟩, ⟨(lw_m5 (List.mem_of_getElem? (i := 44) rfl)), rfl⟩⟩
theorem kN_X6_slack : (parseMethodDescriptor (yX6_slack).desc).map (fun d => d.parameters.length) = some 1 := by decide +kernel
set_option maxRecDepth 20000 in
theorem kE_X6_files : okE eX6_files := ⟨by decide +kernel, ⟨(lw_m5 (List.mem_of_getElem? (i := 49) rfl)), rfl⟩, ⟨(lw_m1 (List.mem_of_getElem? (i := 6) rfl)), rfl⟩, rfl, ⟨by decide +kernel, by decide +kernel⟩, Nat.le_of_ble_eq_true rfl⟩
set_option maxRecDepth 20000 in
theorem kI_X6_files : inW (.instanceMethod yX6_files) ∧ inW (.selects (yX6_files).cls yX6_files yX6_files) := ⟨⟨(lw_m5 (List.mem_of_getElem? (i := 47) rfl)), rfl⟩, ⟨(lw_m5 (List.mem_of_getElem? (i := 48) rfl)), rfl⟩⟩
theorem kN_X6_files : (parseMethodDescriptor (yX6_files).desc).map (fun d => d.parameters.length) = some 3 := by decide +kernel
set_option maxRecDepth 20000 in
theorem kE_X6_turn : okE eX6_turn := ⟨by decide +kernel, ⟨(lw_m5 (List.mem_of_getElem? (i := 53) rfl)), rfl⟩, ⟨(lw_m1 (List.mem_of_getElem? (i := 6) rfl)), rfl⟩, rfl, ⟨by decide +kernel, by decide +kernel⟩, Nat.le_of_ble_eq_true rfl⟩
set_option maxRecDepth 20000 in
theorem kI_X6_turn : inW (.instanceMethod yX6_turn) ∧ inW (.selects (yX6_turn).cls yX6_turn yX6_turn) := ⟨⟨(lw_m5 (List.mem_of_getElem? (i := 51) rfl)), rfl⟩, ⟨(lw_m5 (List.mem_of_getElem? (i := 52) rfl)), rfl⟩⟩
theorem kN_X6_turn : (parseMethodDescriptor (yX6_turn).desc).map (fun d => d.parameters.length) = some 3 := by decide +kernel
set_option maxRecDepth 20000 in
theorem kE_X6_cut : okE eX6_cut := ⟨by decide +kernel, ⟨(lw_m5 (List.mem_of_getElem? (i := 57) rfl)), rfl⟩, ⟨(lw_m1 (List.mem_of_getElem? (i := 6) rfl)), rfl⟩, rfl, ⟨by decide +kernel, by decide +kernel⟩, Nat.le_of_ble_eq_true rfl⟩
set_option maxRecDepth 20000 in
theorem kI_X6_cut : inW (.instanceMethod yX6_cut) ∧ inW (.selects (yX6_cut).cls yX6_cut yX6_cut) := ⟨⟨(lw_m5 (List.mem_of_getElem? (i := 55) rfl)), rfl⟩, ⟨(lw_m5 (List.mem_of_getElem? (i := 56) rfl)), rfl⟩⟩
theorem kN_X6_cut : (parseMethodDescriptor (yX6_cut).desc).map (fun d => d.parameters.length) = some 2 := by decide +kernel
set_option maxRecDepth 20000 in
theorem kE_X6_uses : okE eX6_uses := ⟨by decide +kernel, ⟨(lw_m5 (List.mem_of_getElem? (i := 61) rfl)), rfl⟩, ⟨(lw_m1 (List.mem_of_getElem? (i := 6) rfl)), rfl⟩, rfl, ⟨by decide +kernel, by decide +kernel⟩, Nat.le_of_ble_eq_true rfl⟩
set_option maxRecDepth 20000 in
theorem kI_X6_uses : inW (.instanceMethod yX6_uses) ∧ inW (.selects (yX6_uses).cls yX6_uses yX6_uses) := ⟨⟨(lw_m5 (List.mem_of_getElem? (i := 59) rfl)), rfl⟩, ⟨(lw_m5 (List.mem_of_getElem? (i := 60) rfl)), rfl⟩⟩
theorem kN_X6_uses : (parseMethodDescriptor (yX6_uses).desc).map (fun d => d.parameters.length) = some 2 := by decide +kernel
set_option maxRecDepth 20000 in
theorem kE_X6_snaps : okE eX6_snaps := ⟨by decide +kernel, ⟨(lw_m5 (List.mem_of_getElem? (i := 65) rfl)), rfl⟩, ⟨(lw_m1 (List.mem_of_getElem? (i := 6) rfl)), rfl⟩, rfl, ⟨by decide +kernel, by decide +kernel⟩, Nat.le_of_ble_eq_true rfl⟩
set_option maxRecDepth 20000 in
theorem kI_X6_snaps : inW (.instanceMethod yX6_snaps) ∧ inW (.selects (yX6_snaps).cls yX6_snaps yX6_snaps) := ⟨⟨(lw_m5 (List.mem_of_getElem? (i := 63) rfl)), rfl⟩, ⟨(lw_m5 (List.mem_of_getElem? (i := 64) rfl)), rfl⟩⟩
theorem kN_X6_snaps : (parseMethodDescriptor (yX6_snaps).desc).map (fun d => d.parameters.length) = some 1 := by decide +kernel
set_option maxRecDepth 20000 in
theorem kE_X6_opening : okE eX6_opening := ⟨by decide +kernel, ⟨(lw_m5 (List.mem_of_getElem? (i := 69) rfl)), rfl⟩, ⟨(lw_m1 (List.mem_of_getElem? (i := 6) rfl)), rfl⟩, rfl, ⟨by decide +kernel, by decide +kernel⟩, Nat.le_of_ble_eq_true rfl⟩
set_option maxRecDepth 20000 in
theorem kI_X6_opening : inW (.instanceMethod yX6_opening) ∧ inW (.selects (yX6_opening).cls yX6_opening yX6_opening) := ⟨⟨(lw_m5 (List.mem_of_getElem? (i := 67) rfl)), rfl⟩, ⟨(lw_m5 (List.mem_of_getElem? (i := 68) rfl)), rfl⟩⟩
theorem kN_X6_opening : (parseMethodDescriptor (yX6_opening).desc).map (fun d => d.parameters.length) = some 0 := by decide +kernel
set_option maxRecDepth 20000 in
theorem kE_X6_family : okE eX6_family := ⟨by decide +kernel, ⟨(lw_m5 (List.mem_of_getElem? (i := 73) rfl)), rfl⟩, ⟨(lw_m1 (List.mem_of_getElem? (i := 6) rfl)), rfl⟩, rfl, ⟨by decide +kernel, by decide +kernel⟩, Nat.le_of_ble_eq_true rfl⟩
set_option maxRecDepth 20000 in
theorem kI_X6_family : inW (.instanceMethod yX6_family) ∧ inW (.selects (yX6_family).cls yX6_family yX6_family) := ⟨⟨(lw_m5 (List.mem_of_getElem? (i := 71) rfl)), rfl⟩, ⟨(lw_m5 (List.mem_of_getElem? (i := 72) rfl)), rfl⟩⟩
theorem kN_X6_family : (parseMethodDescriptor (yX6_family).desc).map (fun d => d.parameters.length) = some 2 := by decide +kernel
set_option maxRecDepth 20000 in
theorem kE_X6_depthOf : okE eX6_depthOf := ⟨by decide +kernel, ⟨(lw_m5 (List.mem_of_getElem? (i := 77) rfl)), rfl⟩, ⟨(lw_m1 (List.mem_of_getElem? (i := 6) rfl)), rfl⟩, rfl, ⟨by decide +kernel, by decide +kernel⟩, Nat.le_of_ble_eq_true rfl⟩
set_option maxRecDepth 20000 in
theorem kI_X6_depthOf : inW (.instanceMethod yX6_depthOf) ∧ inW (.selects (yX6_depthOf).cls yX6_depthOf yX6_depthOf) := ⟨⟨(lw_m5 (List.mem_of_getElem? (i := 76) rfl)), rfl⟩, ⟨(lw_m0 (List.mem_of_getElem? (i := 43) rfl)), rfl⟩⟩
theorem kN_X6_depthOf : (parseMethodDescriptor (yX6_depthOf).desc).map (fun d => d.parameters.length) = some 1 := by decide +kernel
set_option maxRecDepth 20000 in
theorem kE_X6_fromOf : okE eX6_fromOf := ⟨by decide +kernel, ⟨(lw_m5 (List.mem_of_getElem? (i := 81) rfl)), rfl⟩, ⟨(lw_m1 (List.mem_of_getElem? (i := 6) rfl)), rfl⟩, rfl, ⟨by decide +kernel, by decide +kernel⟩, Nat.le_of_ble_eq_true rfl⟩
set_option maxRecDepth 20000 in
theorem kI_X6_fromOf : inW (.instanceMethod yX6_fromOf) ∧ inW (.selects (yX6_fromOf).cls yX6_fromOf yX6_fromOf) := ⟨⟨(lw_m5 (List.mem_of_getElem? (i := 80) rfl)), rfl⟩, ⟨(lw_m0 (List.mem_of_getElem? (i := 44) rfl)), rfl⟩⟩
theorem kN_X6_fromOf : (parseMethodDescriptor (yX6_fromOf).desc).map (fun d => d.parameters.length) = some 1 := by decide +kernel
set_option maxRecDepth 20000 in
theorem kE_X6_heirs : okE eX6_heirs := ⟨by decide +kernel, ⟨(lw_m5 (List.mem_of_getElem? (i := 85) rfl)), rfl⟩, ⟨(lw_m1 (List.mem_of_getElem? (i := 6) rfl)), rfl⟩, rfl, ⟨by decide +kernel, by decide +kernel⟩, Nat.le_of_ble_eq_true rfl⟩
set_option maxRecDepth 20000 in
theorem kI_X6_heirs : inW (.instanceMethod yX6_heirs) ∧ inW (.selects (yX6_heirs).cls yX6_heirs yX6_heirs) := ⟨⟨(lw_m5 (List.mem_of_getElem? (i := 84) rfl)), rfl⟩, ⟨(lw_m0 (List.mem_of_getElem? (i := 45) rfl)), rfl⟩⟩
theorem kN_X6_heirs : (parseMethodDescriptor (yX6_heirs).desc).map (fun d => d.parameters.length) = some 1 := by decide +kernel
set_option maxRecDepth 20000 in
theorem kE_X6_isHeir : okE eX6_isHeir := ⟨by decide +kernel, ⟨(lw_m5 (List.mem_of_getElem? (i := 89) rfl)), rfl⟩, ⟨(lw_m1 (List.mem_of_getElem? (i := 6) rfl)), rfl⟩, rfl, ⟨by decide +kernel, by decide +kernel⟩, Nat.le_of_ble_eq_true rfl⟩
set_option maxRecDepth 20000 in
theorem kI_X6_isHeir : inW (.instanceMethod yX6_isHeir) ∧ inW (.selects (yX6_isHeir).cls yX6_isHeir yX6_isHeir) := ⟨⟨(lw_m5 (List.mem_of_getElem? (i := 88) rfl)), rfl⟩, ⟨(lw_m0 (List.mem_of_getElem? (i := 46) rfl)), rfl⟩⟩
theorem kN_X6_isHeir : (parseMethodDescriptor (yX6_isHeir).desc).map (fun d => d.parameters.length) = some 2 := by decide +kernel
set_option maxRecDepth 20000 in
theorem kE_X6_common : okE eX6_common := ⟨by decide +kernel, ⟨(lw_m5 (List.mem_of_getElem? (i := 93) rfl)), rfl⟩, ⟨(lw_m1 (List.mem_of_getElem? (i := 6) rfl)), rfl⟩, rfl, ⟨by decide +kernel, by decide +kernel⟩, Nat.le_of_ble_eq_true rfl⟩
set_option maxRecDepth 20000 in
theorem kI_X6_common : inW (.instanceMethod yX6_common) ∧ inW (.selects (yX6_common).cls yX6_common yX6_common) := ⟨⟨(lw_m5 (List.mem_of_getElem? (i := 91) rfl)), rfl⟩, ⟨(lw_m5 (List.mem_of_getElem? (i := 92) rfl)), rfl⟩⟩
theorem kN_X6_common : (parseMethodDescriptor (yX6_common).desc).map (fun d => d.parameters.length) = some 2 := by decide +kernel
set_option maxRecDepth 20000 in
theorem kE_X6_nearest : okE eX6_nearest := ⟨by decide +kernel, ⟨(lw_m5 (List.mem_of_getElem? (i := 97) rfl)), rfl⟩, ⟨(lw_m1 (List.mem_of_getElem? (i := 6) rfl)), rfl⟩, rfl, ⟨by decide +kernel, by decide +kernel⟩, Nat.le_of_ble_eq_true rfl⟩
set_option maxRecDepth 20000 in
theorem kI_X6_nearest : inW (.instanceMethod yX6_nearest) ∧ inW (.selects (yX6_nearest).cls yX6_nearest yX6_nearest) := ⟨⟨(lw_m5 (List.mem_of_getElem? (i := 95) rfl)), rfl⟩, ⟨(lw_m5 (List.mem_of_getElem? (i := 96) rfl)), rfl⟩⟩
theorem kN_X6_nearest : (parseMethodDescriptor (yX6_nearest).desc).map (fun d => d.parameters.length) = some 0 := by decide +kernel
set_option maxRecDepth 20000 in
theorem kE_X6_next : okE eX6_next := ⟨by decide +kernel, ⟨(lw_m5 (List.mem_of_getElem? (i := 101) rfl)), rfl⟩, ⟨(lw_m1 (List.mem_of_getElem? (i := 6) rfl)), rfl⟩, rfl, ⟨by decide +kernel, by decide +kernel⟩, Nat.le_of_ble_eq_true rfl⟩
set_option maxRecDepth 20000 in
theorem kI_X6_next : inW (.instanceMethod yX6_next) ∧ inW (.selects (yX6_next).cls yX6_next yX6_next) := ⟨⟨(lw_m5 (List.mem_of_getElem? (i := 99) rfl)), rfl⟩, ⟨(lw_m5 (List.mem_of_getElem? (i := 100) rfl)), rfl⟩⟩
theorem kN_X6_next : (parseMethodDescriptor (yX6_next).desc).map (fun d => d.parameters.length) = some 1 := by decide +kernel
set_option maxRecDepth 20000 in
theorem kE_X6_inRow : okE eX6_inRow := ⟨by decide +kernel, ⟨(lw_m5 (List.mem_of_getElem? (i := 106) rfl)), rfl⟩, ⟨(lw_m1 (List.mem_of_getElem? (i := 6) rfl)), rfl⟩, rfl, ⟨by decide +kernel, by decide +kernel⟩, Nat.le_of_ble_eq_true rfl⟩
set_option maxRecDepth 20000 in
theorem kI_X6_inRow : inW (.instanceMethod yX6_inRow) ∧ inW (.selects (yX6_inRow).cls yX6_inRow yX6_inRow) := ⟨⟨(lw_m5 (List.mem_of_getElem? (i := 104) rfl)), rfl⟩, ⟨(lw_m5 (List.mem_of_getElem? (i := 105) rfl)), rfl⟩⟩
theorem kN_X6_inRow : (parseMethodDescriptor (yX6_inRow).desc).map (fun d => d.parameters.length) = some 3 := by decide +kernel
set_option maxRecDepth 20000 in
theorem kE_X6_lasts : okE eX6_lasts := ⟨by decide +kernel, ⟨(lw_m5 (List.mem_of_getElem? (i := 110) rfl)), rfl⟩, ⟨(lw_m1 (List.mem_of_getElem? (i := 6) rfl)), rfl⟩, rfl, ⟨by decide +kernel, by decide +kernel⟩, Nat.le_of_ble_eq_true rfl⟩
set_option maxRecDepth 20000 in
theorem kI_X6_lasts : inW (.instanceMethod yX6_lasts) ∧ inW (.selects (yX6_lasts).cls yX6_lasts yX6_lasts) := ⟨⟨(lw_m5 (List.mem_of_getElem? (i := 108) rfl)), rfl⟩, ⟨(lw_m5 (List.mem_of_getElem? (i := 109) rfl)), rfl⟩⟩
theorem kN_X6_lasts : (parseMethodDescriptor (yX6_lasts).desc).map (fun d => d.parameters.length) = some 1 := by decide +kernel
set_option maxRecDepth 20000 in
theorem kE_X6_fit : okE eX6_fit := ⟨by decide +kernel, ⟨(lw_m5 (List.mem_of_getElem? (i := 114) rfl)), rfl⟩, ⟨(lw_m1 (List.mem_of_getElem? (i := 6) rfl)), rfl⟩, rfl, ⟨by decide +kernel, by decide +kernel⟩, Nat.le_of_ble_eq_true rfl⟩
set_option maxRecDepth 20000 in
theorem kI_X6_fit : inW (.instanceMethod yX6_fit) ∧ inW (.selects (yX6_fit).cls yX6_fit yX6_fit) := ⟨⟨(lw_m5 (List.mem_of_getElem? (i := 112) rfl)), rfl⟩, ⟨(lw_m5 (List.mem_of_getElem? (i := 113) rfl)), rfl⟩⟩
theorem kN_X6_fit : (parseMethodDescriptor (yX6_fit).desc).map (fun d => d.parameters.length) = some 1 := by decide +kernel
set_option maxRecDepth 20000 in
theorem kE_X6_anew : okE eX6_anew := ⟨by decide +kernel, ⟨(lw_m5 (List.mem_of_getElem? (i := 118) rfl)), rfl⟩, ⟨(lw_m1 (List.mem_of_getElem? (i := 6) rfl)), rfl⟩, rfl, ⟨by decide +kernel, by decide +kernel⟩, Nat.le_of_ble_eq_true rfl⟩
set_option maxRecDepth 20000 in
theorem kI_X6_anew : inW (.instanceMethod yX6_anew) ∧ inW (.selects (yX6_anew).cls yX6_anew yX6_anew) := ⟨⟨(lw_m5 (List.mem_of_getElem? (i := 116) rfl)), rfl⟩, ⟨(lw_m5 (List.mem_of_getElem? (i := 117) rfl)), rfl⟩⟩
theorem kN_X6_anew : (parseMethodDescriptor (yX6_anew).desc).map (fun d => d.parameters.length) = some 1 := by decide +kernel
set_option maxRecDepth 20000 in
theorem kE_X6_anewOf : okE eX6_anewOf := ⟨by decide +kernel, ⟨(lw_m5 (List.mem_of_getElem? (i := 122) rfl)), rfl⟩, ⟨(lw_m1 (List.mem_of_getElem? (i := 6) rfl)), rfl⟩, rfl, ⟨by decide +kernel, by decide +kernel⟩, Nat.le_of_ble_eq_true rfl⟩
set_option maxRecDepth 20000 in
theorem kI_X6_anewOf : inW (.instanceMethod yX6_anewOf) ∧ inW (.selects (yX6_anewOf).cls yX6_anewOf yX6_anewOf) := ⟨⟨(lw_m5 (List.mem_of_getElem? (i := 121) rfl)), rfl⟩, ⟨(lw_m0 (List.mem_of_getElem? (i := 47) rfl)), rfl⟩⟩
theorem kN_X6_anewOf : (parseMethodDescriptor (yX6_anewOf).desc).map (fun d => d.parameters.length) = some 1 := by decide +kernel
set_option maxRecDepth 20000 in
theorem kE_X6_first : okE eX6_first := ⟨by decide +kernel, ⟨(lw_m5 (List.mem_of_getElem? (i := 126) rfl)), rfl⟩, ⟨(lw_m1 (List.mem_of_getElem? (i := 6) rfl)), rfl⟩, rfl, ⟨by decide +kernel, by decide +kernel⟩, Nat.le_of_ble_eq_true rfl⟩
set_option maxRecDepth 20000 in
theorem kI_X6_first : inW (.instanceMethod yX6_first) ∧ inW (.selects (yX6_first).cls yX6_first yX6_first) := ⟨⟨(lw_m5 (List.mem_of_getElem? (i := 124) rfl)), rfl⟩, ⟨(lw_m5 (List.mem_of_getElem? (i := 125) rfl)), rfl⟩⟩
theorem kN_X6_first : (parseMethodDescriptor (yX6_first).desc).map (fun d => d.parameters.length) = some 2 := by decide +kernel
set_option maxRecDepth 20000 in
theorem kE_X6_wrongSet : okE eX6_wrongSet := ⟨by decide +kernel, ⟨(lw_m5 (List.mem_of_getElem? (i := 130) rfl)), rfl⟩, ⟨(lw_m1 (List.mem_of_getElem? (i := 6) rfl)), rfl⟩, rfl, ⟨by decide +kernel, by decide +kernel⟩, Nat.le_of_ble_eq_true rfl⟩
set_option maxRecDepth 20000 in
theorem kI_X6_wrongSet : inW (.instanceMethod yX6_wrongSet) ∧ inW (.selects (yX6_wrongSet).cls yX6_wrongSet yX6_wrongSet) := ⟨⟨(lw_m5 (List.mem_of_getElem? (i := 129) rfl)), rfl⟩, ⟨(lw_m0 (List.mem_of_getElem? (i := 48) rfl)), rfl⟩⟩
theorem kN_X6_wrongSet : (parseMethodDescriptor (yX6_wrongSet).desc).map (fun d => d.parameters.length) = some 1 := by decide +kernel
set_option maxRecDepth 20000 in
theorem kE_X6_middle : okE eX6_middle := ⟨by decide +kernel, ⟨(lw_m5 (List.mem_of_getElem? (i := 134) rfl)), rfl⟩, ⟨(lw_m1 (List.mem_of_getElem? (i := 6) rfl)), rfl⟩, rfl, ⟨by decide +kernel, by decide +kernel⟩, Nat.le_of_ble_eq_true rfl⟩
set_option maxRecDepth 20000 in
theorem kI_X6_middle : inW (.instanceMethod yX6_middle) ∧ inW (.selects (yX6_middle).cls yX6_middle yX6_middle) := ⟨⟨(lw_m5 (List.mem_of_getElem? (i := 133) rfl)), rfl⟩, ⟨(lw_m0 (List.mem_of_getElem? (i := 49) rfl)), rfl⟩⟩
theorem kN_X6_middle : (parseMethodDescriptor (yX6_middle).desc).map (fun d => d.parameters.length) = some 2 := by decide +kernel
set_option maxRecDepth 20000 in
theorem kE_X6_bits : okE eX6_bits := ⟨by decide +kernel, ⟨(lw_m5 (List.mem_of_getElem? (i := 137) rfl)), rfl⟩, ⟨(lw_m1 (List.mem_of_getElem? (i := 6) rfl)), rfl⟩, rfl, ⟨by decide +kernel, by decide +kernel⟩, Nat.le_of_ble_eq_true rfl⟩
set_option maxRecDepth 20000 in
theorem kS_X6_bits : inW (.static yX6_bits) := ⟨(lw_m5 (List.mem_of_getElem? (i := 136) rfl)), rfl⟩
theorem kN_X6_bits : (parseMethodDescriptor (yX6_bits).desc).map (fun d => d.parameters.length) = some 1 := by decide +kernel
set_option maxRecDepth 20000 in
theorem kE_X6_code : okE eX6_code := ⟨by decide +kernel, ⟨(lw_m5 (List.mem_of_getElem? (i := 140) rfl)), rfl⟩, ⟨(lw_m1 (List.mem_of_getElem? (i := 6) rfl)), rfl⟩, rfl, ⟨by decide +kernel, by decide +kernel⟩, Nat.le_of_ble_eq_true rfl⟩
set_option maxRecDepth 20000 in
theorem kS_X6_code : inW (.static yX6_code) := ⟨(lw_m5 (List.mem_of_getElem? (i := 139) rfl)), rfl⟩
theorem kN_X6_code : (parseMethodDescriptor (yX6_code).desc).map (fun d => d.parameters.length) = some 1 := by decide +kernel
set_option maxRecDepth 20000 in
theorem kE_X6_unlike : okE eX6_unlike := ⟨by decide +kernel, ⟨(lw_m5 (List.mem_of_getElem? (i := 144) rfl)), rfl⟩, ⟨(lw_m1 (List.mem_of_getElem? (i := 6) rfl)), rfl⟩, rfl, ⟨by decide +kernel, by decide +kernel⟩, Nat.le_of_ble_eq_true rfl⟩
set_option maxRecDepth 20000 in
theorem kI_X6_unlike : inW (.instanceMethod yX6_unlike) ∧ inW (.selects (yX6_unlike).cls yX6_unlike yX6_unlike) := ⟨⟨(lw_m5 (List.mem_of_getElem? (i := 142) rfl)), rfl⟩, ⟨(lw_m5 (List.mem_of_getElem? (i := 143) rfl)), rfl⟩⟩
theorem kN_X6_unlike : (parseMethodDescriptor (yX6_unlike).desc).map (fun d => d.parameters.length) = some 2 := by decide +kernel
set_option maxRecDepth 20000 in
theorem kE_X6_mend : okE eX6_mend := ⟨by decide +kernel, ⟨(lw_m5 (List.mem_of_getElem? (i := 148) rfl)), rfl⟩, ⟨(lw_m1 (List.mem_of_getElem? (i := 6) rfl)), rfl⟩, rfl, ⟨by decide +kernel, by decide +kernel⟩, Nat.le_of_ble_eq_true rfl⟩
set_option maxRecDepth 20000 in
theorem kI_X6_mend : inW (.instanceMethod yX6_mend) ∧ inW (.selects (yX6_mend).cls yX6_mend yX6_mend) := ⟨⟨(lw_m5 (List.mem_of_getElem? (i := 146) rfl)), rfl⟩, ⟨(lw_m5 (List.mem_of_getElem? (i := 147) rfl)), rfl⟩⟩
theorem kN_X6_mend : (parseMethodDescriptor (yX6_mend).desc).map (fun d => d.parameters.length) = some 1 := by decide +kernel
set_option maxRecDepth 20000 in
theorem kE_X6_noFar : okE eX6_noFar := ⟨by decide +kernel, ⟨(lw_m5 (List.mem_of_getElem? (i := 152) rfl)), rfl⟩, ⟨(lw_m1 (List.mem_of_getElem? (i := 6) rfl)), rfl⟩, rfl, ⟨by decide +kernel, by decide +kernel⟩, Nat.le_of_ble_eq_true rfl⟩
set_option maxRecDepth 20000 in
theorem kI_X6_noFar : inW (.instanceMethod yX6_noFar) ∧ inW (.selects (yX6_noFar).cls yX6_noFar yX6_noFar) := ⟨⟨(lw_m5 (List.mem_of_getElem? (i := 151) rfl)), rfl⟩, ⟨(lw_m0 (List.mem_of_getElem? (i := 50) rfl)), rfl⟩⟩
theorem kN_X6_noFar : (parseMethodDescriptor (yX6_noFar).desc).map (fun d => d.parameters.length) = some 1 := by decide +kernel
set_option maxRecDepth 20000 in
theorem kE_X6_line : okE eX6_line := ⟨by decide +kernel, ⟨(lw_m5 (List.mem_of_getElem? (i := 156) rfl)), rfl⟩, ⟨(lw_m1 (List.mem_of_getElem? (i := 6) rfl)), rfl⟩, rfl, ⟨by decide +kernel, by decide +kernel⟩, Nat.le_of_ble_eq_true rfl⟩
set_option maxRecDepth 20000 in
theorem kI_X6_line : inW (.instanceMethod yX6_line) ∧ inW (.selects (yX6_line).cls yX6_line yX6_line) := ⟨⟨(lw_m5 (List.mem_of_getElem? (i := 154) rfl)), rfl⟩, ⟨(lw_m5 (List.mem_of_getElem? (i := 155) rfl)), rfl⟩⟩
theorem kN_X6_line : (parseMethodDescriptor (yX6_line).desc).map (fun d => d.parameters.length) = some 1 := by decide +kernel
set_option maxRecDepth 20000 in
theorem kE_X6_lineOf : okE eX6_lineOf := ⟨by decide +kernel, ⟨(lw_m5 (List.mem_of_getElem? (i := 160) rfl)), rfl⟩, ⟨(lw_m1 (List.mem_of_getElem? (i := 6) rfl)), rfl⟩, rfl, ⟨by decide +kernel, by decide +kernel⟩, Nat.le_of_ble_eq_true rfl⟩
set_option maxRecDepth 20000 in
theorem kI_X6_lineOf : inW (.instanceMethod yX6_lineOf) ∧ inW (.selects (yX6_lineOf).cls yX6_lineOf yX6_lineOf) := ⟨⟨(lw_m5 (List.mem_of_getElem? (i := 159) rfl)), rfl⟩, ⟨(lw_m0 (List.mem_of_getElem? (i := 51) rfl)), rfl⟩⟩
theorem kN_X6_lineOf : (parseMethodDescriptor (yX6_lineOf).desc).map (fun d => d.parameters.length) = some 1 := by decide +kernel
set_option maxRecDepth 20000 in
theorem kE_X6_bestLine : okE eX6_bestLine := ⟨by decide +kernel, ⟨(lw_m5 (List.mem_of_getElem? (i := 164) rfl)), rfl⟩, ⟨(lw_m1 (List.mem_of_getElem? (i := 6) rfl)), rfl⟩, rfl, ⟨by decide +kernel, by decide +kernel⟩, Nat.le_of_ble_eq_true rfl⟩
set_option maxRecDepth 20000 in
theorem kI_X6_bestLine : inW (.instanceMethod yX6_bestLine) ∧ inW (.selects (yX6_bestLine).cls yX6_bestLine yX6_bestLine) := ⟨⟨(lw_m5 (List.mem_of_getElem? (i := 162) rfl)), rfl⟩, ⟨(lw_m5 (List.mem_of_getElem? (i := 163) rfl)), rfl⟩⟩
theorem kN_X6_bestLine : (parseMethodDescriptor (yX6_bestLine).desc).map (fun d => d.parameters.length) = some 0 := by decide +kernel
set_option maxRecDepth 20000 in
theorem kE_X6_ask : okE eX6_ask := ⟨by decide +kernel, ⟨(lw_m5 (List.mem_of_getElem? (i := 168) rfl)), rfl⟩, ⟨(lw_m1 (List.mem_of_getElem? (i := 6) rfl)), rfl⟩, rfl, ⟨by decide +kernel, by decide +kernel⟩, Nat.le_of_ble_eq_true rfl⟩
set_option maxRecDepth 20000 in
theorem kI_X6_ask : inW (.instanceMethod yX6_ask) ∧ inW (.selects (yX6_ask).cls yX6_ask yX6_ask) := ⟨⟨(lw_m5 (List.mem_of_getElem? (i := 166) rfl)), rfl⟩, ⟨(lw_m5 (List.mem_of_getElem? (i := 167) rfl)), rfl⟩⟩
theorem kN_X6_ask : (parseMethodDescriptor (yX6_ask).desc).map (fun d => d.parameters.length) = some 1 := by decide +kernel
set_option maxRecDepth 20000 in
theorem kE_X6_spare : okE eX6_spare := ⟨by decide +kernel, ⟨(lw_m5 (List.mem_of_getElem? (i := 172) rfl)), rfl⟩, ⟨(lw_m1 (List.mem_of_getElem? (i := 6) rfl)), rfl⟩, rfl, ⟨by decide +kernel, by decide +kernel⟩, Nat.le_of_ble_eq_true rfl⟩
set_option maxRecDepth 20000 in
theorem kI_X6_spare : inW (.instanceMethod yX6_spare) ∧ inW (.selects (yX6_spare).cls yX6_spare yX6_spare) := ⟨⟨(lw_m5 (List.mem_of_getElem? (i := 170) rfl)), rfl⟩, ⟨(lw_m5 (List.mem_of_getElem? (i := 171) rfl)), rfl⟩⟩
theorem kN_X6_spare : (parseMethodDescriptor (yX6_spare).desc).map (fun d => d.parameters.length) = some 0 := by decide +kernel
set_option maxRecDepth 20000 in
theorem kE_X6_slip : okE eX6_slip := ⟨by decide +kernel, ⟨(lw_m5 (List.mem_of_getElem? (i := 176) rfl)), rfl⟩, ⟨(lw_m1 (List.mem_of_getElem? (i := 6) rfl)), rfl⟩, rfl, ⟨by decide +kernel, by decide +kernel⟩, Nat.le_of_ble_eq_true rfl⟩
set_option maxRecDepth 20000 in
theorem kI_X6_slip : inW (.instanceMethod yX6_slip) ∧ inW (.selects (yX6_slip).cls yX6_slip yX6_slip) := ⟨⟨(lw_m5 (List.mem_of_getElem? (i := 174) rfl)), rfl⟩, ⟨(lw_m5 (List.mem_of_getElem? (i := 175) rfl)), rfl⟩⟩
theorem kN_X6_slip : (parseMethodDescriptor (yX6_slip).desc).map (fun d => d.parameters.length) = some 5 := by decide +kernel
set_option maxRecDepth 20000 in
theorem kE_X6_noWide : okE eX6_noWide := ⟨by decide +kernel, ⟨(lw_m5 (List.mem_of_getElem? (i := 180) rfl)), rfl⟩, ⟨(lw_m1 (List.mem_of_getElem? (i := 6) rfl)), rfl⟩, rfl, ⟨by decide +kernel, by decide +kernel⟩, Nat.le_of_ble_eq_true rfl⟩
set_option maxRecDepth 20000 in
theorem kI_X6_noWide : inW (.instanceMethod yX6_noWide) ∧ inW (.selects (yX6_noWide).cls yX6_noWide yX6_noWide) := ⟨⟨(lw_m5 (List.mem_of_getElem? (i := 179) rfl)), rfl⟩, ⟨(lw_m0 (List.mem_of_getElem? (i := 52) rfl)), rfl⟩⟩
theorem kN_X6_noWide : (parseMethodDescriptor (yX6_noWide).desc).map (fun d => d.parameters.length) = some 1 := by decide +kernel
set_option maxRecDepth 20000 in
theorem kE_X6_partOf : okE eX6_partOf := ⟨by decide +kernel, ⟨(lw_m5 (List.mem_of_getElem? (i := 184) rfl)), rfl⟩, ⟨(lw_m1 (List.mem_of_getElem? (i := 6) rfl)), rfl⟩, rfl, ⟨by decide +kernel, by decide +kernel⟩, Nat.le_of_ble_eq_true rfl⟩
set_option maxRecDepth 20000 in
theorem kS_X6_partOf : inW (.static yX6_partOf) := ⟨(lw_m5 (List.mem_of_getElem? (i := 183) rfl)), rfl⟩
theorem kN_X6_partOf : (parseMethodDescriptor (yX6_partOf).desc).map (fun d => d.parameters.length) = some 3 := by decide +kernel
set_option maxRecDepth 20000 in
theorem kE_X6_gcd : okE eX6_gcd := ⟨by decide +kernel, ⟨(lw_m5 (List.mem_of_getElem? (i := 187) rfl)), rfl⟩, ⟨(lw_m1 (List.mem_of_getElem? (i := 6) rfl)), rfl⟩, rfl, ⟨by decide +kernel, by decide +kernel⟩, Nat.le_of_ble_eq_true rfl⟩
set_option maxRecDepth 20000 in
theorem kS_X6_gcd : inW (.static yX6_gcd) := ⟨(lw_m5 (List.mem_of_getElem? (i := 186) rfl)), rfl⟩
theorem kN_X6_gcd : (parseMethodDescriptor (yX6_gcd).desc).map (fun d => d.parameters.length) = some 2 := by decide +kernel
set_option maxRecDepth 20000 in
theorem kE_X6_two : okE eX6_two := ⟨by decide +kernel, ⟨(lw_m5 (List.mem_of_getElem? (i := 191) rfl)), rfl⟩, ⟨(lw_m1 (List.mem_of_getElem? (i := 6) rfl)), rfl⟩, rfl, ⟨by decide +kernel, by decide +kernel⟩, Nat.le_of_ble_eq_true rfl⟩
set_option maxRecDepth 20000 in
theorem kI_X6_two : inW (.instanceMethod yX6_two) ∧ inW (.selects (yX6_two).cls yX6_two yX6_two) := ⟨⟨(lw_m5 (List.mem_of_getElem? (i := 189) rfl)), rfl⟩, ⟨(lw_m5 (List.mem_of_getElem? (i := 190) rfl)), rfl⟩⟩
theorem kN_X6_two : (parseMethodDescriptor (yX6_two).desc).map (fun d => d.parameters.length) = some 2 := by decide +kernel
set_option maxRecDepth 20000 in
theorem kE_X6_lastHeight : okE eX6_lastHeight := ⟨by decide +kernel, ⟨(lw_m5 (List.mem_of_getElem? (i := 195) rfl)), rfl⟩, ⟨(lw_m1 (List.mem_of_getElem? (i := 6) rfl)), rfl⟩, rfl, ⟨by decide +kernel, by decide +kernel⟩, Nat.le_of_ble_eq_true rfl⟩
set_option maxRecDepth 20000 in
theorem kI_X6_lastHeight : inW (.instanceMethod yX6_lastHeight) ∧ inW (.selects (yX6_lastHeight).cls yX6_lastHeight yX6_lastHeight) := ⟨⟨(lw_m5 (List.mem_of_getElem? (i := 194) rfl)), rfl⟩, ⟨(lw_m0 (List.mem_of_getElem? (i := 53) rfl)), rfl⟩⟩
theorem kN_X6_lastHeight : (parseMethodDescriptor (yX6_lastHeight).desc).map (fun d => d.parameters.length) = some 4 := by decide +kernel
set_option maxRecDepth 20000 in
theorem kE_X6_which : okE eX6_which := ⟨by decide +kernel, ⟨(lw_m5 (List.mem_of_getElem? (i := 199) rfl)), rfl⟩, ⟨(lw_m1 (List.mem_of_getElem? (i := 6) rfl)), rfl⟩, rfl, ⟨by decide +kernel, by decide +kernel⟩, Nat.le_of_ble_eq_true rfl⟩
set_option maxRecDepth 20000 in
theorem kI_X6_which : inW (.instanceMethod yX6_which) ∧ inW (.selects (yX6_which).cls yX6_which yX6_which) := ⟨⟨(lw_m5 (List.mem_of_getElem? (i := 197) rfl)), rfl⟩, ⟨(lw_m5 (List.mem_of_getElem? (i := 198) rfl)), rfl⟩⟩
theorem kN_X6_which : (parseMethodDescriptor (yX6_which).desc).map (fun d => d.parameters.length) = some 3 := by decide +kernel
set_option maxRecDepth 20000 in
theorem kE_X6_isTold : okE eX6_isTold := ⟨by decide +kernel, ⟨(lw_m5 (List.mem_of_getElem? (i := 203) rfl)), rfl⟩, ⟨(lw_m1 (List.mem_of_getElem? (i := 6) rfl)), rfl⟩, rfl, ⟨by decide +kernel, by decide +kernel⟩, Nat.le_of_ble_eq_true rfl⟩
set_option maxRecDepth 20000 in
theorem kI_X6_isTold : inW (.instanceMethod yX6_isTold) ∧ inW (.selects (yX6_isTold).cls yX6_isTold yX6_isTold) := ⟨⟨(lw_m5 (List.mem_of_getElem? (i := 202) rfl)), rfl⟩, ⟨(lw_m0 (List.mem_of_getElem? (i := 54) rfl)), rfl⟩⟩
theorem kN_X6_isTold : (parseMethodDescriptor (yX6_isTold).desc).map (fun d => d.parameters.length) = some 0 := by decide +kernel
set_option maxRecDepth 20000 in
theorem kE_X6_row : okE eX6_row := ⟨by decide +kernel, ⟨(lw_m5 (List.mem_of_getElem? (i := 207) rfl)), rfl⟩, ⟨(lw_m1 (List.mem_of_getElem? (i := 6) rfl)), rfl⟩, rfl, ⟨by decide +kernel, by decide +kernel⟩, Nat.le_of_ble_eq_true rfl⟩
set_option maxRecDepth 20000 in
theorem kI_X6_row : inW (.instanceMethod yX6_row) ∧ inW (.selects (yX6_row).cls yX6_row yX6_row) := ⟨⟨(lw_m5 (List.mem_of_getElem? (i := 205) rfl)), rfl⟩, ⟨(lw_m5 (List.mem_of_getElem? (i := 206) rfl)), rfl⟩⟩
theorem kN_X6_row : (parseMethodDescriptor (yX6_row).desc).map (fun d => d.parameters.length) = some 1 := by decide +kernel
set_option maxRecDepth 20000 in
theorem kE_X6_judge : okE eX6_judge := ⟨by decide +kernel, ⟨(lw_m5 (List.mem_of_getElem? (i := 211) rfl)), rfl⟩, ⟨(lw_m1 (List.mem_of_getElem? (i := 6) rfl)), rfl⟩, rfl, ⟨by decide +kernel, by decide +kernel⟩, Nat.le_of_ble_eq_true rfl⟩
set_option maxRecDepth 20000 in
theorem kI_X6_judge : inW (.instanceMethod yX6_judge) ∧ inW (.selects (yX6_judge).cls yX6_judge yX6_judge) := ⟨⟨(lw_m5 (List.mem_of_getElem? (i := 209) rfl)), rfl⟩, ⟨(lw_m5 (List.mem_of_getElem? (i := 210) rfl)), rfl⟩⟩
theorem kN_X6_judge : (parseMethodDescriptor (yX6_judge).desc).map (fun d => d.parameters.length) = some 1 := by decide +kernel
set_option maxRecDepth 20000 in
theorem kE_X6_clear : okE eX6_clear := ⟨by decide +kernel, ⟨(lw_m5 (List.mem_of_getElem? (i := 215) rfl)), rfl⟩, ⟨(lw_m1 (List.mem_of_getElem? (i := 6) rfl)), rfl⟩, rfl, ⟨by decide +kernel, by decide +kernel⟩, Nat.le_of_ble_eq_true rfl⟩
set_option maxRecDepth 20000 in
theorem kI_X6_clear : inW (.instanceMethod yX6_clear) ∧ inW (.selects (yX6_clear).cls yX6_clear yX6_clear) := ⟨⟨(lw_m5 (List.mem_of_getElem? (i := 213) rfl)), rfl⟩, ⟨(lw_m5 (List.mem_of_getElem? (i := 214) rfl)), rfl⟩⟩
theorem kN_X6_clear : (parseMethodDescriptor (yX6_clear).desc).map (fun d => d.parameters.length) = some 0 := by decide +kernel
set_option maxRecDepth 20000 in
theorem kE_X6_lots : okE eX6_lots := ⟨by decide +kernel, ⟨(lw_m5 (List.mem_of_getElem? (i := 219) rfl)), rfl⟩, ⟨(lw_m1 (List.mem_of_getElem? (i := 6) rfl)), rfl⟩, rfl, ⟨by decide +kernel, by decide +kernel⟩, Nat.le_of_ble_eq_true rfl⟩
set_option maxRecDepth 20000 in
theorem kI_X6_lots : inW (.instanceMethod yX6_lots) ∧ inW (.selects (yX6_lots).cls yX6_lots yX6_lots) := ⟨⟨(lw_m5 (List.mem_of_getElem? (i := 217) rfl)), rfl⟩, ⟨(lw_m5 (List.mem_of_getElem? (i := 218) rfl)), rfl⟩⟩
theorem kN_X6_lots : (parseMethodDescriptor (yX6_lots).desc).map (fun d => d.parameters.length) = some 3 := by decide +kernel
set_option maxRecDepth 20000 in
theorem kE_X6_drawn : okE eX6_drawn := ⟨by decide +kernel, ⟨(lw_m5 (List.mem_of_getElem? (i := 223) rfl)), rfl⟩, ⟨(lw_m1 (List.mem_of_getElem? (i := 6) rfl)), rfl⟩, rfl, ⟨by decide +kernel, by decide +kernel⟩, Nat.le_of_ble_eq_true rfl⟩
set_option maxRecDepth 20000 in
theorem kI_X6_drawn : inW (.instanceMethod yX6_drawn) ∧ inW (.selects (yX6_drawn).cls yX6_drawn yX6_drawn) := ⟨⟨(lw_m5 (List.mem_of_getElem? (i := 222) rfl)), rfl⟩, ⟨(lw_m0 (List.mem_of_getElem? (i := 55) rfl)), rfl⟩⟩
theorem kN_X6_drawn : (parseMethodDescriptor (yX6_drawn).desc).map (fun d => d.parameters.length) = some 1 := by decide +kernel
set_option maxRecDepth 20000 in
theorem kE_X6_image : okE eX6_image := ⟨by decide +kernel, ⟨(lw_m5 (List.mem_of_getElem? (i := 230) rfl)), rfl⟩, ⟨(lw_m1 (List.mem_of_getElem? (i := 6) rfl)), rfl⟩, rfl, ⟨by decide +kernel, by decide +kernel⟩, Nat.le_of_ble_eq_true rfl⟩
set_option maxRecDepth 20000 in
theorem kI_X6_image : inW (.instanceMethod yX6_image) ∧ inW (.selects (yX6_image).cls yX6_image yX6_image) := ⟨⟨(lw_m5 (List.mem_of_getElem? (i := 228) rfl)), rfl⟩, ⟨(lw_m5 (List.mem_of_getElem? (i := 229) rfl)), rfl⟩⟩
theorem kN_X6_image : (parseMethodDescriptor (yX6_image).desc).map (fun d => d.parameters.length) = some 0 := by decide +kernel
set_option maxRecDepth 20000 in
theorem kE_X6_on : okE eX6_on := ⟨by decide +kernel, ⟨(lw_m5 (List.mem_of_getElem? (i := 234) rfl)), rfl⟩, ⟨(lw_m1 (List.mem_of_getElem? (i := 6) rfl)), rfl⟩, rfl, ⟨by decide +kernel, by decide +kernel⟩, Nat.le_of_ble_eq_true rfl⟩
set_option maxRecDepth 20000 in
theorem kI_X6_on : inW (.instanceMethod yX6_on) ∧ inW (.selects (yX6_on).cls yX6_on yX6_on) := ⟨⟨(lw_m5 (List.mem_of_getElem? (i := 232) rfl)), rfl⟩, ⟨(lw_m5 (List.mem_of_getElem? (i := 233) rfl)), rfl⟩⟩
theorem kN_X6_on : (parseMethodDescriptor (yX6_on).desc).map (fun d => d.parameters.length) = some 0 := by decide +kernel
set_option maxRecDepth 20000 in
theorem kE_X6_count : okE eX6_count := ⟨by decide +kernel, ⟨(lw_m5 (List.mem_of_getElem? (i := 238) rfl)), rfl⟩, ⟨(lw_m1 (List.mem_of_getElem? (i := 6) rfl)), rfl⟩, rfl, ⟨by decide +kernel, by decide +kernel⟩, Nat.le_of_ble_eq_true rfl⟩
set_option maxRecDepth 20000 in
theorem kI_X6_count : inW (.instanceMethod yX6_count) ∧ inW (.selects (yX6_count).cls yX6_count yX6_count) := ⟨⟨(lw_m5 (List.mem_of_getElem? (i := 236) rfl)), rfl⟩, ⟨(lw_m5 (List.mem_of_getElem? (i := 237) rfl)), rfl⟩⟩
theorem kN_X6_count : (parseMethodDescriptor (yX6_count).desc).map (fun d => d.parameters.length) = some 1 := by decide +kernel
set_option maxRecDepth 20000 in
theorem kE_X6_openMany : okE eX6_openMany := ⟨by decide +kernel, ⟨(lw_m6 (List.mem_of_getElem? (i := 2) rfl)), rfl⟩, ⟨(lw_m1 (List.mem_of_getElem? (i := 6) rfl)), rfl⟩, rfl, ⟨by decide +kernel, by decide +kernel⟩, Nat.le_of_ble_eq_true rfl⟩
set_option maxRecDepth 20000 in
theorem kI_X6_openMany : inW (.instanceMethod yX6_openMany) ∧ inW (.selects (yX6_openMany).cls yX6_openMany yX6_openMany) := ⟨⟨(lw_m6 (List.mem_of_getElem? (i := 1) rfl)), rfl⟩, ⟨(lw_m0 (List.mem_of_getElem? (i := 56) rfl)), rfl⟩⟩
theorem kN_X6_openMany : (parseMethodDescriptor (yX6_openMany).desc).map (fun d => d.parameters.length) = some 0 := by decide +kernel
set_option maxRecDepth 20000 in
theorem kL0_9 : okL 0 (9, 1, 1, eX0_held) := ⟨kE_X0_held, kN_X0_held, ⟨(lw_m2 (List.mem_of_getElem? (i := 132) rfl)), rfl⟩, kS_X0_held⟩
set_option maxRecDepth 20000 in
theorem kL0_15 : okL 0 (15, 1, 1, eX0_nearestTen) := ⟨kE_X0_nearestTen, kN_X0_nearestTen, ⟨(lw_m2 (List.mem_of_getElem? (i := 135) rfl)), rfl⟩, kS_X0_nearestTen⟩
set_option maxRecDepth 20000 in
theorem kL0_18 : okL 0 (18, 5, 2, eJ6_bitCount_0f7a4) := ⟨⟨(lw_m3 (List.mem_of_getElem? (i := 171) rfl)), rfl⟩, ⟨(lw_m2 (List.mem_of_getElem? (i := 19) rfl)), rfl⟩, ⟨(lw_m1 (List.mem_of_getElem? (i := 11) rfl)), rfl⟩, ⟨(lw_m2 (List.mem_of_getElem? (i := 20) rfl)), rfl⟩⟩
theorem kL0 : ∀ q ∈ ml0, okL 0 q := List.forall_mem_cons.mpr ⟨kL0_9, List.forall_mem_cons.mpr ⟨kL0_15, List.forall_mem_cons.mpr ⟨kL0_18, fun _ h => absurd h List.not_mem_nil⟩⟩⟩
set_option maxRecDepth 20000 in
theorem kL1_9 : okL 1 (9, 1, 2, eX1_elders) := ⟨kE_X1_elders, kN_X1_elders, ⟨(lw_m3 (List.mem_of_getElem? (i := 22) rfl)), rfl⟩, kS_X1_elders⟩
set_option maxRecDepth 20000 in
theorem kL1_54 : okL 1 (54, 0, 1, eX3_hasKey) := ⟨by decide, kE_X3_hasKey, kN_X3_hasKey, ⟨(lw_m3 (List.mem_of_getElem? (i := 25) rfl)), rfl⟩, kI_X3_hasKey⟩
set_option maxRecDepth 20000 in
theorem kL1_15 : okL 1 (15, 1, 1, eJ6_bitCount_0f7a4) := ⟨kE_J6_bitCount_0f7a4, kN_J6_bitCount_0f7a4, ⟨(lw_m3 (List.mem_of_getElem? (i := 26) rfl)), rfl⟩, kS_J6_bitCount_0f7a4⟩
set_option maxRecDepth 20000 in
theorem kL1_21 : okL 1 (21, 1, 1, eJ6_numberOfTrailingZeros_0f7a4) := ⟨kE_J6_numberOfTrailingZeros_0f7a4, kN_J6_numberOfTrailingZeros_0f7a4, ⟨(lw_m3 (List.mem_of_getElem? (i := 30) rfl)), rfl⟩, kS_J6_numberOfTrailingZeros_0f7a4⟩
set_option maxRecDepth 20000 in
theorem kL1_24 : okL 1 (24, 1, 2, eX1_childBits) := ⟨kE_X1_childBits, kN_X1_childBits, ⟨(lw_m3 (List.mem_of_getElem? (i := 37) rfl)), rfl⟩, kS_X1_childBits⟩
set_option maxRecDepth 20000 in
theorem kL1_41 : okL 1 (41, 1, 1, eJ6_numberOfLeadingZeros_0f7a4) := ⟨kE_J6_numberOfLeadingZeros_0f7a4, kN_J6_numberOfLeadingZeros_0f7a4, ⟨(lw_m3 (List.mem_of_getElem? (i := 53) rfl)), rfl⟩, kS_J6_numberOfLeadingZeros_0f7a4⟩
set_option maxRecDepth 20000 in
theorem kL1_44 : okL 1 (44, 1, 2, eX1_heirsOf) := ⟨kE_X1_heirsOf, kN_X1_heirsOf, ⟨(lw_m3 (List.mem_of_getElem? (i := 197) rfl)), rfl⟩, kS_X1_heirsOf⟩
set_option maxRecDepth 20000 in
theorem kL1_47 : okL 1 (47, 0, 0, eX3_openingBits) := ⟨by decide, kE_X3_openingBits, kN_X3_openingBits, ⟨(lw_m3 (List.mem_of_getElem? (i := 198) rfl)), rfl⟩, kI_X3_openingBits⟩
set_option maxRecDepth 20000 in
theorem kL1_51 : okL 1 (51, 0, 1, eX3_leastWiggleOf) := ⟨by decide, kE_X3_leastWiggleOf, kN_X3_leastWiggleOf, ⟨(lw_m3 (List.mem_of_getElem? (i := 213) rfl)), rfl⟩, kI_X3_leastWiggleOf⟩
set_option maxRecDepth 20000 in
theorem kL1_37 : okL 1 (37, 2, 2, eX5_holds) := ⟨kE_X5_holds, kN_X5_holds, by decide +kernel, kS_X5_holds⟩
theorem kL1 : ∀ q ∈ ml1, okL 1 q := List.forall_mem_cons.mpr ⟨kL1_9, List.forall_mem_cons.mpr ⟨kL1_54, List.forall_mem_cons.mpr ⟨kL1_15, List.forall_mem_cons.mpr ⟨kL1_21, List.forall_mem_cons.mpr ⟨kL1_24, List.forall_mem_cons.mpr ⟨kL1_41, List.forall_mem_cons.mpr ⟨kL1_44, List.forall_mem_cons.mpr ⟨kL1_47, List.forall_mem_cons.mpr ⟨kL1_51, List.forall_mem_cons.mpr ⟨kL1_37, fun _ h => absurd h List.not_mem_nil⟩⟩⟩⟩⟩⟩⟩⟩⟩⟩
set_option maxRecDepth 20000 in
theorem kL2_60 : okL 2 (60, 0, 2, eX2_takeKey) := ⟨by decide, kE_X2_takeKey, kN_X2_takeKey, ⟨(lw_m3 (List.mem_of_getElem? (i := 83) rfl)), rfl⟩, kI_X2_takeKey⟩
set_option maxRecDepth 20000 in
theorem kL2_28 : okL 2 (28, 3, 5, eJ6_bitCount_0f7a4) := ⟨⟨(lw_m3 (List.mem_of_getElem? (i := 87) rfl)), rfl⟩, ⟨(lw_m2 (List.mem_of_getElem? (i := 65) rfl)), rfl⟩, ⟨(lw_m2 (List.mem_of_getElem? (i := 64) rfl)), rfl⟩, ⟨(lw_m1 (List.mem_of_getElem? (i := 13) rfl)), rfl⟩⟩
set_option maxRecDepth 20000 in
theorem kL2_64 : okL 2 (64, 0, 2, eX2_cutCopyBy) := ⟨by decide, kE_X2_cutCopyBy, kN_X2_cutCopyBy, ⟨(lw_m3 (List.mem_of_getElem? (i := 88) rfl)), rfl⟩, kI_X2_cutCopyBy⟩
set_option maxRecDepth 20000 in
theorem kL2_46 : okL 2 (46, 0, 2, eX2_cutCopy) := ⟨by decide, kE_X2_cutCopy, kN_X2_cutCopy, ⟨(lw_m3 (List.mem_of_getElem? (i := 92) rfl)), rfl⟩, kI_X2_cutCopy⟩
set_option maxRecDepth 20000 in
theorem kL2_34 : okL 2 (34, 1, 4, eX0_cutHeight) := ⟨kE_X0_cutHeight, kN_X0_cutHeight, ⟨(lw_m3 (List.mem_of_getElem? (i := 96) rfl)), rfl⟩, kS_X0_cutHeight⟩
set_option maxRecDepth 20000 in
theorem kL2_67 : okL 2 (67, 0, 1, eX3_wiggleOf) := ⟨by decide, kE_X3_wiggleOf, kN_X3_wiggleOf, ⟨(lw_m3 (List.mem_of_getElem? (i := 97) rfl)), rfl⟩, kI_X3_wiggleOf⟩
set_option maxRecDepth 20000 in
theorem kL2_71 : okL 2 (71, 0, 1, eX3_fits) := ⟨by decide, kE_X3_fits, kN_X3_fits, ⟨(lw_m3 (List.mem_of_getElem? (i := 106) rfl)), rfl⟩, kI_X3_fits⟩
set_option maxRecDepth 20000 in
theorem kL2_75 : okL 2 (75, 0, 1, eX3_leastTooFar) := ⟨by decide, kE_X3_leastTooFar, kN_X3_leastTooFar, ⟨(lw_m3 (List.mem_of_getElem? (i := 111) rfl)), rfl⟩, kI_X3_leastTooFar⟩
set_option maxRecDepth 20000 in
theorem kL2_78 : okL 2 (78, 0, 3, eX2_opensWorn) := ⟨by decide, kE_X2_opensWorn, kN_X2_opensWorn, ⟨(lw_m3 (List.mem_of_getElem? (i := 120) rfl)), rfl⟩, kI_X2_opensWorn⟩
set_option maxRecDepth 20000 in
theorem kL2_82 : okL 2 (82, 1, 2, eX3_wornHeight) := ⟨kE_X3_wornHeight, kN_X3_wornHeight, ⟨(lw_m3 (List.mem_of_getElem? (i := 124) rfl)), rfl⟩, kS_X3_wornHeight⟩
set_option maxRecDepth 20000 in
theorem kL2_89 : okL 2 (89, 1, 2, eX3_wornPin) := ⟨kE_X3_wornPin, kN_X3_wornPin, ⟨(lw_m3 (List.mem_of_getElem? (i := 125) rfl)), rfl⟩, kS_X3_wornPin⟩
set_option maxRecDepth 20000 in
theorem kL2_92 : okL 2 (92, 6, 1, eJ6_bitCount_0f7a4) := ⟨⟨(lw_m3 (List.mem_of_getElem? (i := 126) rfl)), rfl⟩, ⟨(lw_m2 (List.mem_of_getElem? (i := 185) rfl)), rfl⟩, ⟨(lw_m1 (List.mem_of_getElem? (i := 11) rfl)), rfl⟩, ⟨(lw_m2 (List.mem_of_getElem? (i := 186) rfl)), rfl⟩⟩
set_option maxRecDepth 20000 in
theorem kL2_105 : okL 2 (105, 0, 2, eX2_pinAnew) := ⟨by decide, kE_X2_pinAnew, kN_X2_pinAnew, ⟨(lw_m3 (List.mem_of_getElem? (i := 140) rfl)), rfl⟩, kI_X2_pinAnew⟩
set_option maxRecDepth 20000 in
theorem kL2_101 : okL 2 (101, 0, 3, eX2_wholeKeysWithin) := ⟨by decide, kE_X2_wholeKeysWithin, kN_X2_wholeKeysWithin, ⟨(lw_m3 (List.mem_of_getElem? (i := 144) rfl)), rfl⟩, kI_X2_wholeKeysWithin⟩
set_option maxRecDepth 20000 in
theorem kL2_109 : okL 2 (109, 0, 3, eX2_teethWithin) := ⟨by decide, kE_X2_teethWithin, kN_X2_teethWithin, ⟨(lw_m3 (List.mem_of_getElem? (i := 148) rfl)), rfl⟩, kI_X2_teethWithin⟩
set_option maxRecDepth 20000 in
theorem kL2_113 : okL 2 (113, 0, 3, eX2_middleHeight) := ⟨by decide, kE_X2_middleHeight, kN_X2_middleHeight, ⟨(lw_m3 (List.mem_of_getElem? (i := 162) rfl)), rfl⟩, kI_X2_middleHeight⟩
set_option maxRecDepth 20000 in
theorem kL2_123 : okL 2 (123, 1, 1, eJ6_bitCount_0f7a4) := ⟨kE_J6_bitCount_0f7a4, kN_J6_bitCount_0f7a4, ⟨(lw_m3 (List.mem_of_getElem? (i := 167) rfl)), rfl⟩, kS_J6_bitCount_0f7a4⟩
set_option maxRecDepth 20000 in
theorem kL2_116 : okL 2 (116, 1, 1, eX0_codeOf) := ⟨kE_X0_codeOf, kN_X0_codeOf, ⟨(lw_m3 (List.mem_of_getElem? (i := 168) rfl)), rfl⟩, kS_X0_codeOf⟩
set_option maxRecDepth 20000 in
theorem kL2_128 : okL 2 (128, 0, 3, eX2_codeOfSet) := ⟨by decide, kE_X2_codeOfSet, kN_X2_codeOfSet, ⟨(lw_m3 (List.mem_of_getElem? (i := 180) rfl)), rfl⟩, kI_X2_codeOfSet⟩
set_option maxRecDepth 20000 in
theorem kL2_131 : okL 2 (131, 0, 0, eX3_snappedBits) := ⟨by decide, kE_X3_snappedBits, kN_X3_snappedBits, ⟨(lw_m3 (List.mem_of_getElem? (i := 222) rfl)), rfl⟩, kI_X3_snappedBits⟩
set_option maxRecDepth 20000 in
theorem kL2_135 : okL 2 (135, 0, 0, eX3_allKeysBits) := ⟨by decide, kE_X3_allKeysBits, kN_X3_allKeysBits, ⟨(lw_m3 (List.mem_of_getElem? (i := 223) rfl)), rfl⟩, kI_X3_allKeysBits⟩
set_option maxRecDepth 20000 in
theorem kL2_138 : okL 2 (138, 0, 2, eX2_isEnough) := ⟨by decide, kE_X2_isEnough, kN_X2_isEnough, ⟨(lw_m3 (List.mem_of_getElem? (i := 224) rfl)), rfl⟩, kI_X2_isEnough⟩
set_option maxRecDepth 20000 in
theorem kL2_142 : okL 2 (142, 0, 1, eX3_opens) := ⟨by decide, kE_X3_opens, kN_X3_opens, ⟨(lw_m3 (List.mem_of_getElem? (i := 237) rfl)), rfl⟩, kI_X3_opens⟩
set_option maxRecDepth 20000 in
theorem kL2_146 : okL 2 (146, 0, 5, eX2_lastCopyFits) := ⟨by decide, kE_X2_lastCopyFits, kN_X2_lastCopyFits, ⟨(lw_m3 (List.mem_of_getElem? (i := 238) rfl)), rfl⟩, kI_X2_lastCopyFits⟩
set_option maxRecDepth 20000 in
theorem kL2_154 : okL 2 (154, 0, 5, eX2_isSteady) := ⟨by decide, kE_X2_isSteady, kN_X2_isSteady, ⟨(lw_m4 (List.mem_of_getElem? (i := 20) rfl)), rfl⟩, kI_X2_isSteady⟩
set_option maxRecDepth 20000 in
theorem kL2_157 : okL 2 (157, 0, 5, eX2_cutTwice) := ⟨by decide, kE_X2_cutTwice, kN_X2_cutTwice, ⟨(lw_m4 (List.mem_of_getElem? (i := 24) rfl)), rfl⟩, kI_X2_cutTwice⟩
set_option maxRecDepth 20000 in
theorem kL2_161 : okL 2 (161, 0, 3, eX3_cutBy) := ⟨by decide, kE_X3_cutBy, kN_X3_cutBy, ⟨(lw_m4 (List.mem_of_getElem? (i := 28) rfl)), rfl⟩, kI_X3_cutBy⟩
set_option maxRecDepth 20000 in
theorem kL2_165 : okL 2 (165, 0, 5, eX2_cutsSo) := ⟨by decide, kE_X2_cutsSo, kN_X2_cutsSo, ⟨(lw_m4 (List.mem_of_getElem? (i := 37) rfl)), rfl⟩, kI_X2_cutsSo⟩
set_option maxRecDepth 20000 in
theorem kL2_169 : okL 2 (169, 0, 1, eX2_drawBelow) := ⟨by decide, kE_X2_drawBelow, kN_X2_drawBelow, ⟨(lw_m4 (List.mem_of_getElem? (i := 69) rfl)), rfl⟩, kI_X2_drawBelow⟩
set_option maxRecDepth 20000 in
theorem kL2_119 : okL 2 (119, 2, 2, eX5_holds) := ⟨kE_X5_holds, kN_X5_holds, by decide +kernel, kS_X5_holds⟩
set_option maxRecDepth 20000 in
theorem kL2_150 : okL 2 (150, 2, 2, eX5_power) := ⟨kE_X5_power, kN_X5_power, by decide +kernel, kS_X5_power⟩
theorem kL2 : ∀ q ∈ ml2, okL 2 q := List.forall_mem_cons.mpr ⟨kL2_60, List.forall_mem_cons.mpr ⟨kL2_28, List.forall_mem_cons.mpr ⟨kL2_64, List.forall_mem_cons.mpr ⟨kL2_46, List.forall_mem_cons.mpr ⟨kL2_34, List.forall_mem_cons.mpr ⟨kL2_67, List.forall_mem_cons.mpr ⟨kL2_71, List.forall_mem_cons.mpr ⟨kL2_75, List.forall_mem_cons.mpr ⟨kL2_78, List.forall_mem_cons.mpr ⟨kL2_82, List.forall_mem_cons.mpr ⟨kL2_89, List.forall_mem_cons.mpr ⟨kL2_92, List.forall_mem_cons.mpr ⟨kL2_105, List.forall_mem_cons.mpr ⟨kL2_101, List.forall_mem_cons.mpr ⟨kL2_109, List.forall_mem_cons.mpr ⟨kL2_113, List.forall_mem_cons.mpr ⟨kL2_123, List.forall_mem_cons.mpr ⟨kL2_116, List.forall_mem_cons.mpr ⟨kL2_128, List.forall_mem_cons.mpr ⟨kL2_131, List.forall_mem_cons.mpr ⟨kL2_135, List.forall_mem_cons.mpr ⟨kL2_138, List.forall_mem_cons.mpr ⟨kL2_142, List.forall_mem_cons.mpr ⟨kL2_146, List.forall_mem_cons.mpr ⟨kL2_154, List.forall_mem_cons.mpr ⟨kL2_157, List.forall_mem_cons.mpr ⟨kL2_161, List.forall_mem_cons.mpr ⟨kL2_165, List.forall_mem_cons.mpr ⟨kL2_169, List.forall_mem_cons.mpr ⟨kL2_119, List.forall_mem_cons.mpr ⟨kL2_150, fun _ h => absurd h List.not_mem_nil⟩⟩⟩⟩⟩⟩⟩⟩⟩⟩⟩⟩⟩⟩⟩⟩⟩⟩⟩⟩⟩⟩⟩⟩⟩⟩⟩⟩⟩⟩⟩
set_option maxRecDepth 20000 in
theorem kL3_52 : okL 3 (52, 3, 5, eJ6_bitCount_0f7a4) := ⟨⟨(lw_m2 (List.mem_of_getElem? (i := 63) rfl)), rfl⟩, ⟨(lw_m2 (List.mem_of_getElem? (i := 65) rfl)), rfl⟩, ⟨(lw_m2 (List.mem_of_getElem? (i := 64) rfl)), rfl⟩, ⟨(lw_m1 (List.mem_of_getElem? (i := 13) rfl)), rfl⟩⟩
set_option maxRecDepth 20000 in
theorem kL3_58 : okL 3 (58, 0, 1, eX3_hasKey) := ⟨by decide, kE_X3_hasKey, kN_X3_hasKey, ⟨(lw_m2 (List.mem_of_getElem? (i := 112) rfl)), rfl⟩, kI_X3_hasKey⟩
set_option maxRecDepth 20000 in
theorem kL3_62 : okL 3 (62, 0, 1, eX3_hasMachine) := ⟨by decide, kE_X3_hasMachine, kN_X3_hasMachine, ⟨(lw_m2 (List.mem_of_getElem? (i := 120) rfl)), rfl⟩, kI_X3_hasMachine⟩
set_option maxRecDepth 20000 in
theorem kL3_65 : okL 3 (65, 0, 1, eX3_addKey) := ⟨by decide, kE_X3_addKey, kN_X3_addKey, ⟨(lw_m2 (List.mem_of_getElem? (i := 124) rfl)), rfl⟩, kI_X3_addKey⟩
set_option maxRecDepth 20000 in
theorem kL3_69 : okL 3 (69, 0, 3, eX3_cutBy) := ⟨by decide, kE_X3_cutBy, kN_X3_cutBy, ⟨(lw_m2 (List.mem_of_getElem? (i := 125) rfl)), rfl⟩, kI_X3_cutBy⟩
set_option maxRecDepth 20000 in
theorem kL3_73 : okL 3 (73, 1, 4, eX0_cutHeight) := ⟨kE_X0_cutHeight, kN_X0_cutHeight, ⟨(lw_m2 (List.mem_of_getElem? (i := 129) rfl)), rfl⟩, kS_X0_cutHeight⟩
set_option maxRecDepth 20000 in
theorem kL3_79 : okL 3 (79, 1, 2, eX3_wornHeight) := ⟨kE_X3_wornHeight, kN_X3_wornHeight, ⟨(lw_m2 (List.mem_of_getElem? (i := 145) rfl)), rfl⟩, kS_X3_wornHeight⟩
set_option maxRecDepth 20000 in
theorem kL3_86 : okL 3 (86, 4, 2, eJ6_bitCount_0f7a4) := ⟨⟨(lw_m2 (List.mem_of_getElem? (i := 148) rfl)), rfl⟩, ⟨(lw_m2 (List.mem_of_getElem? (i := 16) rfl)), rfl⟩, ⟨(lw_m1 (List.mem_of_getElem? (i := 11) rfl)), rfl⟩, ⟨(lw_m2 (List.mem_of_getElem? (i := 17) rfl)), rfl⟩⟩
set_option maxRecDepth 20000 in
theorem kL3_83 : okL 3 (83, 1, 2, eX3_wornPin) := ⟨kE_X3_wornPin, kN_X3_wornPin, ⟨(lw_m2 (List.mem_of_getElem? (i := 149) rfl)), rfl⟩, kS_X3_wornPin⟩
set_option maxRecDepth 20000 in
theorem kL3_91 : okL 3 (91, 0, 1, eX3_fits) := ⟨by decide, kE_X3_fits, kN_X3_fits, ⟨(lw_m2 (List.mem_of_getElem? (i := 176) rfl)), rfl⟩, kI_X3_fits⟩
set_option maxRecDepth 20000 in
theorem kL3_95 : okL 3 (95, 0, 1, eX3_leastTooFar) := ⟨by decide, kE_X3_leastTooFar, kN_X3_leastTooFar, ⟨(lw_m2 (List.mem_of_getElem? (i := 180) rfl)), rfl⟩, kI_X3_leastTooFar⟩
set_option maxRecDepth 20000 in
theorem kL3_99 : okL 3 (99, 6, 1, eJ6_bitCount_0f7a4) := ⟨⟨(lw_m2 (List.mem_of_getElem? (i := 184) rfl)), rfl⟩, ⟨(lw_m2 (List.mem_of_getElem? (i := 185) rfl)), rfl⟩, ⟨(lw_m1 (List.mem_of_getElem? (i := 11) rfl)), rfl⟩, ⟨(lw_m2 (List.mem_of_getElem? (i := 186) rfl)), rfl⟩⟩
set_option maxRecDepth 20000 in
theorem kL3_102 : okL 3 (102, 0, 1, eX3_opens) := ⟨by decide, kE_X3_opens, kN_X3_opens, ⟨(lw_m3 (List.mem_of_getElem? (i := 14) rfl)), rfl⟩, kI_X3_opens⟩
set_option maxRecDepth 20000 in
theorem kL3_105 : okL 3 (105, 0, 0, eX3_allKeysBits) := ⟨by decide, kE_X3_allKeysBits, kN_X3_allKeysBits, ⟨(lw_m3 (List.mem_of_getElem? (i := 64) rfl)), rfl⟩, kI_X3_allKeysBits⟩
set_option maxRecDepth 20000 in
theorem kL3_109 : okL 3 (109, 0, 0, eX3_snappedBits) := ⟨by decide, kE_X3_snappedBits, kN_X3_snappedBits, ⟨(lw_m3 (List.mem_of_getElem? (i := 68) rfl)), rfl⟩, kI_X3_snappedBits⟩
set_option maxRecDepth 20000 in
theorem kL3_112 : okL 3 (112, 0, 1, eX3_leastWiggleOf) := ⟨by decide, kE_X3_leastWiggleOf, kN_X3_leastWiggleOf, ⟨(lw_m3 (List.mem_of_getElem? (i := 69) rfl)), rfl⟩, kI_X3_leastWiggleOf⟩
set_option maxRecDepth 20000 in
theorem kL3_119 : okL 3 (119, 0, 1, eX3_wiggleOf) := ⟨by decide, kE_X3_wiggleOf, kN_X3_wiggleOf, ⟨(lw_m3 (List.mem_of_getElem? (i := 74) rfl)), rfl⟩, kI_X3_wiggleOf⟩
set_option maxRecDepth 20000 in
theorem kL3_115 : okL 3 (115, 2, 2, eX5_holds) := ⟨kE_X5_holds, kN_X5_holds, by decide +kernel, kS_X5_holds⟩
theorem kL3 : ∀ q ∈ ml3, okL 3 q := List.forall_mem_cons.mpr ⟨kL3_52, List.forall_mem_cons.mpr ⟨kL3_58, List.forall_mem_cons.mpr ⟨kL3_62, List.forall_mem_cons.mpr ⟨kL3_65, List.forall_mem_cons.mpr ⟨kL3_69, List.forall_mem_cons.mpr ⟨kL3_73, List.forall_mem_cons.mpr ⟨kL3_79, List.forall_mem_cons.mpr ⟨kL3_86, List.forall_mem_cons.mpr ⟨kL3_83, List.forall_mem_cons.mpr ⟨kL3_91, List.forall_mem_cons.mpr ⟨kL3_95, List.forall_mem_cons.mpr ⟨kL3_99, List.forall_mem_cons.mpr ⟨kL3_102, List.forall_mem_cons.mpr ⟨kL3_105, List.forall_mem_cons.mpr ⟨kL3_109, List.forall_mem_cons.mpr ⟨kL3_112, List.forall_mem_cons.mpr ⟨kL3_119, List.forall_mem_cons.mpr ⟨kL3_115, fun _ h => absurd h List.not_mem_nil⟩⟩⟩⟩⟩⟩⟩⟩⟩⟩⟩⟩⟩⟩⟩⟩⟩⟩
set_option maxRecDepth 20000 in
theorem kL4_19 : okL 4 (19, 1, 1, eX4_shapeBehind) := ⟨kE_X4_shapeBehind, kN_X4_shapeBehind, ⟨(lw_m1 (List.mem_of_getElem? (i := 175) rfl)), rfl⟩, kS_X4_shapeBehind⟩
set_option maxRecDepth 20000 in
theorem kL4_23 : okL 4 (23, 0, 0, eJ0_isEmpty_aae02) := ⟨by decide, kE_J0_isEmpty_aae02, kN_J0_isEmpty_aae02, ⟨(lw_m1 (List.mem_of_getElem? (i := 184) rfl)), rfl⟩, kI_J0_isEmpty_aae02⟩
set_option maxRecDepth 20000 in
theorem kL4_29 : okL 4 (29, 0, 0, eJ0_length_8abf5) := ⟨by decide, kE_J0_length_8abf5, kN_J0_length_8abf5, ⟨(lw_m1 (List.mem_of_getElem? (i := 188) rfl)), rfl⟩, kI_J0_length_8abf5⟩
set_option maxRecDepth 20000 in
theorem kL4_33 : okL 4 (33, 0, 1, eJ0_charAt_5068e) := ⟨by decide, kE_J0_charAt_5068e, kN_J0_charAt_5068e, ⟨(lw_m1 (List.mem_of_getElem? (i := 198) rfl)), rfl⟩, kI_J0_charAt_5068e⟩
set_option maxRecDepth 20000 in
theorem kL4_37 : okL 4 (37, 1, 2, eX4_fitsShape) := ⟨kE_X4_fitsShape, kN_X4_fitsShape, ⟨(lw_m1 (List.mem_of_getElem? (i := 236) rfl)), rfl⟩, kS_X4_fitsShape⟩
set_option maxRecDepth 20000 in
theorem kL4_122 : okL 4 (122, 0, 1, eJ0_indexOf_0f7a4) := ⟨by decide, kE_J0_indexOf_0f7a4, kN_J0_indexOf_0f7a4, ⟨(lw_m2 (List.mem_of_getElem? (i := 0) rfl)), rfl⟩, kI_J0_indexOf_0f7a4⟩
set_option maxRecDepth 20000 in
theorem kL4_41 : okL 4 (41, 0, 2, eX4_happens) := ⟨by decide, kE_X4_happens, kN_X4_happens, ⟨(lw_m2 (List.mem_of_getElem? (i := 70) rfl)), rfl⟩, kI_X4_happens⟩
set_option maxRecDepth 20000 in
theorem kL4_45 : okL 4 (45, 0, 1, eX4_digitAt) := ⟨by decide, kE_X4_digitAt, kN_X4_digitAt, ⟨(lw_m2 (List.mem_of_getElem? (i := 74) rfl)), rfl⟩, kI_X4_digitAt⟩
set_option maxRecDepth 20000 in
theorem kL4_49 : okL 4 (49, 0, 1, eX4_letterAt) := ⟨by decide, kE_X4_letterAt, kN_X4_letterAt, ⟨(lw_m2 (List.mem_of_getElem? (i := 78) rfl)), rfl⟩, kI_X4_letterAt⟩
set_option maxRecDepth 20000 in
theorem kL4_110 : okL 4 (110, 5, 2, eJ6_bitCount_0f7a4) := ⟨⟨(lw_m2 (List.mem_of_getElem? (i := 82) rfl)), rfl⟩, ⟨(lw_m2 (List.mem_of_getElem? (i := 19) rfl)), rfl⟩, ⟨(lw_m1 (List.mem_of_getElem? (i := 11) rfl)), rfl⟩, ⟨(lw_m2 (List.mem_of_getElem? (i := 20) rfl)), rfl⟩⟩
set_option maxRecDepth 20000 in
theorem kL4_115 : okL 4 (115, 4, 2, eJ6_bitCount_0f7a4) := ⟨⟨(lw_m2 (List.mem_of_getElem? (i := 83) rfl)), rfl⟩, ⟨(lw_m2 (List.mem_of_getElem? (i := 16) rfl)), rfl⟩, ⟨(lw_m1 (List.mem_of_getElem? (i := 11) rfl)), rfl⟩, ⟨(lw_m2 (List.mem_of_getElem? (i := 17) rfl)), rfl⟩⟩
set_option maxRecDepth 20000 in
theorem kL4_57 : okL 4 (57, 0, 2, eX4_readFive) := ⟨by decide, kE_X4_readFive, kN_X4_readFive, ⟨(lw_m2 (List.mem_of_getElem? (i := 84) rfl)), rfl⟩, kI_X4_readFive⟩
set_option maxRecDepth 20000 in
theorem kL4_79 : okL 4 (79, 0, 1, eX4_twoDigitsAt) := ⟨by decide, kE_X4_twoDigitsAt, kN_X4_twoDigitsAt, ⟨(lw_m2 (List.mem_of_getElem? (i := 88) rfl)), rfl⟩, kI_X4_twoDigitsAt⟩
set_option maxRecDepth 20000 in
theorem kL4_61 : okL 4 (61, 0, 2, eX4_keyComes) := ⟨by decide, kE_X4_keyComes, kN_X4_keyComes, ⟨(lw_m2 (List.mem_of_getElem? (i := 92) rfl)), rfl⟩, kI_X4_keyComes⟩
set_option maxRecDepth 20000 in
theorem kL4_92 : okL 4 (92, 0, 1, eX3_addKey) := ⟨by decide, kE_X3_addKey, kN_X3_addKey, ⟨(lw_m2 (List.mem_of_getElem? (i := 96) rfl)), rfl⟩, kI_X3_addKey⟩
set_option maxRecDepth 20000 in
theorem kL4_64 : okL 4 (64, 0, 1, eX4_kindAt) := ⟨by decide, kE_X4_kindAt, kN_X4_kindAt, ⟨(lw_m2 (List.mem_of_getElem? (i := 100) rfl)), rfl⟩, kI_X4_kindAt⟩
set_option maxRecDepth 20000 in
theorem kL4_67 : okL 4 (67, 0, 2, eX3_addMachine) := ⟨by decide, kE_X3_addMachine, kN_X3_addMachine, ⟨(lw_m2 (List.mem_of_getElem? (i := 104) rfl)), rfl⟩, kI_X3_addMachine⟩
set_option maxRecDepth 20000 in
theorem kL4_71 : okL 4 (71, 0, 1, eX3_hasWholeKey) := ⟨by decide, kE_X3_hasWholeKey, kN_X3_hasWholeKey, ⟨(lw_m2 (List.mem_of_getElem? (i := 108) rfl)), rfl⟩, kI_X3_hasWholeKey⟩
set_option maxRecDepth 20000 in
theorem kL4_75 : okL 4 (75, 0, 2, eX3_addCopy) := ⟨by decide, kE_X3_addCopy, kN_X3_addCopy, ⟨(lw_m2 (List.mem_of_getElem? (i := 116) rfl)), rfl⟩, kI_X3_addCopy⟩
set_option maxRecDepth 20000 in
theorem kL4_82 : okL 4 (82, 1, 3, eX4_isUsed) := ⟨kE_X4_isUsed, kN_X4_isUsed, ⟨(lw_m2 (List.mem_of_getElem? (i := 138) rfl)), rfl⟩, kS_X4_isUsed⟩
set_option maxRecDepth 20000 in
theorem kL4_102 : okL 4 (102, 0, 2, eX3_wear) := ⟨by decide, kE_X3_wear, kN_X3_wear, ⟨(lw_m2 (List.mem_of_getElem? (i := 141) rfl)), rfl⟩, kI_X3_wear⟩
set_option maxRecDepth 20000 in
theorem kL4_89 : okL 4 (89, 1, 2, eX4_isSnapped) := ⟨kE_X4_isSnapped, kN_X4_isSnapped, ⟨(lw_m2 (List.mem_of_getElem? (i := 152) rfl)), rfl⟩, kS_X4_isSnapped⟩
theorem kL4 : ∀ q ∈ ml4, okL 4 q := List.forall_mem_cons.mpr ⟨kL4_19, List.forall_mem_cons.mpr ⟨kL4_23, List.forall_mem_cons.mpr ⟨kL4_29, List.forall_mem_cons.mpr ⟨kL4_33, List.forall_mem_cons.mpr ⟨kL4_37, List.forall_mem_cons.mpr ⟨kL4_122, List.forall_mem_cons.mpr ⟨kL4_41, List.forall_mem_cons.mpr ⟨kL4_45, List.forall_mem_cons.mpr ⟨kL4_49, List.forall_mem_cons.mpr ⟨kL4_110, List.forall_mem_cons.mpr ⟨kL4_115, List.forall_mem_cons.mpr ⟨kL4_57, List.forall_mem_cons.mpr ⟨kL4_79, List.forall_mem_cons.mpr ⟨kL4_61, List.forall_mem_cons.mpr ⟨kL4_92, List.forall_mem_cons.mpr ⟨kL4_64, List.forall_mem_cons.mpr ⟨kL4_67, List.forall_mem_cons.mpr ⟨kL4_71, List.forall_mem_cons.mpr ⟨kL4_75, List.forall_mem_cons.mpr ⟨kL4_82, List.forall_mem_cons.mpr ⟨kL4_102, List.forall_mem_cons.mpr ⟨kL4_89, fun _ h => absurd h List.not_mem_nil⟩⟩⟩⟩⟩⟩⟩⟩⟩⟩⟩⟩⟩⟩⟩⟩⟩⟩⟩⟩⟩⟩
set_option maxRecDepth 20000 in
theorem kL5_51 : okL 5 (51, 0, 1, eX5_refuse) := ⟨by decide, kE_X5_refuse, kN_X5_refuse, ⟨(lw_m1 (List.mem_of_getElem? (i := 155) rfl)), rfl⟩, kI_X5_refuse⟩
set_option maxRecDepth 20000 in
theorem kL5_55 : okL 5 (55, 0, 0, eX4_isFull) := ⟨by decide, kE_X4_isFull, kN_X4_isFull, ⟨(lw_m1 (List.mem_of_getElem? (i := 159) rfl)), rfl⟩, kI_X4_isFull⟩
set_option maxRecDepth 20000 in
theorem kL5_59 : okL 5 (59, 0, 1, eX4_take) := ⟨by decide, kE_X4_take, kN_X4_take, ⟨(lw_m1 (List.mem_of_getElem? (i := 163) rfl)), rfl⟩, kI_X4_take⟩
set_option maxRecDepth 20000 in
theorem kL5_62 : okL 5 (62, 0, 0, eX4_misshapenPlace) := ⟨by decide, kE_X4_misshapenPlace, kN_X4_misshapenPlace, ⟨(lw_m1 (List.mem_of_getElem? (i := 171) rfl)), rfl⟩, kI_X4_misshapenPlace⟩
set_option maxRecDepth 20000 in
theorem kL5_66 : okL 5 (66, 0, 1, eX3_becomes) := ⟨by decide, kE_X3_becomes, kN_X3_becomes, ⟨(lw_m2 (List.mem_of_getElem? (i := 59) rfl)), rfl⟩, kI_X3_becomes⟩
set_option maxRecDepth 20000 in
theorem kL5_70 : okL 5 (70, 0, 1, eX4_happenIn) := ⟨by decide, kE_X4_happenIn, kN_X4_happenIn, ⟨(lw_m2 (List.mem_of_getElem? (i := 66) rfl)), rfl⟩, kI_X4_happenIn⟩
set_option maxRecDepth 20000 in
theorem kL5_74 : okL 5 (74, 0, 0, eX4_forget) := ⟨by decide, kE_X4_forget, kN_X4_forget, ⟨(lw_m2 (List.mem_of_getElem? (i := 155) rfl)), rfl⟩, kI_X4_forget⟩
set_option maxRecDepth 20000 in
theorem kL5_77 : okL 5 (77, 1, 1, eX5_isTooth) := ⟨kE_X5_isTooth, kN_X5_isTooth, ⟨(lw_m2 (List.mem_of_getElem? (i := 164) rfl)), rfl⟩, kS_X5_isTooth⟩
set_option maxRecDepth 20000 in
theorem kL5_84 : okL 5 (84, 0, 1, eX3_hasKey) := ⟨by decide, kE_X3_hasKey, kN_X3_hasKey, ⟨(lw_m2 (List.mem_of_getElem? (i := 171) rfl)), rfl⟩, kI_X3_hasKey⟩
set_option maxRecDepth 20000 in
theorem kL5_98 : okL 5 (98, 0, 1, eX3_opens) := ⟨by decide, kE_X3_opens, kN_X3_opens, ⟨(lw_m2 (List.mem_of_getElem? (i := 172) rfl)), rfl⟩, kI_X3_opens⟩
set_option maxRecDepth 20000 in
theorem kL5_101 : okL 5 (101, 0, 1, eX3_wiggleOf) := ⟨by decide, kE_X3_wiggleOf, kN_X3_wiggleOf, ⟨(lw_m2 (List.mem_of_getElem? (i := 187) rfl)), rfl⟩, kI_X3_wiggleOf⟩
set_option maxRecDepth 20000 in
theorem kL5_105 : okL 5 (105, 0, 1, eX3_worstTooth) := ⟨by decide, kE_X3_worstTooth, kN_X3_worstTooth, ⟨(lw_m2 (List.mem_of_getElem? (i := 191) rfl)), rfl⟩, kI_X3_worstTooth⟩
set_option maxRecDepth 20000 in
theorem kL5_108 : okL 5 (108, 0, 1, eX3_hasMachine) := ⟨by decide, kE_X3_hasMachine, kN_X3_hasMachine, ⟨(lw_m2 (List.mem_of_getElem? (i := 199) rfl)), rfl⟩, kI_X3_hasMachine⟩
set_option maxRecDepth 20000 in
theorem kL5_111 : okL 5 (111, 1, 1, eX5_isZeroOrOne) := ⟨kE_X5_isZeroOrOne, kN_X5_isZeroOrOne, ⟨(lw_m2 (List.mem_of_getElem? (i := 200) rfl)), rfl⟩, kS_X5_isZeroOrOne⟩
set_option maxRecDepth 20000 in
theorem kL5_120 : okL 5 (120, 1, 3, eX5_outside) := ⟨kE_X5_outside, kN_X5_outside, ⟨(lw_m2 (List.mem_of_getElem? (i := 207) rfl)), rfl⟩, kS_X5_outside⟩
set_option maxRecDepth 20000 in
theorem kL5_130 : okL 5 (130, 0, 2, eX3_addCopy) := ⟨by decide, kE_X3_addCopy, kN_X3_addCopy, ⟨(lw_m2 (List.mem_of_getElem? (i := 226) rfl)), rfl⟩, kI_X3_addCopy⟩
set_option maxRecDepth 20000 in
theorem kL5_137 : okL 5 (137, 0, 2, eX3_wear) := ⟨by decide, kE_X3_wear, kN_X3_wear, ⟨(lw_m2 (List.mem_of_getElem? (i := 231) rfl)), rfl⟩, kI_X3_wear⟩
set_option maxRecDepth 20000 in
theorem kL5_141 : okL 5 (141, 0, 0, eX3_snappedBits) := ⟨by decide, kE_X3_snappedBits, kN_X3_snappedBits, ⟨(lw_m2 (List.mem_of_getElem? (i := 236) rfl)), rfl⟩, kI_X3_snappedBits⟩
set_option maxRecDepth 20000 in
theorem kL5_144 : okL 5 (144, 1, 1, eJ6_bitCount_0f7a4) := ⟨kE_J6_bitCount_0f7a4, kN_J6_bitCount_0f7a4, ⟨(lw_m3 (List.mem_of_getElem? (i := 0) rfl)), rfl⟩, kS_J6_bitCount_0f7a4⟩
set_option maxRecDepth 20000 in
theorem kL5_149 : okL 5 (149, 0, 0, eX3_openingBits) := ⟨by decide, kE_X3_openingBits, kN_X3_openingBits, ⟨(lw_m3 (List.mem_of_getElem? (i := 10) rfl)), rfl⟩, kI_X3_openingBits⟩
set_option maxRecDepth 20000 in
theorem kL5_152 : okL 5 (152, 1, 2, eX1_depthOf) := ⟨kE_X1_depthOf, kN_X1_depthOf, ⟨(lw_m3 (List.mem_of_getElem? (i := 19) rfl)), rfl⟩, kS_X1_depthOf⟩
set_option maxRecDepth 20000 in
theorem kL5_158 : okL 5 (158, 1, 2, eX1_rootOf) := ⟨kE_X1_rootOf, kN_X1_rootOf, ⟨(lw_m3 (List.mem_of_getElem? (i := 27) rfl)), rfl⟩, kS_X1_rootOf⟩
set_option maxRecDepth 20000 in
theorem kL5_161 : okL 5 (161, 1, 2, eX1_childrenOf) := ⟨kE_X1_childrenOf, kN_X1_childrenOf, ⟨(lw_m3 (List.mem_of_getElem? (i := 34) rfl)), rfl⟩, kS_X1_childrenOf⟩
set_option maxRecDepth 20000 in
theorem kL5_164 : okL 5 (164, 1, 2, eX1_heirsOf) := ⟨kE_X1_heirsOf, kN_X1_heirsOf, ⟨(lw_m3 (List.mem_of_getElem? (i := 40) rfl)), rfl⟩, kS_X1_heirsOf⟩
set_option maxRecDepth 20000 in
theorem kL5_167 : okL 5 (167, 1, 3, eX1_commonOf) := ⟨kE_X1_commonOf, kN_X1_commonOf, ⟨(lw_m3 (List.mem_of_getElem? (i := 50) rfl)), rfl⟩, kS_X1_commonOf⟩
set_option maxRecDepth 20000 in
theorem kL5_171 : okL 5 (171, 0, 0, eX3_nearestKey) := ⟨by decide, kE_X3_nearestKey, kN_X3_nearestKey, ⟨(lw_m3 (List.mem_of_getElem? (i := 60) rfl)), rfl⟩, kI_X3_nearestKey⟩
set_option maxRecDepth 20000 in
theorem kL5_174 : okL 5 (174, 0, 2, eX2_bestNext) := ⟨by decide, kE_X2_bestNext, kN_X2_bestNext, ⟨(lw_m3 (List.mem_of_getElem? (i := 79) rfl)), rfl⟩, kI_X2_bestNext⟩
set_option maxRecDepth 20000 in
theorem kL5_178 : okL 5 (178, 0, 3, eX2_copiesThatOpen) := ⟨by decide, kE_X2_copiesThatOpen, kN_X2_copiesThatOpen, ⟨(lw_m3 (List.mem_of_getElem? (i := 102) rfl)), rfl⟩, kI_X2_copiesThatOpen⟩
set_option maxRecDepth 20000 in
theorem kL5_181 : okL 5 (181, 0, 3, eX2_toothThatGoesFirst) := ⟨by decide, kE_X2_toothThatGoesFirst, kN_X2_toothThatGoesFirst, ⟨(lw_m3 (List.mem_of_getElem? (i := 107) rfl)), rfl⟩, kI_X2_toothThatGoesFirst⟩
set_option maxRecDepth 20000 in
theorem kL5_184 : okL 5 (184, 0, 2, eX2_usesTillShut) := ⟨by decide, kE_X2_usesTillShut, kN_X2_usesTillShut, ⟨(lw_m3 (List.mem_of_getElem? (i := 116) rfl)), rfl⟩, kI_X2_usesTillShut⟩
set_option maxRecDepth 20000 in
theorem kL5_187 : okL 5 (187, 6, 1, eJ6_bitCount_0f7a4) := ⟨⟨(lw_m3 (List.mem_of_getElem? (i := 131) rfl)), rfl⟩, ⟨(lw_m2 (List.mem_of_getElem? (i := 185) rfl)), rfl⟩, ⟨(lw_m1 (List.mem_of_getElem? (i := 11) rfl)), rfl⟩, ⟨(lw_m2 (List.mem_of_getElem? (i := 186) rfl)), rfl⟩⟩
set_option maxRecDepth 20000 in
theorem kL5_192 : okL 5 (192, 0, 1, eX2_openAnew) := ⟨by decide, kE_X2_openAnew, kN_X2_openAnew, ⟨(lw_m3 (List.mem_of_getElem? (i := 136) rfl)), rfl⟩, kI_X2_openAnew⟩
set_option maxRecDepth 20000 in
theorem kL5_195 : okL 5 (195, 0, 2, eX2_pinAnew) := ⟨by decide, kE_X2_pinAnew, kN_X2_pinAnew, ⟨(lw_m3 (List.mem_of_getElem? (i := 152) rfl)), rfl⟩, kI_X2_pinAnew⟩
set_option maxRecDepth 20000 in
theorem kL5_198 : okL 5 (198, 0, 0, eX3_allKeysBits) := ⟨by decide, kE_X3_allKeysBits, kN_X3_allKeysBits, ⟨(lw_m3 (List.mem_of_getElem? (i := 157) rfl)), rfl⟩, kI_X3_allKeysBits⟩
set_option maxRecDepth 20000 in
theorem kL5_201 : okL 5 (201, 0, 3, eX2_codeOfSet) := ⟨by decide, kE_X2_codeOfSet, kN_X2_codeOfSet, ⟨(lw_m3 (List.mem_of_getElem? (i := 158) rfl)), rfl⟩, kI_X2_codeOfSet⟩
set_option maxRecDepth 20000 in
theorem kL5_204 : okL 5 (204, 0, 3, eX2_unlikeTeeth) := ⟨by decide, kE_X2_unlikeTeeth, kN_X2_unlikeTeeth, ⟨(lw_m3 (List.mem_of_getElem? (i := 176) rfl)), rfl⟩, kI_X2_unlikeTeeth⟩
set_option maxRecDepth 20000 in
theorem kL5_208 : okL 5 (208, 0, 2, eX2_lessByMending) := ⟨by decide, kE_X2_lessByMending, kN_X2_lessByMending, ⟨(lw_m3 (List.mem_of_getElem? (i := 186) rfl)), rfl⟩, kI_X2_lessByMending⟩
set_option maxRecDepth 20000 in
theorem kL5_211 : okL 5 (211, 1, 2, eX1_openHeirsOf) := ⟨kE_X1_openHeirsOf, kN_X1_openHeirsOf, ⟨(lw_m3 (List.mem_of_getElem? (i := 194) rfl)), rfl⟩, kS_X1_openHeirsOf⟩
set_option maxRecDepth 20000 in
theorem kL5_214 : okL 5 (214, 1, 1, eX1_bestRoot) := ⟨kE_X1_bestRoot, kN_X1_bestRoot, ⟨(lw_m3 (List.mem_of_getElem? (i := 203) rfl)), rfl⟩, kS_X1_bestRoot⟩
set_option maxRecDepth 20000 in
theorem kL5_217 : okL 5 (217, 1, 2, eX1_whomToAsk) := ⟨kE_X1_whomToAsk, kN_X1_whomToAsk, ⟨(lw_m3 (List.mem_of_getElem? (i := 210) rfl)), rfl⟩, kS_X1_whomToAsk⟩
set_option maxRecDepth 20000 in
theorem kL5_220 : okL 5 (220, 0, 1, eX2_fewestEnough) := ⟨by decide, kE_X2_fewestEnough, kN_X2_fewestEnough, ⟨(lw_m3 (List.mem_of_getElem? (i := 218) rfl)), rfl⟩, kI_X2_fewestEnough⟩
set_option maxRecDepth 20000 in
theorem kL5_225 : okL 5 (225, 0, 5, eX2_waysToOpen) := ⟨by decide, kE_X2_waysToOpen, kN_X2_waysToOpen, ⟨(lw_m3 (List.mem_of_getElem? (i := 233) rfl)), rfl⟩, kI_X2_waysToOpen⟩
set_option maxRecDepth 20000 in
theorem kL5_229 : okL 5 (229, 1, 2, eX5_power) := ⟨kE_X5_power, kN_X5_power, ⟨(lw_m4 (List.mem_of_getElem? (i := 5) rfl)), rfl⟩, kS_X5_power⟩
set_option maxRecDepth 20000 in
theorem kL5_233 : okL 5 (233, 1, 2, eX5_greatestDivisor) := ⟨kE_X5_greatestDivisor, kN_X5_greatestDivisor, ⟨(lw_m4 (List.mem_of_getElem? (i := 6) rfl)), rfl⟩, kS_X5_greatestDivisor⟩
set_option maxRecDepth 20000 in
theorem kL5_237 : okL 5 (237, 7, 2, eJ6_bitCount_0f7a4) := ⟨⟨(lw_m4 (List.mem_of_getElem? (i := 9) rfl)), rfl⟩, ⟨(lw_m4 (List.mem_of_getElem? (i := 10) rfl)), rfl⟩, ⟨(lw_m1 (List.mem_of_getElem? (i := 11) rfl)), rfl⟩, ⟨(lw_m4 (List.mem_of_getElem? (i := 11) rfl)), rfl⟩⟩
set_option maxRecDepth 20000 in
theorem kL5_240 : okL 5 (240, 0, 3, eX2_steadyPair) := ⟨by decide, kE_X2_steadyPair, kN_X2_steadyPair, ⟨(lw_m4 (List.mem_of_getElem? (i := 16) rfl)), rfl⟩, kI_X2_steadyPair⟩
set_option maxRecDepth 20000 in
theorem kL5_243 : okL 5 (243, 0, 3, eX2_machinesThatCut) := ⟨by decide, kE_X2_machinesThatCut, kN_X2_machinesThatCut, ⟨(lw_m4 (List.mem_of_getElem? (i := 33) rfl)), rfl⟩, kI_X2_machinesThatCut⟩
set_option maxRecDepth 20000 in
theorem kL5_247 : okL 5 (247, 0, 4, eX2_kindsThatCut) := ⟨by decide, kE_X2_kindsThatCut, kN_X2_kindsThatCut, ⟨(lw_m4 (List.mem_of_getElem? (i := 41) rfl)), rfl⟩, kI_X2_kindsThatCut⟩
set_option maxRecDepth 20000 in
theorem kL5_251 : okL 5 (251, 0, 1, eX5_firstToldWrong) := ⟨by decide, kE_X5_firstToldWrong, kN_X5_firstToldWrong, ⟨(lw_m4 (List.mem_of_getElem? (i := 53) rfl)), rfl⟩, kI_X5_firstToldWrong⟩
set_option maxRecDepth 20000 in
theorem kL5_257 : okL 5 (257, 0, 4, eX2_drawLots) := ⟨by decide, kE_X2_drawLots, kN_X2_drawLots, ⟨(lw_m4 (List.mem_of_getElem? (i := 65) rfl)), rfl⟩, kI_X2_drawLots⟩
set_option maxRecDepth 20000 in
theorem kL5_261 : okL 5 (261, 0, 0, eX4_size) := ⟨by decide, kE_X4_size, kN_X4_size, ⟨(lw_m4 (List.mem_of_getElem? (i := 88) rfl)), rfl⟩, kI_X4_size⟩
theorem kL5 : ∀ q ∈ ml5, okL 5 q := List.forall_mem_cons.mpr ⟨kL5_51, List.forall_mem_cons.mpr ⟨kL5_55, List.forall_mem_cons.mpr ⟨kL5_59, List.forall_mem_cons.mpr ⟨kL5_62, List.forall_mem_cons.mpr ⟨kL5_66, List.forall_mem_cons.mpr ⟨kL5_70, List.forall_mem_cons.mpr ⟨kL5_74, List.forall_mem_cons.mpr ⟨kL5_77, List.forall_mem_cons.mpr ⟨kL5_84, List.forall_mem_cons.mpr ⟨kL5_98, List.forall_mem_cons.mpr ⟨kL5_101, List.forall_mem_cons.mpr ⟨kL5_105, List.forall_mem_cons.mpr ⟨kL5_108, List.forall_mem_cons.mpr ⟨kL5_111, List.forall_mem_cons.mpr ⟨kL5_120, List.forall_mem_cons.mpr ⟨kL5_130, List.forall_mem_cons.mpr ⟨kL5_137, List.forall_mem_cons.mpr ⟨kL5_141, List.forall_mem_cons.mpr ⟨kL5_144, List.forall_mem_cons.mpr ⟨kL5_149, List.forall_mem_cons.mpr ⟨kL5_152, List.forall_mem_cons.mpr ⟨kL5_158, List.forall_mem_cons.mpr ⟨kL5_161, List.forall_mem_cons.mpr ⟨kL5_164, List.forall_mem_cons.mpr ⟨kL5_167, List.forall_mem_cons.mpr ⟨kL5_171, List.forall_mem_cons.mpr ⟨kL5_174, List.forall_mem_cons.mpr ⟨kL5_178, List.forall_mem_cons.mpr ⟨kL5_181, List.forall_mem_cons.mpr ⟨kL5_184, List.forall_mem_cons.mpr ⟨kL5_187, List.forall_mem_cons.mpr ⟨kL5_192, List.forall_mem_cons.mpr ⟨kL5_195, List.forall_mem_cons.mpr ⟨kL5_198, List.forall_mem_cons.mpr ⟨kL5_201, List.forall_mem_cons.mpr ⟨kL5_204, List.forall_mem_cons.mpr ⟨kL5_208, List.forall_mem_cons.mpr ⟨kL5_211, List.forall_mem_cons.mpr ⟨kL5_214, List.forall_mem_cons.mpr ⟨kL5_217, List.forall_mem_cons.mpr ⟨kL5_220, List.forall_mem_cons.mpr ⟨kL5_225, List.forall_mem_cons.mpr ⟨kL5_229, List.forall_mem_cons.mpr ⟨kL5_233, List.forall_mem_cons.mpr ⟨kL5_237, List.forall_mem_cons.mpr ⟨kL5_240, List.forall_mem_cons.mpr ⟨kL5_243, List.forall_mem_cons.mpr ⟨kL5_247, List.forall_mem_cons.mpr ⟨kL5_251, List.forall_mem_cons.mpr ⟨kL5_257, List.forall_mem_cons.mpr ⟨kL5_261, fun _ h => absurd h List.not_mem_nil⟩⟩⟩⟩⟩⟩⟩⟩⟩⟩⟩⟩⟩⟩⟩⟩⟩⟩⟩⟩⟩⟩⟩⟩⟩⟩⟩⟩⟩⟩⟩⟩⟩⟩⟩⟩⟩⟩⟩⟩⟩⟩⟩⟩⟩⟩⟩⟩⟩⟩⟩
set_option maxRecDepth 20000 in
theorem kL6_35 : okL 6 (35, 0, 1, eX6_no) := ⟨by decide, kE_X6_no, kN_X6_no, ⟨(lw_m4 (List.mem_of_getElem? (i := 142) rfl)), rfl⟩, kI_X6_no⟩
set_option maxRecDepth 20000 in
theorem kL6_132 : okL 6 (132, 0, 0, eX6_readsStatement) := ⟨by decide, kE_X6_readsStatement, kN_X6_readsStatement, ⟨(lw_m4 (List.mem_of_getElem? (i := 150) rfl)), rfl⟩, kI_X6_readsStatement⟩
set_option maxRecDepth 20000 in
theorem kL6_101 : okL 6 (101, 0, 0, eX6_here) := ⟨by decide, kE_X6_here, kN_X6_here, ⟨(lw_m4 (List.mem_of_getElem? (i := 154) rfl)), rfl⟩, kI_X6_here⟩
set_option maxRecDepth 20000 in
theorem kL6_111 : okL 6 (111, 0, 0, eX6_readsFive) := ⟨by decide, kE_X6_readsFive, kN_X6_readsFive, ⟨(lw_m4 (List.mem_of_getElem? (i := 158) rfl)), rfl⟩, kI_X6_readsFive⟩
set_option maxRecDepth 20000 in
theorem kL6_107 : okL 6 (107, 0, 2, eX6_readsNumber) := ⟨by decide, kE_X6_readsNumber, kN_X6_readsNumber, ⟨(lw_m4 (List.mem_of_getElem? (i := 162) rfl)), rfl⟩, kI_X6_readsNumber⟩
set_option maxRecDepth 20000 in
theorem kL6_41 : okL 6 (41, 1, 3, eX6_isIn) := ⟨kE_X6_isIn, kN_X6_isIn, ⟨(lw_m4 (List.mem_of_getElem? (i := 166) rfl)), rfl⟩, kS_X6_isIn⟩
set_option maxRecDepth 20000 in
theorem kL6_114 : okL 6 (114, 0, 0, eX6_readsKind) := ⟨by decide, kE_X6_readsKind, kN_X6_readsKind, ⟨(lw_m4 (List.mem_of_getElem? (i := 169) rfl)), rfl⟩, kI_X6_readsKind⟩
set_option maxRecDepth 20000 in
theorem kL6_104 : okL 6 (104, 1, 1, eX6_kindBy) := ⟨kE_X6_kindBy, kN_X6_kindBy, ⟨(lw_m4 (List.mem_of_getElem? (i := 173) rfl)), rfl⟩, kS_X6_kindBy⟩
set_option maxRecDepth 20000 in
theorem kL6_135 : okL 6 (135, 1, 2, eX6_lays) := ⟨kE_X6_lays, kN_X6_lays, ⟨(lw_m4 (List.mem_of_getElem? (i := 176) rfl)), rfl⟩, kS_X6_lays⟩
set_option maxRecDepth 20000 in
theorem kL6_139 : okL 6 (139, 0, 1, eX6_isDone) := ⟨by decide, kE_X6_isDone, kN_X6_isDone, ⟨(lw_m4 (List.mem_of_getElem? (i := 179) rfl)), rfl⟩, kI_X6_isDone⟩
set_option maxRecDepth 20000 in
theorem kL6_45 : okL 6 (45, 1, 2, eX6_of) := ⟨kE_X6_of, kN_X6_of, ⟨(lw_m4 (List.mem_of_getElem? (i := 183) rfl)), rfl⟩, kS_X6_of⟩
set_option maxRecDepth 20000 in
theorem kL6_120 : okL 6 (120, 0, 1, eX6_isKey) := ⟨by decide, kE_X6_isKey, kN_X6_isKey, ⟨(lw_m4 (List.mem_of_getElem? (i := 186) rfl)), rfl⟩, kI_X6_isKey⟩
set_option maxRecDepth 20000 in
theorem kL6_83 : okL 6 (83, 0, 1, eX6_isSnapped) := ⟨by decide, kE_X6_isSnapped, kN_X6_isSnapped, ⟨(lw_m4 (List.mem_of_getElem? (i := 190) rfl)), rfl⟩, kI_X6_isSnapped⟩
set_option maxRecDepth 20000 in
theorem kL6_123 : okL 6 (123, 0, 1, eX6_isMachine) := ⟨by decide, kE_X6_isMachine, kN_X6_isMachine, ⟨(lw_m4 (List.mem_of_getElem? (i := 194) rfl)), rfl⟩, kI_X6_isMachine⟩
set_option maxRecDepth 20000 in
theorem kL6_126 : okL 6 (126, 0, 2, eX6_cuts) := ⟨by decide, kE_X6_cuts, kN_X6_cuts, ⟨(lw_m4 (List.mem_of_getElem? (i := 198) rfl)), rfl⟩, kI_X6_cuts⟩
set_option maxRecDepth 20000 in
theorem kL6_76 : okL 6 (76, 0, 1, eX6_takes) := ⟨by decide, kE_X6_takes, kN_X6_takes, ⟨(lw_m4 (List.mem_of_getElem? (i := 202) rfl)), rfl⟩, kI_X6_takes⟩
set_option maxRecDepth 20000 in
theorem kL6_117 : okL 6 (117, 0, 2, eX6_cutsBy) := ⟨by decide, kE_X6_cutsBy, kN_X6_cutsBy, ⟨(lw_m4 (List.mem_of_getElem? (i := 206) rfl)), rfl⟩, kI_X6_cutsBy⟩
set_option maxRecDepth 20000 in
theorem kL6_65 : okL 6 (65, 0, 2, eX6_cutsIn) := ⟨by decide, kE_X6_cutsIn, kN_X6_cutsIn, ⟨(lw_m4 (List.mem_of_getElem? (i := 210) rfl)), rfl⟩, kI_X6_cutsIn⟩
set_option maxRecDepth 20000 in
theorem kL6_61 : okL 6 (61, 1, 4, eX6_cutBy) := ⟨kE_X6_cutBy, kN_X6_cutBy, ⟨(lw_m4 (List.mem_of_getElem? (i := 214) rfl)), rfl⟩, kS_X6_cutBy⟩
set_option maxRecDepth 20000 in
theorem kL6_55 : okL 6 (55, 1, 1, eX6_held) := ⟨kE_X6_held, kN_X6_held, ⟨(lw_m4 (List.mem_of_getElem? (i := 217) rfl)), rfl⟩, kS_X6_held⟩
set_option maxRecDepth 20000 in
theorem kL6_49 : okL 6 (49, 1, 2, eX6_least) := ⟨kE_X6_least, kN_X6_least, ⟨(lw_m4 (List.mem_of_getElem? (i := 220) rfl)), rfl⟩, kS_X6_least⟩
set_option maxRecDepth 20000 in
theorem kL6_52 : okL 6 (52, 1, 2, eX6_most) := ⟨kE_X6_most, kN_X6_most, ⟨(lw_m4 (List.mem_of_getElem? (i := 223) rfl)), rfl⟩, kS_X6_most⟩
set_option maxRecDepth 20000 in
theorem kL6_58 : okL 6 (58, 1, 1, eX6_round) := ⟨kE_X6_round, kN_X6_round, ⟨(lw_m4 (List.mem_of_getElem? (i := 226) rfl)), rfl⟩, kS_X6_round⟩
set_option maxRecDepth 20000 in
theorem kL6_129 : okL 6 (129, 0, 2, eX6_used) := ⟨by decide, kE_X6_used, kN_X6_used, ⟨(lw_m4 (List.mem_of_getElem? (i := 229) rfl)), rfl⟩, kI_X6_used⟩
set_option maxRecDepth 20000 in
theorem kL6_142 : okL 6 (142, 1, 1, eX6_isTooth) := ⟨kE_X6_isTooth, kN_X6_isTooth, ⟨(lw_m4 (List.mem_of_getElem? (i := 237) rfl)), rfl⟩, kS_X6_isTooth⟩
set_option maxRecDepth 20000 in
theorem kL6_91 : okL 6 (91, 0, 1, eX6_opens) := ⟨by decide, kE_X6_opens, kN_X6_opens, ⟨(lw_m5 (List.mem_of_getElem? (i := 4) rfl)), rfl⟩, kI_X6_opens⟩
set_option maxRecDepth 20000 in
theorem kL6_87 : okL 6 (87, 0, 0, eX6_opensIn) := ⟨by decide, kE_X6_opensIn, kN_X6_opensIn, ⟨(lw_m5 (List.mem_of_getElem? (i := 8) rfl)), rfl⟩, kI_X6_opensIn⟩
set_option maxRecDepth 20000 in
theorem kL6_72 : okL 6 (72, 0, 0, eX6_fitIn) := ⟨by decide, kE_X6_fitIn, kN_X6_fitIn, ⟨(lw_m5 (List.mem_of_getElem? (i := 12) rfl)), rfl⟩, kI_X6_fitIn⟩
set_option maxRecDepth 20000 in
theorem kL6_69 : okL 6 (69, 1, 2, eX6_apart) := ⟨kE_X6_apart, kN_X6_apart, ⟨(lw_m5 (List.mem_of_getElem? (i := 16) rfl)), rfl⟩, kS_X6_apart⟩
set_option maxRecDepth 20000 in
theorem kL6_145 : okL 6 (145, 0, 1, eX6_wiggleOf) := ⟨by decide, kE_X6_wiggleOf, kN_X6_wiggleOf, ⟨(lw_m5 (List.mem_of_getElem? (i := 19) rfl)), rfl⟩, kI_X6_wiggleOf⟩
set_option maxRecDepth 20000 in
theorem kL6_80 : okL 6 (80, 0, 0, eX6_wiggle) := ⟨by decide, kE_X6_wiggle, kN_X6_wiggle, ⟨(lw_m5 (List.mem_of_getElem? (i := 23) rfl)), rfl⟩, kI_X6_wiggle⟩
set_option maxRecDepth 20000 in
theorem kL6_148 : okL 6 (148, 0, 1, eX6_worstOf) := ⟨by decide, kE_X6_worstOf, kN_X6_worstOf, ⟨(lw_m5 (List.mem_of_getElem? (i := 27) rfl)), rfl⟩, kI_X6_worstOf⟩
set_option maxRecDepth 20000 in
theorem kL6_151 : okL 6 (151, 1, 2, eX6_wrong) := ⟨kE_X6_wrong, kN_X6_wrong, ⟨(lw_m5 (List.mem_of_getElem? (i := 39) rfl)), rfl⟩, kS_X6_wrong⟩
set_option maxRecDepth 20000 in
theorem kL6_160 : okL 6 (160, 0, 1, eX6_depthOf) := ⟨by decide, kE_X6_depthOf, kN_X6_depthOf, ⟨(lw_m5 (List.mem_of_getElem? (i := 74) rfl)), rfl⟩, kI_X6_depthOf⟩
set_option maxRecDepth 20000 in
theorem kL6_154 : okL 6 (154, 0, 1, eX6_fromOf) := ⟨by decide, kE_X6_fromOf, kN_X6_fromOf, ⟨(lw_m5 (List.mem_of_getElem? (i := 78) rfl)), rfl⟩, kI_X6_fromOf⟩
set_option maxRecDepth 20000 in
theorem kL6_163 : okL 6 (163, 0, 1, eX6_heirs) := ⟨by decide, kE_X6_heirs, kN_X6_heirs, ⟨(lw_m5 (List.mem_of_getElem? (i := 82) rfl)), rfl⟩, kI_X6_heirs⟩
set_option maxRecDepth 20000 in
theorem kL6_157 : okL 6 (157, 0, 2, eX6_isHeir) := ⟨by decide, kE_X6_isHeir, kN_X6_isHeir, ⟨(lw_m5 (List.mem_of_getElem? (i := 86) rfl)), rfl⟩, kI_X6_isHeir⟩
set_option maxRecDepth 20000 in
theorem kL6_166 : okL 6 (166, 0, 1, eX6_anewOf) := ⟨by decide, kE_X6_anewOf, kN_X6_anewOf, ⟨(lw_m5 (List.mem_of_getElem? (i := 119) rfl)), rfl⟩, kI_X6_anewOf⟩
set_option maxRecDepth 20000 in
theorem kL6_172 : okL 6 (172, 0, 1, eX6_wrongSet) := ⟨by decide, kE_X6_wrongSet, kN_X6_wrongSet, ⟨(lw_m5 (List.mem_of_getElem? (i := 127) rfl)), rfl⟩, kI_X6_wrongSet⟩
set_option maxRecDepth 20000 in
theorem kL6_175 : okL 6 (175, 0, 2, eX6_middle) := ⟨by decide, kE_X6_middle, kN_X6_middle, ⟨(lw_m5 (List.mem_of_getElem? (i := 131) rfl)), rfl⟩, kI_X6_middle⟩
set_option maxRecDepth 20000 in
theorem kL6_169 : okL 6 (169, 1, 1, eX6_bits) := ⟨kE_X6_bits, kN_X6_bits, ⟨(lw_m5 (List.mem_of_getElem? (i := 135) rfl)), rfl⟩, kS_X6_bits⟩
set_option maxRecDepth 20000 in
theorem kL6_178 : okL 6 (178, 1, 1, eX6_code) := ⟨kE_X6_code, kN_X6_code, ⟨(lw_m5 (List.mem_of_getElem? (i := 138) rfl)), rfl⟩, kS_X6_code⟩
set_option maxRecDepth 20000 in
theorem kL6_181 : okL 6 (181, 0, 1, eX6_noFar) := ⟨by decide, kE_X6_noFar, kN_X6_noFar, ⟨(lw_m5 (List.mem_of_getElem? (i := 149) rfl)), rfl⟩, kI_X6_noFar⟩
set_option maxRecDepth 20000 in
theorem kL6_184 : okL 6 (184, 0, 1, eX6_lineOf) := ⟨by decide, kE_X6_lineOf, kN_X6_lineOf, ⟨(lw_m5 (List.mem_of_getElem? (i := 157) rfl)), rfl⟩, kI_X6_lineOf⟩
set_option maxRecDepth 20000 in
theorem kL6_191 : okL 6 (191, 0, 1, eX6_noWide) := ⟨by decide, kE_X6_noWide, kN_X6_noWide, ⟨(lw_m5 (List.mem_of_getElem? (i := 177) rfl)), rfl⟩, kI_X6_noWide⟩
set_option maxRecDepth 20000 in
theorem kL6_195 : okL 6 (195, 1, 3, eX6_partOf) := ⟨kE_X6_partOf, kN_X6_partOf, ⟨(lw_m5 (List.mem_of_getElem? (i := 182) rfl)), rfl⟩, kS_X6_partOf⟩
set_option maxRecDepth 20000 in
theorem kL6_187 : okL 6 (187, 1, 2, eX6_gcd) := ⟨kE_X6_gcd, kN_X6_gcd, ⟨(lw_m5 (List.mem_of_getElem? (i := 185) rfl)), rfl⟩, kS_X6_gcd⟩
set_option maxRecDepth 20000 in
theorem kL6_199 : okL 6 (199, 0, 4, eX6_lastHeight) := ⟨by decide, kE_X6_lastHeight, kN_X6_lastHeight, ⟨(lw_m5 (List.mem_of_getElem? (i := 192) rfl)), rfl⟩, kI_X6_lastHeight⟩
set_option maxRecDepth 20000 in
theorem kL6_205 : okL 6 (205, 0, 0, eX6_isTold) := ⟨by decide, kE_X6_isTold, kN_X6_isTold, ⟨(lw_m5 (List.mem_of_getElem? (i := 200) rfl)), rfl⟩, kI_X6_isTold⟩
set_option maxRecDepth 20000 in
theorem kL6_214 : okL 6 (214, 0, 1, eX6_drawn) := ⟨by decide, kE_X6_drawn, kN_X6_drawn, ⟨(lw_m5 (List.mem_of_getElem? (i := 220) rfl)), rfl⟩, kI_X6_drawn⟩
set_option maxRecDepth 20000 in
theorem kL6_221 : okL 6 (221, 0, 0, eX6_openMany) := ⟨by decide, kE_X6_openMany, kN_X6_openMany, ⟨(lw_m5 (List.mem_of_getElem? (i := 239) rfl)), rfl⟩, kI_X6_openMany⟩
theorem kL6 : ∀ q ∈ ml6, okL 6 q := List.forall_mem_cons.mpr ⟨kL6_35, List.forall_mem_cons.mpr ⟨kL6_132, List.forall_mem_cons.mpr ⟨kL6_101, List.forall_mem_cons.mpr ⟨kL6_111, List.forall_mem_cons.mpr ⟨kL6_107, List.forall_mem_cons.mpr ⟨kL6_41, List.forall_mem_cons.mpr ⟨kL6_114, List.forall_mem_cons.mpr ⟨kL6_104, List.forall_mem_cons.mpr ⟨kL6_135, List.forall_mem_cons.mpr ⟨kL6_139, List.forall_mem_cons.mpr ⟨kL6_45, List.forall_mem_cons.mpr ⟨kL6_120, List.forall_mem_cons.mpr ⟨kL6_83, List.forall_mem_cons.mpr ⟨kL6_123, List.forall_mem_cons.mpr ⟨kL6_126, List.forall_mem_cons.mpr ⟨kL6_76, List.forall_mem_cons.mpr ⟨kL6_117, List.forall_mem_cons.mpr ⟨kL6_65, List.forall_mem_cons.mpr ⟨kL6_61, List.forall_mem_cons.mpr ⟨kL6_55, List.forall_mem_cons.mpr ⟨kL6_49, List.forall_mem_cons.mpr ⟨kL6_52, List.forall_mem_cons.mpr ⟨kL6_58, List.forall_mem_cons.mpr ⟨kL6_129, List.forall_mem_cons.mpr ⟨kL6_142, List.forall_mem_cons.mpr ⟨kL6_91, List.forall_mem_cons.mpr ⟨kL6_87, List.forall_mem_cons.mpr ⟨kL6_72, List.forall_mem_cons.mpr ⟨kL6_69, List.forall_mem_cons.mpr ⟨kL6_145, List.forall_mem_cons.mpr ⟨kL6_80, List.forall_mem_cons.mpr ⟨kL6_148, List.forall_mem_cons.mpr ⟨kL6_151, List.forall_mem_cons.mpr ⟨kL6_160, List.forall_mem_cons.mpr ⟨kL6_154, List.forall_mem_cons.mpr ⟨kL6_163, List.forall_mem_cons.mpr ⟨kL6_157, List.forall_mem_cons.mpr ⟨kL6_166, List.forall_mem_cons.mpr ⟨kL6_172, List.forall_mem_cons.mpr ⟨kL6_175, List.forall_mem_cons.mpr ⟨kL6_169, List.forall_mem_cons.mpr ⟨kL6_178, List.forall_mem_cons.mpr ⟨kL6_181, List.forall_mem_cons.mpr ⟨kL6_184, List.forall_mem_cons.mpr ⟨kL6_191, List.forall_mem_cons.mpr ⟨kL6_195, List.forall_mem_cons.mpr ⟨kL6_187, List.forall_mem_cons.mpr ⟨kL6_199, List.forall_mem_cons.mpr ⟨kL6_205, List.forall_mem_cons.mpr ⟨kL6_214, List.forall_mem_cons.mpr ⟨kL6_221, fun _ h => absurd h List.not_mem_nil⟩⟩⟩⟩⟩⟩⟩⟩⟩⟩⟩⟩⟩⟩⟩⟩⟩⟩⟩⟩⟩⟩⟩⟩⟩⟩⟩⟩⟩⟩⟩⟩⟩⟩⟩⟩⟩⟩⟩⟩⟩⟩⟩⟩⟩⟩⟩⟩⟩⟩⟩
set_option maxRecDepth 20000 in
theorem kL10_335 : okL 10 (335, 0, 0, eJ0_coder_7d493) := ⟨by decide, kE_J0_coder_7d493, kN_J0_coder_7d493, ⟨(lw_m1 (List.mem_of_getElem? (i := 192) rfl)), rfl⟩, kI_J0_coder_7d493⟩
set_option maxRecDepth 20000 in
theorem kL10_492 : okL 10 (492, 0, 0, eJ0_isLatin1_aae02) := ⟨by decide, kE_J0_isLatin1_aae02, kN_J0_isLatin1_aae02, ⟨(lw_m1 (List.mem_of_getElem? (i := 202) rfl)), rfl⟩, kI_J0_isLatin1_aae02⟩
set_option maxRecDepth 20000 in
theorem kL10_495 : okL 10 (495, 1, 2, eJ1_charAt_3b067) := ⟨kE_J1_charAt_3b067, kN_J1_charAt_3b067, ⟨(lw_m1 (List.mem_of_getElem? (i := 206) rfl)), rfl⟩, kS_J1_charAt_3b067⟩
set_option maxRecDepth 20000 in
theorem kL10_1059 : okL 10 (1059, 1, 3, eJ3_checkIndex_8e157) := ⟨kE_J3_checkIndex_8e157, kN_J3_checkIndex_8e157, ⟨(lw_m1 (List.mem_of_getElem? (i := 214) rfl)), rfl⟩, kS_J3_checkIndex_8e157⟩
set_option maxRecDepth 20000 in
theorem kL10_633 : okL 10 (633, 0, 2, eJ0_indexOf_7cf53) := ⟨by decide, kE_J0_indexOf_7cf53, kN_J0_indexOf_7cf53, ⟨(lw_m2 (List.mem_of_getElem? (i := 4) rfl)), rfl⟩, kI_J0_indexOf_7cf53⟩
set_option maxRecDepth 20000 in
theorem kL10_505 : okL 10 (505, 0, 0, eJ0_length_8abf5) := ⟨by decide, kE_J0_length_8abf5, kN_J0_length_8abf5, ⟨(lw_m2 (List.mem_of_getElem? (i := 8) rfl)), rfl⟩, kI_J0_length_8abf5⟩
set_option maxRecDepth 20000 in
theorem kL10_637 : okL 10 (637, 1, 4, eJ1_indexOf_4cfef) := ⟨kE_J1_indexOf_4cfef, kN_J1_indexOf_4cfef, ⟨(lw_m2 (List.mem_of_getElem? (i := 9) rfl)), rfl⟩, kS_J1_indexOf_4cfef⟩
theorem kL10 : ∀ q ∈ ml10, okL 10 q := List.forall_mem_cons.mpr ⟨kL10_335, List.forall_mem_cons.mpr ⟨kL10_492, List.forall_mem_cons.mpr ⟨kL10_495, List.forall_mem_cons.mpr ⟨kL10_1059, List.forall_mem_cons.mpr ⟨kL10_633, List.forall_mem_cons.mpr ⟨kL10_505, List.forall_mem_cons.mpr ⟨kL10_637, fun _ h => absurd h List.not_mem_nil⟩⟩⟩⟩⟩⟩⟩
set_option maxRecDepth 20000 in
theorem kL11_9 : okL 11 (9, 1, 2, eJ0_checkIndex_df160) := ⟨kE_J0_checkIndex_df160, kN_J0_checkIndex_df160, ⟨(lw_m1 (List.mem_of_getElem? (i := 209) rfl)), rfl⟩, kS_J0_checkIndex_df160⟩
set_option maxRecDepth 20000 in
theorem kL11_88 : okL 11 (88, 1, 1, eJ1_canEncode_9a6ad) := ⟨kE_J1_canEncode_9a6ad, kN_J1_canEncode_9a6ad, ⟨(lw_m2 (List.mem_of_getElem? (i := 12) rfl)), rfl⟩, kS_J1_canEncode_9a6ad⟩
set_option maxRecDepth 20000 in
theorem kL11_92 : okL 11 (92, 4, 2, eJ6_bitCount_0f7a4) := ⟨⟨(lw_m2 (List.mem_of_getElem? (i := 15) rfl)), rfl⟩, ⟨(lw_m2 (List.mem_of_getElem? (i := 16) rfl)), rfl⟩, ⟨(lw_m1 (List.mem_of_getElem? (i := 11) rfl)), rfl⟩, ⟨(lw_m2 (List.mem_of_getElem? (i := 17) rfl)), rfl⟩⟩
set_option maxRecDepth 20000 in
theorem kL11_38 : okL 11 (38, 5, 2, eJ6_bitCount_0f7a4) := ⟨⟨(lw_m2 (List.mem_of_getElem? (i := 18) rfl)), rfl⟩, ⟨(lw_m2 (List.mem_of_getElem? (i := 19) rfl)), rfl⟩, ⟨(lw_m1 (List.mem_of_getElem? (i := 11) rfl)), rfl⟩, ⟨(lw_m2 (List.mem_of_getElem? (i := 20) rfl)), rfl⟩⟩
set_option maxRecDepth 20000 in
theorem kL11_95 : okL 11 (95, 1, 4, eJ1_indexOfChar_4cfef) := ⟨kE_J1_indexOfChar_4cfef, kN_J1_indexOfChar_4cfef, ⟨(lw_m2 (List.mem_of_getElem? (i := 21) rfl)), rfl⟩, kS_J1_indexOfChar_4cfef⟩
theorem kL11 : ∀ q ∈ ml11, okL 11 q := List.forall_mem_cons.mpr ⟨kL11_9, List.forall_mem_cons.mpr ⟨kL11_88, List.forall_mem_cons.mpr ⟨kL11_92, List.forall_mem_cons.mpr ⟨kL11_38, List.forall_mem_cons.mpr ⟨kL11_95, fun _ h => absurd h List.not_mem_nil⟩⟩⟩⟩⟩
theorem kL_all : ∀ c, ∀ q ∈ mlL c, okL c q := by
  intro c
  unfold mlL
  split
  · exact kL0
  · exact kL1
  · exact kL2
  · exact kL3
  · exact kL4
  · exact kL5
  · exact kL6
  · exact kL10
  · exact kL11
  · exact fun _ h => absurd h List.not_mem_nil
set_option maxRecDepth 20000 in
theorem kF1_27 : okF 1 (27, 3, 2, 0) := Or.inl ⟨by decide +kernel, ⟨(lw_m1 (List.mem_of_getElem? (i := 45) rfl)), rfl⟩⟩
set_option maxRecDepth 20000 in
theorem kF1_33 : okF 1 (33, 3, 4, 2) := Or.inl ⟨by decide +kernel, ⟨(lw_m1 (List.mem_of_getElem? (i := 53) rfl)), rfl⟩⟩
theorem kF1 : ∀ q ∈ fl1, okF 1 q := List.forall_mem_cons.mpr ⟨kF1_27, List.forall_mem_cons.mpr ⟨kF1_33, fun _ h => absurd h List.not_mem_nil⟩⟩
set_option maxRecDepth 20000 in
theorem kF2_86 : okF 2 (86, 3, 0, 2) := Or.inl ⟨by decide +kernel, ⟨(lw_m1 (List.mem_of_getElem? (i := 39) rfl)), rfl⟩⟩
set_option maxRecDepth 20000 in
theorem kF2_98 : okF 2 (98, 3, 1, 0) := Or.inl ⟨by decide +kernel, ⟨(lw_m1 (List.mem_of_getElem? (i := 43) rfl)), rfl⟩⟩
set_option maxRecDepth 20000 in
theorem kF2_50 : okF 2 (50, 3, 2, 0) := Or.inl ⟨by decide +kernel, ⟨(lw_m1 (List.mem_of_getElem? (i := 46) rfl)), rfl⟩⟩
set_option maxRecDepth 20000 in
theorem kF2_22 : okF 2 (22, 3, 3, 2) := Or.inl ⟨by decide +kernel, ⟨(lw_m1 (List.mem_of_getElem? (i := 49) rfl)), rfl⟩⟩
set_option maxRecDepth 20000 in
theorem kF2_56 : okF 2 (56, 3, 5, 2) := Or.inl ⟨by decide +kernel, ⟨(lw_m1 (List.mem_of_getElem? (i := 56) rfl)), rfl⟩⟩
set_option maxRecDepth 20000 in
theorem kF2_53 : okF 2 (53, 3, 6, 0) := Or.inl ⟨by decide +kernel, ⟨(lw_m1 (List.mem_of_getElem? (i := 60) rfl)), rfl⟩⟩
set_option maxRecDepth 20000 in
theorem kF2_40 : okF 2 (40, 3, 7, 2) := Or.inl ⟨by decide +kernel, ⟨(lw_m1 (List.mem_of_getElem? (i := 63) rfl)), rfl⟩⟩
set_option maxRecDepth 20000 in
theorem kF2_43 : okF 2 (43, 3, 8, 2) := Or.inl ⟨by decide +kernel, ⟨(lw_m1 (List.mem_of_getElem? (i := 66) rfl)), rfl⟩⟩
set_option maxRecDepth 20000 in
theorem kF2_9 : okF 2 (9, 2, 0, 2) := Or.inl ⟨by decide +kernel, ⟨(lw_m1 (List.mem_of_getElem? (i := 100) rfl)), rfl⟩⟩
set_option maxRecDepth 20000 in
theorem kF2_15 : okF 2 (15, 2, 1, 2) := Or.inl ⟨by decide +kernel, ⟨(lw_m1 (List.mem_of_getElem? (i := 101) rfl)), rfl⟩⟩
set_option maxRecDepth 20000 in
theorem kF2_18 : okF 2 (18, 2, 2, 0) := Or.inl ⟨by decide +kernel, ⟨(lw_m1 (List.mem_of_getElem? (i := 102) rfl)), rfl⟩⟩
theorem kF2 : ∀ q ∈ fl2, okF 2 q := List.forall_mem_cons.mpr ⟨kF2_86, List.forall_mem_cons.mpr ⟨kF2_98, List.forall_mem_cons.mpr ⟨kF2_50, List.forall_mem_cons.mpr ⟨kF2_22, List.forall_mem_cons.mpr ⟨kF2_56, List.forall_mem_cons.mpr ⟨kF2_53, List.forall_mem_cons.mpr ⟨kF2_40, List.forall_mem_cons.mpr ⟨kF2_43, List.forall_mem_cons.mpr ⟨kF2_9, List.forall_mem_cons.mpr ⟨kF2_15, List.forall_mem_cons.mpr ⟨kF2_18, fun _ h => absurd h List.not_mem_nil⟩⟩⟩⟩⟩⟩⟩⟩⟩⟩⟩
set_option maxRecDepth 20000 in
theorem kF3_9 : okF 3 (9, 3, 0, 2) := Or.inl ⟨by decide +kernel, ⟨(lw_m1 (List.mem_of_getElem? (i := 36) rfl)), rfl⟩⟩
set_option maxRecDepth 20000 in
theorem kF3_21 : okF 3 (21, 3, 1, 0) := Or.inl ⟨by decide +kernel, ⟨(lw_m1 (List.mem_of_getElem? (i := 40) rfl)), rfl⟩⟩
set_option maxRecDepth 20000 in
theorem kF3_25 : okF 3 (25, 3, 2, 0) := Or.inl ⟨by decide +kernel, ⟨(lw_m1 (List.mem_of_getElem? (i := 44) rfl)), rfl⟩⟩
set_option maxRecDepth 20000 in
theorem kF3_30 : okF 3 (30, 3, 3, 2) := Or.inl ⟨by decide +kernel, ⟨(lw_m1 (List.mem_of_getElem? (i := 48) rfl)), rfl⟩⟩
set_option maxRecDepth 20000 in
theorem kF3_33 : okF 3 (33, 3, 4, 2) := Or.inl ⟨by decide +kernel, ⟨(lw_m1 (List.mem_of_getElem? (i := 52) rfl)), rfl⟩⟩
set_option maxRecDepth 20000 in
theorem kF3_36 : okF 3 (36, 3, 5, 2) := Or.inl ⟨by decide +kernel, ⟨(lw_m1 (List.mem_of_getElem? (i := 55) rfl)), rfl⟩⟩
set_option maxRecDepth 20000 in
theorem kF3_40 : okF 3 (40, 3, 6, 0) := Or.inl ⟨by decide +kernel, ⟨(lw_m1 (List.mem_of_getElem? (i := 59) rfl)), rfl⟩⟩
set_option maxRecDepth 20000 in
theorem kF3_43 : okF 3 (43, 3, 7, 2) := Or.inl ⟨by decide +kernel, ⟨(lw_m1 (List.mem_of_getElem? (i := 62) rfl)), rfl⟩⟩
set_option maxRecDepth 20000 in
theorem kF3_46 : okF 3 (46, 3, 8, 2) := Or.inl ⟨by decide +kernel, ⟨(lw_m1 (List.mem_of_getElem? (i := 65) rfl)), rfl⟩⟩
set_option maxRecDepth 20000 in
theorem kF3_49 : okF 3 (49, 3, 9, 0) := Or.inl ⟨by decide +kernel, ⟨(lw_m1 (List.mem_of_getElem? (i := 68) rfl)), rfl⟩⟩
theorem kF3 : ∀ q ∈ fl3, okF 3 q := List.forall_mem_cons.mpr ⟨kF3_9, List.forall_mem_cons.mpr ⟨kF3_21, List.forall_mem_cons.mpr ⟨kF3_25, List.forall_mem_cons.mpr ⟨kF3_30, List.forall_mem_cons.mpr ⟨kF3_33, List.forall_mem_cons.mpr ⟨kF3_36, List.forall_mem_cons.mpr ⟨kF3_40, List.forall_mem_cons.mpr ⟨kF3_43, List.forall_mem_cons.mpr ⟨kF3_46, List.forall_mem_cons.mpr ⟨kF3_49, fun _ h => absurd h List.not_mem_nil⟩⟩⟩⟩⟩⟩⟩⟩⟩⟩
set_option maxRecDepth 20000 in
theorem kF4_52 : okF 4 (52, 3, 0, 2) := Or.inl ⟨by decide +kernel, ⟨(lw_m1 (List.mem_of_getElem? (i := 38) rfl)), rfl⟩⟩
set_option maxRecDepth 20000 in
theorem kF4_86 : okF 4 (86, 3, 1, 0) := Or.inl ⟨by decide +kernel, ⟨(lw_m1 (List.mem_of_getElem? (i := 42) rfl)), rfl⟩⟩
set_option maxRecDepth 20000 in
theorem kF4_95 : okF 4 (95, 3, 3, 2) := Or.inl ⟨by decide +kernel, ⟨(lw_m1 (List.mem_of_getElem? (i := 51) rfl)), rfl⟩⟩
set_option maxRecDepth 20000 in
theorem kF4_106 : okF 4 (106, 3, 5, 2) := Or.inl ⟨by decide +kernel, ⟨(lw_m1 (List.mem_of_getElem? (i := 58) rfl)), rfl⟩⟩
set_option maxRecDepth 20000 in
theorem kF4_99 : okF 4 (99, 3, 9, 0) := Or.inl ⟨by decide +kernel, ⟨(lw_m1 (List.mem_of_getElem? (i := 69) rfl)), rfl⟩⟩
set_option maxRecDepth 20000 in
theorem kF4_9 : okF 4 (9, 4, 0, 2) := Or.inl ⟨by decide +kernel, ⟨(lw_m1 (List.mem_of_getElem? (i := 116) rfl)), rfl⟩⟩
set_option maxRecDepth 20000 in
theorem kF4_15 : okF 4 (15, 4, 1, 0) := Or.inl ⟨by decide +kernel, ⟨(lw_m1 (List.mem_of_getElem? (i := 117) rfl)), rfl⟩⟩
theorem kF4 : ∀ q ∈ fl4, okF 4 q := List.forall_mem_cons.mpr ⟨kF4_52, List.forall_mem_cons.mpr ⟨kF4_86, List.forall_mem_cons.mpr ⟨kF4_95, List.forall_mem_cons.mpr ⟨kF4_106, List.forall_mem_cons.mpr ⟨kF4_99, List.forall_mem_cons.mpr ⟨kF4_9, List.forall_mem_cons.mpr ⟨kF4_15, fun _ h => absurd h List.not_mem_nil⟩⟩⟩⟩⟩⟩⟩
set_option maxRecDepth 20000 in
theorem kF5_81 : okF 5 (81, 3, 0, 2) := Or.inl ⟨by decide +kernel, ⟨(lw_m1 (List.mem_of_getElem? (i := 37) rfl)), rfl⟩⟩
set_option maxRecDepth 20000 in
theorem kF5_124 : okF 5 (124, 3, 1, 0) := Or.inl ⟨by decide +kernel, ⟨(lw_m1 (List.mem_of_getElem? (i := 41) rfl)), rfl⟩⟩
set_option maxRecDepth 20000 in
theorem kF5_127 : okF 5 (127, 3, 2, 0) := Or.inl ⟨by decide +kernel, ⟨(lw_m1 (List.mem_of_getElem? (i := 47) rfl)), rfl⟩⟩
set_option maxRecDepth 20000 in
theorem kF5_87 : okF 5 (87, 3, 3, 2) := Or.inl ⟨by decide +kernel, ⟨(lw_m1 (List.mem_of_getElem? (i := 50) rfl)), rfl⟩⟩
set_option maxRecDepth 20000 in
theorem kF5_91 : okF 5 (91, 3, 4, 2) := Or.inl ⟨by decide +kernel, ⟨(lw_m1 (List.mem_of_getElem? (i := 54) rfl)), rfl⟩⟩
set_option maxRecDepth 20000 in
theorem kF5_94 : okF 5 (94, 3, 5, 2) := Or.inl ⟨by decide +kernel, ⟨(lw_m1 (List.mem_of_getElem? (i := 57) rfl)), rfl⟩⟩
set_option maxRecDepth 20000 in
theorem kF5_254 : okF 5 (254, 3, 6, 0) := Or.inl ⟨by decide +kernel, ⟨(lw_m1 (List.mem_of_getElem? (i := 61) rfl)), rfl⟩⟩
set_option maxRecDepth 20000 in
theorem kF5_114 : okF 5 (114, 3, 7, 2) := Or.inl ⟨by decide +kernel, ⟨(lw_m1 (List.mem_of_getElem? (i := 64) rfl)), rfl⟩⟩
set_option maxRecDepth 20000 in
theorem kF5_117 : okF 5 (117, 3, 8, 2) := Or.inl ⟨by decide +kernel, ⟨(lw_m1 (List.mem_of_getElem? (i := 67) rfl)), rfl⟩⟩
set_option maxRecDepth 20000 in
theorem kF5_134 : okF 5 (134, 3, 9, 0) := Or.inl ⟨by decide +kernel, ⟨(lw_m1 (List.mem_of_getElem? (i := 70) rfl)), rfl⟩⟩
set_option maxRecDepth 20000 in
theorem kF5_10 : okF 5 (10, 5, 0, 2) := Or.inl ⟨by decide +kernel, ⟨(lw_m1 (List.mem_of_getElem? (i := 123) rfl)), rfl⟩⟩
set_option maxRecDepth 20000 in
theorem kF5_16 : okF 5 (16, 5, 1, 2) := Or.inl ⟨by decide +kernel, ⟨(lw_m1 (List.mem_of_getElem? (i := 124) rfl)), rfl⟩⟩
set_option maxRecDepth 20000 in
theorem kF5_19 : okF 5 (19, 5, 2, 2) := Or.inl ⟨by decide +kernel, ⟨(lw_m1 (List.mem_of_getElem? (i := 125) rfl)), rfl⟩⟩
set_option maxRecDepth 20000 in
theorem kF5_22 : okF 5 (22, 5, 3, 1) := Or.inl ⟨by decide +kernel, ⟨(lw_m1 (List.mem_of_getElem? (i := 126) rfl)), rfl⟩⟩
set_option maxRecDepth 20000 in
theorem kF5_29 : okF 5 (29, 5, 4, 2) := Or.inl ⟨by decide +kernel, ⟨(lw_m1 (List.mem_of_getElem? (i := 127) rfl)), rfl⟩⟩
set_option maxRecDepth 20000 in
theorem kF5_36 : okF 5 (36, 5, 5, 2) := Or.inl ⟨by decide +kernel, ⟨(lw_m1 (List.mem_of_getElem? (i := 128) rfl)), rfl⟩⟩
set_option maxRecDepth 20000 in
theorem kF5_40 : okF 5 (40, 5, 6, 2) := Or.inl ⟨by decide +kernel, ⟨(lw_m1 (List.mem_of_getElem? (i := 129) rfl)), rfl⟩⟩
set_option maxRecDepth 20000 in
theorem kF5_44 : okF 5 (44, 5, 7, 0) := Or.inl ⟨by decide +kernel, ⟨(lw_m1 (List.mem_of_getElem? (i := 130) rfl)), rfl⟩⟩
set_option maxRecDepth 20000 in
theorem kF5_48 : okF 5 (48, 5, 8, 2) := Or.inl ⟨by decide +kernel, ⟨(lw_m1 (List.mem_of_getElem? (i := 131) rfl)), rfl⟩⟩
theorem kF5 : ∀ q ∈ fl5, okF 5 q := List.forall_mem_cons.mpr ⟨kF5_81, List.forall_mem_cons.mpr ⟨kF5_124, List.forall_mem_cons.mpr ⟨kF5_127, List.forall_mem_cons.mpr ⟨kF5_87, List.forall_mem_cons.mpr ⟨kF5_91, List.forall_mem_cons.mpr ⟨kF5_94, List.forall_mem_cons.mpr ⟨kF5_254, List.forall_mem_cons.mpr ⟨kF5_114, List.forall_mem_cons.mpr ⟨kF5_117, List.forall_mem_cons.mpr ⟨kF5_134, List.forall_mem_cons.mpr ⟨kF5_10, List.forall_mem_cons.mpr ⟨kF5_16, List.forall_mem_cons.mpr ⟨kF5_19, List.forall_mem_cons.mpr ⟨kF5_22, List.forall_mem_cons.mpr ⟨kF5_29, List.forall_mem_cons.mpr ⟨kF5_36, List.forall_mem_cons.mpr ⟨kF5_40, List.forall_mem_cons.mpr ⟨kF5_44, List.forall_mem_cons.mpr ⟨kF5_48, fun _ h => absurd h List.not_mem_nil⟩⟩⟩⟩⟩⟩⟩⟩⟩⟩⟩⟩⟩⟩⟩⟩⟩⟩⟩
set_option maxRecDepth 20000 in
theorem kF6_9 : okF 6 (9, 6, 0, 2) := Or.inl ⟨by decide +kernel, ⟨(lw_m4 (List.mem_of_getElem? (i := 98) rfl)), rfl⟩⟩
set_option maxRecDepth 20000 in
theorem kF6_13 : okF 6 (13, 6, 1, 2) := Or.inl ⟨by decide +kernel, ⟨(lw_m4 (List.mem_of_getElem? (i := 99) rfl)), rfl⟩⟩
set_option maxRecDepth 20000 in
theorem kF6_16 : okF 6 (16, 6, 2, 2) := Or.inl ⟨by decide +kernel, ⟨(lw_m4 (List.mem_of_getElem? (i := 100) rfl)), rfl⟩⟩
set_option maxRecDepth 20000 in
theorem kF6_217 : okF 6 (217, 6, 3, 1) := Or.inl ⟨by decide +kernel, ⟨(lw_m4 (List.mem_of_getElem? (i := 101) rfl)), rfl⟩⟩
set_option maxRecDepth 20000 in
theorem kF6_19 : okF 6 (19, 6, 4, 2) := Or.inl ⟨by decide +kernel, ⟨(lw_m4 (List.mem_of_getElem? (i := 102) rfl)), rfl⟩⟩
set_option maxRecDepth 20000 in
theorem kF6_22 : okF 6 (22, 6, 5, 2) := Or.inl ⟨by decide +kernel, ⟨(lw_m4 (List.mem_of_getElem? (i := 103) rfl)), rfl⟩⟩
set_option maxRecDepth 20000 in
theorem kF6_25 : okF 6 (25, 6, 6, 2) := Or.inl ⟨by decide +kernel, ⟨(lw_m4 (List.mem_of_getElem? (i := 104) rfl)), rfl⟩⟩
set_option maxRecDepth 20000 in
theorem kF6_94 : okF 6 (94, 6, 7, 0) := Or.inl ⟨by decide +kernel, ⟨(lw_m4 (List.mem_of_getElem? (i := 105) rfl)), rfl⟩⟩
set_option maxRecDepth 20000 in
theorem kF6_202 : okF 6 (202, 6, 8, 0) := Or.inl ⟨by decide +kernel, ⟨(lw_m4 (List.mem_of_getElem? (i := 106) rfl)), rfl⟩⟩
set_option maxRecDepth 20000 in
theorem kF6_28 : okF 6 (28, 6, 9, 2) := Or.inl ⟨by decide +kernel, ⟨(lw_m4 (List.mem_of_getElem? (i := 107) rfl)), rfl⟩⟩
set_option maxRecDepth 20000 in
theorem kF6_98 : okF 6 (98, 6, 10, 0) := Or.inl ⟨by decide +kernel, ⟨(lw_m4 (List.mem_of_getElem? (i := 108) rfl)), rfl⟩⟩
set_option maxRecDepth 20000 in
theorem kF6_31 : okF 6 (31, 6, 11, 2) := Or.inl ⟨by decide +kernel, ⟨(lw_m4 (List.mem_of_getElem? (i := 109) rfl)), rfl⟩⟩
set_option maxRecDepth 20000 in
theorem kF6_208 : okF 6 (208, 6, 12, 0) := Or.inl ⟨by decide +kernel, ⟨(lw_m4 (List.mem_of_getElem? (i := 110) rfl)), rfl⟩⟩
theorem kF6 : ∀ q ∈ fl6, okF 6 q := List.forall_mem_cons.mpr ⟨kF6_9, List.forall_mem_cons.mpr ⟨kF6_13, List.forall_mem_cons.mpr ⟨kF6_16, List.forall_mem_cons.mpr ⟨kF6_217, List.forall_mem_cons.mpr ⟨kF6_19, List.forall_mem_cons.mpr ⟨kF6_22, List.forall_mem_cons.mpr ⟨kF6_25, List.forall_mem_cons.mpr ⟨kF6_94, List.forall_mem_cons.mpr ⟨kF6_202, List.forall_mem_cons.mpr ⟨kF6_28, List.forall_mem_cons.mpr ⟨kF6_98, List.forall_mem_cons.mpr ⟨kF6_31, List.forall_mem_cons.mpr ⟨kF6_208, fun _ h => absurd h List.not_mem_nil⟩⟩⟩⟩⟩⟩⟩⟩⟩⟩⟩⟩⟩
set_option maxRecDepth 20000 in
theorem kF10_9 : okF 10 (9, 10, 0, 2) := Or.inr (Or.inl ⟨rfl, ⟨(lw_m6 (List.mem_of_getElem? (i := 3) rfl)), rfl⟩⟩)
set_option maxRecDepth 20000 in
theorem kF10_15 : okF 10 (15, 10, 1, 3) := Or.inr (Or.inr ⟨rfl, ⟨(lw_m6 (List.mem_of_getElem? (i := 4) rfl)), rfl⟩⟩)
theorem kF10 : ∀ q ∈ fl10, okF 10 q := List.forall_mem_cons.mpr ⟨kF10_9, List.forall_mem_cons.mpr ⟨kF10_15, fun _ h => absurd h List.not_mem_nil⟩⟩
theorem kF_all : ∀ c, ∀ q ∈ flL c, okF c q := by
  intro c
  unfold flL
  split
  · exact kF1
  · exact kF2
  · exact kF3
  · exact kF4
  · exact kF5
  · exact kF6
  · exact kF10
  · exact fun _ h => absurd h List.not_mem_nil
set_option maxRecDepth 20000 in
theorem kC2_172 : okC 2 (172, .int 1664525) := ⟨(lw_m4 (List.mem_of_getElem? (i := 73) rfl)), rfl⟩
set_option maxRecDepth 20000 in
theorem kC2_173 : okC 2 (173, .int 1013904223) := ⟨(lw_m4 (List.mem_of_getElem? (i := 74) rfl)), rfl⟩
set_option maxRecDepth 20000 in
theorem kC2_174 : okC 2 (174, .int 2147483647) := ⟨(lw_m4 (List.mem_of_getElem? (i := 75) rfl)), rfl⟩
theorem kC2 : ∀ q ∈ cl2, okC 2 q := List.forall_mem_cons.mpr ⟨kC2_172, List.forall_mem_cons.mpr ⟨kC2_173, List.forall_mem_cons.mpr ⟨kC2_174, fun _ h => absurd h List.not_mem_nil⟩⟩⟩
set_option maxRecDepth 20000 in
theorem kC4_125 : okC 4 (125, .ref 100) := ⟨rfl, 0, by decide, rfl, rfl⟩
set_option maxRecDepth 20000 in
theorem kC4_127 : okC 4 (127, .ref 101) := ⟨rfl, 1, by decide, rfl, rfl⟩
set_option maxRecDepth 20000 in
theorem kC4_129 : okC 4 (129, .ref 102) := ⟨rfl, 2, by decide, rfl, rfl⟩
set_option maxRecDepth 20000 in
theorem kC4_131 : okC 4 (131, .ref 103) := ⟨rfl, 3, by decide, rfl, rfl⟩
set_option maxRecDepth 20000 in
theorem kC4_133 : okC 4 (133, .ref 104) := ⟨rfl, 4, by decide, rfl, rfl⟩
set_option maxRecDepth 20000 in
theorem kC4_135 : okC 4 (135, .ref 105) := ⟨rfl, 5, by decide, rfl, rfl⟩
set_option maxRecDepth 20000 in
theorem kC4_120 : okC 4 (120, .ref 106) := ⟨rfl, 6, by decide, rfl, rfl⟩
theorem kC4 : ∀ q ∈ cl4, okC 4 q := List.forall_mem_cons.mpr ⟨kC4_125, List.forall_mem_cons.mpr ⟨kC4_127, List.forall_mem_cons.mpr ⟨kC4_129, List.forall_mem_cons.mpr ⟨kC4_131, List.forall_mem_cons.mpr ⟨kC4_133, List.forall_mem_cons.mpr ⟨kC4_135, List.forall_mem_cons.mpr ⟨kC4_120, fun _ h => absurd h List.not_mem_nil⟩⟩⟩⟩⟩⟩⟩
set_option maxRecDepth 20000 in
theorem kC5_207 : okC 5 (207, .int 1000000000) := ⟨(lw_m3 (List.mem_of_getElem? (i := 185) rfl)), rfl⟩
set_option maxRecDepth 20000 in
theorem kC5_223 : okC 5 (223, .long 4000000000000000000) := ⟨(lw_m3 (List.mem_of_getElem? (i := 232) rfl)), rfl⟩
theorem kC5 : ∀ q ∈ cl5, okC 5 q := List.forall_mem_cons.mpr ⟨kC5_207, List.forall_mem_cons.mpr ⟨kC5_223, fun _ h => absurd h List.not_mem_nil⟩⟩
set_option maxRecDepth 20000 in
theorem kC6_34 : okC 6 (34, .int 1000000000) := ⟨(lw_m5 (List.mem_of_getElem? (i := 102) rfl)), rfl⟩
set_option maxRecDepth 20000 in
theorem kC6_211 : okC 6 (211, .int 1664525) := ⟨(lw_m5 (List.mem_of_getElem? (i := 224) rfl)), rfl⟩
set_option maxRecDepth 20000 in
theorem kC6_212 : okC 6 (212, .int 1013904223) := ⟨(lw_m5 (List.mem_of_getElem? (i := 225) rfl)), rfl⟩
set_option maxRecDepth 20000 in
theorem kC6_213 : okC 6 (213, .int 2147483647) := ⟨(lw_m5 (List.mem_of_getElem? (i := 226) rfl)), rfl⟩
set_option maxRecDepth 20000 in
theorem kC6_39 : okC 6 (39, .long 4000000000000000000) := ⟨(lw_m5 (List.mem_of_getElem? (i := 181) rfl)), rfl⟩
theorem kC6 : ∀ q ∈ cl6, okC 6 q := List.forall_mem_cons.mpr ⟨kC6_34, List.forall_mem_cons.mpr ⟨kC6_211, List.forall_mem_cons.mpr ⟨kC6_212, List.forall_mem_cons.mpr ⟨kC6_213, List.forall_mem_cons.mpr ⟨kC6_39, fun _ h => absurd h List.not_mem_nil⟩⟩⟩⟩⟩
set_option maxRecDepth 20000 in
theorem kC16_265 : okC 16 (265, .int 1431655765) := ⟨(lw_m3 (List.mem_of_getElem? (i := 3) rfl)), rfl⟩
set_option maxRecDepth 20000 in
theorem kC16_266 : okC 16 (266, .int 858993459) := ⟨(lw_m3 (List.mem_of_getElem? (i := 4) rfl)), rfl⟩
set_option maxRecDepth 20000 in
theorem kC16_267 : okC 16 (267, .int 252645135) := ⟨(lw_m3 (List.mem_of_getElem? (i := 5) rfl)), rfl⟩
set_option maxRecDepth 20000 in
theorem kC16_264 : okC 16 (264, .int 65536) := ⟨(lw_m3 (List.mem_of_getElem? (i := 33) rfl)), rfl⟩
theorem kC16 : ∀ q ∈ cl16, okC 16 q := List.forall_mem_cons.mpr ⟨kC16_265, List.forall_mem_cons.mpr ⟨kC16_266, List.forall_mem_cons.mpr ⟨kC16_267, List.forall_mem_cons.mpr ⟨kC16_264, fun _ h => absurd h List.not_mem_nil⟩⟩⟩⟩
theorem kC_all : ∀ c, ∀ q ∈ clL c, okC c q := by
  intro c
  unfold clL
  split
  · exact kC2
  · exact kC4
  · exact kC5
  · exact kC6
  · exact kC16
  · exact fun _ h => absurd h List.not_mem_nil
theorem mlk_ok {c i : Nat} {q : Nat × Nat × Nat × mE} (h : mlk c i = some q) : okL c q ∧ q.1 = i := ⟨kL_all c q (List.mem_of_find?_eq_some h), by simpa using List.find?_some h⟩
theorem flk_ok {c i : Nat} {q : Nat × Nat × Nat × Nat} (h : flk c i = some q) : okF c q ∧ q.1 = i := ⟨kF_all c q (List.mem_of_find?_eq_some h), by simpa using List.find?_some h⟩
theorem clk_ok {c i : Nat} {q : Nat × Value} (h : clk c i = some q) : okC c q ∧ q.1 = i := ⟨kC_all c q (List.mem_of_find?_eq_some h), by simpa using List.find?_some h⟩
set_option maxRecDepth 20000 in
theorem kU2 : ∀ w ∈ u_ws (ownS 2) (TT 2) (NN 2), inW w := List.forall_mem_cons.mpr ⟨⟨(lw_m1 (List.mem_of_getElem? (i := 103) rfl)), rfl⟩, List.forall_mem_cons.mpr ⟨⟨(lw_m1 (List.mem_of_getElem? (i := 105) rfl)), rfl⟩, List.forall_mem_cons.mpr ⟨⟨(lw_m1 (List.mem_of_getElem? (i := 107) rfl)), rfl⟩, fun _ h => absurd h List.not_mem_nil⟩⟩⟩
set_option maxRecDepth 20000 in
theorem kU3 : ∀ w ∈ u_ws (ownS 3) (TT 3) (NN 3), inW w := List.forall_mem_cons.mpr ⟨⟨(lw_m1 (List.mem_of_getElem? (i := 71) rfl)), rfl⟩, List.forall_mem_cons.mpr ⟨⟨(lw_m1 (List.mem_of_getElem? (i := 73) rfl)), rfl⟩, List.forall_mem_cons.mpr ⟨⟨(lw_m1 (List.mem_of_getElem? (i := 75) rfl)), rfl⟩, List.forall_mem_cons.mpr ⟨⟨(lw_m1 (List.mem_of_getElem? (i := 77) rfl)), rfl⟩, List.forall_mem_cons.mpr ⟨⟨(lw_m1 (List.mem_of_getElem? (i := 79) rfl)), rfl⟩, List.forall_mem_cons.mpr ⟨⟨(lw_m1 (List.mem_of_getElem? (i := 81) rfl)), rfl⟩, List.forall_mem_cons.mpr ⟨⟨(lw_m1 (List.mem_of_getElem? (i := 83) rfl)), rfl⟩, List.forall_mem_cons.mpr ⟨⟨(lw_m1 (List.mem_of_getElem? (i := 85) rfl)), rfl⟩, List.forall_mem_cons.mpr ⟨⟨(lw_m1 (List.mem_of_getElem? (i := 87) rfl)), rfl⟩, List.forall_mem_cons.mpr ⟨⟨(lw_m1 (List.mem_of_getElem? (i := 89) rfl)), rfl⟩, fun _ h => absurd h List.not_mem_nil⟩⟩⟩⟩⟩⟩⟩⟩⟩⟩
set_option maxRecDepth 20000 in
theorem kU4 : ∀ w ∈ u_ws (ownS 4) (TT 4) (NN 4), inW w := List.forall_mem_cons.mpr ⟨⟨(lw_m1 (List.mem_of_getElem? (i := 118) rfl)), rfl⟩, List.forall_mem_cons.mpr ⟨⟨(lw_m1 (List.mem_of_getElem? (i := 120) rfl)), rfl⟩, fun _ h => absurd h List.not_mem_nil⟩⟩
set_option maxRecDepth 20000 in
theorem kU5 : ∀ w ∈ u_ws (ownS 5) (TT 5) (NN 5), inW w := List.forall_mem_cons.mpr ⟨⟨(lw_m1 (List.mem_of_getElem? (i := 132) rfl)), rfl⟩, List.forall_mem_cons.mpr ⟨⟨(lw_m1 (List.mem_of_getElem? (i := 134) rfl)), rfl⟩, List.forall_mem_cons.mpr ⟨⟨(lw_m1 (List.mem_of_getElem? (i := 136) rfl)), rfl⟩, List.forall_mem_cons.mpr ⟨⟨(lw_m1 (List.mem_of_getElem? (i := 138) rfl)), rfl⟩, List.forall_mem_cons.mpr ⟨⟨(lw_m1 (List.mem_of_getElem? (i := 140) rfl)), rfl⟩, List.forall_mem_cons.mpr ⟨⟨(lw_m1 (List.mem_of_getElem? (i := 142) rfl)), rfl⟩, List.forall_mem_cons.mpr ⟨⟨(lw_m1 (List.mem_of_getElem? (i := 144) rfl)), rfl⟩, List.forall_mem_cons.mpr ⟨⟨(lw_m1 (List.mem_of_getElem? (i := 146) rfl)), rfl⟩, List.forall_mem_cons.mpr ⟨⟨(lw_m1 (List.mem_of_getElem? (i := 148) rfl)), rfl⟩, fun _ h => absurd h List.not_mem_nil⟩⟩⟩⟩⟩⟩⟩⟩⟩
set_option maxRecDepth 20000 in
theorem kU6 : ∀ w ∈ u_ws (ownS 6) (TT 6) (NN 6), inW w := List.forall_mem_cons.mpr ⟨⟨(lw_m4 (List.mem_of_getElem? (i := 111) rfl)), rfl⟩, List.forall_mem_cons.mpr ⟨⟨(lw_m4 (List.mem_of_getElem? (i := 113) rfl)), rfl⟩, List.forall_mem_cons.mpr ⟨⟨(lw_m4 (List.mem_of_getElem? (i := 115) rfl)), rfl⟩, List.forall_mem_cons.mpr ⟨⟨(lw_m4 (List.mem_of_getElem? (i := 117) rfl)), rfl⟩, List.forall_mem_cons.mpr ⟨⟨(lw_m4 (List.mem_of_getElem? (i := 119) rfl)), rfl⟩, List.forall_mem_cons.mpr ⟨⟨(lw_m4 (List.mem_of_getElem? (i := 121) rfl)), rfl⟩, List.forall_mem_cons.mpr ⟨⟨(lw_m4 (List.mem_of_getElem? (i := 123) rfl)), rfl⟩, List.forall_mem_cons.mpr ⟨⟨(lw_m4 (List.mem_of_getElem? (i := 125) rfl)), rfl⟩, List.forall_mem_cons.mpr ⟨⟨(lw_m4 (List.mem_of_getElem? (i := 127) rfl)), rfl⟩, List.forall_mem_cons.mpr ⟨⟨(lw_m4 (List.mem_of_getElem? (i := 129) rfl)), rfl⟩, List.forall_mem_cons.mpr ⟨⟨(lw_m4 (List.mem_of_getElem? (i := 131) rfl)), rfl⟩, List.forall_mem_cons.mpr ⟨⟨(lw_m4 (List.mem_of_getElem? (i := 133) rfl)), rfl⟩, List.forall_mem_cons.mpr ⟨⟨(lw_m4 (List.mem_of_getElem? (i := 135) rfl)), rfl⟩, fun _ h => absurd h List.not_mem_nil⟩⟩⟩⟩⟩⟩⟩⟩⟩⟩⟩⟩⟩
set_option maxRecDepth 20000 in
theorem kG38 : inW (.fieldLink (ownS 10) 38 "java/lang/String" "COMPACT_STRINGS" "Z") := ⟨(lw_m1 (List.mem_of_getElem? (i := 196) rfl)), rfl⟩
set_option maxRecDepth 20000 in
theorem kG1053 : inW (.fieldLink (ownS 10) 1053 "jdk/internal/util/Preconditions" "SIOOBE_FORMATTER" "Ljava/util/function/BiFunction;") := ⟨(lw_m1 (List.mem_of_getElem? (i := 212) rfl)), rfl⟩
