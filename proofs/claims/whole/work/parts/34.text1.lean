/-! the letters -/
theorem t55 : tg 55 = 4 := rfl
theorem r550 : rf 55 0 = 56 := rfl
theorem t56 : tg 56 = 100 := rfl
theorem l56 : ln 56 = 96 := rfl
def swT (x : Int32) : Int → List Nat → Nat → Nat
  | _, [], td => td
  | lo, t :: ts, td => if x = Int32.ofInt lo then t else swT x (lo + 1) ts td
theorem swP_T (x : Int32) (td : Nat) (K : Nat → Prop) : ∀ (ts : List Nat) (lo : Int), swP x lo ts td K = K (swT x lo ts td)
  | [], _ => rfl
  | t :: ts, lo => by
    rw [swP, swT, swP_T x td K ts (lo + 1)]
    split <;> rfl
/-- which shape stands behind a statement's first letter -/
def sj (c : Nat) : Nat := if c = 108 ∨ c = 107 then 0 else if c = 109 then 1 else if c = 99 then 2 else if c = 117 then 3 else if c = 115 ∨ c = 120 then 4 else 5
theorem sj_le (c : Nat) : sj c ≤ 5 := by unfold sj; repeat' split
                                         all_goals omega
theorem sj_T : ∀ c, c < 256 → swT (nI c) 99 [110, 119, 119, 119, 119, 119, 119, 119, 104, 104, 107, 119, 119, 119, 119, 119, 116, 119, 113, 119, 119, 116] 119 = 104 + 3 * sj c := by decide +kernel
theorem k_shapeBehind {d : Nat} (hd : 1 ≤ d) {c : Nat} (hc : c < 256) (h : mH) (r : Option Value) (h' : mH) : Cal d eX4_shapeBehind [.int (nI c)] h r h' ↔ r = some (.ref (100 + sj c)) ∧ h' = h := by
  refine Cal_iff (Cal_le (d := 1) (Cal_of rfl (fun Q hq => ?_)) hd) r h'
  show WP 0 eX4_shapeBehind Q 0 [.int (nI c)] [] h
  rw [bX4_shapeBehind_0, swP_T, sj_T c hc]
  have := sj_le c
  rcases (show sj c = 0 ∨ sj c = 1 ∨ sj c = 2 ∨ sj c = 3 ∨ sj c = 4 ∨ sj c = 5 by omega) with e | e | e | e | e | e
  · rw [e] at hq ⊢; show WP 0 eX4_shapeBehind Q 104 _ _ _; rw [bX4_shapeBehind_104]; exact hq
  · rw [e] at hq ⊢; show WP 0 eX4_shapeBehind Q 107 _ _ _; rw [bX4_shapeBehind_107]; exact hq
  · rw [e] at hq ⊢; show WP 0 eX4_shapeBehind Q 110 _ _ _; rw [bX4_shapeBehind_110]; exact hq
  · rw [e] at hq ⊢; show WP 0 eX4_shapeBehind Q 113 _ _ _; rw [bX4_shapeBehind_113]; exact hq
  · rw [e] at hq ⊢; show WP 0 eX4_shapeBehind Q 116 _ _ _; rw [bX4_shapeBehind_116]; exact hq
  · rw [e] at hq ⊢; show WP 0 eX4_shapeBehind Q 119 _ _ _; rw [bX4_shapeBehind_119]; exact hq
/-! the texts that are constants: 100 + j -/
def sln (j : Nat) : Nat := if j = 0 then 11 else if j = 1 then 3 else if j = 2 then 3 else if j = 3 then 4 else if j = 4 then 2 else if j = 5 then 0 else 6
def bn (j i : Nat) : Nat := if j = 6 then (if i = 0 then 109 else if i = 1 then 104 else if i = 2 then 119 else if i = 3 then 114 else if i = 4 then 115 else 103) else if i + 1 = sln j then 59 else if j = 1 ∧ i = 0 then 107 else 48
section TXT
variable {j : Nat}
theorem jc (hj : j ≤ 6) : j = 0 ∨ j = 1 ∨ j = 2 ∨ j = 3 ∨ j = 4 ∨ j = 5 ∨ j = 6 := by omega
theorem tT (hj : j ≤ 6) : tg (100 + j) = 10 := by rcases jc hj with rfl | rfl | rfl | rfl | rfl | rfl | rfl <;> rfl
theorem rT (hj : j ≤ 6) : rf (100 + j) 0 = 110 + j := by rcases jc hj with rfl | rfl | rfl | rfl | rfl | rfl | rfl <;> rfl
theorem tB (hj : j ≤ 6) : tg (110 + j) = 103 := by rcases jc hj with rfl | rfl | rfl | rfl | rfl | rfl | rfl <;> rfl
theorem lB (hj : j ≤ 6) : ln (110 + j) = sln j := by rcases jc hj with rfl | rfl | rfl | rfl | rfl | rfl | rfl <;> rfl
theorem sln_le (j : Nat) : sln j ≤ 11 := by unfold sln; repeat' split
                                            all_goals omega
theorem bB : ∀ j, j ≤ 6 → ∀ i, i < sln j → byt (110 + j) i = nI (bn j i) ∧ bn j i < 128 := by decide +kernel
theorem n100 {j : Nat} (hj : j ≤ 6) : 100 ≤ tg (110 + j) := by rw [tB hj]; omega
theorem n01 : ¬ (1 : Int32) = 0 := by decide
theorem ny0 : narrow .byte (.int 0) = .int 0 := rfl
theorem k_isEmpty {d : Nat} (hd : 1 ≤ d) (hj : j ≤ 6) (h : mH) (r : Option Value) (h' : mH) : Cal d eJ0_isEmpty_aae02 [.ref (100 + j)] h r h' ↔ r = some (.int (bz (decide (sln j = 0)))) ∧ h' = h := by
  refine Cal_iff (Cal_le (d := 1) (Cal_of rfl (fun Q hq => ?_)) hd) r h'
  show WP 0 eJ0_isEmpty_aae02 Q 0 [.ref (100 + j)] [] h
  have e : (Int32.ofNat (sln j) = 0) = (sln j = 0) := neq (b := 0) (by have := sln_le j; omega) (by omega)
  simp only [bJ0_isEmpty_aae02_0, bJ0_isEmpty_aae02_8, bJ0_isEmpty_aae02_12, bJ0_isEmpty_aae02_13, tT hj, rT hj, n100 hj, lB hj, e, nb0, nb1, Option.toList_some, Option.toList_none, List.cons_append, List.nil_append, and_assoc, exists_and_left, exists_eq_left, true_and, and_true, Nat.reduceLeDiff, not_false_eq_true, not_true_eq_false, ↓reduceIte, eq_self, ← Int32.not_lt, ite_not, Classical.not_not]
  by_cases c : sln j = 0 <;> simp only [c, decide_true, decide_false, not_false_eq_true, not_true_eq_false, ↓reduceIte, Bool.false_eq_true, Bool.and_true, Bool.true_and, Bool.false_and, Bool.and_false, true_and, false_and, and_true, and_false, bzt, bzf] at hq ⊢ <;> exact hq
theorem k_coder {d : Nat} (hd : 1 ≤ d) (hj : j ≤ 6) (h : mH) (r : Option Value) (h' : mH) : Cal d eJ0_coder_7d493 [.ref (100 + j)] h r h' ↔ r = some (.int 0) ∧ h' = h := by
  refine Cal_iff (Cal_le (d := 1) (Cal_of rfl (fun Q hq => ?_)) hd) r h'
  show WP 0 eJ0_coder_7d493 Q 0 [.ref (100 + j)] [] h
  simp only [bJ0_coder_7d493_0, bJ0_coder_7d493_6, bJ0_coder_7d493_13, bJ0_coder_7d493_14, tT hj, n01, ny0, Option.toList_some, Option.toList_none, List.cons_append, List.nil_append, and_assoc, exists_and_left, exists_eq_left, true_and, and_true, Nat.reduceLeDiff, not_false_eq_true, not_true_eq_false, ↓reduceIte, eq_self, ← Int32.not_lt, ite_not, Classical.not_not]
  exact hq
theorem sh0 : ∀ n, n < 12 → (Int32.ofNat n) >>> ((0 : Int32) &&& 31) = nI n := by decide +kernel
theorem k_length {d : Nat} (hd : 2 ≤ d) (hj : j ≤ 6) (h : mH) (r : Option Value) (h' : mH) : Cal d eJ0_length_8abf5 [.ref (100 + j)] h r h' ↔ r = some (.int (nI (sln j))) ∧ h' = h := by
  refine Cal_iff (Cal_le (d := 2) (Cal_of rfl (fun Q hq => ?_)) hd) r h'
  show WP 1 eJ0_length_8abf5 Q 0 [.ref (100 + j)] [] h
  simp only [bJ0_length_8abf5_0, bJ0_length_8abf5_9, tT hj, rT hj, n100 hj, lB hj, k_coder (Nat.le_refl 1) hj, sh0 _ (show sln j < 12 by have := sln_le j; omega), Option.toList_some, Option.toList_none, List.cons_append, List.nil_append, and_assoc, exists_and_left, exists_eq_left, true_and, and_true, Nat.reduceLeDiff, not_false_eq_true, not_true_eq_false, ↓reduceIte, eq_self, ← Int32.not_lt, ite_not, Classical.not_not]
  exact hq
theorem k_isLatin1 {d : Nat} (hd : 1 ≤ d) (hj : j ≤ 6) (h : mH) (r : Option Value) (h' : mH) : Cal d eJ0_isLatin1_aae02 [.ref (100 + j)] h r h' ↔ r = some (.int 1) ∧ h' = h := by
  refine Cal_iff (Cal_le (d := 1) (Cal_of rfl (fun Q hq => ?_)) hd) r h'
  show WP 0 eJ0_isLatin1_aae02 Q 0 [.ref (100 + j)] [] h
  simp only [bJ0_isLatin1_aae02_0, bJ0_isLatin1_aae02_6, bJ0_isLatin1_aae02_13, bJ0_isLatin1_aae02_17, bJ0_isLatin1_aae02_18, tT hj, n01, nb1, Option.toList_some, Option.toList_none, List.cons_append, List.nil_append, and_assoc, exists_and_left, exists_eq_left, true_and, and_true, Nat.reduceLeDiff, not_false_eq_true, not_true_eq_false, ↓reduceIte, eq_self, ← Int32.not_lt, ite_not, Classical.not_not]
  exact hq
theorem k_checkIndex3 {d : Nat} (hd : 1 ≤ d) {i n : Nat} (hi : i < n) (hn : n ≤ 1000) (h : mH) (r : Option Value) (h' : mH) : Cal d eJ3_checkIndex_8e157 [.int (nI i), .int (nI n), .retAddr 0] h r h' ↔ r = some (.int (nI i)) ∧ h' = h := by
  refine Cal_iff (Cal_le (d := 1) (Cal_of rfl (fun Q hq => ?_)) hd) r h'
  show WP 0 eJ3_checkIndex_8e157 Q 0 [.int (nI i), .int (nI n), .retAddr 0] [] h
  simp only [bJ3_checkIndex_8e157_0, bJ3_checkIndex_8e157_4, bJ3_checkIndex_8e157_16, nnn (show i ≤ 100000 by omega), nlt (show i ≤ 100000 by omega) (show n ≤ 100000 by omega), hi, Option.toList_some, Option.toList_none, List.cons_append, List.nil_append, and_assoc, exists_and_left, exists_eq_left, true_and, and_true, Nat.reduceLeDiff, not_false_eq_true, not_true_eq_false, ↓reduceIte, eq_self, ← Int32.not_lt, ite_not, Classical.not_not]
  exact hq
theorem k_checkIndex0 {d : Nat} (hd : 2 ≤ d) {i n : Nat} (hi : i < n) (hn : n ≤ 1000) (h : mH) (r : Option Value) (h' : mH) : Cal d eJ0_checkIndex_df160 [.int (nI i), .int (Int32.ofNat n)] h r h' ↔ r = none ∧ h' = h := by
  refine Cal_iff (Cal_le (d := 2) (Cal_of rfl (fun Q hq => ?_)) hd) r h'
  show WP 1 eJ0_checkIndex_df160 Q 0 [.int (nI i), .int (nI n)] [] h
  simp only [bJ0_checkIndex_df160_0, bJ0_checkIndex_df160_8, k_checkIndex3 (Nat.le_refl 1) hi hn, Option.toList_some, Option.toList_none, List.cons_append, List.nil_append, and_assoc, exists_and_left, exists_eq_left, true_and, and_true, Nat.reduceLeDiff, not_false_eq_true, not_true_eq_false, ↓reduceIte, eq_self, ← Int32.not_lt, ite_not, Classical.not_not]
  exact hq
theorem cb : ∀ n, n < 128 → (((nI n &&& 255).toUInt32 % 65536).toInt32) = nI n := by decide +kernel
theorem k_charAt1 {d : Nat} (hd : 3 ≤ d) (hj : j ≤ 6) {i : Nat} (hi : i < sln j) (h : mH) (r : Option Value) (h' : mH) : Cal d eJ1_charAt_3b067 [.ref (110 + j), .int (nI i)] h r h' ↔ r = some (.int (nI (bn j i))) ∧ h' = h := by
  refine Cal_iff (Cal_le (d := 3) (Cal_of rfl (fun Q hq => ?_)) hd) r h'
  show WP 2 eJ1_charAt_3b067 Q 0 [.ref (110 + j), .int (nI i)] [] h
  have h11 := sln_le j
  obtain ⟨e1, e2⟩ := bB j hj i hi
  simp only [bJ1_charAt_3b067_0, bJ1_charAt_3b067_6, bJ1_charAt_3b067_9, n100 hj, lB hj, k_checkIndex0 (Nat.le_refl 2) hi (show sln j ≤ 1000 by omega), vp_nI hi (show sln j ≤ 100 by omega), tB hj, Nat.reduceEqDiff, nI_cl (show i < 100 by omega), e1, cb _ e2, (pk_charN (show bn j i < 65536 by omega)).1, Option.toList_some, Option.toList_none, List.cons_append, List.nil_append, and_assoc, exists_and_left, exists_eq_left, true_and, and_true, Nat.reduceLeDiff, not_false_eq_true, not_true_eq_false, ↓reduceIte, eq_self, ← Int32.not_lt, ite_not, Classical.not_not]
  exact hq
theorem k_charAt {d : Nat} (hd : 4 ≤ d) (hj : j ≤ 6) {i : Nat} (hi : i < sln j) (h : mH) (r : Option Value) (h' : mH) : Cal d eJ0_charAt_5068e [.ref (100 + j), .int (nI i)] h r h' ↔ r = some (.int (nI (bn j i))) ∧ h' = h := by
  refine Cal_iff (Cal_le (d := 4) (Cal_of rfl (fun Q hq => ?_)) hd) r h'
  show WP 3 eJ0_charAt_5068e Q 0 [.ref (100 + j), .int (nI i)] [] h
  obtain ⟨e1, e2⟩ := bB j hj i hi
  simp only [bJ0_charAt_5068e_0, bJ0_charAt_5068e_4, bJ0_charAt_5068e_7, bJ0_charAt_5068e_15, tT hj, rT hj, k_isLatin1 (show 1 ≤ 3 by omega) hj, n01, k_charAt1 (Nat.le_refl 3) hj hi, (pk_charN (show bn j i < 65536 by omega)).1, Option.toList_some, Option.toList_none, List.cons_append, List.nil_append, and_assoc, exists_and_left, exists_eq_left, true_and, and_true, Nat.reduceLeDiff, not_false_eq_true, not_true_eq_false, ↓reduceIte, eq_self, ← Int32.not_lt, ite_not, Classical.not_not]
  exact hq
/-! where a letter stands in "mhwrsg" -/
def kx (c : Nat) : Int32 := if c = 109 then 0 else if c = 104 then 1 else if c = 119 then 2 else if c = 114 then 3 else if c = 115 then 4 else if c = 103 then 5 else -1
def kx0 (y : Int32) : Int32 := if nI 109 = y then nI 0 else if nI 104 = y then nI 1 else if nI 119 = y then nI 2 else if nI 114 = y then nI 3 else if nI 115 = y then nI 4 else if nI 103 = y then nI 5 else -1
theorem kx_0 : ∀ c, c < 256 → kx0 ((nI c).toInt8.toInt32) = kx c := by decide +kernel
theorem b6 : byt 116 0 = nI 109 ∧ byt 116 1 = nI 104 ∧ byt 116 2 = nI 119 ∧ byt 116 3 = nI 114 ∧ byt 116 4 = nI 115 ∧ byt 116 5 = nI 103 := by decide
theorem k_canEncode {d : Nat} (hd : 1 ≤ d) {c : Nat} (hc : c < 256) (h : mH) (r : Option Value) (h' : mH) : Cal d eJ1_canEncode_9a6ad [.int (nI c)] h r h' ↔ r = some (.int 1) ∧ h' = h := by
  refine Cal_iff (Cal_le (d := 1) (Cal_of rfl (fun Q hq => ?_)) hd) r h'
  show WP 0 eJ1_canEncode_9a6ad Q 0 [.int (nI c)] [] h
  simp only [bJ1_canEncode_9a6ad_0, bJ1_canEncode_9a6ad_4, bJ1_canEncode_9a6ad_11, bJ1_canEncode_9a6ad_15, bJ1_canEncode_9a6ad_16, nnn (show c ≤ 100000 by omega), show (255 : Int32) = nI 255 from rfl, nlt (show 255 ≤ 100000 by omega) (show c ≤ 100000 by omega), show ¬ 255 < c by omega, nb1, Option.toList_some, Option.toList_none, List.cons_append, List.nil_append, and_assoc, exists_and_left, exists_eq_left, true_and, and_true, Nat.reduceLeDiff, not_false_eq_true, not_true_eq_false, ↓reduceIte, eq_self, ← Int32.not_lt, ite_not, Classical.not_not]
  exact hq
theorem k_indexOfChar {d : Nat} (hd : 1 ≤ d) {c : Nat} (hc : c < 256) (h : mH) (r : Option Value) (h' : mH) : Cal d eJ1_indexOfChar_4cfef [.ref 116, .int (nI c), .int 0, .int 6] h r h' ↔ r = some (.int (kx c)) ∧ h' = h := by
  refine Cal_iff (Cal_le (d := 1) (Cal_of rfl (fun Q hq => ?_)) hd) r h'
  show WP 0 eJ1_indexOfChar_4cfef Q 0 [.ref 116, .int (nI c), .int 0, .int 6, mU, mU] [] h
  rw [← kx_0 c hc] at hq
  rw [bJ1_indexOfChar_4cfef_0]
  generalize (nI c).toInt8.toInt32 = y at hq ⊢
  have e5 : tg 116 = 103 := rfl
  have l5 : ln 116 = 6 := rfl
  have st : ∀ (i : Nat), i < 6 → WP 0 eJ1_indexOfChar_4cfef Q 7 [.ref 116, .int (nI c), .int 0, .int 6, .int y, .int (nI i)] [] h = (if byt 116 i = y then Q (some (.int (nI i))) h else WP 0 eJ1_indexOfChar_4cfef Q 7 [.ref 116, .int (nI c), .int 0, .int 6, .int y, .int (nI (i + 1))] [] h) := by
    intro i hi
    conv => lhs; rw [bJ1_indexOfChar_4cfef_7]
    simp only [bJ1_indexOfChar_4cfef_13, bJ1_indexOfChar_4cfef_17, bJ1_indexOfChar_4cfef_22, bJ1_indexOfChar_4cfef_25, show (6 : Int32) = nI 6 from rfl, nlt (show i ≤ 100000 by omega) (show 6 ≤ 100000 by omega), hi, e5, l5, vp_nI hi (show 6 ≤ 100 by omega), Nat.reduceEqDiff, nI_cl (show i < 100 by omega), nI_1, Option.toList_some, Option.toList_none, List.cons_append, List.nil_append, and_assoc, exists_and_left, exists_eq_left, true_and, and_true, Nat.reduceLeDiff, not_false_eq_true, not_true_eq_false, ↓reduceIte, eq_self, ← Int32.not_lt, ite_not, Classical.not_not]
  have e6 : WP 0 eJ1_indexOfChar_4cfef Q 7 [.ref 116, .int (nI c), .int 0, .int 6, .int y, .int (nI 6)] [] h = Q (some (.int (-1))) h := by
    simp only [bJ1_indexOfChar_4cfef_7, bJ1_indexOfChar_4cfef_31, show (6 : Int32) = nI 6 from rfl, nlt (show 6 ≤ 100000 by omega) (show 6 ≤ 100000 by omega), Nat.lt_irrefl, Option.toList_some, Option.toList_none, List.cons_append, List.nil_append, and_assoc, exists_and_left, exists_eq_left, true_and, and_true, Nat.reduceLeDiff, not_false_eq_true, not_true_eq_false, ↓reduceIte, eq_self, ← Int32.not_lt, ite_not, Classical.not_not]
  show WP 0 eJ1_indexOfChar_4cfef Q 7 [.ref 116, .int (nI c), .int 0, .int 6, .int y, .int (nI 0)] [] h
  obtain ⟨q0, q1, q2, q3, q4, q5⟩ := b6
  rw [st 0 (by omega), st 1 (by omega), st 2 (by omega), st 3 (by omega), st 4 (by omega), st 5 (by omega), e6, q0, q1, q2, q3, q4, q5]
  unfold kx0 at hq
  by_cases c0 : nI 109 = y
  · simp only [c0, decide_true, decide_false, not_false_eq_true, not_true_eq_false, ↓reduceIte, Bool.false_eq_true, Bool.and_true, Bool.true_and, Bool.false_and, Bool.and_false, true_and, false_and, and_true, and_false] at hq ⊢; exact hq
  by_cases c1 : nI 104 = y
  · simp only [c0, c1, decide_true, decide_false, not_false_eq_true, not_true_eq_false, ↓reduceIte, Bool.false_eq_true, Bool.and_true, Bool.true_and, Bool.false_and, Bool.and_false, true_and, false_and, and_true, and_false] at hq ⊢; exact hq
  by_cases c2 : nI 119 = y
  · simp only [c0, c1, c2, decide_true, decide_false, not_false_eq_true, not_true_eq_false, ↓reduceIte, Bool.false_eq_true, Bool.and_true, Bool.true_and, Bool.false_and, Bool.and_false, true_and, false_and, and_true, and_false] at hq ⊢; exact hq
  by_cases c3 : nI 114 = y
  · simp only [c0, c1, c2, c3, decide_true, decide_false, not_false_eq_true, not_true_eq_false, ↓reduceIte, Bool.false_eq_true, Bool.and_true, Bool.true_and, Bool.false_and, Bool.and_false, true_and, false_and, and_true, and_false] at hq ⊢; exact hq
  by_cases c4 : nI 115 = y
  · simp only [c0, c1, c2, c3, c4, decide_true, decide_false, not_false_eq_true, not_true_eq_false, ↓reduceIte, Bool.false_eq_true, Bool.and_true, Bool.true_and, Bool.false_and, Bool.and_false, true_and, false_and, and_true, and_false] at hq ⊢; exact hq
  by_cases c5 : nI 103 = y
  · simp only [c0, c1, c2, c3, c4, c5, decide_true, decide_false, not_false_eq_true, not_true_eq_false, ↓reduceIte, Bool.false_eq_true, Bool.and_true, Bool.true_and, Bool.false_and, Bool.and_false, true_and, false_and, and_true, and_false] at hq ⊢; exact hq
  · simp only [c0, c1, c2, c3, c4, c5, decide_true, decide_false, not_false_eq_true, not_true_eq_false, ↓reduceIte, Bool.false_eq_true, Bool.and_true, Bool.true_and, Bool.false_and, Bool.and_false, true_and, false_and, and_true, and_false] at hq ⊢; exact hq
theorem jx0 : jmx 0 0 = 0 ∧ jmn (nI 6) (Int32.ofNat 6) = 6 := by decide
theorem k_indexOf1 {d : Nat} (hd : 2 ≤ d) {c : Nat} (hc : c < 256) (h : mH) (r : Option Value) (h' : mH) : Cal d eJ1_indexOf_4cfef [.ref 116, .int (nI c), .int 0, .int (nI 6)] h r h' ↔ r = some (.int (kx c)) ∧ h' = h := by
  refine Cal_iff (Cal_le (d := 2) (Cal_of rfl (fun Q hq => ?_)) hd) r h'
  show WP 1 eJ1_indexOf_4cfef Q 0 [.ref 116, .int (nI c), .int 0, .int (nI 6)] [] h
  simp only [bJ1_indexOf_4cfef_0, bJ1_indexOf_4cfef_4, bJ1_indexOf_4cfef_7, bJ1_indexOf_4cfef_9, bJ1_indexOf_4cfef_27, bJ1_indexOf_4cfef_29, bJ1_indexOf_4cfef_36, k_canEncode (Nat.le_refl 1) hc, n01, show 100 ≤ tg 116 by decide, show ln 116 = 6 from rfl, jx0, show (0 : Int32) < 6 by decide, k_indexOfChar (Nat.le_refl 1) hc, Option.toList_some, Option.toList_none, List.cons_append, List.nil_append, and_assoc, exists_and_left, exists_eq_left, true_and, and_true, Nat.reduceLeDiff, not_false_eq_true, not_true_eq_false, ↓reduceIte, eq_self, ← Int32.not_lt, ite_not, Classical.not_not]
  exact hq
theorem k_indexOf7 {d : Nat} (hd : 3 ≤ d) {c : Nat} (hc : c < 256) (h : mH) (r : Option Value) (h' : mH) : Cal d eJ0_indexOf_7cf53 [.ref 106, .int (nI c), .int 0] h r h' ↔ r = some (.int (kx c)) ∧ h' = h := by
  refine Cal_iff (Cal_le (d := 3) (Cal_of rfl (fun Q hq => ?_)) hd) r h'
  show WP 2 eJ0_indexOf_7cf53 Q 0 [.ref 106, .int (nI c), .int 0] [] h
  have k1 : ∀ r h', Cal 2 eJ0_isLatin1_aae02 [.ref 106] h r h' ↔ r = some (.int 1) ∧ h' = h := k_isLatin1 (j := 6) (by omega) (by omega) h
  have k2 : ∀ r h', Cal 2 eJ0_length_8abf5 [.ref 106] h r h' ↔ r = some (.int (nI 6)) ∧ h' = h := k_length (j := 6) (by omega) (by omega) h
  simp only [bJ0_indexOf_7cf53_0, bJ0_indexOf_7cf53_4, bJ0_indexOf_7cf53_7, bJ0_indexOf_7cf53_17, bJ0_indexOf_7cf53_20, bJ0_indexOf_7cf53_36, show tg 106 = 10 from rfl, show rf 106 0 = 116 from rfl, k1, k2, n01, k_indexOf1 (Nat.le_refl 2) hc, Option.toList_some, Option.toList_none, List.cons_append, List.nil_append, and_assoc, exists_and_left, exists_eq_left, true_and, and_true, Nat.reduceLeDiff, not_false_eq_true, not_true_eq_false, ↓reduceIte, eq_self, ← Int32.not_lt, ite_not, Classical.not_not]
  exact hq
theorem chr : ∀ c, c < 256 → (((nI c).toUInt32 % 65536).toInt32) = nI c := by decide +kernel
theorem k_indexOf {d : Nat} (hd : 4 ≤ d) {c : Nat} (hc : c < 256) (h : mH) (r : Option Value) (h' : mH) : Cal d eJ0_indexOf_0f7a4 [.ref 106, .int (((nI c).toUInt32 % 65536).toInt32)] h r h' ↔ r = some (.int (kx c)) ∧ h' = h := by
  rw [chr c hc]
  refine Cal_iff (Cal_le (d := 4) (Cal_of rfl (fun Q hq => ?_)) hd) r h'
  show WP 3 eJ0_indexOf_0f7a4 Q 0 [.ref 106, .int (nI c)] [] h
  simp only [bJ0_indexOf_0f7a4_0, bJ0_indexOf_0f7a4_6, show tg 106 = 10 from rfl, k_indexOf7 (Nat.le_refl 3) hc, Option.toList_some, Option.toList_none, List.cons_append, List.nil_append, and_assoc, exists_and_left, exists_eq_left, true_and, and_true, Nat.reduceLeDiff, not_false_eq_true, not_true_eq_false, ↓reduceIte, eq_self, ← Int32.not_lt, ite_not, Classical.not_not]
  exact hq
/-- a letter c where b is asked for -/
def okc (b c : Nat) : Bool := if b = 48 then decide (48 ≤ c) && decide (c ≤ 57) else if b = 107 then !decide (kx c < 0) else decide (c = b)
theorem k_fitsShape {d : Nat} (hd : 5 ≤ d) {b c : Nat} (hb : b < 128) (hc : c < 256) (h : mH) (r : Option Value) (h' : mH) : Cal d eX4_fitsShape [.int (nI b), .int (nI c)] h r h' ↔ r = some (.int (bz (okc b c))) ∧ h' = h := by
  refine Cal_iff (Cal_le (d := 5) (Cal_of rfl (fun Q hq => ?_)) hd) r h'
  show WP 4 eX4_fitsShape Q 0 [.int (nI b), .int (nI c)] [] h
  unfold okc at hq
  have e1 : Int32.ofInt 48 = nI 48 := by decide
  have e2 : Int32.ofInt 107 = nI 107 := by decide
  simp only [bX4_fitsShape_0, slP, e1, e2, neq (show b ≤ 100000 by omega) (show 48 ≤ 100000 by omega), neq (show b ≤ 100000 by omega) (show 107 ≤ 100000 by omega)]
  by_cases c1 : b = 48
  · simp only [c1, decide_true, decide_false, not_false_eq_true, not_true_eq_false, ↓reduceIte, Bool.false_eq_true, Bool.and_true, Bool.true_and, Bool.false_and, Bool.and_false, true_and, false_and, and_true, and_false] at hq ⊢
    simp only [bX4_fitsShape_28, bX4_fitsShape_34, bX4_fitsShape_40, bX4_fitsShape_44, bX4_fitsShape_45, show (48 : Int32) = nI 48 from rfl, show (57 : Int32) = nI 57 from rfl, nlt (show c ≤ 100000 by omega) (show 48 ≤ 100000 by omega), nlt (show 57 ≤ 100000 by omega) (show c ≤ 100000 by omega), nb0, nb1, Option.toList_some, Option.toList_none, List.cons_append, List.nil_append, and_assoc, exists_and_left, exists_eq_left, true_and, and_true, Nat.reduceLeDiff, not_false_eq_true, not_true_eq_false, ↓reduceIte, eq_self, ← Int32.not_lt, ite_not, Classical.not_not]
    by_cases c2 : c < 48
    · simp only [c2, show ¬ 48 ≤ c by omega, decide_true, decide_false, not_false_eq_true, not_true_eq_false, ↓reduceIte, Bool.false_eq_true, Bool.and_true, Bool.true_and, Bool.false_and, Bool.and_false, true_and, false_and, and_true, and_false, bzf] at hq ⊢; exact hq
    · by_cases c3 : 57 < c
      · simp only [c2, c3, show ¬ c ≤ 57 by omega, decide_true, decide_false, not_false_eq_true, not_true_eq_false, ↓reduceIte, Bool.false_eq_true, Bool.and_true, Bool.true_and, Bool.false_and, Bool.and_false, true_and, false_and, and_true, and_false, bzf] at hq ⊢; exact hq
      · simp only [c2, c3, show 48 ≤ c by omega, show c ≤ 57 by omega, decide_true, decide_false, not_false_eq_true, not_true_eq_false, ↓reduceIte, Bool.false_eq_true, Bool.and_true, Bool.true_and, Bool.false_and, Bool.and_false, true_and, false_and, and_true, and_false, bzt] at hq ⊢; exact hq
  by_cases c2 : b = 107
  · simp only [c1, c2, decide_true, decide_false, not_false_eq_true, not_true_eq_false, ↓reduceIte, Bool.false_eq_true, Bool.and_true, Bool.true_and, Bool.false_and, Bool.and_false, true_and, false_and, and_true, and_false, Nat.reduceEqDiff] at hq ⊢
    simp only [bX4_fitsShape_46, bX4_fitsShape_53, bX4_fitsShape_56, bX4_fitsShape_60, bX4_fitsShape_61, show tg 106 = 10 from rfl, k_indexOf (Nat.le_refl 4) hc, nb0, nb1, Option.toList_some, Option.toList_none, List.cons_append, List.nil_append, and_assoc, exists_and_left, exists_eq_left, true_and, and_true, Nat.reduceLeDiff, not_false_eq_true, not_true_eq_false, ↓reduceIte, eq_self, ← Int32.not_lt, ite_not, Classical.not_not]
    by_cases c3 : kx c < 0 <;> simp only [c3, decide_true, decide_false, not_false_eq_true, not_true_eq_false, ↓reduceIte, Bool.false_eq_true, Bool.and_true, Bool.true_and, Bool.false_and, Bool.and_false, true_and, false_and, and_true, and_false, Bool.not_true, Bool.not_false, bzt, bzf] at hq ⊢ <;> exact hq
  · simp only [c1, c2, decide_true, decide_false, not_false_eq_true, not_true_eq_false, ↓reduceIte, Bool.false_eq_true, Bool.and_true, Bool.true_and, Bool.false_and, Bool.and_false, true_and, false_and, and_true, and_false] at hq ⊢
    simp only [bX4_fitsShape_62, bX4_fitsShape_67, bX4_fitsShape_71, bX4_fitsShape_72, neq (show c ≤ 100000 by omega) (show b ≤ 100000 by omega), nb0, nb1, Option.toList_some, Option.toList_none, List.cons_append, List.nil_append, and_assoc, exists_and_left, exists_eq_left, true_and, and_true, Nat.reduceLeDiff, not_false_eq_true, not_true_eq_false, ↓reduceIte, eq_self, ← Int32.not_lt, ite_not, Classical.not_not]
    by_cases c3 : c = b <;> simp only [c3, decide_true, decide_false, not_false_eq_true, not_true_eq_false, ↓reduceIte, Bool.false_eq_true, Bool.and_true, Bool.true_and, Bool.false_and, Bool.and_false, true_and, false_and, and_true, and_false, bzt, bzf] at hq ⊢ <;> exact hq
end TXT
/-! the letters of a text: n of them, lc -/
def gdL (L : Nat → Int32) (n : Nat) (lc : Nat → Nat) : Prop := n ≤ 96 ∧ ∀ i, i < n → lc i < 256 ∧ L i = nI (lc i)
/-- walks a shape: how far, and whether all of it is there -/
def scn (lc : Nat → Nat) (n j : Nat) : Nat → Nat → Nat → Nat × Bool
  | 0, _, p => (p, true)
  | m + 1, i, p => if decide (p < n) && okc (bn j i) (lc p) then scn lc n j m (i + 1) (p + 1) else (p, false)
/-- the place of a fault of kind 1 from p on -/
def msh (lc : Nat → Nat) (n : Nat) : Nat → Nat → Option Nat
  | 0, _ => none
  | f + 1, p => if p < n then (if sj (lc p) = 5 then some p else if (scn lc n (sj (lc p)) (sln (sj (lc p))) 0 (p + 1)).2 then msh lc n f (scn lc n (sj (lc p)) (sln (sj (lc p))) 0 (p + 1)).1 else some (scn lc n (sj (lc p)) (sln (sj (lc p))) 0 (p + 1)).1) else none
def mis (lc : Nat → Nat) (n : Nat) : Option Nat := if n = 0 then some 0 else msh lc n (n + 1) 0
theorem scn_t {lc : Nat → Nat} {n j : Nat} : ∀ {m i p : Nat}, (scn lc n j m i p).2 = true → (scn lc n j m i p).1 = p + m ∧ ∀ q, q < m → p + q < n ∧ okc (bn j (i + q)) (lc (p + q)) = true
  | 0, i, p, _ => ⟨rfl, fun q hq => by omega⟩
  | m + 1, i, p, h => by
    rw [scn] at h ⊢
    by_cases c : (decide (p < n) && okc (bn j i) (lc p)) = true
    · rw [if_pos c] at h ⊢
      obtain ⟨a, b⟩ := scn_t h
      simp only [Bool.and_eq_true, decide_eq_true_eq] at c
      refine ⟨by rw [a]; omega, fun q hq => ?_⟩
      match q, hq with
      | 0, _ => exact ⟨by have := c.1; omega, by rw [Nat.add_zero, Nat.add_zero]; exact c.2⟩
      | q + 1, hq =>
        obtain ⟨x, y⟩ := b q (by omega)
        exact ⟨by omega, by rw [show i + (q + 1) = i + 1 + q by omega, show p + (q + 1) = p + 1 + q by omega]; exact y⟩
    · rw [if_neg c] at h; simp at h
theorem scn_ge {lc : Nat → Nat} {n j : Nat} : ∀ {m i p : Nat}, p ≤ (scn lc n j m i p).1
  | 0, i, p => Nat.le_refl _
  | m + 1, i, p => by
    rw [scn]
    split
    · exact Nat.le_trans (Nat.le_succ p) scn_ge
    · exact Nat.le_refl _
theorem scn_le {lc : Nat → Nat} {n j : Nat} : ∀ {m i p : Nat}, p ≤ n → (scn lc n j m i p).1 ≤ n
  | 0, i, p, h => h
  | m + 1, i, p, h => by
    rw [scn]
    split
    · rename_i c
      simp only [Bool.and_eq_true, decide_eq_true_eq] at c
      exact scn_le (by omega)
    · exact h
theorem sj5 (c : Nat) : (sln (sj c) = 0) = (sj c = 5) := by
  have := sj_le c
  rcases (show sj c = 0 ∨ sj c = 1 ∨ sj c = 2 ∨ sj c = 3 ∨ sj c = 4 ∨ sj c = 5 by omega) with e | e | e | e | e | e <;> rw [e] <;> decide
section MIS
variable {h : mH} {n : Nat} {lc : Nat → Nat}
theorem k_misshapenPlace {d : Nat} (hd : 6 ≤ d) (e1 : h 55 1 = nI n) (L : gdL (h 56) n lc) (r : Option Value) (h' : mH) : Cal d eX4_misshapenPlace [.ref 55] h r h' ↔ r = some (.int (on (mis lc n))) ∧ h' = h := by
  refine Cal_iff (Cal_le (d := 6) (Cal_of rfl (fun Q hq => ?_)) hd) r h'
  show WP 5 eX4_misshapenPlace Q 0 [.ref 55, mU, mU, mU] [] h
  have n96 := L.1
  unfold mis at hq
  simp only [bX4_misshapenPlace_0, bX4_misshapenPlace_7, bX4_misshapenPlace_9, t55, e1, show (0 : Int32) = nI 0 from rfl, neq (show n ≤ 100000 by omega) (show 0 ≤ 100000 by omega), Option.toList_some, Option.toList_none, List.cons_append, List.nil_append, and_assoc, exists_and_left, exists_eq_left, true_and, and_true, Nat.reduceLeDiff, not_false_eq_true, not_true_eq_false, ↓reduceIte, eq_self, ← Int32.not_lt, ite_not, Classical.not_not]
  by_cases c0 : n = 0
  · simp only [c0, decide_true, decide_false, not_false_eq_true, not_true_eq_false, ↓reduceIte, Bool.false_eq_true, Bool.and_true, Bool.true_and, Bool.false_and, Bool.and_false, true_and, false_and, and_true, and_false] at hq ⊢; exact hq
  simp only [c0, decide_true, decide_false, not_false_eq_true, not_true_eq_false, ↓reduceIte, Bool.false_eq_true, Bool.and_true, Bool.true_and, Bool.false_and, Bool.and_false, true_and, false_and, and_true, and_false] at hq ⊢
  have key : ∀ (f p : Nat), p ≤ n → n < p + f → Q (some (.int (on (msh lc n f p)))) h → ∀ u v, WP 5 eX4_misshapenPlace Q 11 [.ref 55, .int (nI p), u, v] [] h := by
    intro f
    induction f with
    | zero => intro p h1 h2; omega
    | succ f ih =>
      intro p h1 h2 hq u v
      rw [msh] at hq
      rw [bX4_misshapenPlace_11]
      by_cases c1 : p < n
      · obtain ⟨l1, l2⟩ := L.2 p c1
        have s5 := sj_le (lc p)
        have s11 := sln_le (sj (lc p))
        simp only [bX4_misshapenPlace_19, bX4_misshapenPlace_28, bX4_misshapenPlace_33, bX4_misshapenPlace_36, bX4_misshapenPlace_38, t55, e1, nlt (show p ≤ 100000 by omega) (show n ≤ 100000 by omega), c1, r550, t56, l56, vp_nI (show p < 96 by omega) (show 96 ≤ 100 by omega), nI_cl (show p < 100 by omega), l2, k_shapeBehind (show 1 ≤ 5 by omega) l1, tT (show sj (lc p) ≤ 6 by omega), k_isEmpty (show 1 ≤ 5 by omega) (show sj (lc p) ≤ 6 by omega), bz0, ite_bz, sj5, nI_1, Option.toList_some, Option.toList_none, List.cons_append, List.nil_append, and_assoc, exists_and_left, exists_eq_left, true_and, and_true, Nat.reduceLeDiff, not_false_eq_true, not_true_eq_false, ↓reduceIte, eq_self, ← Int32.not_lt, ite_not, Classical.not_not] at hq ⊢
        by_cases c2 : sj (lc p) = 5
        · simp only [c2, decide_true, decide_false, not_false_eq_true, not_true_eq_false, ↓reduceIte, Bool.false_eq_true, Bool.and_true, Bool.true_and, Bool.false_and, Bool.and_false, true_and, false_and, and_true, and_false] at hq ⊢; exact hq
        · simp only [c2, decide_true, decide_false, not_false_eq_true, not_true_eq_false, ↓reduceIte, Bool.false_eq_true, Bool.and_true, Bool.true_and, Bool.false_and, Bool.and_false, true_and, false_and, and_true, and_false] at hq ⊢
          have inner : ∀ (m i p' : Nat), i + m = sln (sj (lc p)) → p < p' → p' ≤ n → Q (some (.int (on (if (scn lc n (sj (lc p)) m i p').2 = true then msh lc n f (scn lc n (sj (lc p)) m i p').1 else some (scn lc n (sj (lc p)) m i p').1)))) h → WP 5 eX4_misshapenPlace Q 43 [.ref 55, .int (nI p'), .ref (100 + sj (lc p)), .int (nI i)] [] h := by
            intro m
            induction m with
            | zero =>
              intro i p' hi hp hp2 hq
              have : i = sln (sj (lc p)) := by omega
              subst this
              simp only [bX4_misshapenPlace_43, bX4_misshapenPlace_48, bX4_misshapenPlace_87, tT (show sj (lc p) ≤ 6 by omega), k_length (show 2 ≤ 5 by omega) (show sj (lc p) ≤ 6 by omega), nlt (show sln (sj (lc p)) ≤ 100000 by omega) (show sln (sj (lc p)) ≤ 100000 by omega), Nat.lt_irrefl, Option.toList_some, Option.toList_none, List.cons_append, List.nil_append, and_assoc, exists_and_left, exists_eq_left, true_and, and_true, Nat.reduceLeDiff, not_false_eq_true, not_true_eq_false, ↓reduceIte, eq_self, ← Int32.not_lt, ite_not, Classical.not_not]
              rw [scn] at hq
              exact ih p' hp2 (by omega) hq _ _
            | succ m ihm =>
              intro i p' hi hp hp2 hq
              rw [bX4_misshapenPlace_43]
              rw [scn] at hq
              obtain ⟨b1, b2⟩ := bB (sj (lc p)) (by omega) i (by omega)
              simp only [bX4_misshapenPlace_48, bX4_misshapenPlace_51, bX4_misshapenPlace_59, bX4_misshapenPlace_76, t55, e1, tT (show sj (lc p) ≤ 6 by omega), k_length (show 2 ≤ 5 by omega) (show sj (lc p) ≤ 6 by omega), nlt (show i ≤ 100000 by omega) (show sln (sj (lc p)) ≤ 100000 by omega), show i < sln (sj (lc p)) by omega, nlt (show p' ≤ 100000 by omega) (show n ≤ 100000 by omega), k_charAt (show 4 ≤ 5 by omega) (show sj (lc p) ≤ 6 by omega) (show i < sln (sj (lc p)) by omega), Option.toList_some, Option.toList_none, List.cons_append, List.nil_append, and_assoc, exists_and_left, exists_eq_left, true_and, and_true, Nat.reduceLeDiff, not_false_eq_true, not_true_eq_false, ↓reduceIte, eq_self, ← Int32.not_lt, ite_not, Classical.not_not]
              by_cases c3 : p' < n
              · obtain ⟨l3, l4⟩ := L.2 p' c3
                simp only [c3, bX4_misshapenPlace_64, bX4_misshapenPlace_73, bX4_misshapenPlace_76, bX4_misshapenPlace_78, t55, r550, t56, l56, vp_nI (show p' < 96 by omega) (show 96 ≤ 100 by omega), nI_cl (show p' < 100 by omega), l4, k_fitsShape (Nat.le_refl 5) b2 l3, bz0, ite_bz, nI_1, Option.toList_some, Option.toList_none, List.cons_append, List.nil_append, and_assoc, exists_and_left, exists_eq_left, true_and, and_true, Nat.reduceLeDiff, not_false_eq_true, not_true_eq_false, ↓reduceIte, eq_self, ← Int32.not_lt, ite_not, Classical.not_not, decide_true, Bool.true_and] at hq ⊢
                cases c4 : okc (bn (sj (lc p)) i) (lc p') with
                | true => simp only [c4, decide_true, decide_false, not_false_eq_true, not_true_eq_false, ↓reduceIte, Bool.false_eq_true, Bool.and_true, Bool.true_and, Bool.false_and, Bool.and_false, true_and, false_and, and_true, and_false] at hq ⊢; exact ihm (i + 1) (p' + 1) (by omega) (by omega) (by omega) hq
                | false => simp only [c4, decide_true, decide_false, not_false_eq_true, not_true_eq_false, ↓reduceIte, Bool.false_eq_true, Bool.and_true, Bool.true_and, Bool.false_and, Bool.and_false, true_and, false_and, and_true, and_false] at hq ⊢; exact hq
              · simp only [c3, decide_true, decide_false, not_false_eq_true, not_true_eq_false, ↓reduceIte, Bool.false_eq_true, Bool.and_true, Bool.true_and, Bool.false_and, Bool.and_false, true_and, false_and, and_true, and_false] at hq ⊢; exact hq
          exact inner (sln (sj (lc p))) 0 (p + 1) (by omega) (by omega) (by omega) hq
      · simp only [bX4_misshapenPlace_90, t55, e1, nlt (show p ≤ 100000 by omega) (show n ≤ 100000 by omega), c1, Option.toList_some, Option.toList_none, List.cons_append, List.nil_append, and_assoc, exists_and_left, exists_eq_left, true_and, and_true, Nat.reduceLeDiff, not_false_eq_true, not_true_eq_false, ↓reduceIte, eq_self, ← Int32.not_lt, ite_not, Classical.not_not]
        simp only [c1, decide_true, decide_false, not_false_eq_true, not_true_eq_false, ↓reduceIte, Bool.false_eq_true, Bool.and_true, Bool.true_and, Bool.false_and, Bool.and_false, true_and, false_and, and_true, and_false] at hq
        exact hq
  exact key (n + 1) 0 (by omega) (by omega) hq _ _
end MIS
