/-! contracts of the small methods; helpers -/
def jheld (x : Int32) : Int32 := if x < 0 then 0 else if 99 < x then 99 else x
def jten (x : Int32) : Int32 := (x + 4) / 10 * 10
theorem k_held {d : Nat} (hd : 1 ≤ d) (x : Int32) (h : mH) (r : Option Value) (h' : mH) : Cal d eX0_held [.int x] h r h' ↔ r = some (.int (jheld x)) ∧ h' = h := by
  refine Cal_iff (Cal_le (d := 1) (Cal_of rfl (fun Q hq => ?_)) hd) r h'
  show WP 0 eX0_held Q 0 [.int x] [] h
  unfold jheld at hq
  simp only [bX0_held_0, bX0_held_4, bX0_held_6, bX0_held_12, bX0_held_17, bX0_held_18, Option.toList_some, Option.toList_none, List.cons_append, List.nil_append, and_assoc, exists_and_left, exists_eq_left, true_and, and_true, Nat.reduceLeDiff, not_false_eq_true, not_true_eq_false, ↓reduceIte, eq_self, ← Int32.not_lt, ite_not, Classical.not_not]
  by_cases h1 : x < 0
  · simp only [h1, ↓reduceIte] at hq ⊢; exact hq
  · by_cases h2 : 99 < x
    · simp only [h1, h2, ↓reduceIte] at hq ⊢; exact hq
    · simp only [h1, h2, ↓reduceIte] at hq ⊢; exact hq
theorem k_ten {d : Nat} (hd : 1 ≤ d) (x : Int32) (h : mH) (r : Option Value) (h' : mH) : Cal d eX0_nearestTen [.int x] h r h' ↔ r = some (.int (jten x)) ∧ h' = h := by
  refine Cal_iff (Cal_le (d := 1) (Cal_of rfl (fun Q hq => ?_)) hd) r h'
  show WP 0 eX0_nearestTen Q 0 [.int x] [] h
  simp only [bX0_nearestTen_0]
  exact hq
def jcut (k f v t : Int32) : Int32 := if k = 1 then jheld (v + f) else if k = 2 then (if jrm t 2 = 0 then jheld (v - f) else v) else if k = 3 then jheld (jten (jheld (v - f))) else if k = 4 then jheld (jheld (v + f) + t) else if k = 5 then jheld (jten v) else jheld (v - f)
theorem k_cutHeight {d : Nat} (hd : 2 ≤ d) (k f v t : Int32) (h : mH) (r : Option Value) (h' : mH) : Cal d eX0_cutHeight [.int k, .int f, .int v, .int t] h r h' ↔ r = some (.int (jcut k f v t)) ∧ h' = h := by
  refine Cal_iff (Cal_le (d := 2) (Cal_of rfl (fun Q hq => ?_)) hd) r h'
  show WP 1 eX0_cutHeight Q 0 [.int k, .int f, .int v, .int t] [] h
  unfold jcut at hq
  simp only [bX0_cutHeight_0, bX0_cutHeight_36, bX0_cutHeight_42, bX0_cutHeight_43, bX0_cutHeight_49, bX0_cutHeight_55, bX0_cutHeight_58, bX0_cutHeight_59, bX0_cutHeight_60, bX0_cutHeight_66, bX0_cutHeight_69, bX0_cutHeight_72, bX0_cutHeight_73, bX0_cutHeight_79, bX0_cutHeight_84, bX0_cutHeight_85, bX0_cutHeight_89, bX0_cutHeight_92, bX0_cutHeight_93, bX0_cutHeight_99, k_held, k_ten, swP, Int.reduceAdd, Int32.reduceOfInt, Option.toList_some, Option.toList_none, List.cons_append, List.nil_append, and_assoc, exists_and_left, exists_eq_left, true_and, and_true, Nat.reduceLeDiff, not_false_eq_true, not_true_eq_false, ↓reduceIte, eq_self, ← Int32.not_lt, ite_not, Classical.not_not]
  repeat' split
  all_goals (first | exact hq | simp_all)
def jcode (x : Int32) : Int32 := jmn 90 (jten x)
theorem k_codeOf {d : Nat} (hd : 2 ≤ d) (x : Int32) (h : mH) (r : Option Value) (h' : mH) : Cal d eX0_codeOf [.int x] h r h' ↔ r = some (.int (jcode x)) ∧ h' = h := by
  refine Cal_iff (Cal_le (d := 2) (Cal_of rfl (fun Q hq => ?_)) hd) r h'
  show WP 1 eX0_codeOf Q 0 [.int x] [] h
  simp only [bX0_codeOf_0, bX0_codeOf_6, k_ten, Option.toList_some, Option.toList_none, List.cons_append, List.nil_append, and_assoc, exists_and_left, exists_eq_left, true_and, and_true, Nat.reduceLeDiff, not_false_eq_true, not_true_eq_false, ↓reduceIte, eq_self, ← Int32.not_lt, ite_not, Classical.not_not]
  exact hq
/-! the shop's shape -/
def isS (s : Nat) : Prop := s = 1 ∨ s = 18 ∨ s = 35
section SHP
variable {s : Nat} (hs : isS s)
theorem tgS (hs : isS s) : tg s = 3 := by rcases hs with rfl | rfl | rfl <;> rfl
theorem rfS0 (hs : isS s) : rf s 0 = s + 1 := by rcases hs with rfl | rfl | rfl <;> rfl
theorem rfS3 (hs : isS s) : rf s 3 = s + 2 := by rcases hs with rfl | rfl | rfl <;> rfl
theorem rfS4 (hs : isS s) : rf s 4 = s + 13 := by rcases hs with rfl | rfl | rfl <;> rfl
theorem rfS5 (hs : isS s) : rf s 5 = s + 14 := by rcases hs with rfl | rfl | rfl <;> rfl
theorem rfS7 (hs : isS s) : rf s 7 = s + 15 := by rcases hs with rfl | rfl | rfl <;> rfl
theorem rfS8 (hs : isS s) : rf s 8 = s + 16 := by rcases hs with rfl | rfl | rfl <;> rfl
theorem tgP (hs : isS s) : tg (s + 1) = 100 := by rcases hs with rfl | rfl | rfl <;> rfl
theorem lnP (hs : isS s) : ln (s + 1) = 5 := by rcases hs with rfl | rfl | rfl <;> rfl
theorem tgH (hs : isS s) : tg (s + 2) = 102 := by rcases hs with rfl | rfl | rfl <;> rfl
theorem lnH (hs : isS s) : ln (s + 2) = 10 := by rcases hs with rfl | rfl | rfl <;> rfl
theorem rfH (hs : isS s) {k : Nat} (hk : k < 10) : rf (s + 2) k = s + 3 + k := by
  rcases hs with rfl | rfl | rfl <;> (match k, hk with | 0, _ => rfl | 1, _ => rfl | 2, _ => rfl | 3, _ => rfl | 4, _ => rfl | 5, _ => rfl | 6, _ => rfl | 7, _ => rfl | 8, _ => rfl | 9, _ => rfl)
theorem tgR (hs : isS s) {k : Nat} (hk : k < 10) : tg (s + 3 + k) = 100 := by
  rcases hs with rfl | rfl | rfl <;> (match k, hk with | 0, _ => rfl | 1, _ => rfl | 2, _ => rfl | 3, _ => rfl | 4, _ => rfl | 5, _ => rfl | 6, _ => rfl | 7, _ => rfl | 8, _ => rfl | 9, _ => rfl)
theorem lnR (hs : isS s) {k : Nat} (hk : k < 10) : ln (s + 3 + k) = 5 := by
  rcases hs with rfl | rfl | rfl <;> (match k, hk with | 0, _ => rfl | 1, _ => rfl | 2, _ => rfl | 3, _ => rfl | 4, _ => rfl | 5, _ => rfl | 6, _ => rfl | 7, _ => rfl | 8, _ => rfl | 9, _ => rfl)
theorem tgF (hs : isS s) : tg (s + 13) = 100 := by rcases hs with rfl | rfl | rfl <;> rfl
theorem lnF (hs : isS s) : ln (s + 13) = 10 := by rcases hs with rfl | rfl | rfl <;> rfl
theorem tgZ (hs : isS s) : tg (s + 14) = 101 := by rcases hs with rfl | rfl | rfl <;> rfl
theorem lnZ (hs : isS s) : ln (s + 14) = 10 := by rcases hs with rfl | rfl | rfl <;> rfl
theorem tgD (hs : isS s) : tg (s + 15) = 100 := by rcases hs with rfl | rfl | rfl <;> rfl
theorem lnD (hs : isS s) : ln (s + 15) = 5 := by rcases hs with rfl | rfl | rfl <;> rfl
theorem tgG (hs : isS s) : tg (s + 16) = 100 := by rcases hs with rfl | rfl | rfl <;> rfl
theorem lnG (hs : isS s) : ln (s + 16) = 5 := by rcases hs with rfl | rfl | rfl <;> rfl
end SHP
theorem nb0 : narrow .boolean (.int 0) = .int 0 := rfl
theorem nb1 : narrow .boolean (.int 1) = .int 1 := rfl
theorem vp_nI {k n : Nat} (h : k < n) (hn : n ≤ 100) : vp_in (nI k) n := vp_in_nI h (by omega)
theorem nI_cl {k : Nat} (h : k < 100) : (nI k).toNatClampNeg = k := nI_clamp (by omega)
theorem v05 : vp_in 0 5 ∧ vp_in 1 5 ∧ vp_in 2 5 ∧ vp_in 3 5 ∧ vp_in 4 5 := by unfold vp_in; decide
theorem nc5 : Int32.toNatClampNeg 0 = 0 ∧ Int32.toNatClampNeg 1 = 1 ∧ Int32.toNatClampNeg 2 = 2 ∧ Int32.toNatClampNeg 3 = 3 ∧ Int32.toNatClampNeg 4 = 4 ∧ Int32.toNatClampNeg 5 = 5 := by decide
/-- a condition told as a number -/
def bz (c : Bool) : Int32 := if c then 1 else 0
theorem bz0 (c : Bool) : (bz c = 0) = (c = false) := by cases c <;> simp [bz]
theorem nbz (c : Bool) : narrow .boolean (.int (bz c)) = .int (bz c) := by cases c <;> rfl
theorem bzt : bz true = 1 := rfl
theorem bzf : bz false = 0 := rfl
theorem ite_bz (c : Bool) (A B : Prop) : (if c = false then A else B) = (if c = true then B else A) := by cases c <;> simp
/-- 0 .. below n -/
def ik (x n : Int32) : Bool := decide (¬ x < 0) && decide (x < n)
theorem k_hasKey {d : Nat} (hd : 1 ≤ d) {s : Nat} (hs : isS s) (x : Int32) (h : mH) (r : Option Value) (h' : mH) : Cal d eX3_hasKey [.ref s, .int x] h r h' ↔ r = some (.int (bz (ik x (h s 2)))) ∧ h' = h := by
  refine Cal_iff (Cal_le (d := 1) (Cal_of rfl (fun Q hq => ?_)) hd) r h'
  show WP 0 eX3_hasKey Q 0 [.ref s, .int x] [] h
  unfold bz ik at hq
  simp only [bX3_hasKey_0, bX3_hasKey_4, bX3_hasKey_12, bX3_hasKey_16, bX3_hasKey_17, tgS hs, nb0, nb1, Option.toList_some, Option.toList_none, List.cons_append, List.nil_append, and_assoc, exists_and_left, exists_eq_left, true_and, and_true, Nat.reduceLeDiff, not_false_eq_true, not_true_eq_false, ↓reduceIte, eq_self, ← Int32.not_lt, ite_not, Classical.not_not] at hq ⊢
  by_cases h1 : x < 0 <;> by_cases h2 : x < h s 2 <;> simp only [h1, h2, decide_true, decide_false, not_false_eq_true, not_true_eq_false, ↓reduceIte, Bool.false_eq_true, Bool.and_true, Bool.true_and, Bool.false_and, Bool.and_false, true_and, false_and, and_true, and_false] at hq ⊢ <;> exact hq
theorem k_hasMachine {d : Nat} (hd : 1 ≤ d) {s : Nat} (hs : isS s) (x : Int32) (h : mH) (r : Option Value) (h' : mH) : Cal d eX3_hasMachine [.ref s, .int x] h r h' ↔ r = some (.int (bz (ik x (h s 6)))) ∧ h' = h := by
  refine Cal_iff (Cal_le (d := 1) (Cal_of rfl (fun Q hq => ?_)) hd) r h'
  show WP 0 eX3_hasMachine Q 0 [.ref s, .int x] [] h
  unfold bz ik at hq
  simp only [bX3_hasMachine_0, bX3_hasMachine_4, bX3_hasMachine_12, bX3_hasMachine_16, bX3_hasMachine_17, tgS hs, nb0, nb1, Option.toList_some, Option.toList_none, List.cons_append, List.nil_append, and_assoc, exists_and_left, exists_eq_left, true_and, and_true, Nat.reduceLeDiff, not_false_eq_true, not_true_eq_false, ↓reduceIte, eq_self, ← Int32.not_lt, ite_not, Classical.not_not] at hq ⊢
  by_cases h1 : x < 0 <;> by_cases h2 : x < h s 6 <;> simp only [h1, h2, decide_true, decide_false, not_false_eq_true, not_true_eq_false, ↓reduceIte, Bool.false_eq_true, Bool.and_true, Bool.true_and, Bool.false_and, Bool.and_false, true_and, false_and, and_true, and_false] at hq ⊢ <;> exact hq
