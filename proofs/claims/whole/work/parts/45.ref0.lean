/-! the reference: its cells, its small methods -/
theorem t59 : tg 59 = 6 := rfl
theorem r590 : rf 59 0 = 60 := rfl
theorem r591 : rf 59 1 = 61 := rfl
theorem r592 : rf 59 2 = 62 := rfl
theorem r594 : rf 59 4 = 63 := rfl
theorem r595 : rf 59 5 = 64 := rfl
theorem r596 : rf 59 6 = 65 := rfl
theorem r599 : rf 59 9 = 66 := rfl
theorem r5911 : rf 59 11 = 67 := rfl
theorem t60 : tg 60 = 100 := rfl
theorem l60 : ln 60 = 89 := rfl
theorem t61 : tg 61 = 100 := rfl
theorem l61 : ln 61 = 89 := rfl
theorem t62 : tg 62 = 100 := rfl
theorem l62 : ln 62 = 89 := rfl
theorem t63 : tg 63 = 100 := rfl
theorem l63 : ln 63 = 96 := rfl
theorem t64 : tg 64 = 100 := rfl
theorem l64 : ln 64 = 12 := rfl
theorem t65 : tg 65 = 100 := rfl
theorem l65 : ln 65 = 7 := rfl
theorem t66 : tg 66 = 100 := rfl
theorem l66 : ln 66 = 5 := rfl
theorem t67 : tg 67 = 100 := rfl
theorem l67 : ln 67 = 5 := rfl
theorem mvE {c i : Nat} {h : mH} (hi : i < 89) : h c i = mv c h i := by unfold mv; rw [if_pos hi]
theorem v89 {i : Nat} (hi : i < 89) : vp_in (nI i) 89 := vp_nI hi (by omega)
theorem c0 : Int32.toNatClampNeg 0 = 0 := rfl
theorem c1 : Int32.toNatClampNeg 1 = 1 := rfl
theorem c2 : Int32.toNatClampNeg 2 = 2 := rfl
theorem c3 : Int32.toNatClampNeg 3 = 3 := rfl
theorem v0 : vp_in 0 89 ∧ vp_in 1 89 ∧ vp_in 2 89 ∧ vp_in 3 89 := by unfold vp_in; decide
def rfR (h : mH) (c : Int32) : mH := mPut h 65 (upd (h 65) (-c).toNatClampNeg (h 65 (-c).toNatClampNeg + 1))
section R0
variable {h : mH} {g : Nat → Int32}
theorem k6_no {d : Nat} (hd : 1 ≤ d) {c : Int32} (hc : rcd c) (h : mH) (r : Option Value) (h' : mH) : Cal d eX6_no [.ref 59, .int c] h r h' ↔ r = some (.int c) ∧ h' = rfR h c := by
  refine Cal_iff (Cal_le (d := 1) (Cal_of rfl (fun Q hq => ?_)) hd) r h'
  show WP 0 eX6_no Q 0 [.ref 59, .int c] [] h
  obtain ⟨a, b, e⟩ := rcd_a hc
  simp only [bX6_no_0, bX6_no_11, e, t59, r596, t65, l65, Option.toList_some, Option.toList_none, List.cons_append, List.nil_append, and_assoc, exists_and_left, exists_eq_left, true_and, and_true, Nat.reduceLeDiff, not_false_eq_true, not_true_eq_false, ↓reduceIte, eq_self, ← Int32.not_lt, ite_not, Classical.not_not]
  exact hq
def isin (x a b : Int32) : Bool := decide (¬ x < a) && decide (¬ b < x)
theorem k6_isIn {d : Nat} (hd : 1 ≤ d) (x a b : Int32) (h : mH) (r : Option Value) (h' : mH) : Cal d eX6_isIn [.int x, .int a, .int b] h r h' ↔ r = some (.int (bz (isin x a b))) ∧ h' = h := by
  refine Cal_iff (Cal_le (d := 1) (Cal_of rfl (fun Q hq => ?_)) hd) r h'
  show WP 0 eX6_isIn Q 0 [.int x, .int a, .int b] [] h
  unfold bz isin at hq
  simp only [bX6_isIn_0, bX6_isIn_5, bX6_isIn_10, bX6_isIn_14, bX6_isIn_15, nb0, nb1, Option.toList_some, Option.toList_none, List.cons_append, List.nil_append, and_assoc, exists_and_left, exists_eq_left, true_and, and_true, Nat.reduceLeDiff, not_false_eq_true, not_true_eq_false, ↓reduceIte, eq_self, ← Int32.not_lt, ite_not, Classical.not_not] at hq ⊢
  by_cases h1 : x < a <;> by_cases h2 : b < x <;> simp only [h1, h2, decide_true, decide_false, not_false_eq_true, not_true_eq_false, ↓reduceIte, Bool.false_eq_true, Bool.and_true, Bool.true_and, Bool.false_and, Bool.and_false, true_and, false_and, and_true, and_false] at hq ⊢ <;> exact hq
theorem isin_ik {x : Int32} {n : Nat} (hn : n ≤ 1000) : isin x 0 (nI n - 1) = ik x (nI n) := by
  unfold isin ik
  by_cases c : x < 0
  · simp only [c, decide_true, decide_false, not_false_eq_true, not_true_eq_false, ↓reduceIte, Bool.false_eq_true, Bool.and_true, Bool.true_and, Bool.false_and, Bool.and_false, true_and, false_and, and_true, and_false]
  · obtain ⟨j, hj, rfl⟩ := nI_of c
    have e : (nI n - 1 < nI j) = ¬ (nI j < nI n) := by
      rcases Nat.eq_zero_or_pos n with z | z
      · subst z
        have h1 : nI 0 - 1 < nI j := Int32.lt_of_lt_of_le (show nI 0 - 1 < 0 by decide) (Int32.not_lt.mp c)
        have h2 : ¬ nI j < nI 0 := c
        simp only [h1, h2, decide_true, decide_false, not_false_eq_true, not_true_eq_false, ↓reduceIte, Bool.false_eq_true, Bool.and_true, Bool.true_and, Bool.false_and, Bool.and_false, true_and, false_and, and_true, and_false]
      · rw [show (1 : Int32) = nI 1 from rfl, pk_sub z, propext (nI_ltI (by omega) hj), propext (nI_ltI hj (by omega))]
        exact propext (by omega)
    simp only [e, Classical.not_not]
theorem isin_5 (x : Int32) : isin x 0 4 = ik x 5 := isin_ik (n := 5) (by omega)
theorem k6_isTooth {d : Nat} (hd : 2 ≤ d) (x : Int32) (h : mH) (r : Option Value) (h' : mH) : Cal d eX6_isTooth [.int x] h r h' ↔ r = some (.int (bz (ik x 5))) ∧ h' = h := by
  refine Cal_iff (Cal_le (d := 2) (Cal_of rfl (fun Q hq => ?_)) hd) r h'
  show WP 1 eX6_isTooth Q 0 [.int x] [] h
  simp only [bX6_isTooth_0, bX6_isTooth_6, k6_isIn (Nat.le_refl 1), isin_5, nbz, Option.toList_some, Option.toList_none, List.cons_append, List.nil_append, and_assoc, exists_and_left, exists_eq_left, true_and, and_true, Nat.reduceLeDiff, not_false_eq_true, not_true_eq_false, ↓reduceIte, eq_self, ← Int32.not_lt, ite_not, Classical.not_not]
  exact hq
theorem k6_isKey {d K : Nat} (hd : 2 ≤ d) {h : mH} (e0 : h 60 0 = nI K) (hK : K ≤ 10) (x : Int32) (r : Option Value) (h' : mH) : Cal d eX6_isKey [.ref 59, .int x] h r h' ↔ r = some (.int (bz (ik x (nI K)))) ∧ h' = h := by
  refine Cal_iff (Cal_le (d := 2) (Cal_of rfl (fun Q hq => ?_)) hd) r h'
  show WP 1 eX6_isKey Q 0 [.ref 59, .int x] [] h
  simp only [bX6_isKey_0, bX6_isKey_13, t59, r590, t60, l60, v0, c0, e0, k6_isIn (Nat.le_refl 1), isin_ik (show K ≤ 1000 by omega), nbz, Option.toList_some, Option.toList_none, List.cons_append, List.nil_append, and_assoc, exists_and_left, exists_eq_left, true_and, and_true, Nat.reduceLeDiff, not_false_eq_true, not_true_eq_false, ↓reduceIte, eq_self, ← Int32.not_lt, ite_not, Classical.not_not]
  exact hq
theorem k6_isMachine {d M : Nat} (hd : 2 ≤ d) {h : mH} (e1 : h 60 1 = nI M) (hM : M ≤ 5) (x : Int32) (r : Option Value) (h' : mH) : Cal d eX6_isMachine [.ref 59, .int x] h r h' ↔ r = some (.int (bz (ik x (nI M)))) ∧ h' = h := by
  refine Cal_iff (Cal_le (d := 2) (Cal_of rfl (fun Q hq => ?_)) hd) r h'
  show WP 1 eX6_isMachine Q 0 [.ref 59, .int x] [] h
  simp only [bX6_isMachine_0, bX6_isMachine_13, t59, r590, t60, l60, v0, c1, e1, k6_isIn (Nat.le_refl 1), isin_ik (show M ≤ 1000 by omega), nbz, Option.toList_some, Option.toList_none, List.cons_append, List.nil_append, and_assoc, exists_and_left, exists_eq_left, true_and, and_true, Nat.reduceLeDiff, not_false_eq_true, not_true_eq_false, ↓reduceIte, eq_self, ← Int32.not_lt, ite_not, Classical.not_not]
  exact hq
theorem k6_of {d : Nat} (hd : 1 ≤ d) (k w : Nat) (h : mH) (r : Option Value) (h' : mH) : Cal d eX6_of [.int (nI k), .int (nI w)] h r h' ↔ r = some (.int (nI (9 + 7 * k + w))) ∧ h' = h := by
  refine Cal_iff (Cal_le (d := 1) (Cal_of rfl (fun Q hq => ?_)) hd) r h'
  show WP 0 eX6_of Q 0 [.int (nI k), .int (nI w)] [] h
  simp only [bX6_of_0, show (7 : Int32) = nI 7 from rfl, show (9 : Int32) = nI 9 from rfl, nI_mul, nI_plus, Option.toList_some, Option.toList_none, List.cons_append, List.nil_append, and_assoc, exists_and_left, exists_eq_left, true_and, and_true, Nat.reduceLeDiff, not_false_eq_true, not_true_eq_false, ↓reduceIte, eq_self, ← Int32.not_lt, ite_not, Classical.not_not]
  exact hq
theorem k6_of5 {d : Nat} (hd : 1 ≤ d) (k : Nat) (h : mH) (r : Option Value) (h' : mH) : Cal d eX6_of [.int (nI k), .int 5] h r h' ↔ r = some (.int (nI (9 + 7 * k + 5))) ∧ h' = h := k6_of hd k 5 h r h'
theorem k6_of6 {d : Nat} (hd : 1 ≤ d) (k : Nat) (h : mH) (r : Option Value) (h' : mH) : Cal d eX6_of [.int (nI k), .int 6] h r h' ↔ r = some (.int (nI (9 + 7 * k + 6))) ∧ h' = h := k6_of hd k 6 h r h'
theorem k6_isSnapped {d K M k : Nat} (hd : 2 ≤ d) {h : mH} (G : gdN (mv 60 h) K M) (hk : k < 10) (r : Option Value) (h' : mH) : Cal d eX6_isSnapped [.ref 59, .int (nI k)] h r h' ↔ r = some (.int (bz (snb (mv 60 h) k))) ∧ h' = h := by
  refine Cal_iff (Cal_le (d := 2) (Cal_of rfl (fun Q hq => ?_)) hd) r h'
  show WP 1 eX6_isSnapped Q 0 [.ref 59, .int (nI k)] [] h
  unfold snb at hq
  simp only [bX6_isSnapped_0, bX6_isSnapped_10, bX6_isSnapped_15, bX6_isSnapped_19, bX6_isSnapped_20, t59, r590, k6_of6 (Nat.le_refl 1), t60, l60, v89 (show 9 + 7 * k + 6 < 89 by omega), nI_cl (show 9 + 7 * k + 6 < 100 by omega), mvE (c := 60) (h := h) (show 9 + 7 * k + 6 < 89 by omega), nb0, nb1, Option.toList_some, Option.toList_none, List.cons_append, List.nil_append, and_assoc, exists_and_left, exists_eq_left, true_and, and_true, Nat.reduceLeDiff, not_false_eq_true, not_true_eq_false, ↓reduceIte, eq_self, ← Int32.not_lt, ite_not, Classical.not_not]
  rcases G.z hk with z | z
  · simp only [z, show ¬ (0 : Int32) = 1 by decide, decide_true, decide_false, not_false_eq_true, not_true_eq_false, ↓reduceIte, Bool.false_eq_true, Bool.and_true, Bool.true_and, Bool.false_and, Bool.and_false, true_and, false_and, and_true, and_false, bzf] at hq ⊢; exact hq
  · simp only [z, n01, decide_true, decide_false, not_false_eq_true, not_true_eq_false, ↓reduceIte, Bool.false_eq_true, Bool.and_true, Bool.true_and, Bool.false_and, Bool.and_false, true_and, false_and, and_true, and_false, bzt] at hq ⊢; exact hq
theorem k6_apart {d : Nat} (hd : 1 ≤ d) (x y : Int32) (h : mH) (r : Option Value) (h' : mH) : Cal d eX6_apart [.int x, .int y] h r h' ↔ r = some (.int (ap x y)) ∧ h' = h := by
  refine Cal_iff (Cal_le (d := 1) (Cal_of rfl (fun Q hq => ?_)) hd) r h'
  show WP 0 eX6_apart Q 0 [.int x, .int y] [] h
  unfold ap at hq
  simp only [bX6_apart_0, bX6_apart_5, bX6_apart_11, bX6_apart_14, Option.toList_some, Option.toList_none, List.cons_append, List.nil_append, and_assoc, exists_and_left, exists_eq_left, true_and, and_true, Nat.reduceLeDiff, not_false_eq_true, not_true_eq_false, ↓reduceIte, eq_self, ← Int32.not_lt, ite_not, Classical.not_not] at hq ⊢
  by_cases c : y < x <;> simp only [c, decide_true, decide_false, not_false_eq_true, not_true_eq_false, ↓reduceIte, Bool.false_eq_true, Bool.and_true, Bool.true_and, Bool.false_and, Bool.and_false, true_and, false_and, and_true, and_false] at hq ⊢ <;> exact hq
theorem k6_least {d : Nat} (hd : 1 ≤ d) (x y : Int32) (h : mH) (r : Option Value) (h' : mH) : Cal d eX6_least [.int x, .int y] h r h' ↔ r = some (.int (jmn x y)) ∧ h' = h := by
  refine Cal_iff (Cal_le (d := 1) (Cal_of rfl (fun Q hq => ?_)) hd) r h'
  show WP 0 eX6_least Q 0 [.int x, .int y] [] h
  unfold jmn at hq
  simp only [bX6_least_0, bX6_least_5, bX6_least_9, bX6_least_10, Option.toList_some, Option.toList_none, List.cons_append, List.nil_append, and_assoc, exists_and_left, exists_eq_left, true_and, and_true, Nat.reduceLeDiff, not_false_eq_true, not_true_eq_false, ↓reduceIte, eq_self, ← Int32.not_lt, ite_not, Classical.not_not] at hq ⊢
  by_cases c : y < x
  · have : ¬ x < y := fun z => Int32.lt_irrefl (Int32.lt_trans c z)
    simp only [c, this, decide_true, decide_false, not_false_eq_true, not_true_eq_false, ↓reduceIte, Bool.false_eq_true, Bool.and_true, Bool.true_and, Bool.false_and, Bool.and_false, true_and, false_and, and_true, and_false] at hq ⊢; exact hq
  · by_cases d : x < y
    · simp only [c, d, decide_true, decide_false, not_false_eq_true, not_true_eq_false, ↓reduceIte, Bool.false_eq_true, Bool.and_true, Bool.true_and, Bool.false_and, Bool.and_false, true_and, false_and, and_true, and_false] at hq ⊢; exact hq
    · have e : x = y := Int32.le_antisymm (Int32.not_lt.mp c) (Int32.not_lt.mp d)
      simp only [c, d, decide_true, decide_false, not_false_eq_true, not_true_eq_false, ↓reduceIte, Bool.false_eq_true, Bool.and_true, Bool.true_and, Bool.false_and, Bool.and_false, true_and, false_and, and_true, and_false] at hq ⊢; rw [← e]; exact hq
theorem k6_most {d : Nat} (hd : 1 ≤ d) (x y : Int32) (h : mH) (r : Option Value) (h' : mH) : Cal d eX6_most [.int x, .int y] h r h' ↔ r = some (.int (jmx x y)) ∧ h' = h := by
  refine Cal_iff (Cal_le (d := 1) (Cal_of rfl (fun Q hq => ?_)) hd) r h'
  show WP 0 eX6_most Q 0 [.int x, .int y] [] h
  unfold jmx at hq
  simp only [bX6_most_0, bX6_most_5, bX6_most_9, bX6_most_10, Option.toList_some, Option.toList_none, List.cons_append, List.nil_append, and_assoc, exists_and_left, exists_eq_left, true_and, and_true, Nat.reduceLeDiff, not_false_eq_true, not_true_eq_false, ↓reduceIte, eq_self, ← Int32.not_lt, ite_not, Classical.not_not] at hq ⊢
  by_cases c : y < x
  · have : ¬ x < y := fun z => Int32.lt_irrefl (Int32.lt_trans c z)
    simp only [c, this, decide_true, decide_false, not_false_eq_true, not_true_eq_false, ↓reduceIte, Bool.false_eq_true, Bool.and_true, Bool.true_and, Bool.false_and, Bool.and_false, true_and, false_and, and_true, and_false] at hq ⊢; exact hq
  · by_cases d : x < y
    · simp only [c, d, decide_true, decide_false, not_false_eq_true, not_true_eq_false, ↓reduceIte, Bool.false_eq_true, Bool.and_true, Bool.true_and, Bool.false_and, Bool.and_false, true_and, false_and, and_true, and_false] at hq ⊢; exact hq
    · have e : x = y := Int32.le_antisymm (Int32.not_lt.mp c) (Int32.not_lt.mp d)
      simp only [c, d, decide_true, decide_false, not_false_eq_true, not_true_eq_false, ↓reduceIte, Bool.false_eq_true, Bool.and_true, Bool.true_and, Bool.false_and, Bool.and_false, true_and, false_and, and_true, and_false] at hq ⊢; rw [← e]; exact hq
theorem held_mm (x : Int32) : jmx 0 (jmn 99 x) = jheld x := by
  unfold jheld
  by_cases c : x < 0
  · have h1 : x < 99 := Int32.lt_trans c (by decide)
    have h2 : ¬ 0 < x := fun z => Int32.lt_irrefl (Int32.lt_trans c z)
    unfold jmx jmn
    rw [if_pos h1, if_neg h2, if_pos c]
  · obtain ⟨j, hj, rfl⟩ := nI_of c
    rw [if_neg c]
    unfold jmx jmn
    rw [show (99 : Int32) = nI 99 from rfl]
    by_cases d : j < 99
    · rw [if_pos ((nI_ltI hj (by omega)).mpr d), if_neg (show ¬ nI 99 < nI j from fun z => by have := (nI_ltI (by omega) hj).mp z; omega)]
      by_cases e : (0 : Int32) < nI j
      · rw [if_pos e]
      · rw [if_neg e]
        have : nI j = 0 := Int32.le_antisymm (Int32.not_lt.mp e) (Int32.not_lt.mp c)
        rw [this]
    · rw [if_neg (fun z => d ((nI_ltI hj (by omega)).mp z)), if_pos (show (0 : Int32) < nI 99 by decide)]
      by_cases e : nI 99 < nI j
      · rw [if_pos e]
      · rw [if_neg e]
        have h3 : ¬ 99 < j := fun z => e ((nI_ltI (by omega) hj).mpr z)
        rw [show j = 99 by omega]
theorem k6_held {d : Nat} (hd : 2 ≤ d) (x : Int32) (h : mH) (r : Option Value) (h' : mH) : Cal d eX6_held [.int x] h r h' ↔ r = some (.int (jheld x)) ∧ h' = h := by
  refine Cal_iff (Cal_le (d := 2) (Cal_of rfl (fun Q hq => ?_)) hd) r h'
  show WP 1 eX6_held Q 0 [.int x] [] h
  simp only [bX6_held_0, bX6_held_7, bX6_held_10, k6_least (Nat.le_refl 1), k6_most (Nat.le_refl 1), held_mm, Option.toList_some, Option.toList_none, List.cons_append, List.nil_append, and_assoc, exists_and_left, exists_eq_left, true_and, and_true, Nat.reduceLeDiff, not_false_eq_true, not_true_eq_false, ↓reduceIte, eq_self, ← Int32.not_lt, ite_not, Classical.not_not]
  exact hq
theorem k6_round {d : Nat} (hd : 1 ≤ d) (x : Int32) (h : mH) (r : Option Value) (h' : mH) : Cal d eX6_round [.int x] h r h' ↔ r = some (.int (jten x)) ∧ h' = h := by
  refine Cal_iff (Cal_le (d := 1) (Cal_of rfl (fun Q hq => ?_)) hd) r h'
  show WP 0 eX6_round Q 0 [.int x] [] h
  simp only [bX6_round_0]
  exact hq
theorem k6_cutBy {d : Nat} (hd : 3 ≤ d) (k f t v : Int32) (h : mH) (r : Option Value) (h' : mH) : Cal d eX6_cutBy [.int k, .int f, .int t, .int v] h r h' ↔ r = some (.int (jcut k f v t)) ∧ h' = h := by
  refine Cal_iff (Cal_le (d := 3) (Cal_of rfl (fun Q hq => ?_)) hd) r h'
  show WP 2 eX6_cutBy Q 0 [.int k, .int f, .int t, .int v] [] h
  unfold jcut at hq
  simp only [bX6_cutBy_0, bX6_cutBy_36, bX6_cutBy_42, bX6_cutBy_43, bX6_cutBy_49, bX6_cutBy_55, bX6_cutBy_58, bX6_cutBy_59, bX6_cutBy_60, bX6_cutBy_66, bX6_cutBy_69, bX6_cutBy_72, bX6_cutBy_73, bX6_cutBy_79, bX6_cutBy_84, bX6_cutBy_85, bX6_cutBy_89, bX6_cutBy_92, bX6_cutBy_93, bX6_cutBy_99, k6_held (Nat.le_refl 2), k6_round (show 1 ≤ 2 by omega), swP, Int.reduceAdd, Int32.reduceOfInt, show ¬ (2 : Int32) = 0 by decide, Option.toList_some, Option.toList_none, List.cons_append, List.nil_append, and_assoc, exists_and_left, exists_eq_left, true_and, and_true, Nat.reduceLeDiff, not_false_eq_true, not_true_eq_false, ↓reduceIte, eq_self, ← Int32.not_lt, ite_not, Classical.not_not]
  repeat' split
  all_goals (first | exact hq | simp_all)
theorem k6_code {d : Nat} (hd : 2 ≤ d) (x : Int32) (h : mH) (r : Option Value) (h' : mH) : Cal d eX6_code [.int x] h r h' ↔ r = some (.int (jcode x)) ∧ h' = h := by
  refine Cal_iff (Cal_le (d := 2) (Cal_of rfl (fun Q hq => ?_)) hd) r h'
  show WP 1 eX6_code Q 0 [.int x] [] h
  simp only [bX6_code_0, bX6_code_6, bX6_code_9, k6_round (Nat.le_refl 1), k6_least (Nat.le_refl 1), Option.toList_some, Option.toList_none, List.cons_append, List.nil_append, and_assoc, exists_and_left, exists_eq_left, true_and, and_true, Nat.reduceLeDiff, not_false_eq_true, not_true_eq_false, ↓reduceIte, eq_self, ← Int32.not_lt, ite_not, Classical.not_not]
  exact hq
/-! in the row of heights in mind -/
theorem q59 : mPut h 66 g 59 = h 59 := mPut_ne h g (by omega)
theorem q60 : mPut h 66 g 60 = h 60 := mPut_ne h g (by omega)
theorem q64 : mPut h 66 g 64 = h 64 := mPut_ne h g (by omega)
theorem mv66 : mv 60 (mPut h 66 g) = mv 60 h := by funext i; unfold mv; rw [q60]
theorem k6_takes {d k : Nat} (hd : 2 ≤ d) (hk : k < 10) (h : mH) (g : Nat → Int32) (r : Option Value) (h' : mH) : Cal d eX6_takes [.ref 59, .int (nI k)] (mPut h 66 g) r h' ↔ r = none ∧ h' = mPut h 66 (pT (rowF (mv 60 h) k) g 5) := by
  refine Cal_iff (Cal_le (d := 2) (Cal_of rfl (fun Q hq => ?_)) hd) r h'
  show WP 1 eX6_takes Q 0 [.ref 59, .int (nI k), mU] [] (mPut h 66 g)
  simp only [bX6_takes_0]
  have key := wl (fun i => WP 1 eX6_takes Q 2 [.ref 59, .int (nI k), .int (nI i)] [] (mPut h 66 (pT (rowF (mv 60 h) k) g i))) 5 ?_ 5 0 (by omega) ?_
  · rw [pT_0] at key; exact key
  · intro i hi hw
    rw [bX6_takes_2]
    simp only [bX6_takes_7, bX6_takes_21, bX6_takes_23, show (5 : Int32) = nI 5 from rfl, nlt (show i ≤ 100000 by omega) (show 5 ≤ 100000 by omega), hi, t59, r590, r599, k6_of (Nat.le_refl 1), t60, l60, t66, l66, v89 (show 9 + 7 * k + i < 89 by omega), vp_nI hi (show 5 ≤ 100 by omega), nI_cl (show i < 100 by omega), nI_cl (show 9 + 7 * k + i < 100 by omega), q60, mvE (c := 60) (h := h) (show 9 + 7 * k + i < 89 by omega), mPut_self, mPut_put, nI_1, Option.toList_some, Option.toList_none, List.cons_append, List.nil_append, and_assoc, exists_and_left, exists_eq_left, true_and, and_true, Nat.reduceLeDiff, not_false_eq_true, not_true_eq_false, ↓reduceIte, eq_self, ← Int32.not_lt, ite_not, Classical.not_not]
    have e := pT_succ (rowF (mv 60 h) k) g i
    rw [show rowF (mv 60 h) k i = mv 60 h (9 + 7 * k + i) from rfl] at e
    rw [e]
    exact hw
  · simp only [bX6_takes_2, bX6_takes_29, show (5 : Int32) = nI 5 from rfl, nlt (show 5 ≤ 100000 by omega) (show 5 ≤ 100000 by omega), Nat.lt_irrefl, Option.toList_some, Option.toList_none, List.cons_append, List.nil_append, and_assoc, exists_and_left, exists_eq_left, true_and, and_true, Nat.reduceLeDiff, not_false_eq_true, not_true_eq_false, ↓reduceIte, eq_self, ← Int32.not_lt, ite_not, Classical.not_not]
    exact hq
theorem k6_cutsIn {d : Nat} (hd : 4 ≤ d) (q f : Int32) (h : mH) (F g : Nat → Int32) (r : Option Value) (h' : mH) : Cal d eX6_cutsIn [.ref 59, .int q, .int f] (mPut h 66 (pT F g 5)) r h' ↔ r = none ∧ h' = mPut h 66 (pT (cutF q f F) g 5) := by
  refine Cal_iff (Cal_le (d := 4) (Cal_of rfl (fun Q hq => ?_)) hd) r h'
  show WP 3 eX6_cutsIn Q 0 [.ref 59, .int q, .int f, mU] [] (mPut h 66 (pT F g 5))
  simp only [bX6_cutsIn_0]
  have key := wl (fun i => WP 3 eX6_cutsIn Q 2 [.ref 59, .int q, .int f, .int (nI i)] [] (mPut h 66 (pT (cutF q f F) (pT F g 5) i))) 5 ?_ 5 0 (by omega) ?_
  · rw [pT_0] at key; exact key
  · intro i hi hw
    rw [bX6_cutsIn_2]
    simp only [bX6_cutsIn_7, bX6_cutsIn_24, bX6_cutsIn_25, show (5 : Int32) = nI 5 from rfl, nlt (show i ≤ 100000 by omega) (show 5 ≤ 100000 by omega), hi, t59, r599, t66, l66, vp_nI hi (show 5 ≤ 100 by omega), nI_cl (show i < 100 by omega), k6_cutBy (Nat.le_refl 3), mPut_self, mPut_put, nI_1, Option.toList_some, Option.toList_none, List.cons_append, List.nil_append, and_assoc, exists_and_left, exists_eq_left, true_and, and_true, Nat.reduceLeDiff, not_false_eq_true, not_true_eq_false, ↓reduceIte, eq_self, ← Int32.not_lt, ite_not, Classical.not_not]
    rw [pT_ge (Nat.le_refl i), pT_lt hi]
    have e := pT_succ (cutF q f F) (pT F g 5) i
    rw [show cutF q f F i = jcut q f (F i) (nI i) from rfl] at e
    rw [e]
    exact hw
  · simp only [bX6_cutsIn_2, bX6_cutsIn_31, show (5 : Int32) = nI 5 from rfl, nlt (show 5 ≤ 100000 by omega) (show 5 ≤ 100000 by omega), Nat.lt_irrefl, Option.toList_some, Option.toList_none, List.cons_append, List.nil_append, and_assoc, exists_and_left, exists_eq_left, true_and, and_true, Nat.reduceLeDiff, not_false_eq_true, not_true_eq_false, ↓reduceIte, eq_self, ← Int32.not_lt, ite_not, Classical.not_not]
    rw [pT_pT]
    exact hq
theorem k6_cutsBy {d m : Nat} (hd : 5 ≤ d) (hm : m < 5) (x : Int32) (h : mH) (F g : Nat → Int32) (r : Option Value) (h' : mH) : Cal d eX6_cutsBy [.ref 59, .int (nI m), .int x] (mPut h 66 (pT F g 5)) r h' ↔ r = none ∧ h' = mPut h 66 (pT (cutF (mv 60 h (79 + 2 * m)) (mv 60 h (79 + 2 * m + 1) + x) F) g 5) := by
  refine Cal_iff (Cal_le (d := 5) (Cal_of rfl (fun Q hq => ?_)) hd) r h'
  show WP 4 eX6_cutsBy Q 0 [.ref 59, .int (nI m), .int x] [] (mPut h 66 (pT F g 5))
  simp only [bX6_cutsBy_0, bX6_cutsBy_30, t59, r590, t60, l60, show (79 : Int32) = nI 79 from rfl, show (2 : Int32) = nI 2 from rfl, nI_mul, nI_plus, nI_1, v89 (show 79 + 2 * m < 89 by omega), v89 (show 79 + 2 * m + 1 < 89 by omega), nI_cl (show 79 + 2 * m < 100 by omega), nI_cl (show 79 + 2 * m + 1 < 100 by omega), q60, mvE (c := 60) (h := h) (show 79 + 2 * m < 89 by omega), mvE (c := 60) (h := h) (show 79 + 2 * m + 1 < 89 by omega), k6_cutsIn (Nat.le_refl 4), Option.toList_some, Option.toList_none, List.cons_append, List.nil_append, and_assoc, exists_and_left, exists_eq_left, true_and, and_true, Nat.reduceLeDiff, not_false_eq_true, not_true_eq_false, ↓reduceIte, eq_self, ← Int32.not_lt, ite_not, Classical.not_not]
  exact hq
theorem k6_cutsBy0 {d m : Nat} (hd : 5 ≤ d) (hm : m < 5) (h : mH) (F g : Nat → Int32) (r : Option Value) (h' : mH) : Cal d eX6_cutsBy [.ref 59, .int (nI m), .int 0] (mPut h 66 (pT F g 5)) r h' ↔ r = none ∧ h' = mPut h 66 (pT (cutM (mv 60 h) m F) g 5) := by
  rw [k6_cutsBy hd hm, Int32.add_zero]
  rfl
theorem k6_wiggle {d : Nat} (hd : 2 ≤ d) (h : mH) (F g : Nat → Int32) (r : Option Value) (h' : mH) : Cal d eX6_wiggle [.ref 59] (mPut h 66 (pT F g 5)) r h' ↔ r = some (.int (wig F (pinF (mv 60 h)))) ∧ h' = mPut h 66 (pT F g 5) := by
  refine Cal_iff (Cal_le (d := 2) (Cal_of rfl (fun Q hq => ?_)) hd) r h'
  show WP 1 eX6_wiggle Q 0 [.ref 59, mU, mU] [] (mPut h 66 (pT F g 5))
  have e : ∀ t, t < 5 → h 60 (4 + t) = pinF (mv 60 h) t := fun t ht => mvE (by omega)
  have e0 := e 0 (by omega)
  have e1 := e 1 (by omega)
  have e2 := e 2 (by omega)
  have e3 := e 3 (by omega)
  have e4 := e 4 (by omega)
  have f0 : pT F g 5 0 = F 0 := rfl
  have f1 : pT F g 5 1 = F 1 := rfl
  have f2 : pT F g 5 2 = F 2 := rfl
  have f3 : pT F g 5 3 = F 3 := rfl
  have f4 : pT F g 5 4 = F 4 := rfl
  have w : vp_in (4 + 0) 89 ∧ vp_in (4 + 1) 89 ∧ vp_in (4 + 2) 89 ∧ vp_in (4 + 3) 89 ∧ vp_in (4 + 4) 89 := by unfold vp_in; decide
  have n4 : Int32.toNatClampNeg (4 + 0) = 4 + 0 ∧ Int32.toNatClampNeg (4 + 1) = 4 + 1 ∧ Int32.toNatClampNeg (4 + 2) = 4 + 2 ∧ Int32.toNatClampNeg (4 + 3) = 4 + 3 ∧ Int32.toNatClampNeg (4 + 4) = 4 + 4 := by decide
  have a1 : (0 : Int32) + 1 = 1 := rfl
  have a2 : (1 : Int32) + 1 = 2 := rfl
  have a3 : (2 : Int32) + 1 = 3 := rfl
  have a4 : (3 : Int32) + 1 = 4 := rfl
  have a5 : (4 : Int32) + 1 = 5 := rfl
  simp only [bX6_wiggle_0, bX6_wiggle_4, bX6_wiggle_9, bX6_wiggle_27, bX6_wiggle_35, t59, r590, r599, t60, l60, t66, l66, v05, nc5, w, n4, a1, a2, a3, a4, a5, Int32.reduceLT, q60, mPut_self, k6_apart (Nat.le_refl 1), e0, e1, e2, e3, e4, f0, f1, f2, f3, f4, Option.toList_some, Option.toList_none, List.cons_append, List.nil_append, and_assoc, exists_and_left, exists_eq_left, true_and, and_true, Nat.reduceLeDiff, not_false_eq_true, not_true_eq_false, ↓reduceIte, eq_self, ← Int32.not_lt, ite_not, Classical.not_not]
  exact ⟨by unfold vp_in; decide, hq⟩
/-- the slack that is needed -/
def fiA (f p : Nat → Int32) : Int32 := jmx (jmx (jmx (jmx (jmx 0 (ap (f 0) (p 0))) (ap (f 1) (p 1))) (ap (f 2) (p 2))) (ap (f 3) (p 3))) (ap (f 4) (p 4))
theorem k6_fitIn {d : Nat} (hd : 2 ≤ d) (h : mH) (F g : Nat → Int32) (r : Option Value) (h' : mH) : Cal d eX6_fitIn [.ref 59] (mPut h 66 (pT F g 5)) r h' ↔ r = some (.int (fiA F (pinF (mv 60 h)))) ∧ h' = mPut h 66 (pT F g 5) := by
  refine Cal_iff (Cal_le (d := 2) (Cal_of rfl (fun Q hq => ?_)) hd) r h'
  show WP 1 eX6_fitIn Q 0 [.ref 59, mU, mU] [] (mPut h 66 (pT F g 5))
  have e : ∀ t, t < 5 → h 60 (4 + t) = pinF (mv 60 h) t := fun t ht => mvE (by omega)
  have e0 := e 0 (by omega)
  have e1 := e 1 (by omega)
  have e2 := e 2 (by omega)
  have e3 := e 3 (by omega)
  have e4 := e 4 (by omega)
  have f0 : pT F g 5 0 = F 0 := rfl
  have f1 : pT F g 5 1 = F 1 := rfl
  have f2 : pT F g 5 2 = F 2 := rfl
  have f3 : pT F g 5 3 = F 3 := rfl
  have f4 : pT F g 5 4 = F 4 := rfl
  have w : vp_in (4 + 0) 89 ∧ vp_in (4 + 1) 89 ∧ vp_in (4 + 2) 89 ∧ vp_in (4 + 3) 89 ∧ vp_in (4 + 4) 89 := by unfold vp_in; decide
  have n4 : Int32.toNatClampNeg (4 + 0) = 4 + 0 ∧ Int32.toNatClampNeg (4 + 1) = 4 + 1 ∧ Int32.toNatClampNeg (4 + 2) = 4 + 2 ∧ Int32.toNatClampNeg (4 + 3) = 4 + 3 ∧ Int32.toNatClampNeg (4 + 4) = 4 + 4 := by decide
  have a1 : (0 : Int32) + 1 = 1 := rfl
  have a2 : (1 : Int32) + 1 = 2 := rfl
  have a3 : (2 : Int32) + 1 = 3 := rfl
  have a4 : (3 : Int32) + 1 = 4 := rfl
  have a5 : (4 : Int32) + 1 = 5 := rfl
  simp only [bX6_fitIn_0, bX6_fitIn_4, bX6_fitIn_9, bX6_fitIn_27, bX6_fitIn_30, bX6_fitIn_37, t59, r590, r599, t60, l60, t66, l66, v05, nc5, w, n4, a1, a2, a3, a4, a5, Int32.reduceLT, q60, mPut_self, k6_apart (Nat.le_refl 1), k6_most (Nat.le_refl 1), e0, e1, e2, e3, e4, f0, f1, f2, f3, f4, Option.toList_some, Option.toList_none, List.cons_append, List.nil_append, and_assoc, exists_and_left, exists_eq_left, true_and, and_true, Nat.reduceLeDiff, not_false_eq_true, not_true_eq_false, ↓reduceIte, eq_self, ← Int32.not_lt, ite_not, Classical.not_not]
  exact ⟨by unfold vp_in; decide, hq⟩
theorem lt_mx (s a b : Int32) : (s < jmx a b) = (s < a ∨ s < b) := by
  unfold jmx
  by_cases c : a < b
  · rw [if_pos c]
    exact propext ⟨Or.inr, fun z => z.elim (fun y => Int32.lt_trans y c) id⟩
  · rw [if_neg c]
    exact propext ⟨Or.inl, fun z => z.elim id (fun y => Int32.lt_of_lt_of_le y (Int32.not_lt.mp c))⟩
theorem fiA_fit {f p : Nat → Int32} {sl : Int32} (h0 : ¬ sl < 0) : decide (¬ sl < fiA f p) = fitb f p sl := by
  unfold fiA fitb ltf
  simp only [lt_mx, h0, false_or]
  by_cases c0 : sl < ap (f 0) (p 0)
  · simp only [c0, true_or, decide_true, decide_false, not_false_eq_true, not_true_eq_false, ↓reduceIte, Bool.false_eq_true, Bool.and_true, Bool.true_and, Bool.false_and, Bool.and_false, true_and, false_and, and_true, and_false]; decide
  by_cases c1 : sl < ap (f 1) (p 1)
  · simp only [c0, c1, true_or, or_true, decide_true, decide_false, not_false_eq_true, not_true_eq_false, ↓reduceIte, Bool.false_eq_true, Bool.and_true, Bool.true_and, Bool.false_and, Bool.and_false, true_and, false_and, and_true, and_false]; decide
  by_cases c2 : sl < ap (f 2) (p 2)
  · simp only [c0, c1, c2, true_or, or_true, decide_true, decide_false, not_false_eq_true, not_true_eq_false, ↓reduceIte, Bool.false_eq_true, Bool.and_true, Bool.true_and, Bool.false_and, Bool.and_false, true_and, false_and, and_true, and_false]; decide
  by_cases c3 : sl < ap (f 3) (p 3)
  · simp only [c0, c1, c2, c3, true_or, or_true, decide_true, decide_false, not_false_eq_true, not_true_eq_false, ↓reduceIte, Bool.false_eq_true, Bool.and_true, Bool.true_and, Bool.false_and, Bool.and_false, true_and, false_and, and_true, and_false]; decide
  by_cases c4 : sl < ap (f 4) (p 4)
  · simp only [c0, c1, c2, c3, c4, true_or, or_true, decide_true, decide_false, not_false_eq_true, not_true_eq_false, ↓reduceIte, Bool.false_eq_true, Bool.and_true, Bool.true_and, Bool.false_and, Bool.and_false, true_and, false_and, and_true, and_false]; decide
  · simp only [c0, c1, c2, c3, c4, or_self, decide_true, decide_false, not_false_eq_true, not_true_eq_false, ↓reduceIte, Bool.false_eq_true, Bool.and_true, Bool.true_and, Bool.false_and, Bool.and_false, true_and, false_and, and_true, and_false]
theorem gdN.s3n {σ : Nat → Int32} {K M : Nat} (G : gdN σ K M) : ¬ σ 3 < 0 := by
  obtain ⟨L, hL, e⟩ := G.s3
  rw [e]; exact nnn (by omega)
theorem k6_opensIn {d K M : Nat} (hd : 3 ≤ d) {h : mH} (G : gdN (mv 60 h) K M) (F g : Nat → Int32) (r : Option Value) (h' : mH) : Cal d eX6_opensIn [.ref 59] (mPut h 66 (pT F g 5)) r h' ↔ r = some (.int (bz (fitb F (pinF (mv 60 h)) (mv 60 h 3)))) ∧ h' = mPut h 66 (pT F g 5) := by
  refine Cal_iff (Cal_le (d := 3) (Cal_of rfl (fun Q hq => ?_)) hd) r h'
  show WP 2 eX6_opensIn Q 0 [.ref 59] [] (mPut h 66 (pT F g 5))
  rw [← fiA_fit G.s3n] at hq
  simp only [bX6_opensIn_0, bX6_opensIn_4, bX6_opensIn_13, bX6_opensIn_17, bX6_opensIn_18, t59, r590, t60, l60, v0, c3, k6_fitIn (Nat.le_refl 2), q60, mvE (c := 60) (h := h) (show 3 < 89 by omega), nb0, nb1, Option.toList_some, Option.toList_none, List.cons_append, List.nil_append, and_assoc, exists_and_left, exists_eq_left, true_and, and_true, Nat.reduceLeDiff, not_false_eq_true, not_true_eq_false, ↓reduceIte, eq_self, ← Int32.not_lt, ite_not, Classical.not_not]
  by_cases c : mv 60 h 3 < fiA F (pinF (mv 60 h)) <;> simp only [c, decide_true, decide_false, not_false_eq_true, not_true_eq_false, ↓reduceIte, Bool.false_eq_true, Bool.and_true, Bool.true_and, Bool.false_and, Bool.and_false, true_and, false_and, and_true, and_false, bzt, bzf] at hq ⊢ <;> exact hq
theorem G66 {K M : Nat} {h : mH} (G : gdN (mv 60 h) K M) (x : Nat → Int32) : gdN (mv 60 (mPut h 66 x)) K M := by rw [mv66]; exact G
theorem k6_opens {d K M k : Nat} (hd : 4 ≤ d) {h : mH} (G : gdN (mv 60 h) K M) (hk : k < 10) (g : Nat → Int32) (r : Option Value) (h' : mH) : Cal d eX6_opens [.ref 59, .int (nI k)] (mPut h 66 g) r h' ↔ r = some (.int (bz (opb (mv 60 h) k))) ∧ h' = mPut h 66 (pT (rowF (mv 60 h) k) g 5) := by
  refine Cal_iff (Cal_le (d := 4) (Cal_of rfl (fun Q hq => ?_)) hd) r h'
  show WP 3 eX6_opens Q 0 [.ref 59, .int (nI k)] [] (mPut h 66 g)
  have eo : opb (mv 60 h) k = (!snb (mv 60 h) k && fitb (rowF (mv 60 h) k) (pinF (mv 60 h)) (mv 60 h 3)) := by
    unfold opb snb
    congr 1
    by_cases z : mv 60 h (9 + 7 * k + 6) = 0 <;> simp [z]
  rw [eo] at hq
  simp only [bX6_opens_0, bX6_opens_5, bX6_opens_10, bX6_opens_13, bX6_opens_17, bX6_opens_20, bX6_opens_24, bX6_opens_25, t59, k6_takes (show 2 ≤ 3 by omega) hk, k6_isSnapped (show 2 ≤ 3 by omega) (G66 G _) hk, mv66, k6_opensIn (Nat.le_refl 3) G, bz0, ite_bz, nb0, nb1, Option.toList_some, Option.toList_none, List.cons_append, List.nil_append, and_assoc, exists_and_left, exists_eq_left, true_and, and_true, Nat.reduceLeDiff, not_false_eq_true, not_true_eq_false, ↓reduceIte, eq_self, ← Int32.not_lt, ite_not, Classical.not_not]
  cases c : snb (mv 60 h) k
  · cases c2 : fitb (rowF (mv 60 h) k) (pinF (mv 60 h)) (mv 60 h 3) <;> simp only [c, c2, decide_true, decide_false, not_false_eq_true, not_true_eq_false, ↓reduceIte, Bool.false_eq_true, Bool.and_true, Bool.true_and, Bool.false_and, Bool.and_false, true_and, false_and, and_true, and_false, Bool.not_false, bzt, bzf] at hq ⊢ <;> exact hq
  · simp only [c, decide_true, decide_false, not_false_eq_true, not_true_eq_false, ↓reduceIte, Bool.false_eq_true, Bool.and_true, Bool.true_and, Bool.false_and, Bool.and_false, true_and, false_and, and_true, and_false, Bool.not_true, bzf] at hq ⊢; exact hq
theorem k6_wiggleOf {d k : Nat} (hd : 3 ≤ d) {h : mH} (hk : k < 10) (g : Nat → Int32) (r : Option Value) (h' : mH) : Cal d eX6_wiggleOf [.ref 59, .int (nI k)] (mPut h 66 g) r h' ↔ r = some (.int (wgk (mv 60 h) k)) ∧ h' = mPut h 66 (pT (rowF (mv 60 h) k) g 5) := by
  refine Cal_iff (Cal_le (d := 3) (Cal_of rfl (fun Q hq => ?_)) hd) r h'
  show WP 2 eX6_wiggleOf Q 0 [.ref 59, .int (nI k)] [] (mPut h 66 g)
  simp only [bX6_wiggleOf_0, bX6_wiggleOf_5, bX6_wiggleOf_9, t59, k6_takes (Nat.le_refl 2) hk, k6_wiggle (Nat.le_refl 2), Option.toList_some, Option.toList_none, List.cons_append, List.nil_append, and_assoc, exists_and_left, exists_eq_left, true_and, and_true, Nat.reduceLeDiff, not_false_eq_true, not_true_eq_false, ↓reduceIte, eq_self, ← Int32.not_lt, ite_not, Classical.not_not]
  exact hq
theorem k6_fromOf {d k : Nat} (hd : 2 ≤ d) {h : mH} (hk : k < 10) (r : Option Value) (h' : mH) : Cal d eX6_fromOf [.ref 59, .int (nI k)] h r h' ↔ r = some (.int (mv 60 h (9 + 7 * k + 5))) ∧ h' = h := by
  refine Cal_iff (Cal_le (d := 2) (Cal_of rfl (fun Q hq => ?_)) hd) r h'
  show WP 1 eX6_fromOf Q 0 [.ref 59, .int (nI k)] [] h
  simp only [bX6_fromOf_0, bX6_fromOf_9, t59, r590, k6_of5 (Nat.le_refl 1), t60, l60, v89 (show 9 + 7 * k + 5 < 89 by omega), nI_cl (show 9 + 7 * k + 5 < 100 by omega), mvE (c := 60) (h := h) (show 9 + 7 * k + 5 < 89 by omega), Option.toList_some, Option.toList_none, List.cons_append, List.nil_append, and_assoc, exists_and_left, exists_eq_left, true_and, and_true, Nat.reduceLeDiff, not_false_eq_true, not_true_eq_false, ↓reduceIte, eq_self, ← Int32.not_lt, ite_not, Classical.not_not]
  exact hq
end R0
