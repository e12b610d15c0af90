/-! Integer.bitCount, numberOfTrailingZeros, numberOfLeadingZeros on sets of at most ten -/
def ct (p : Nat → Bool) : Nat → Nat
  | 0 => 0
  | n + 1 => ct p n + (if p n then 1 else 0)
theorem ct_le (p : Nat → Bool) : ∀ n, ct p n ≤ n
  | 0 => Nat.le_refl _
  | n + 1 => by have := ct_le p n; rw [ct]; split <;> omega
theorem ct_cg {p q : Nat → Bool} : ∀ {n : Nat}, (∀ i, i < n → p i = q i) → ct p n = ct q n
  | 0, _ => rfl
  | n + 1, h => by rw [ct, ct, ct_cg (fun i hi => h i (by omega)), h n (by omega)]
theorem ct_ext {p : Nat → Bool} {K : Nat} : ∀ {n : Nat}, K ≤ n → (∀ i, K ≤ i → i < n → p i = false) → ct p n = ct p K
  | 0, h1, _ => by rw [show K = 0 by omega]
  | n + 1, h1, h2 => by
    by_cases e : K = n + 1
    · rw [e]
    · rw [ct, h2 n (by omega) (by omega), ct_ext (by omega) (fun i a b => h2 i a (by omega))]; simp
def jbc (x : Int32) : Int32 :=
  let a := x - (iush x 1 &&& 1431655765)
  let b := (a &&& 858993459) + (iush a 2 &&& 858993459)
  let c := (b + iush b 4) &&& 252645135
  let d := c + iush c 8
  (d + iush d 16) &&& 63
theorem jbc_n : ∀ n, n < 1024 → jbc (nI n) = nI (ct n.testBit 10) := by decide +kernel
theorem k_bitCount {d : Nat} (hd : 1 ≤ d) {n : Nat} (hn : n < 1024) (h : mH) (r : Option Value) (h' : mH) : Cal d eJ6_bitCount_0f7a4 [.int (nI n)] h r h' ↔ r = some (.int (nI (ct n.testBit 10))) ∧ h' = h := by
  refine Cal_iff (Cal_le (d := 1) (Cal_of rfl (fun Q hq => ?_)) hd) r h'
  show WP 0 eJ6_bitCount_0f7a4 Q 0 [.int (nI n)] [] h
  rw [← jbc_n n hn] at hq
  simp only [bJ6_bitCount_0f7a4_0]
  exact hq
def tz5 (i n : Int32) : Int32 := n + iush i 1
def tz4 (i n : Int32) : Int32 := if 4 < i then tz5 (iush i 2) (n + 2) else tz5 i n
def tz3 (i n : Int32) : Int32 := if 16 < i then tz4 (iush i 4) (n + 4) else tz4 i n
def tz2 (i n : Int32) : Int32 := if 256 < i then tz3 (iush i 8) (n + 8) else tz3 i n
def tz1 (i : Int32) : Int32 := if 65536 < i then tz2 (iush i 16) (1 + 16) else tz2 i 1
def tz0 (x : Int32) : Int32 := if 0 < ((x ^^^ (-1)) &&& (x - 1)) then tz1 ((x ^^^ (-1)) &&& (x - 1)) else ((x ^^^ (-1)) &&& (x - 1)) &&& 32
theorem k_ntz {d : Nat} (hd : 1 ≤ d) (x : Int32) (h : mH) (r : Option Value) (h' : mH) : Cal d eJ6_numberOfTrailingZeros_0f7a4 [.int x] h r h' ↔ r = some (.int (tz0 x)) ∧ h' = h := by
  refine Cal_iff (Cal_le (d := 1) (Cal_of rfl (fun Q hq => ?_)) hd) r h'
  show WP 0 eJ6_numberOfTrailingZeros_0f7a4 Q 0 [.int x, mU] [] h
  have h4 : ∀ i n, Q (some (.int (tz4 i n))) h → WP 0 eJ6_numberOfTrailingZeros_0f7a4 Q 62 [.int i, .int n] [] h := by
    intro i n hq
    unfold tz4 tz5 at hq
    simp only [bJ6_numberOfTrailingZeros_0f7a4_62, bJ6_numberOfTrailingZeros_0f7a4_67, bJ6_numberOfTrailingZeros_0f7a4_74, Option.toList_some, Option.toList_none, List.cons_append, List.nil_append, and_assoc, exists_and_left, exists_eq_left, true_and, and_true, Nat.reduceLeDiff, not_false_eq_true, not_true_eq_false, ↓reduceIte, eq_self, ← Int32.not_lt, ite_not, Classical.not_not]
    by_cases c : 4 < i <;> simp only [c, decide_true, decide_false, not_false_eq_true, not_true_eq_false, ↓reduceIte, Bool.false_eq_true, Bool.and_true, Bool.true_and, Bool.false_and, Bool.and_false, true_and, false_and, and_true, and_false] at hq ⊢ <;> exact hq
  have h3 : ∀ i n, Q (some (.int (tz3 i n))) h → WP 0 eJ6_numberOfTrailingZeros_0f7a4 Q 49 [.int i, .int n] [] h := by
    intro i n hq
    unfold tz3 at hq
    simp only [bJ6_numberOfTrailingZeros_0f7a4_49, bJ6_numberOfTrailingZeros_0f7a4_55, Option.toList_some, Option.toList_none, List.cons_append, List.nil_append, and_assoc, exists_and_left, exists_eq_left, true_and, and_true, Nat.reduceLeDiff, not_false_eq_true, not_true_eq_false, ↓reduceIte, eq_self, ← Int32.not_lt, ite_not, Classical.not_not]
    by_cases c : 16 < i <;> simp only [c, decide_true, decide_false, not_false_eq_true, not_true_eq_false, ↓reduceIte, Bool.false_eq_true, Bool.and_true, Bool.true_and, Bool.false_and, Bool.and_false, true_and, false_and, and_true, and_false] at hq ⊢ <;> exact h4 _ _ hq
  have h2 : ∀ i n, Q (some (.int (tz2 i n))) h → WP 0 eJ6_numberOfTrailingZeros_0f7a4 Q 34 [.int i, .int n] [] h := by
    intro i n hq
    unfold tz2 at hq
    simp only [bJ6_numberOfTrailingZeros_0f7a4_34, bJ6_numberOfTrailingZeros_0f7a4_41, Option.toList_some, Option.toList_none, List.cons_append, List.nil_append, and_assoc, exists_and_left, exists_eq_left, true_and, and_true, Nat.reduceLeDiff, not_false_eq_true, not_true_eq_false, ↓reduceIte, eq_self, ← Int32.not_lt, ite_not, Classical.not_not]
    by_cases c : 256 < i <;> simp only [c, decide_true, decide_false, not_false_eq_true, not_true_eq_false, ↓reduceIte, Bool.false_eq_true, Bool.and_true, Bool.true_and, Bool.false_and, Bool.and_false, true_and, false_and, and_true, and_false] at hq ⊢ <;> exact h3 _ _ hq
  have h1 : ∀ i u, Q (some (.int (tz1 i))) h → WP 0 eJ6_numberOfTrailingZeros_0f7a4 Q 17 [.int i, u] [] h := by
    intro i u hq
    unfold tz1 at hq
    simp only [bJ6_numberOfTrailingZeros_0f7a4_17, bJ6_numberOfTrailingZeros_0f7a4_26, Option.toList_some, Option.toList_none, List.cons_append, List.nil_append, and_assoc, exists_and_left, exists_eq_left, true_and, and_true, Nat.reduceLeDiff, not_false_eq_true, not_true_eq_false, ↓reduceIte, eq_self, ← Int32.not_lt, ite_not, Classical.not_not]
    by_cases c : 65536 < i <;> simp only [c, decide_true, decide_false, not_false_eq_true, not_true_eq_false, ↓reduceIte, Bool.false_eq_true, Bool.and_true, Bool.true_and, Bool.false_and, Bool.and_false, true_and, false_and, and_true, and_false] at hq ⊢ <;> exact h2 _ _ hq
  unfold tz0 at hq
  simp only [bJ6_numberOfTrailingZeros_0f7a4_0, bJ6_numberOfTrailingZeros_0f7a4_12, Option.toList_some, Option.toList_none, List.cons_append, List.nil_append, and_assoc, exists_and_left, exists_eq_left, true_and, and_true, Nat.reduceLeDiff, not_false_eq_true, not_true_eq_false, ↓reduceIte, eq_self, ← Int32.not_lt, ite_not, Classical.not_not]
  by_cases c : 0 < ((x ^^^ (-1)) &&& (x - 1))
  · simp only [c, decide_true, decide_false, not_false_eq_true, not_true_eq_false, ↓reduceIte, Bool.false_eq_true, Bool.and_true, Bool.true_and, Bool.false_and, Bool.and_false, true_and, false_and, and_true, and_false] at hq ⊢; exact h1 _ _ hq
  · simp only [c, decide_true, decide_false, not_false_eq_true, not_true_eq_false, ↓reduceIte, Bool.false_eq_true, Bool.and_true, Bool.true_and, Bool.false_and, Bool.and_false, true_and, false_and, and_true, and_false] at hq ⊢; exact hq
def lz5 (i n : Int32) : Int32 := n - iush i 1
def lz4 (i n : Int32) : Int32 := if i < 4 then lz5 i n else lz5 (iush i 2) (n + (-2))
def lz3 (i n : Int32) : Int32 := if i < 16 then lz4 i n else lz4 (iush i 4) (n + (-4))
def lz2 (i n : Int32) : Int32 := if i < 256 then lz3 i n else lz3 (iush i 8) (n + (-8))
def lz1 (i : Int32) : Int32 := if i < 65536 then lz2 i 31 else lz2 (iush i 16) (31 + (-16))
def lz0 (x : Int32) : Int32 := if 0 < x then lz1 x else if x = 0 then 32 else 0
theorem k_nlz {d : Nat} (hd : 1 ≤ d) (x : Int32) (h : mH) (r : Option Value) (h' : mH) : Cal d eJ6_numberOfLeadingZeros_0f7a4 [.int x] h r h' ↔ r = some (.int (lz0 x)) ∧ h' = h := by
  refine Cal_iff (Cal_le (d := 1) (Cal_of rfl (fun Q hq => ?_)) hd) r h'
  show WP 0 eJ6_numberOfLeadingZeros_0f7a4 Q 0 [.int x, mU] [] h
  have h4 : ∀ i n, Q (some (.int (lz4 i n))) h → WP 0 eJ6_numberOfLeadingZeros_0f7a4 Q 61 [.int i, .int n] [] h := by
    intro i n hq
    unfold lz4 lz5 at hq
    simp only [bJ6_numberOfLeadingZeros_0f7a4_61, bJ6_numberOfLeadingZeros_0f7a4_66, bJ6_numberOfLeadingZeros_0f7a4_73, Option.toList_some, Option.toList_none, List.cons_append, List.nil_append, and_assoc, exists_and_left, exists_eq_left, true_and, and_true, Nat.reduceLeDiff, not_false_eq_true, not_true_eq_false, ↓reduceIte, eq_self, ← Int32.not_lt, ite_not, Classical.not_not]
    by_cases c : i < 4 <;> simp only [c, decide_true, decide_false, not_false_eq_true, not_true_eq_false, ↓reduceIte, Bool.false_eq_true, Bool.and_true, Bool.true_and, Bool.false_and, Bool.and_false, true_and, false_and, and_true, and_false] at hq ⊢ <;> exact hq
  have h3 : ∀ i n, Q (some (.int (lz3 i n))) h → WP 0 eJ6_numberOfLeadingZeros_0f7a4 Q 48 [.int i, .int n] [] h := by
    intro i n hq
    unfold lz3 at hq
    simp only [bJ6_numberOfLeadingZeros_0f7a4_48, bJ6_numberOfLeadingZeros_0f7a4_54, Option.toList_some, Option.toList_none, List.cons_append, List.nil_append, and_assoc, exists_and_left, exists_eq_left, true_and, and_true, Nat.reduceLeDiff, not_false_eq_true, not_true_eq_false, ↓reduceIte, eq_self, ← Int32.not_lt, ite_not, Classical.not_not]
    by_cases c : i < 16 <;> simp only [c, decide_true, decide_false, not_false_eq_true, not_true_eq_false, ↓reduceIte, Bool.false_eq_true, Bool.and_true, Bool.true_and, Bool.false_and, Bool.and_false, true_and, false_and, and_true, and_false] at hq ⊢ <;> exact h4 _ _ hq
  have h2 : ∀ i n, Q (some (.int (lz2 i n))) h → WP 0 eJ6_numberOfLeadingZeros_0f7a4 Q 33 [.int i, .int n] [] h := by
    intro i n hq
    unfold lz2 at hq
    simp only [bJ6_numberOfLeadingZeros_0f7a4_33, bJ6_numberOfLeadingZeros_0f7a4_40, Option.toList_some, Option.toList_none, List.cons_append, List.nil_append, and_assoc, exists_and_left, exists_eq_left, true_and, and_true, Nat.reduceLeDiff, not_false_eq_true, not_true_eq_false, ↓reduceIte, eq_self, ← Int32.not_lt, ite_not, Classical.not_not]
    by_cases c : i < 256 <;> simp only [c, decide_true, decide_false, not_false_eq_true, not_true_eq_false, ↓reduceIte, Bool.false_eq_true, Bool.and_true, Bool.true_and, Bool.false_and, Bool.and_false, true_and, false_and, and_true, and_false] at hq ⊢ <;> exact h3 _ _ hq
  have h1 : ∀ i u, Q (some (.int (lz1 i))) h → WP 0 eJ6_numberOfLeadingZeros_0f7a4 Q 15 [.int i, u] [] h := by
    intro i u hq
    unfold lz1 at hq
    simp only [bJ6_numberOfLeadingZeros_0f7a4_15, bJ6_numberOfLeadingZeros_0f7a4_25, Option.toList_some, Option.toList_none, List.cons_append, List.nil_append, and_assoc, exists_and_left, exists_eq_left, true_and, and_true, Nat.reduceLeDiff, not_false_eq_true, not_true_eq_false, ↓reduceIte, eq_self, ← Int32.not_lt, ite_not, Classical.not_not]
    by_cases c : i < 65536 <;> simp only [c, decide_true, decide_false, not_false_eq_true, not_true_eq_false, ↓reduceIte, Bool.false_eq_true, Bool.and_true, Bool.true_and, Bool.false_and, Bool.and_false, true_and, false_and, and_true, and_false] at hq ⊢ <;> exact h2 _ _ hq
  unfold lz0 at hq
  simp only [bJ6_numberOfLeadingZeros_0f7a4_0, bJ6_numberOfLeadingZeros_0f7a4_4, bJ6_numberOfLeadingZeros_0f7a4_8, bJ6_numberOfLeadingZeros_0f7a4_13, bJ6_numberOfLeadingZeros_0f7a4_14, Option.toList_some, Option.toList_none, List.cons_append, List.nil_append, and_assoc, exists_and_left, exists_eq_left, true_and, and_true, Nat.reduceLeDiff, not_false_eq_true, not_true_eq_false, ↓reduceIte, eq_self, ← Int32.not_lt, ite_not, Classical.not_not]
  by_cases c : 0 < x
  · simp only [c, decide_true, decide_false, not_false_eq_true, not_true_eq_false, ↓reduceIte, Bool.false_eq_true, Bool.and_true, Bool.true_and, Bool.false_and, Bool.and_false, true_and, false_and, and_true, and_false] at hq ⊢; exact h1 _ _ hq
  · by_cases c2 : x = 0 <;> simp only [c, c2, decide_true, decide_false, not_false_eq_true, not_true_eq_false, ↓reduceIte, Bool.false_eq_true, Bool.and_true, Bool.true_and, Bool.false_and, Bool.and_false, true_and, false_and, and_true, and_false] at hq ⊢ <;> exact hq
/-- the least, the greatest bit -/
def lob (n : Nat) : Nat → Nat
  | 0 => 0
  | k + 1 => if lob n k < k then lob n k else if n.testBit k then k else k + 1
def hib (n : Nat) : Nat → Nat
  | 0 => 0
  | k + 1 => if n.testBit k then k else hib n k
theorem tz_n : ∀ n, n < 1024 → 0 < n → tz0 (nI n) = nI (lob n 10) := by decide +kernel
theorem lz_n : ∀ n, n < 1024 → 0 < n → 31 - lz0 (nI n) = nI (hib n 10) := by decide +kernel
theorem pc_or : ∀ k, k < 10 → ∀ x, x < 2 ^ k → ct (2 ^ k ||| x).testBit 10 = 1 + ct x.testBit 10 := by decide +kernel
theorem lo_or : ∀ k, k < 10 → ∀ x, x < 2 ^ k → lob (2 ^ k ||| x) 10 = if x = 0 then k else lob x 10 := by decide +kernel
/-- the greatest bit is what it is -/
theorem hib_is {n j : Nat} (hj : n.testBit j = true) : ∀ {k : Nat}, j < k → (∀ i, j < i → i < k → n.testBit i = false) → hib n k = j
  | 0, h, _ => by omega
  | k + 1, h, hu => by
    rw [hib]
    by_cases e : j = k
    · subst e; rw [if_pos hj]
    · rw [if_neg (by rw [hu k (by omega) (by omega)]; simp), hib_is hj (by omega) (fun i a b => hu i a (by omega))]
