section R6
variable {h : mH} {K M : Nat}
/-- the best so far, -1 ahead of the first -/
def bs1 (w : Nat → Nat) (i : Nat) : Int32 := if i = 0 then -1 else nI (mst w i)
theorem k6_anewOf {d t : Nat} (hd : 3 ≤ d) (G : gdN (mv 60 h) K M) (ht : t < 5) (r : Option Value) (h' : mH) : Cal d eX6_anewOf [.ref 59, .int (nI t)] h r h' ↔ r = some (.int (nI (anw (mv 60 h) K t))) ∧ h' = h := by
  refine Cal_iff (Cal_le (d := 3) (Cal_of rfl (fun Q hq => ?_)) hd) r h'
  show WP 2 eX6_anewOf Q 0 [.ref 59, .int (nI t), mU, mU, mU, mU, mU] [] h
  have k10 := G.k10
  have e0 : h 60 0 = nI K := G.s0
  have hb : ∀ v, aw (mv 60 h) K t v ≤ 10 := fun v => Nat.le_trans (ct_le _ _) k10
  rw [bX6_anewOf_0]
  refine wl (fun i => ∀ u v, WP 2 eX6_anewOf Q 7 [.ref 59, .int (nI t), .int (nI (bmy (aw (mv 60 h) K t) i)), .int (bs1 (aw (mv 60 h) K t) i), .int (nI i), u, v] [] h) 100 ?_ 100 0 (by omega) ?_ _ _
  · intro i hi hw u v
    have hw := hw
    have b1 := hb i
    have b2 := mst_le hb i
    rw [bX6_anewOf_7]
    simp only [bX6_anewOf_14, show (99 : Int32) = nI 99 from rfl, nlt (show 99 ≤ 100000 by omega) (show i ≤ 100000 by omega), show ¬ 99 < i by omega, Option.toList_some, Option.toList_none, List.cons_append, List.nil_append, and_assoc, exists_and_left, exists_eq_left, true_and, and_true, Nat.reduceLeDiff, not_false_eq_true, not_true_eq_false, ↓reduceIte, eq_self, ← Int32.not_lt, ite_not, Classical.not_not]
    refine wl (fun k => WP 2 eX6_anewOf Q 20 [.ref 59, .int (nI t), .int (nI (bmy (aw (mv 60 h) K t) i)), .int (bs1 (aw (mv 60 h) K t) i), .int (nI i), .int (nI (aw (mv 60 h) k t i)), .int (nI k)] [] h) K ?_ K 0 (by omega) ?_
    · intro k hk hw
      have kk : k < 10 := by omega
      unfold aw at hw
      rw [ct] at hw
      unfold nr at hw
      rw [ap_comm (mv 60 h (9 + 7 * k + t)) (nI i)] at hw
      rw [bX6_anewOf_20]
      simp only [bX6_anewOf_31, bX6_anewOf_39, bX6_anewOf_42, bX6_anewOf_54, bX6_anewOf_58, bX6_anewOf_67, bX6_anewOf_71, bX6_anewOf_72, t59, r590, t60, l60, v0, c0, c3, e0, nlt (show k ≤ 100000 by omega) (show K ≤ 100000 by omega), hk, k6_isSnapped (Nat.le_refl 2) G kk, k6_of (show 1 ≤ 2 by omega), v89 (show 9 + 7 * k + t < 89 by omega), nI_cl (show 9 + 7 * k + t < 100 by omega), mvE (c := 60) (h := h) (show 9 + 7 * k + t < 89 by omega), mvE (c := 60) (h := h) (show 3 < 89 by omega), k6_apart (show 1 ≤ 2 by omega), bz0, ite_bz, nI_1, Option.toList_some, Option.toList_none, List.cons_append, List.nil_append, and_assoc, exists_and_left, exists_eq_left, true_and, and_true, Nat.reduceLeDiff, not_false_eq_true, not_true_eq_false, ↓reduceIte, eq_self, ← Int32.not_lt, ite_not, Classical.not_not]
      cases c : snb (mv 60 h) k with
      | true => simp only [c, decide_true, decide_false, not_false_eq_true, not_true_eq_false, ↓reduceIte, Bool.false_eq_true, Bool.and_true, Bool.true_and, Bool.false_and, Bool.and_false, true_and, false_and, and_true, and_false, Bool.not_true, Int32.add_zero, Nat.add_zero] at hw ⊢; exact hw
      | false =>
        by_cases c2 : mv 60 h 3 < ap (nI i) (mv 60 h (9 + 7 * k + t)) <;> simp only [c, c2, decide_true, decide_false, not_false_eq_true, not_true_eq_false, ↓reduceIte, Bool.false_eq_true, Bool.and_true, Bool.true_and, Bool.false_and, Bool.and_false, true_and, false_and, and_true, and_false, Bool.not_false, nI_1, Int32.add_zero, Nat.add_zero] at hw ⊢ <;> exact hw
    · simp only [bX6_anewOf_20, bX6_anewOf_81, bX6_anewOf_87, bX6_anewOf_90, bX6_anewOf_96, t59, r590, t60, l60, v0, c0, e0, nlt (show K ≤ 100000 by omega) (show K ≤ 100000 by omega), Nat.lt_irrefl, nI_1, Option.toList_some, Option.toList_none, List.cons_append, List.nil_append, and_assoc, exists_and_left, exists_eq_left, true_and, and_true, Nat.reduceLeDiff, not_false_eq_true, not_true_eq_false, ↓reduceIte, eq_self, ← Int32.not_lt, ite_not, Classical.not_not]
      rw [bmy, show bs1 (aw (mv 60 h) K t) (i + 1) = nI (mst (aw (mv 60 h) K t) (i + 1)) from if_neg (by omega), mst] at hw
      unfold bs1
      by_cases i0 : i = 0
      · subst i0
        have lt1 : (-1 : Int32) < nI (aw (mv 60 h) K t 0) := Int32.lt_of_lt_of_le (show (-1 : Int32) < 0 by decide) (Int32.not_lt.mp (nnn (by omega)))
        simp only [lt1, decide_true, decide_false, not_false_eq_true, not_true_eq_false, ↓reduceIte, Bool.false_eq_true, Bool.and_true, Bool.true_and, Bool.false_and, Bool.and_false, true_and, false_and, and_true, and_false]
        have e1 : (if mst (aw (mv 60 h) K t) 0 < aw (mv 60 h) K t 0 then aw (mv 60 h) K t 0 else mst (aw (mv 60 h) K t) 0) = aw (mv 60 h) K t 0 := by
          show (if 0 < aw (mv 60 h) K t 0 then aw (mv 60 h) K t 0 else 0) = aw (mv 60 h) K t 0
          split <;> omega
        have e2 : (if mst (aw (mv 60 h) K t) 0 < aw (mv 60 h) K t 0 then 0 else bmy (aw (mv 60 h) K t) 0) = 0 := by split <;> rfl
        rw [e1, e2] at hw
        exact hw _ _
      · simp only [i0, decide_true, decide_false, not_false_eq_true, not_true_eq_false, ↓reduceIte, Bool.false_eq_true, Bool.and_true, Bool.true_and, Bool.false_and, Bool.and_false, true_and, false_and, and_true, and_false, nlt (show mst (aw (mv 60 h) K t) i ≤ 100000 by omega) (show aw (mv 60 h) K t i ≤ 100000 by omega)]
        by_cases c : mst (aw (mv 60 h) K t) i < aw (mv 60 h) K t i <;> simp only [c, decide_true, decide_false, not_false_eq_true, not_true_eq_false, ↓reduceIte, Bool.false_eq_true, Bool.and_true, Bool.true_and, Bool.false_and, Bool.and_false, true_and, false_and, and_true, and_false] at hw ⊢ <;> exact hw _ _
  · intro u v
    simp only [bX6_anewOf_7, bX6_anewOf_102, show (99 : Int32) = nI 99 from rfl, nlt (show 99 ≤ 100000 by omega) (show 100 ≤ 100000 by omega), show 99 < 100 by omega, Option.toList_some, Option.toList_none, List.cons_append, List.nil_append, and_assoc, exists_and_left, exists_eq_left, true_and, and_true, Nat.reduceLeDiff, not_false_eq_true, not_true_eq_false, ↓reduceIte, eq_self, ← Int32.not_lt, ite_not, Classical.not_not]
    exact hq
theorem k6_bits {d n : Nat} (hd : 1 ≤ d) (hn : n < 1024) (h : mH) (r : Option Value) (h' : mH) : Cal d eX6_bits [.int (nI n)] h r h' ↔ r = some (.int (nI (ct n.testBit 10))) ∧ h' = h := by
  refine Cal_iff (Cal_le (d := 1) (Cal_of rfl (fun Q hq => ?_)) hd) r h'
  show WP 0 eX6_bits Q 0 [.int (nI n), mU, mU] [] h
  rw [bX6_bits_0]
  refine wl (fun i => WP 0 eX6_bits Q 4 [.int (nI n), .int (nI (ct n.testBit i)), .int (nI i)] [] h) 10 ?_ 10 0 (by omega) ?_
  · intro i hi hw
    have e : ct n.testBit i + n / 2 ^ i % 2 = ct n.testBit (i + 1) := by
      rw [ct, Nat.testBit_eq_decide_div_mod_eq]
      rcases (show n / 2 ^ i % 2 = 0 ∨ n / 2 ^ i % 2 = 1 by omega) with q | q <;> rw [q] <;> rfl
    rw [bX6_bits_4]
    simp only [bX6_bits_10, show (10 : Int32) = nI 10 from rfl, nlt (show i ≤ 100000 by omega) (show 10 ≤ 100000 by omega), hi, tbit (show n < 2 ^ 31 by omega) (show i < 31 by omega), nI_plus, e, nI_1, Option.toList_some, Option.toList_none, List.cons_append, List.nil_append, and_assoc, exists_and_left, exists_eq_left, true_and, and_true, Nat.reduceLeDiff, not_false_eq_true, not_true_eq_false, ↓reduceIte, eq_self, ← Int32.not_lt, ite_not, Classical.not_not]
    exact hw
  · simp only [bX6_bits_4, bX6_bits_24, show (10 : Int32) = nI 10 from rfl, nlt (show 10 ≤ 100000 by omega) (show 10 ≤ 100000 by omega), Nat.lt_irrefl, Option.toList_some, Option.toList_none, List.cons_append, List.nil_append, and_assoc, exists_and_left, exists_eq_left, true_and, and_true, Nat.reduceLeDiff, not_false_eq_true, not_true_eq_false, ↓reduceIte, eq_self, ← Int32.not_lt, ite_not, Classical.not_not]
    exact hq
theorem k6_middle {d n t : Nat} (hd : 2 ≤ d) (G : gdN (mv 60 h) K M) (hn : n < 1024) (ht : t < 5) (r : Option Value) (h' : mH) : Cal d eX6_middle [.ref 59, .int (nI n), .int (nI t)] h r h' ↔ r = some (.int (mid (mv 60 h) K n t)) ∧ h' = h := by
  refine Cal_iff (Cal_le (d := 2) (Cal_of rfl (fun Q hq => ?_)) hd) r h'
  show WP 1 eX6_middle Q 0 [.ref 59, .int (nI n), .int (nI t), mU, mU, mU, mU] [] h
  have k10 := G.k10
  have e0 : h 60 0 = nI K := G.s0
  have l2 := ct_le n.testBit 10
  have eh : (nI (ct n.testBit 10) + 1) / 2 = nI ((ct n.testBit 10 + 1) / 2) := by rw [nI_1]; exact pk_div (d := 2) (by omega) (by omega) (by omega)
  simp only [bX6_middle_0, bX6_middle_4, k6_bits (Nat.le_refl 1) hn, eh, Option.toList_some, Option.toList_none, List.cons_append, List.nil_append, and_assoc, exists_and_left, exists_eq_left, true_and, and_true, Nat.reduceLeDiff, not_false_eq_true, not_true_eq_false, ↓reduceIte, eq_self, ← Int32.not_lt, ite_not, Classical.not_not]
  have cnt : ∀ v, v ≤ 99 → (¬ ct (mdC (mv 60 h) n t v) K < (ct n.testBit 10 + 1) / 2 → Q (some (.int (nI v))) h) → (ct (mdC (mv 60 h) n t v) K < (ct n.testBit 10 + 1) / 2 → ∀ a b, WP 1 eX6_middle Q 12 [.ref 59, .int (nI n), .int (nI t), .int (nI ((ct n.testBit 10 + 1) / 2)), .int (nI (v + 1)), a, b] [] h) → ∀ a b, WP 1 eX6_middle Q 12 [.ref 59, .int (nI n), .int (nI t), .int (nI ((ct n.testBit 10 + 1) / 2)), .int (nI v), a, b] [] h := by
    intro v hv h1 h2 a b
    rw [bX6_middle_12]
    simp only [bX6_middle_19, show (99 : Int32) = nI 99 from rfl, nlt (show 99 ≤ 100000 by omega) (show v ≤ 100000 by omega), show ¬ 99 < v by omega, Option.toList_some, Option.toList_none, List.cons_append, List.nil_append, and_assoc, exists_and_left, exists_eq_left, true_and, and_true, Nat.reduceLeDiff, not_false_eq_true, not_true_eq_false, ↓reduceIte, eq_self, ← Int32.not_lt, ite_not, Classical.not_not]
    refine wl (fun i => WP 1 eX6_middle Q 25 [.ref 59, .int (nI n), .int (nI t), .int (nI ((ct n.testBit 10 + 1) / 2)), .int (nI v), .int (nI (ct (mdC (mv 60 h) n t v) i)), .int (nI i)] [] h) K ?_ K 0 (by omega) ?_
    · intro i hi hw
      rw [show ct (mdC (mv 60 h) n t v) (i + 1) = ct (mdC (mv 60 h) n t v) i + (if mdC (mv 60 h) n t v i then 1 else 0) from rfl, show mdC (mv 60 h) n t v i = (n.testBit i && decide (¬ nI v < mv 60 h (9 + 7 * i + t))) from rfl, show n.testBit i = decide (n / 2 ^ i % 2 = 1) from Nat.testBit_eq_decide_div_mod_eq] at hw
      rw [bX6_middle_25]
      simp only [bX6_middle_36, bX6_middle_48, bX6_middle_58, bX6_middle_64, bX6_middle_68, bX6_middle_69, t59, r590, t60, l60, v0, c0, e0, nlt (show i ≤ 100000 by omega) (show K ≤ 100000 by omega), hi, tbit (show n < 2 ^ 31 by omega) (show i < 31 by omega), k6_of (Nat.le_refl 1), v89 (show 9 + 7 * i + t < 89 by omega), nI_cl (show 9 + 7 * i + t < 100 by omega), mvE (c := 60) (h := h) (show 9 + 7 * i + t < 89 by omega), nI_1, Option.toList_some, Option.toList_none, List.cons_append, List.nil_append, and_assoc, exists_and_left, exists_eq_left, true_and, and_true, Nat.reduceLeDiff, not_false_eq_true, not_true_eq_false, ↓reduceIte, eq_self, ← Int32.not_lt, ite_not, Classical.not_not]
      rcases (show n / 2 ^ i % 2 = 0 ∨ n / 2 ^ i % 2 = 1 by omega) with q | q
      · simp only [q, show ¬ nI 0 = 1 by decide, show ¬ (0 : Nat) = 1 by decide, decide_true, decide_false, not_false_eq_true, not_true_eq_false, ↓reduceIte, Bool.false_eq_true, Bool.and_true, Bool.true_and, Bool.false_and, Bool.and_false, true_and, false_and, and_true, and_false, Int32.add_zero, Nat.add_zero] at hw ⊢; exact hw
      · by_cases c2 : nI v < mv 60 h (9 + 7 * i + t) <;> simp only [q, c2, show nI 1 = 1 from rfl, decide_true, decide_false, not_false_eq_true, not_true_eq_false, ↓reduceIte, Bool.false_eq_true, Bool.and_true, Bool.true_and, Bool.false_and, Bool.and_false, true_and, false_and, and_true, and_false, nI_1, Int32.add_zero, Nat.add_zero] at hw ⊢ <;> exact hw
    · have l1 := ct_le (mdC (mv 60 h) n t v) K
      simp only [bX6_middle_25, bX6_middle_78, bX6_middle_84, bX6_middle_87, t59, r590, t60, l60, v0, c0, e0, nlt (show K ≤ 100000 by omega) (show K ≤ 100000 by omega), Nat.lt_irrefl, nlt (show ct (mdC (mv 60 h) n t v) K ≤ 100000 by omega) (show (ct n.testBit 10 + 1) / 2 ≤ 100000 by omega), nI_1, Option.toList_some, Option.toList_none, List.cons_append, List.nil_append, and_assoc, exists_and_left, exists_eq_left, true_and, and_true, Nat.reduceLeDiff, not_false_eq_true, not_true_eq_false, ↓reduceIte, eq_self, ← Int32.not_lt, ite_not, Classical.not_not]
      by_cases c : ct (mdC (mv 60 h) n t v) K < (ct n.testBit 10 + 1) / 2
      · simp only [c, decide_true, decide_false, not_false_eq_true, not_true_eq_false, ↓reduceIte, Bool.false_eq_true, Bool.and_true, Bool.true_and, Bool.false_and, Bool.and_false, true_and, false_and, and_true, and_false]; exact h2 c _ _
      · simp only [c, decide_true, decide_false, not_false_eq_true, not_true_eq_false, ↓reduceIte, Bool.false_eq_true, Bool.and_true, Bool.true_and, Bool.false_and, Bool.and_false, true_and, false_and, and_true, and_false]; exact h1 c
  have key : ∀ (j v : Nat), v + j = 99 → Q (some (.int (ond 99 (fst (mdP (mv 60 h) K n t) v j)))) h → ∀ a b, WP 1 eX6_middle Q 12 [.ref 59, .int (nI n), .int (nI t), .int (nI ((ct n.testBit 10 + 1) / 2)), .int (nI v), a, b] [] h := by
    intro j
    induction j with
    | zero =>
      intro v hv hq2
      have : v = 99 := by omega
      subst this
      refine cnt 99 (by omega) (fun _ => hq2) (fun _ a b => ?_)
      simp only [bX6_middle_12, bX6_middle_93, show (99 : Int32) = nI 99 from rfl, nlt (show 99 ≤ 100000 by omega) (show 99 + 1 ≤ 100000 by omega), show 99 < 99 + 1 by omega, Option.toList_some, Option.toList_none, List.cons_append, List.nil_append, and_assoc, exists_and_left, exists_eq_left, true_and, and_true, Nat.reduceLeDiff, not_false_eq_true, not_true_eq_false, ↓reduceIte, eq_self, ← Int32.not_lt, ite_not, Classical.not_not]
      exact hq2
    | succ j ih =>
      intro v hv hq2
      rw [fst, show mdP (mv 60 h) K n t v = decide (¬ 2 * ct (mdC (mv 60 h) n t v) K < ct n.testBit 10) from rfl] at hq2
      refine cnt v (by omega) (fun c => ?_) (fun c => ?_)
      · have c' : ¬ 2 * ct (mdC (mv 60 h) n t v) K < ct n.testBit 10 := by omega
        simp only [c', decide_true, decide_false, not_false_eq_true, not_true_eq_false, ↓reduceIte, Bool.false_eq_true, Bool.and_true, Bool.true_and, Bool.false_and, Bool.and_false, true_and, false_and, and_true, and_false] at hq2; exact hq2
      · have c' : 2 * ct (mdC (mv 60 h) n t v) K < ct n.testBit 10 := by omega
        simp only [c', decide_true, decide_false, not_false_eq_true, not_true_eq_false, ↓reduceIte, Bool.false_eq_true, Bool.and_true, Bool.true_and, Bool.false_and, Bool.and_false, true_and, false_and, and_true, and_false] at hq2; exact ih (v + 1) (by omega) hq2
  exact key 99 0 (by omega) hq _ _
theorem k6_wrongSet {d : Nat} (hd : 1 ≤ d) (G : gdN (mv 60 h) K M) (x : Int32) (r : Option Value) (h' : mH) : Cal d eX6_wrongSet [.ref 59, .int x] h r h' ↔ r = some (.int (oub x 1 (nI (2 ^ K - 1)))) ∧ h' = h := by
  refine Cal_iff (Cal_le (d := 1) (Cal_of rfl (fun Q hq => ?_)) hd) r h'
  show WP 0 eX6_wrongSet Q 0 [.ref 59, .int x] [] h
  have k10 := G.k10
  have e0 : h 60 0 = nI K := G.s0
  have hp : 2 ^ K ≤ 1024 := Nat.pow_le_pow_right (n := 2) (j := 10) (by omega) k10
  have hp0 : 0 < 2 ^ K := Nat.two_pow_pos K
  unfold oub at hq
  simp only [bX6_wrongSet_0, bX6_wrongSet_5, bX6_wrongSet_10, bX6_wrongSet_22, bX6_wrongSet_27, bX6_wrongSet_28, t59, r590, t60, l60, v0, c0, e0, sh1 (show K < 31 by omega), Option.toList_some, Option.toList_none, List.cons_append, List.nil_append, and_assoc, exists_and_left, exists_eq_left, true_and, and_true, Nat.reduceLeDiff, not_false_eq_true, not_true_eq_false, ↓reduceIte, eq_self, ← Int32.not_lt, ite_not, Classical.not_not]
  by_cases c : x < 1
  · simp only [c, decide_true, decide_false, not_false_eq_true, not_true_eq_false, ↓reduceIte, Bool.false_eq_true, Bool.and_true, Bool.true_and, Bool.false_and, Bool.and_false, true_and, false_and, and_true, and_false] at hq ⊢; exact hq
  · have x0 : ¬ x < 0 := fun z => c (Int32.lt_trans z (by decide))
    obtain ⟨j, hj, rfl⟩ := nI_of x0
    have e1 : (nI j < nI (2 ^ K)) = (j < 2 ^ K) := propext (nI_ltI hj (by omega))
    have e2 : (nI (2 ^ K - 1) < nI j) = (2 ^ K - 1 < j) := propext (nI_ltI (by omega) hj)
    simp only [c, e1, e2, decide_true, decide_false, not_false_eq_true, not_true_eq_false, ↓reduceIte, Bool.false_eq_true, Bool.and_true, Bool.true_and, Bool.false_and, Bool.and_false, true_and, false_and, and_true, and_false] at hq ⊢
    by_cases c2 : j < 2 ^ K
    · simp only [c2, show ¬ 2 ^ K - 1 < j by omega, decide_true, decide_false, not_false_eq_true, not_true_eq_false, ↓reduceIte, Bool.false_eq_true, Bool.and_true, Bool.true_and, Bool.false_and, Bool.and_false, true_and, false_and, and_true, and_false] at hq ⊢; exact hq
    · simp only [c2, show 2 ^ K - 1 < j by omega, decide_true, decide_false, not_false_eq_true, not_true_eq_false, ↓reduceIte, Bool.false_eq_true, Bool.and_true, Bool.true_and, Bool.false_and, Bool.and_false, true_and, false_and, and_true, and_false] at hq ⊢; exact hq
end R6
theorem r_anew (t : Int32) : KR eX6_anew [.int t] (f_anew t) := by
  refine KR_of66 rfl (fun h K M GS G Q hq x0 => ?_)
  show WP 10 eX6_anew Q 0 [.ref 59, .int t, mU, mU, mU, mU] [] (mPut h 66 x0)
  have g0 : mv 60 h 0 = nI K := G.s0
  have g1 : mv 60 h 1 = nI M := G.s1
  have e0 : ∀ x, mPut h 66 x 60 0 = nI K := fun x => by rw [q60]; exact G.s0
  have e1 : ∀ x, mPut h 66 x 60 1 = nI M := fun x => by rw [q60]; exact G.s1
  have k10 := G.k10
  have m5 := G.m5
  have gk := gdkN G
  have gm := gdmN G
  unfold f_anew at hq
  simp only [mS_1, mS_if, mS_im, mS_ln, mS_l, mS_rn, mS_r, mS_q, g0, g1, bno, gk, gm] at hq
  simp only [bX6_anew_0, bX6_anew_5, bX6_anew_9, bX6_anew_12, bX6_anew_17, bX6_anew_18, t59, r590, r594, r595, r596, r599, t60, l60, v0, c0, c1, c2, c3, k6_isKey (show 2 ≤ 10 by omega) (e0 _) k10, k6_isMachine (show 2 ≤ 10 by omega) (e1 _) m5, k6_no (show 1 ≤ 10 by omega) rc1, k6_no (show 1 ≤ 10 by omega) rc2, k6_no (show 1 ≤ 10 by omega) rc3, k6_no (show 1 ≤ 10 by omega) rc4, k6_no (show 1 ≤ 10 by omega) rc6, k6_isTooth (show 2 ≤ 10 by omega), k6_isIn (show 1 ≤ 10 by omega), k6_wrong (show 1 ≤ 10 by omega), isin_01, bz0, ite_bz, e0, e1, Option.toList_some, Option.toList_none, List.cons_append, List.nil_append, and_assoc, exists_and_left, exists_eq_left, true_and, and_true, Nat.reduceLeDiff, not_false_eq_true, not_true_eq_false, ↓reduceIte, eq_self, ← Int32.not_lt, ite_not, Classical.not_not]
  by_cases t1 : t = -1
  · have z : (-1 : Int32) < 0 := by decide
    simp only [t1, z, decide_true, decide_false, not_false_eq_true, not_true_eq_false, ↓reduceIte, Bool.false_eq_true, Bool.and_true, Bool.true_and, Bool.false_and, Bool.and_false, true_and, false_and, and_true, and_false] at hq ⊢
    rw [bX6_anew_28]
    have a99 : r99 (fun t => nI (anw (mv 60 h) K t)) := fun t ht => ⟨_, anw_99 _ _ _, rfl⟩
    have key := wl (fun i => WP 10 eX6_anew Q 32 [.ref 59, .int (-1), .int 0, .int (nI i), mU, mU] [] (mPut h 66 (pT (fun t => nI (anw (mv 60 h) K t)) x0 i))) 5 ?_ 5 0 (by omega) ?_
    · rw [pT_0] at key; exact key
    · intro i hi hw
      have e := pT_succ (fun t => nI (anw (mv 60 h) K t)) x0 i
      rw [bX6_anew_32]
      simp only [bX6_anew_37, bX6_anew_47, bX6_anew_48, show (5 : Int32) = nI 5 from rfl, nlt (show i ≤ 100000 by omega) (show 5 ≤ 100000 by omega), hi, k6_anewOf (show 3 ≤ 10 by omega) (G66 G _) hi, mv66, t66, l66, vp_nI hi (show 5 ≤ 100 by omega), nI_cl (show i < 100 by omega), mPut_self, mPut_put, e, nI_1, t59, r590, r594, r595, r596, r599, t60, l60, v0, c0, c1, c2, c3, k6_isKey (show 2 ≤ 10 by omega) (e0 _) k10, k6_isMachine (show 2 ≤ 10 by omega) (e1 _) m5, k6_no (show 1 ≤ 10 by omega) rc1, k6_no (show 1 ≤ 10 by omega) rc2, k6_no (show 1 ≤ 10 by omega) rc3, k6_no (show 1 ≤ 10 by omega) rc4, k6_no (show 1 ≤ 10 by omega) rc6, k6_isTooth (show 2 ≤ 10 by omega), k6_isIn (show 1 ≤ 10 by omega), k6_wrong (show 1 ≤ 10 by omega), isin_01, bz0, ite_bz, e0, e1, Option.toList_some, Option.toList_none, List.cons_append, List.nil_append, and_assoc, exists_and_left, exists_eq_left, true_and, and_true, Nat.reduceLeDiff, not_false_eq_true, not_true_eq_false, ↓reduceIte, eq_self, ← Int32.not_lt, ite_not, Classical.not_not]
      exact hw
    · simp only [bX6_anew_32, bX6_anew_54, show (5 : Int32) = nI 5 from rfl, nlt (show 5 ≤ 100000 by omega) (show 5 ≤ 100000 by omega), Nat.lt_irrefl, Option.toList_some, Option.toList_none, List.cons_append, List.nil_append, and_assoc, exists_and_left, exists_eq_left, true_and, and_true, Nat.reduceLeDiff, not_false_eq_true, not_true_eq_false, ↓reduceIte, eq_self, ← Int32.not_lt, ite_not, Classical.not_not]
      refine wl (fun i => ∀ u v, WP 10 eX6_anew Q 56 [.ref 59, .int (-1), .int (nI (ct (fun k => !snb (mv 60 h) k && fitb (rowF (mv 60 h) k) (fun t => nI (anw (mv 60 h) K t)) (mv 60 h 3)) i)), .int (nI i), u, v] [] (mPut h 66 (pT (fun t => nI (anw (mv 60 h) K t)) x0 5))) K ?_ K 0 (by omega) ?_ _ _
      · intro i hi hw u v
        have i10 : i < 10 := by omega
        have hw := hw
        rw [ct] at hw
        have s0 : ∀ b, WP 10 eX6_anew Q 79 [.ref 59, .int (-1), .int (nI (ct (fun k => !snb (mv 60 h) k && fitb (rowF (mv 60 h) k) (fun t => nI (anw (mv 60 h) K t)) (mv 60 h 3)) i)), .int (nI i), u, v] [.int (bz b)] (mPut h 66 (pT (fun t => nI (anw (mv 60 h) K t)) x0 5)) ↔ WP 10 eX6_anew Q 136 [.ref 59, .int (-1), .int (nI (ct (fun k => !snb (mv 60 h) k && fitb (rowF (mv 60 h) k) (fun t => nI (anw (mv 60 h) K t)) (mv 60 h 3)) i)), .int (nI i), .int (bz (b && fitb (rowF (mv 60 h) i) (fun t => nI (anw (mv 60 h) K t)) (mv 60 h 3))), .int (nI 5)] [] (mPut h 66 (pT (fun t => nI (anw (mv 60 h) K t)) x0 5)) := by
          intro b
          rw [bX6_anew_79]
          have st : ∀ t, t < 5 → ∀ c : Bool, WP 10 eX6_anew Q 84 [.ref 59, .int (-1), .int (nI (ct (fun k => !snb (mv 60 h) k && fitb (rowF (mv 60 h) k) (fun t => nI (anw (mv 60 h) K t)) (mv 60 h 3)) i)), .int (nI i), .int (bz c), .int (nI t)] [] (mPut h 66 (pT (fun t => nI (anw (mv 60 h) K t)) x0 5)) = WP 10 eX6_anew Q 84 [.ref 59, .int (-1), .int (nI (ct (fun k => !snb (mv 60 h) k && fitb (rowF (mv 60 h) k) (fun t => nI (anw (mv 60 h) K t)) (mv 60 h 3)) i)), .int (nI i), .int (bz (c && decide (¬ mv 60 h 3 < ap (rowF (mv 60 h) i t) (nI (anw (mv 60 h) K t))))), .int (nI (t + 1))] [] (mPut h 66 (pT (fun t => nI (anw (mv 60 h) K t)) x0 5)) := by
            intro t ht c
            conv => lhs; rw [bX6_anew_84]
            have ec := ap_comm (rowF (mv 60 h) i t) (nI (anw (mv 60 h) K t))
            simp only [bX6_anew_90, bX6_anew_109, bX6_anew_113, bX6_anew_122, bX6_anew_126, bX6_anew_127, show (5 : Int32) = nI 5 from rfl, nlt (show t ≤ 100000 by omega) (show 5 ≤ 100000 by omega), ht, t66, l66, vp_nI ht (show 5 ≤ 100 by omega), nI_cl (show t < 100 by omega), k6_of (show 1 ≤ 10 by omega), v89 (show 9 + 7 * i + t < 89 by omega), nI_cl (show 9 + 7 * i + t < 100 by omega), q60, mvE (c := 60) (h := h) (show 9 + 7 * i + t < 89 by omega), mvE (c := 60) (h := h) (show 3 < 89 by omega), mPut_self, pT_lt ht, k6_apart (show 1 ≤ 10 by omega), ← bz_and, nI_1, t59, r590, r594, r595, r596, r599, t60, l60, v0, c0, c1, c2, c3, k6_isKey (show 2 ≤ 10 by omega) (e0 _) k10, k6_isMachine (show 2 ≤ 10 by omega) (e1 _) m5, k6_no (show 1 ≤ 10 by omega) rc1, k6_no (show 1 ≤ 10 by omega) rc2, k6_no (show 1 ≤ 10 by omega) rc3, k6_no (show 1 ≤ 10 by omega) rc4, k6_no (show 1 ≤ 10 by omega) rc6, k6_isTooth (show 2 ≤ 10 by omega), k6_isIn (show 1 ≤ 10 by omega), k6_wrong (show 1 ≤ 10 by omega), isin_01, bz0, ite_bz, e0, e1, Option.toList_some, Option.toList_none, List.cons_append, List.nil_append, and_assoc, exists_and_left, exists_eq_left, true_and, and_true, Nat.reduceLeDiff, not_false_eq_true, not_true_eq_false, ↓reduceIte, eq_self, ← Int32.not_lt, ite_not, Classical.not_not]
            rw [show mv 60 h (9 + 7 * i + t) = rowF (mv 60 h) i t from rfl, ec]
            by_cases cc : mv 60 h 3 < ap (nI (anw (mv 60 h) K t)) (rowF (mv 60 h) i t) <;> simp only [cc, decide_true, decide_false, not_false_eq_true, not_true_eq_false, ↓reduceIte, Bool.false_eq_true, Bool.and_true, Bool.true_and, Bool.false_and, Bool.and_false, true_and, false_and, and_true, and_false, bzt, bzf]
          have e5 : ∀ c : Bool, WP 10 eX6_anew Q 84 [.ref 59, .int (-1), .int (nI (ct (fun k => !snb (mv 60 h) k && fitb (rowF (mv 60 h) k) (fun t => nI (anw (mv 60 h) K t)) (mv 60 h 3)) i)), .int (nI i), .int (bz c), .int (nI 5)] [] (mPut h 66 (pT (fun t => nI (anw (mv 60 h) K t)) x0 5)) = WP 10 eX6_anew Q 136 [.ref 59, .int (-1), .int (nI (ct (fun k => !snb (mv 60 h) k && fitb (rowF (mv 60 h) k) (fun t => nI (anw (mv 60 h) K t)) (mv 60 h 3)) i)), .int (nI i), .int (bz c), .int (nI 5)] [] (mPut h 66 (pT (fun t => nI (anw (mv 60 h) K t)) x0 5)) := by
            intro c
            simp only [bX6_anew_84, show (5 : Int32) = nI 5 from rfl, nlt (show 5 ≤ 100000 by omega) (show 5 ≤ 100000 by omega), Nat.lt_irrefl, Option.toList_some, Option.toList_none, List.cons_append, List.nil_append, and_assoc, exists_and_left, exists_eq_left, true_and, and_true, Nat.reduceLeDiff, not_false_eq_true, not_true_eq_false, ↓reduceIte, eq_self, ← Int32.not_lt, ite_not, Classical.not_not]
          rw [← alb_fit (f := rowF (mv 60 h) i) (p := fun t => nI (anw (mv 60 h) K t))]
          have s1 := st 0 (by omega) b
          have s2 := st 1 (by omega) (b && decide (¬ mv 60 h 3 < ap (rowF (mv 60 h) i 0) (nI (anw (mv 60 h) K 0))))
          have s3 := st 2 (by omega) (b && decide (¬ mv 60 h 3 < ap (rowF (mv 60 h) i 0) (nI (anw (mv 60 h) K 0))) && decide (¬ mv 60 h 3 < ap (rowF (mv 60 h) i 1) (nI (anw (mv 60 h) K 1))))
          show WP 10 eX6_anew Q 84 [_, _, _, _, .int (bz b), .int (nI 0)] [] _ ↔ _
          rw [st 0 (by omega), st 1 (by omega), st 2 (by omega), st 3 (by omega), st 4 (by omega), e5]
          simp only [alb, Bool.true_and, Bool.and_assoc]
        rw [bX6_anew_56]
        simp only [bX6_anew_66, bX6_anew_71, bX6_anew_74, bX6_anew_78, nlt (show i ≤ 100000 by omega) (show K ≤ 100000 by omega), hi, k6_isSnapped (show 2 ≤ 10 by omega) (G66 G _) i10, mv66, t59, r590, r594, r595, r596, r599, t60, l60, v0, c0, c1, c2, c3, k6_isKey (show 2 ≤ 10 by omega) (e0 _) k10, k6_isMachine (show 2 ≤ 10 by omega) (e1 _) m5, k6_no (show 1 ≤ 10 by omega) rc1, k6_no (show 1 ≤ 10 by omega) rc2, k6_no (show 1 ≤ 10 by omega) rc3, k6_no (show 1 ≤ 10 by omega) rc4, k6_no (show 1 ≤ 10 by omega) rc6, k6_isTooth (show 2 ≤ 10 by omega), k6_isIn (show 1 ≤ 10 by omega), k6_wrong (show 1 ≤ 10 by omega), isin_01, bz0, ite_bz, e0, e1, Option.toList_some, Option.toList_none, List.cons_append, List.nil_append, and_assoc, exists_and_left, exists_eq_left, true_and, and_true, Nat.reduceLeDiff, not_false_eq_true, not_true_eq_false, ↓reduceIte, eq_self, ← Int32.not_lt, ite_not, Classical.not_not]
        have fin0 : WP 10 eX6_anew Q 136 [.ref 59, .int (-1), .int (nI (ct (fun k => !snb (mv 60 h) k && fitb (rowF (mv 60 h) k) (fun t => nI (anw (mv 60 h) K t)) (mv 60 h 3)) i)), .int (nI i), .int (bz (!snb (mv 60 h) i && fitb (rowF (mv 60 h) i) (fun t => nI (anw (mv 60 h) K t)) (mv 60 h 3))), .int (nI 5)] [] (mPut h 66 (pT (fun t => nI (anw (mv 60 h) K t)) x0 5)) := by
          simp only [bX6_anew_136, bX6_anew_142, bX6_anew_146, bX6_anew_147, bz0, ite_bz, nI_1, Option.toList_some, Option.toList_none, List.cons_append, List.nil_append, and_assoc, exists_and_left, exists_eq_left, true_and, and_true, Nat.reduceLeDiff, not_false_eq_true, not_true_eq_false, ↓reduceIte, eq_self, ← Int32.not_lt, ite_not, Classical.not_not]
          cases cc : (!snb (mv 60 h) i && fitb (rowF (mv 60 h) i) (fun t => nI (anw (mv 60 h) K t)) (mv 60 h 3)) <;> simp only [cc, decide_true, decide_false, not_false_eq_true, not_true_eq_false, ↓reduceIte, Bool.false_eq_true, Bool.and_true, Bool.true_and, Bool.false_and, Bool.and_false, true_and, false_and, and_true, and_false, nI_1, Int32.add_zero, Nat.add_zero] at hw ⊢ <;> exact hw _ _
        have := (s0 (!snb (mv 60 h) i)).mpr fin0
        cases cc : snb (mv 60 h) i <;> simp only [cc, decide_true, decide_false, not_false_eq_true, not_true_eq_false, ↓reduceIte, Bool.false_eq_true, Bool.and_true, Bool.true_and, Bool.false_and, Bool.and_false, true_and, false_and, and_true, and_false, Bool.not_true, Bool.not_false, bzt, bzf] at this ⊢ <;> exact this
      · intro u v
        simp only [bX6_anew_56, bX6_anew_155, nlt (show K ≤ 100000 by omega) (show K ≤ 100000 by omega), Nat.lt_irrefl, t59, r590, r594, r595, r596, r599, t60, l60, v0, c0, c1, c2, c3, k6_isKey (show 2 ≤ 10 by omega) (e0 _) k10, k6_isMachine (show 2 ≤ 10 by omega) (e1 _) m5, k6_no (show 1 ≤ 10 by omega) rc1, k6_no (show 1 ≤ 10 by omega) rc2, k6_no (show 1 ≤ 10 by omega) rc3, k6_no (show 1 ≤ 10 by omega) rc4, k6_no (show 1 ≤ 10 by omega) rc6, k6_isTooth (show 2 ≤ 10 by omega), k6_isIn (show 1 ≤ 10 by omega), k6_wrong (show 1 ≤ 10 by omega), isin_01, bz0, ite_bz, e0, e1, Option.toList_some, Option.toList_none, List.cons_append, List.nil_append, and_assoc, exists_and_left, exists_eq_left, true_and, and_true, Nat.reduceLeDiff, not_false_eq_true, not_true_eq_false, ↓reduceIte, eq_self, ← Int32.not_lt, ite_not, Classical.not_not]
        exact hq _ mS_66 frR_66
  · simp only [t1, decide_true, decide_false, not_false_eq_true, not_true_eq_false, ↓reduceIte, Bool.false_eq_true, Bool.and_true, Bool.true_and, Bool.false_and, Bool.and_false, true_and, false_and, and_true, and_false] at hq ⊢
    cases c : ik t 5 with
    | false => simp only [c, decide_true, decide_false, not_false_eq_true, not_true_eq_false, ↓reduceIte, Bool.false_eq_true, Bool.and_true, Bool.true_and, Bool.false_and, Bool.and_false, true_and, false_and, and_true, and_false] at hq ⊢; exact hq _ (mS_rf _) (frR_rf _)
    | true =>
      obtain ⟨u, hu, rfl⟩ := ik5t c
      simp only [c, decide_true, decide_false, not_false_eq_true, not_true_eq_false, ↓reduceIte, Bool.false_eq_true, Bool.and_true, Bool.true_and, Bool.false_and, Bool.and_false, true_and, false_and, and_true, and_false, xN_n (show u < 100000 by omega), nnn (show u ≤ 100000 by omega)] at hq ⊢
      simp only [bX6_anew_22, bX6_anew_27, k6_anewOf (show 3 ≤ 10 by omega) (G66 G _) hu, mv66, t59, r590, r594, r595, r596, r599, t60, l60, v0, c0, c1, c2, c3, k6_isKey (show 2 ≤ 10 by omega) (e0 _) k10, k6_isMachine (show 2 ≤ 10 by omega) (e1 _) m5, k6_no (show 1 ≤ 10 by omega) rc1, k6_no (show 1 ≤ 10 by omega) rc2, k6_no (show 1 ≤ 10 by omega) rc3, k6_no (show 1 ≤ 10 by omega) rc4, k6_no (show 1 ≤ 10 by omega) rc6, k6_isTooth (show 2 ≤ 10 by omega), k6_isIn (show 1 ≤ 10 by omega), k6_wrong (show 1 ≤ 10 by omega), isin_01, bz0, ite_bz, e0, e1, Option.toList_some, Option.toList_none, List.cons_append, List.nil_append, and_assoc, exists_and_left, exists_eq_left, true_and, and_true, Nat.reduceLeDiff, not_false_eq_true, not_true_eq_false, ↓reduceIte, eq_self, ← Int32.not_lt, ite_not, Classical.not_not]
      exact hq _ mS_66 frR_66
theorem r_first (n t : Int32) : KR eX6_first [.int n, .int t] (f_first n t) := by
  refine KR_of66 rfl (fun h K M GS G Q hq x0 => ?_)
  show WP 10 eX6_first Q 0 [.ref 59, .int n, .int t, mU] [] (mPut h 66 x0)
  have g0 : mv 60 h 0 = nI K := G.s0
  have g1 : mv 60 h 1 = nI M := G.s1
  have e0 : ∀ x, mPut h 66 x 60 0 = nI K := fun x => by rw [q60]; exact G.s0
  have e1 : ∀ x, mPut h 66 x 60 1 = nI M := fun x => by rw [q60]; exact G.s1
  have k10 := G.k10
  have m5 := G.m5
  have gk := gdkN G
  have gm := gdmN G
  unfold f_first at hq
  simp only [mS_1, mS_if, mS_im, mS_ln, mS_l, mS_rn, mS_r, mS_q, g0, g1, bno, gk, gm] at hq
  simp only [bX6_first_0, bX6_first_5, k6_wrongSet (show 1 ≤ 10 by omega) (G66 G _), t59, r590, r594, r595, r596, r599, t60, l60, v0, c0, c1, c2, c3, k6_isKey (show 2 ≤ 10 by omega) (e0 _) k10, k6_isMachine (show 2 ≤ 10 by omega) (e1 _) m5, k6_no (show 1 ≤ 10 by omega) rc1, k6_no (show 1 ≤ 10 by omega) rc2, k6_no (show 1 ≤ 10 by omega) rc3, k6_no (show 1 ≤ 10 by omega) rc4, k6_no (show 1 ≤ 10 by omega) rc6, k6_isTooth (show 2 ≤ 10 by omega), k6_isIn (show 1 ≤ 10 by omega), k6_wrong (show 1 ≤ 10 by omega), isin_01, bz0, ite_bz, e0, e1, Option.toList_some, Option.toList_none, List.cons_append, List.nil_append, and_assoc, exists_and_left, exists_eq_left, true_and, and_true, Nat.reduceLeDiff, not_false_eq_true, not_true_eq_false, ↓reduceIte, eq_self, ← Int32.not_lt, ite_not, Classical.not_not]
  by_cases o : oub n 1 (nI (2 ^ K - 1)) = 0
  · obtain ⟨m, hm, _, rfl⟩ := set_in k10 o
    simp only [o, decide_true, decide_false, not_false_eq_true, not_true_eq_false, ↓reduceIte, Bool.false_eq_true, Bool.and_true, Bool.true_and, Bool.false_and, Bool.and_false, true_and, false_and, and_true, and_false, xN_n (show m < 100000 by omega)] at hq ⊢
    simp only [bX6_first_10, bX6_first_14, bX6_first_17, t59, r590, r594, r595, r596, r599, t60, l60, v0, c0, c1, c2, c3, k6_isKey (show 2 ≤ 10 by omega) (e0 _) k10, k6_isMachine (show 2 ≤ 10 by omega) (e1 _) m5, k6_no (show 1 ≤ 10 by omega) rc1, k6_no (show 1 ≤ 10 by omega) rc2, k6_no (show 1 ≤ 10 by omega) rc3, k6_no (show 1 ≤ 10 by omega) rc4, k6_no (show 1 ≤ 10 by omega) rc6, k6_isTooth (show 2 ≤ 10 by omega), k6_isIn (show 1 ≤ 10 by omega), k6_wrong (show 1 ≤ 10 by omega), isin_01, bz0, ite_bz, e0, e1, Option.toList_some, Option.toList_none, List.cons_append, List.nil_append, and_assoc, exists_and_left, exists_eq_left, true_and, and_true, Nat.reduceLeDiff, not_false_eq_true, not_true_eq_false, ↓reduceIte, eq_self, ← Int32.not_lt, ite_not, Classical.not_not]
    cases c : ik t 5 with
    | false =>
      simp only [c, decide_true, decide_false, not_false_eq_true, not_true_eq_false, ↓reduceIte, Bool.false_eq_true, Bool.and_true, Bool.true_and, Bool.false_and, Bool.and_false, true_and, false_and, and_true, and_false] at hq ⊢
      simp only [bX6_first_19, bX6_first_23, bX6_first_28, bX6_first_40, show ¬ (-1 : Int32) = 0 by decide, t59, r590, r594, r595, r596, r599, t60, l60, v0, c0, c1, c2, c3, k6_isKey (show 2 ≤ 10 by omega) (e0 _) k10, k6_isMachine (show 2 ≤ 10 by omega) (e1 _) m5, k6_no (show 1 ≤ 10 by omega) rc1, k6_no (show 1 ≤ 10 by omega) rc2, k6_no (show 1 ≤ 10 by omega) rc3, k6_no (show 1 ≤ 10 by omega) rc4, k6_no (show 1 ≤ 10 by omega) rc6, k6_isTooth (show 2 ≤ 10 by omega), k6_isIn (show 1 ≤ 10 by omega), k6_wrong (show 1 ≤ 10 by omega), isin_01, bz0, ite_bz, e0, e1, Option.toList_some, Option.toList_none, List.cons_append, List.nil_append, and_assoc, exists_and_left, exists_eq_left, true_and, and_true, Nat.reduceLeDiff, not_false_eq_true, not_true_eq_false, ↓reduceIte, eq_self, ← Int32.not_lt, ite_not, Classical.not_not]
      exact hq _ (mS_rf _) (frR_rf _)
    | true =>
      obtain ⟨u, hu, rfl⟩ := ik5t c
      simp only [c, decide_true, decide_false, not_false_eq_true, not_true_eq_false, ↓reduceIte, Bool.false_eq_true, Bool.and_true, Bool.true_and, Bool.false_and, Bool.and_false, true_and, false_and, and_true, and_false, xN_n (show u < 100000 by omega)] at hq ⊢
      simp only [bX6_first_19, bX6_first_31, bX6_first_37, bX6_first_40, k6_middle (show 2 ≤ 10 by omega) (G66 G _) hm hu, mv66, k6_code (show 2 ≤ 10 by omega), t59, r590, r594, r595, r596, r599, t60, l60, v0, c0, c1, c2, c3, k6_isKey (show 2 ≤ 10 by omega) (e0 _) k10, k6_isMachine (show 2 ≤ 10 by omega) (e1 _) m5, k6_no (show 1 ≤ 10 by omega) rc1, k6_no (show 1 ≤ 10 by omega) rc2, k6_no (show 1 ≤ 10 by omega) rc3, k6_no (show 1 ≤ 10 by omega) rc4, k6_no (show 1 ≤ 10 by omega) rc6, k6_isTooth (show 2 ≤ 10 by omega), k6_isIn (show 1 ≤ 10 by omega), k6_wrong (show 1 ≤ 10 by omega), isin_01, bz0, ite_bz, e0, e1, Option.toList_some, Option.toList_none, List.cons_append, List.nil_append, and_assoc, exists_and_left, exists_eq_left, true_and, and_true, Nat.reduceLeDiff, not_false_eq_true, not_true_eq_false, ↓reduceIte, eq_self, ← Int32.not_lt, ite_not, Classical.not_not]
      exact hq _ mS_66 frR_66
  · simp only [o, decide_true, decide_false, not_false_eq_true, not_true_eq_false, ↓reduceIte, Bool.false_eq_true, Bool.and_true, Bool.true_and, Bool.false_and, Bool.and_false, true_and, false_and, and_true, and_false] at hq ⊢
    simp only [bX6_first_19, bX6_first_23, bX6_first_28, bX6_first_40, o, t59, k6_no (show 1 ≤ 10 by omega) (oub_r o), Option.toList_some, Option.toList_none, List.cons_append, List.nil_append, and_assoc, exists_and_left, exists_eq_left, true_and, and_true, Nat.reduceLeDiff, not_false_eq_true, not_true_eq_false, ↓reduceIte, eq_self, ← Int32.not_lt, ite_not, Classical.not_not]
    exact hq _ (mS_rf _) (frR_rf _)
theorem r_unlike (n x : Int32) : KR eX6_unlike [.int n, .int x] (f_unlike n x) := by
  refine KR_of66 rfl (fun h K M GS G Q hq x0 => ?_)
  show WP 10 eX6_unlike Q 0 [.ref 59, .int n, .int x, mU, mU, mU] [] (mPut h 66 x0)
  have g0 : mv 60 h 0 = nI K := G.s0
  have g1 : mv 60 h 1 = nI M := G.s1
  have e0 : ∀ x, mPut h 66 x 60 0 = nI K := fun x => by rw [q60]; exact G.s0
  have e1 : ∀ x, mPut h 66 x 60 1 = nI M := fun x => by rw [q60]; exact G.s1
  have k10 := G.k10
  have m5 := G.m5
  have gk := gdkN G
  have gm := gdmN G
  unfold f_unlike at hq
  simp only [mS_1, mS_if, mS_im, mS_ln, mS_l, mS_rn, mS_r, mS_q, g0, g1, bno, gk, gm] at hq
  simp only [bX6_unlike_0, bX6_unlike_5, k6_wrongSet (show 1 ≤ 10 by omega) (G66 G _), t59, r590, r594, r595, r596, r599, t60, l60, v0, c0, c1, c2, c3, k6_isKey (show 2 ≤ 10 by omega) (e0 _) k10, k6_isMachine (show 2 ≤ 10 by omega) (e1 _) m5, k6_no (show 1 ≤ 10 by omega) rc1, k6_no (show 1 ≤ 10 by omega) rc2, k6_no (show 1 ≤ 10 by omega) rc3, k6_no (show 1 ≤ 10 by omega) rc4, k6_no (show 1 ≤ 10 by omega) rc6, k6_isTooth (show 2 ≤ 10 by omega), k6_isIn (show 1 ≤ 10 by omega), k6_wrong (show 1 ≤ 10 by omega), isin_01, bz0, ite_bz, e0, e1, Option.toList_some, Option.toList_none, List.cons_append, List.nil_append, and_assoc, exists_and_left, exists_eq_left, true_and, and_true, Nat.reduceLeDiff, not_false_eq_true, not_true_eq_false, ↓reduceIte, eq_self, ← Int32.not_lt, ite_not, Classical.not_not]
  by_cases o : oub n 1 (nI (2 ^ K - 1)) = 0
  · obtain ⟨m, hm, _, rfl⟩ := set_in k10 o
    simp only [o, decide_true, decide_false, not_false_eq_true, not_true_eq_false, ↓reduceIte, Bool.false_eq_true, Bool.and_true, Bool.true_and, Bool.false_and, Bool.and_false, true_and, false_and, and_true, and_false, xN_n (show m < 100000 by omega)] at hq ⊢
    simp only [bX6_unlike_10, bX6_unlike_15, bX6_unlike_18, t59, r590, r594, r595, r596, r599, t60, l60, v0, c0, c1, c2, c3, k6_isKey (show 2 ≤ 10 by omega) (e0 _) k10, k6_isMachine (show 2 ≤ 10 by omega) (e1 _) m5, k6_no (show 1 ≤ 10 by omega) rc1, k6_no (show 1 ≤ 10 by omega) rc2, k6_no (show 1 ≤ 10 by omega) rc3, k6_no (show 1 ≤ 10 by omega) rc4, k6_no (show 1 ≤ 10 by omega) rc6, k6_isTooth (show 2 ≤ 10 by omega), k6_isIn (show 1 ≤ 10 by omega), k6_wrong (show 1 ≤ 10 by omega), isin_01, bz0, ite_bz, e0, e1, Option.toList_some, Option.toList_none, List.cons_append, List.nil_append, and_assoc, exists_and_left, exists_eq_left, true_and, and_true, Nat.reduceLeDiff, not_false_eq_true, not_true_eq_false, ↓reduceIte, eq_self, ← Int32.not_lt, ite_not, Classical.not_not]
    cases c : ik x (nI K) with
    | false =>
      simp only [c, decide_true, decide_false, not_false_eq_true, not_true_eq_false, ↓reduceIte, Bool.false_eq_true, Bool.and_true, Bool.true_and, Bool.false_and, Bool.and_false, true_and, false_and, and_true, and_false] at hq ⊢
      simp only [bX6_unlike_20, bX6_unlike_24, bX6_unlike_29, show ¬ (-1 : Int32) = 0 by decide, t59, r590, r594, r595, r596, r599, t60, l60, v0, c0, c1, c2, c3, k6_isKey (show 2 ≤ 10 by omega) (e0 _) k10, k6_isMachine (show 2 ≤ 10 by omega) (e1 _) m5, k6_no (show 1 ≤ 10 by omega) rc1, k6_no (show 1 ≤ 10 by omega) rc2, k6_no (show 1 ≤ 10 by omega) rc3, k6_no (show 1 ≤ 10 by omega) rc4, k6_no (show 1 ≤ 10 by omega) rc6, k6_isTooth (show 2 ≤ 10 by omega), k6_isIn (show 1 ≤ 10 by omega), k6_wrong (show 1 ≤ 10 by omega), isin_01, bz0, ite_bz, e0, e1, Option.toList_some, Option.toList_none, List.cons_append, List.nil_append, and_assoc, exists_and_left, exists_eq_left, true_and, and_true, Nat.reduceLeDiff, not_false_eq_true, not_true_eq_false, ↓reduceIte, eq_self, ← Int32.not_lt, ite_not, Classical.not_not]
      exact hq _ (mS_rf _) (frR_rf _)
    | true =>
      obtain ⟨k, hk, rfl⟩ := ikt (by omega) c
      simp only [c, decide_true, decide_false, not_false_eq_true, not_true_eq_false, ↓reduceIte, Bool.false_eq_true, Bool.and_true, Bool.true_and, Bool.false_and, Bool.and_false, true_and, false_and, and_true, and_false, xN_n (show k < 100000 by omega)] at hq ⊢
      simp only [bX6_unlike_20, bX6_unlike_30, Option.toList_some, Option.toList_none, List.cons_append, List.nil_append, and_assoc, exists_and_left, exists_eq_left, true_and, and_true, Nat.reduceLeDiff, not_false_eq_true, not_true_eq_false, ↓reduceIte, eq_self, ← Int32.not_lt, ite_not, Classical.not_not]
      refine wl (fun i => WP 10 eX6_unlike Q 36 [.ref 59, .int (nI m), .int (nI k), .int 0, .int (nI (ct (ulk (mv 60 h) K m k) i)), .int (nI i)] [] (mPut h 66 x0)) 5 ?_ 5 0 (by omega) ?_
      · intro i hi hw
        rw [ct, show ulk (mv 60 h) K m k i = decide (¬ jcode (mid (mv 60 h) K m i) = jcode (mv 60 h (9 + 7 * k + i))) from rfl] at hw
        rw [bX6_unlike_36]
        simp only [bX6_unlike_42, bX6_unlike_51, bX6_unlike_54, bX6_unlike_64, bX6_unlike_68, bX6_unlike_71, bX6_unlike_75, bX6_unlike_76, show (5 : Int32) = nI 5 from rfl, nlt (show i ≤ 100000 by omega) (show 5 ≤ 100000 by omega), hi, k6_middle (show 2 ≤ 10 by omega) (G66 G _) hm hi, mv66, k6_code (show 2 ≤ 10 by omega), k6_of (show 1 ≤ 10 by omega), v89 (show 9 + 7 * k + i < 89 by omega), nI_cl (show 9 + 7 * k + i < 100 by omega), q60, mvE (c := 60) (h := h) (show 9 + 7 * k + i < 89 by omega), nI_1, t59, r590, r594, r595, r596, r599, t60, l60, v0, c0, c1, c2, c3, k6_isKey (show 2 ≤ 10 by omega) (e0 _) k10, k6_isMachine (show 2 ≤ 10 by omega) (e1 _) m5, k6_no (show 1 ≤ 10 by omega) rc1, k6_no (show 1 ≤ 10 by omega) rc2, k6_no (show 1 ≤ 10 by omega) rc3, k6_no (show 1 ≤ 10 by omega) rc4, k6_no (show 1 ≤ 10 by omega) rc6, k6_isTooth (show 2 ≤ 10 by omega), k6_isIn (show 1 ≤ 10 by omega), k6_wrong (show 1 ≤ 10 by omega), isin_01, bz0, ite_bz, e0, e1, Option.toList_some, Option.toList_none, List.cons_append, List.nil_append, and_assoc, exists_and_left, exists_eq_left, true_and, and_true, Nat.reduceLeDiff, not_false_eq_true, not_true_eq_false, ↓reduceIte, eq_self, ← Int32.not_lt, ite_not, Classical.not_not]
        by_cases cc : jcode (mid (mv 60 h) K m i) = jcode (mv 60 h (9 + 7 * k + i)) <;> simp only [cc, decide_true, decide_false, not_false_eq_true, not_true_eq_false, ↓reduceIte, Bool.false_eq_true, Bool.and_true, Bool.true_and, Bool.false_and, Bool.and_false, true_and, false_and, and_true, and_false, nI_1, Int32.add_zero, Nat.add_zero] at hw ⊢ <;> exact hw
      · simp only [bX6_unlike_36, bX6_unlike_85, show (5 : Int32) = nI 5 from rfl, nlt (show 5 ≤ 100000 by omega) (show 5 ≤ 100000 by omega), Nat.lt_irrefl, Option.toList_some, Option.toList_none, List.cons_append, List.nil_append, and_assoc, exists_and_left, exists_eq_left, true_and, and_true, Nat.reduceLeDiff, not_false_eq_true, not_true_eq_false, ↓reduceIte, eq_self, ← Int32.not_lt, ite_not, Classical.not_not]
        exact hq _ mS_66 frR_66
  · simp only [o, decide_true, decide_false, not_false_eq_true, not_true_eq_false, ↓reduceIte, Bool.false_eq_true, Bool.and_true, Bool.true_and, Bool.false_and, Bool.and_false, true_and, false_and, and_true, and_false] at hq ⊢
    simp only [bX6_unlike_20, bX6_unlike_24, bX6_unlike_29, o, t59, k6_no (show 1 ≤ 10 by omega) (oub_r o), Option.toList_some, Option.toList_none, List.cons_append, List.nil_append, and_assoc, exists_and_left, exists_eq_left, true_and, and_true, Nat.reduceLeDiff, not_false_eq_true, not_true_eq_false, ↓reduceIte, eq_self, ← Int32.not_lt, ite_not, Classical.not_not]
    exact hq _ (mS_rf _) (frR_rf _)
theorem r_mend (x : Int32) : KR eX6_mend [.int x] (f_mend x) := by
  refine KR_of66 rfl (fun h K M GS G Q hq x0 => ?_)
  show WP 10 eX6_mend Q 0 [.ref 59, .int x, mU, mU] [] (mPut h 66 x0)
  have g0 : mv 60 h 0 = nI K := G.s0
  have g1 : mv 60 h 1 = nI M := G.s1
  have e0 : ∀ x, mPut h 66 x 60 0 = nI K := fun x => by rw [q60]; exact G.s0
  have e1 : ∀ x, mPut h 66 x 60 1 = nI M := fun x => by rw [q60]; exact G.s1
  have k10 := G.k10
  have m5 := G.m5
  have gk := gdkN G
  have gm := gdmN G
  unfold f_mend at hq
  simp only [mS_1, mS_if, mS_im, mS_ln, mS_l, mS_rn, mS_r, mS_q, g0, g1, bno, gk, gm] at hq
  simp only [bX6_mend_0, bX6_mend_5, t59, r590, r594, r595, r596, r599, t60, l60, v0, c0, c1, c2, c3, k6_isKey (show 2 ≤ 10 by omega) (e0 _) k10, k6_isMachine (show 2 ≤ 10 by omega) (e1 _) m5, k6_no (show 1 ≤ 10 by omega) rc1, k6_no (show 1 ≤ 10 by omega) rc2, k6_no (show 1 ≤ 10 by omega) rc3, k6_no (show 1 ≤ 10 by omega) rc4, k6_no (show 1 ≤ 10 by omega) rc6, k6_isTooth (show 2 ≤ 10 by omega), k6_isIn (show 1 ≤ 10 by omega), k6_wrong (show 1 ≤ 10 by omega), isin_01, bz0, ite_bz, e0, e1, Option.toList_some, Option.toList_none, List.cons_append, List.nil_append, and_assoc, exists_and_left, exists_eq_left, true_and, and_true, Nat.reduceLeDiff, not_false_eq_true, not_true_eq_false, ↓reduceIte, eq_self, ← Int32.not_lt, ite_not, Classical.not_not]
  cases c : ik x (nI K) with
  | false =>
    have kf : ∀ r h', Cal 10 eX6_noFar [.ref 59, .int (-1)] (mPut h 66 x0) r h' ↔ r = some (.int (1000000000 - (-1))) ∧ h' = rfR (mPut h 66 x0) (-1) := Cal_iff (Cal_le (d := 2) (Cal_of rfl (fun Q hq => by
      show WP 1 eX6_noFar Q 0 [.ref 59, .int (-1)] [] (mPut h 66 x0)
      simp only [bX6_noFar_0, bX6_noFar_7, t59, k6_no (Nat.le_refl 1) rc1, Option.toList_some, Option.toList_none, List.cons_append, List.nil_append, and_assoc, exists_and_left, exists_eq_left, true_and, and_true, Nat.reduceLeDiff, not_false_eq_true, not_true_eq_false, ↓reduceIte, eq_self, ← Int32.not_lt, ite_not, Classical.not_not]
      exact hq)) (by omega))
    simp only [c, decide_true, decide_false, not_false_eq_true, not_true_eq_false, ↓reduceIte, Bool.false_eq_true, Bool.and_true, Bool.true_and, Bool.false_and, Bool.and_false, true_and, false_and, and_true, and_false] at hq ⊢
    simp only [bX6_mend_8, bX6_mend_13, t59, kf, Option.toList_some, Option.toList_none, List.cons_append, List.nil_append, and_assoc, exists_and_left, exists_eq_left, true_and, and_true, Nat.reduceLeDiff, not_false_eq_true, not_true_eq_false, ↓reduceIte, eq_self, ← Int32.not_lt, ite_not, Classical.not_not]
    exact hq _ (mS_rf _) (frR_rf _)
  | true =>
    obtain ⟨k, hk, rfl⟩ := ikt (by omega) c
    have hk10 : k < 10 := by omega
    simp only [c, decide_true, decide_false, not_false_eq_true, not_true_eq_false, ↓reduceIte, Bool.false_eq_true, Bool.and_true, Bool.true_and, Bool.false_and, Bool.and_false, true_and, false_and, and_true, and_false, xN_n (show k < 100000 by omega)] at hq ⊢
    simp only [bX6_mend_14, bX6_mend_19, t59, k6_wiggleOf (show 3 ≤ 10 by omega) hk10, Option.toList_some, Option.toList_none, List.cons_append, List.nil_append, and_assoc, exists_and_left, exists_eq_left, true_and, and_true, Nat.reduceLeDiff, not_false_eq_true, not_true_eq_false, ↓reduceIte, eq_self, ← Int32.not_lt, ite_not, Classical.not_not]
    have key := wl (fun i => WP 10 eX6_mend Q 22 [.ref 59, .int (nI k), .int (wgk (mv 60 h) k), .int (nI i)] [] (mPut h 66 (pT (cdF (rowF (mv 60 h) k)) (pT (rowF (mv 60 h) k) x0 5) i))) 5 ?_ 5 0 (by omega) ?_
    · rw [pT_0] at key; exact key
    · intro i hi hw
      have e := pT_succ (cdF (rowF (mv 60 h) k)) (pT (rowF (mv 60 h) k) x0 5) i
      rw [show cdF (rowF (mv 60 h) k) i = jcode (rowF (mv 60 h) k i) from rfl] at e
      rw [bX6_mend_22]
      simp only [bX6_mend_27, bX6_mend_41, bX6_mend_42, show (5 : Int32) = nI 5 from rfl, nlt (show i ≤ 100000 by omega) (show 5 ≤ 100000 by omega), hi, t66, l66, vp_nI hi (show 5 ≤ 100 by omega), nI_cl (show i < 100 by omega), mPut_self, mPut_put, k6_code (show 2 ≤ 10 by omega), pT_ge (Nat.le_refl i), pT_lt hi, nI_1, t59, r590, r594, r595, r596, r599, t60, l60, v0, c0, c1, c2, c3, k6_isKey (show 2 ≤ 10 by omega) (e0 _) k10, k6_isMachine (show 2 ≤ 10 by omega) (e1 _) m5, k6_no (show 1 ≤ 10 by omega) rc1, k6_no (show 1 ≤ 10 by omega) rc2, k6_no (show 1 ≤ 10 by omega) rc3, k6_no (show 1 ≤ 10 by omega) rc4, k6_no (show 1 ≤ 10 by omega) rc6, k6_isTooth (show 2 ≤ 10 by omega), k6_isIn (show 1 ≤ 10 by omega), k6_wrong (show 1 ≤ 10 by omega), isin_01, bz0, ite_bz, e0, e1, Option.toList_some, Option.toList_none, List.cons_append, List.nil_append, and_assoc, exists_and_left, exists_eq_left, true_and, and_true, Nat.reduceLeDiff, not_false_eq_true, not_true_eq_false, ↓reduceIte, eq_self, ← Int32.not_lt, ite_not, Classical.not_not]
      rw [e]
      exact hw
    · simp only [bX6_mend_22, bX6_mend_48, bX6_mend_53, show (5 : Int32) = nI 5 from rfl, nlt (show 5 ≤ 100000 by omega) (show 5 ≤ 100000 by omega), Nat.lt_irrefl, pT_pT, k6_wiggle (show 2 ≤ 10 by omega), t59, r590, r594, r595, r596, r599, t60, l60, v0, c0, c1, c2, c3, k6_isKey (show 2 ≤ 10 by omega) (e0 _) k10, k6_isMachine (show 2 ≤ 10 by omega) (e1 _) m5, k6_no (show 1 ≤ 10 by omega) rc1, k6_no (show 1 ≤ 10 by omega) rc2, k6_no (show 1 ≤ 10 by omega) rc3, k6_no (show 1 ≤ 10 by omega) rc4, k6_no (show 1 ≤ 10 by omega) rc6, k6_isTooth (show 2 ≤ 10 by omega), k6_isIn (show 1 ≤ 10 by omega), k6_wrong (show 1 ≤ 10 by omega), isin_01, bz0, ite_bz, e0, e1, Option.toList_some, Option.toList_none, List.cons_append, List.nil_append, and_assoc, exists_and_left, exists_eq_left, true_and, and_true, Nat.reduceLeDiff, not_false_eq_true, not_true_eq_false, ↓reduceIte, eq_self, ← Int32.not_lt, ite_not, Classical.not_not]
      exact hq _ mS_66 frR_66
