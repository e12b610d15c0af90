section R8
variable {h : mH} {K M : Nat}
theorem k6_gcd {d : Nat} (hd : 1 ≤ d) {a b : Nat} (ha : a < 2 ^ 62) (hb : b < 2 ^ 40) (h : mH) (r : Option Value) (h' : mH) : Cal d eX6_gcd [.long (lN a), .long (lN b)] h r h' ↔ r = some (.long (lN (Nat.gcd a b))) ∧ h' = h := by
  refine Cal_iff (Cal_le (d := 1) (Cal_of rfl (fun Q hq => ?_)) hd) r h'
  show WP 0 eX6_gcd Q 0 [.long (lN a), mU, .long (lN b), mU, mU, mU, mU, mU, mU, mU] [] h
  rw [bX6_gcd_0]
  have key : ∀ (n a' b' : Nat), a' < 2 ^ 62 → b' < 2 ^ 62 → eF n a' b' → Q (some (.long (lN (Nat.gcd a' b')))) h → ∀ u v, WP 0 eX6_gcd Q 6 [.long (lN a), mU, .long (lN b), mU, .long (lN a'), mU, .long (lN b'), mU, u, v] [] h := by
    intro n
    induction n with
    | zero =>
      intro a' b' ha hb he hq u v
      have : b' = 0 := he
      subst this
      rw [Nat.gcd_zero_right] at hq
      simp only [bX6_gcd_6, bX6_gcd_31, lgc0 (show 0 < 2 ^ 63 by omega), Option.toList_some, Option.toList_none, List.cons_append, List.nil_append, and_assoc, exists_and_left, exists_eq_left, true_and, and_true, Nat.reduceLeDiff, not_false_eq_true, not_true_eq_false, ↓reduceIte, eq_self, ← Int32.not_lt, ite_not, Classical.not_not]
      exact hq
    | succ n ih =>
      intro a' b' ha hb he hq u v
      rw [bX6_gcd_6]
      by_cases c : b' = 0
      · subst c
        rw [Nat.gcd_zero_right] at hq
        simp only [bX6_gcd_31, lgc0 (show 0 < 2 ^ 63 by omega), Option.toList_some, Option.toList_none, List.cons_append, List.nil_append, and_assoc, exists_and_left, exists_eq_left, true_and, and_true, Nat.reduceLeDiff, not_false_eq_true, not_true_eq_false, ↓reduceIte, eq_self, ← Int32.not_lt, ite_not, Classical.not_not]
        exact hq
      · have he : eF n b' (a' % b') := he.resolve_left c
        have hm : a' % b' < b' := Nat.mod_lt _ (by omega)
        simp only [bX6_gcd_13, lgc0 (show b' < 2 ^ 63 by omega), lN0 (show b' < 2 ^ 63 by omega), c, jrl_n (show a' < 2 ^ 63 by omega) (show 0 < b' by omega) (show b' < 2 ^ 63 by omega), Option.toList_some, Option.toList_none, List.cons_append, List.nil_append, and_assoc, exists_and_left, exists_eq_left, true_and, and_true, Nat.reduceLeDiff, not_false_eq_true, not_true_eq_false, ↓reduceIte, eq_self, ← Int32.not_lt, ite_not, Classical.not_not]
        rw [gcd_st] at hq
        exact ih b' (a' % b') hb (by omega) he hq _ _
  exact key 80 a b ha (by omega) (eF_pow (j := 40) hb) hq _ _
theorem k6_partOf {d : Nat} (hd : 2 ≤ d) {a b : Nat} (ha : a < 2 ^ 62) (hb : b < 2 ^ 40) (hb0 : 0 < b) {p : Int32} (hp : p = 0 ∨ p = 1) (h : mH) (r : Option Value) (h' : mH) : Cal d eX6_partOf [.long (lN a), .long (lN b), .int p] h r h' ↔ r = some (.long (lN (if p = 0 then a / Nat.gcd a b else b / Nat.gcd a b))) ∧ h' = h := by
  refine Cal_iff (Cal_le (d := 2) (Cal_of rfl (fun Q hq => ?_)) hd) r h'
  show WP 1 eX6_partOf Q 0 [.long (lN a), mU, .long (lN b), mU, .int p] [] h
  have q4 : 0 < Nat.gcd a b := Nat.gcd_pos_of_pos_right _ hb0
  have q5 : Nat.gcd a b ≤ b := Nat.gcd_le_right _ hb0
  simp only [bX6_partOf_0, bX6_partOf_6, bX6_partOf_10, bX6_partOf_15, bX6_partOf_19, bX6_partOf_20, lgc0 (show a < 2 ^ 63 by omega), k6_gcd (Nat.le_refl 1) ha hb, Option.toList_some, Option.toList_none, List.cons_append, List.nil_append, and_assoc, exists_and_left, exists_eq_left, true_and, and_true, Nat.reduceLeDiff, not_false_eq_true, not_true_eq_false, ↓reduceIte, eq_self, ← Int32.not_lt, ite_not, Classical.not_not]
  by_cases c : a = 0
  · subst c
    rw [Nat.gcd_zero_left, Nat.zero_div, Nat.div_self hb0] at hq
    rcases hp with rfl | rfl
    · simp only [decide_true, decide_false, not_false_eq_true, not_true_eq_false, ↓reduceIte, Bool.false_eq_true, Bool.and_true, Bool.true_and, Bool.false_and, Bool.and_false, true_and, false_and, and_true, and_false] at hq ⊢; exact hq
    · simp only [n01, decide_true, decide_false, not_false_eq_true, not_true_eq_false, ↓reduceIte, Bool.false_eq_true, Bool.and_true, Bool.true_and, Bool.false_and, Bool.and_false, true_and, false_and, and_true, and_false] at hq ⊢; exact hq
  · have q7 : ¬ lN (Nat.gcd a b) = 0 := by rw [lN0 (by omega)]; omega
    rcases hp with rfl | rfl
    · simp only [c, decide_true, decide_false, not_false_eq_true, not_true_eq_false, ↓reduceIte, Bool.false_eq_true, Bool.and_true, Bool.true_and, Bool.false_and, Bool.and_false, true_and, false_and, and_true, and_false] at hq ⊢
      simp only [bX6_partOf_25, q7, pk_lDiv (show a < 2 ^ 63 by omega) q4 (show Nat.gcd a b < 2 ^ 63 by omega), Option.toList_some, Option.toList_none, List.cons_append, List.nil_append, and_assoc, exists_and_left, exists_eq_left, true_and, and_true, Nat.reduceLeDiff, not_false_eq_true, not_true_eq_false, ↓reduceIte, eq_self, ← Int32.not_lt, ite_not, Classical.not_not]
      exact hq
    · simp only [c, n01, decide_true, decide_false, not_false_eq_true, not_true_eq_false, ↓reduceIte, Bool.false_eq_true, Bool.and_true, Bool.true_and, Bool.false_and, Bool.and_false, true_and, false_and, and_true, and_false] at hq ⊢
      simp only [bX6_partOf_25, q7, pk_lDiv (show b < 2 ^ 63 by omega) q4 (show Nat.gcd a b < 2 ^ 63 by omega), Option.toList_some, Option.toList_none, List.cons_append, List.nil_append, and_assoc, exists_and_left, exists_eq_left, true_and, and_true, Nat.reduceLeDiff, not_false_eq_true, not_true_eq_false, ↓reduceIte, eq_self, ← Int32.not_lt, ite_not, Classical.not_not]
      exact hq
theorem k6_noWide {d : Nat} (hd : 2 ≤ d) {c : Int32} (hc : rcd c) (h : mH) (r : Option Value) (h' : mH) : Cal d eX6_noWide [.ref 59, .int c] h r h' ↔ r = some (.long (4000000000000000000 - c.toInt64)) ∧ h' = rfR h c := by
  refine Cal_iff (Cal_le (d := 2) (Cal_of rfl (fun Q hq => ?_)) hd) r h'
  show WP 1 eX6_noWide Q 0 [.ref 59, .int c] [] h
  simp only [bX6_noWide_0, bX6_noWide_8, t59, k6_no (Nat.le_refl 1) hc, Option.toList_some, Option.toList_none, List.cons_append, List.nil_append, and_assoc, exists_and_left, exists_eq_left, true_and, and_true, Nat.reduceLeDiff, not_false_eq_true, not_true_eq_false, ↓reduceIte, eq_self, ← Int32.not_lt, ite_not, Classical.not_not]
  exact hq
/-- the weight of a way -/
def wtP (t q : Nat) : Nat → Nat
  | 0 => 1
  | j + 1 => wtP t q j * (if q.testBit j then 1 else t - 1)
theorem wtP_eq (t q : Nat) : ∀ n, wtP t q n = (t - 1) ^ (n - ct q.testBit n)
  | 0 => rfl
  | n + 1 => by
    have := ct_le q.testBit n
    rw [wtP, wtP_eq t q n, ct]
    cases q.testBit n
    · simp only [decide_true, decide_false, not_false_eq_true, not_true_eq_false, ↓reduceIte, Bool.false_eq_true, Bool.and_true, Bool.true_and, Bool.false_and, Bool.and_false, true_and, false_and, and_true, and_false]
      rw [show n + 1 - (ct q.testBit n + 0) = (n - ct q.testBit n) + 1 by omega, Nat.pow_succ]
    · simp only [decide_true, decide_false, not_false_eq_true, not_true_eq_false, ↓reduceIte, Bool.false_eq_true, Bool.and_true, Bool.true_and, Bool.false_and, Bool.and_false, true_and, false_and, and_true, and_false]
      rw [Nat.mul_one, show n + 1 - (ct q.testBit n + 1) = n - ct q.testBit n by omega]
def rW (σ : Nat → Int32) (k m n t : Nat) : Nat → Nat
  | 0 => 0
  | i + 1 => rW σ k m n t i + (if slF σ k m n i && (decide (0 < n) || !snb σ k) then wtP t i n else 0)
theorem rW_sl {σ : Nat → Int32} {k m n t : Nat} (hn : n ≤ 6) (h0 : 0 < n) : ∀ i, i ≤ 2 ^ n → rW σ k m n t i = slW σ k m n t i
  | 0, _ => rfl
  | i + 1, hi => by
    rw [rW, slW, rW_sl hn h0 i (by omega), wtP_eq, ct6 hn (by omega), decide_eq_true h0, Bool.true_or, Bool.and_true]
theorem rW_eq {σ : Nat → Int32} {k m n t : Nat} (hn : n ≤ 6) : rW σ k m n t (2 ^ n) = slN σ k m n t := by
  unfold slN
  by_cases c : n = 0
  · subst c
    rw [if_pos rfl]
    show 0 + (if slF σ k m 0 0 && (decide (0 < 0) || !snb σ k) then 1 else 0) = _
    rw [Nat.zero_add]
    have e : (slF σ k m 0 0 && (decide (0 < 0) || !snb σ k)) = opb σ k := by
      rw [show decide (0 < 0) = false from rfl, Bool.false_or, Bool.and_comm]
      unfold opb snb slF
      congr 1
      by_cases z : σ (9 + 7 * k + 6) = 0 <;> simp [z]
    rw [e]
  · rw [if_neg c]
    exact rW_sl hn (by omega) _ (Nat.le_refl _)
end R8
theorem r_slip (x y n t p : Int32) : KR eX6_slip [.int x, .int y, .int n, .int t, .int p] (f_slip x y n t p) := by
  refine KR_of66 rfl (fun h K M GS G Q hq x0 => ?_)
  show WP 10 eX6_slip Q 0 [.ref 59, .int x, .int y, .int n, .int t, .int p, mU, mU, mU, mU, mU, mU, mU, mU, mU] [] (mPut h 66 x0)
  have g0 : mv 60 h 0 = nI K := G.s0
  have g1 : mv 60 h 1 = nI M := G.s1
  have e0 : ∀ x, mPut h 66 x 60 0 = nI K := fun x => by rw [q60]; exact G.s0
  have e1 : ∀ x, mPut h 66 x 60 1 = nI M := fun x => by rw [q60]; exact G.s1
  have k10 := G.k10
  have m5 := G.m5
  have gk := gdkN G
  have gm := gdmN G
  unfold f_slip at hq
  simp only [mS_1, mS_if, mS_im, mS_ln, mS_l, mS_rn, mS_r, mS_q, g0, g1, bno, gk, gm] at hq
  simp only [bX6_slip_0, bX6_slip_5, bX6_slip_8, bX6_slip_13, bX6_slip_16, bX6_slip_21, bX6_slip_22, bX6_slip_26, bX6_slip_32, bX6_slip_38, bX6_slip_39, bX6_slip_45, bX6_slip_52, bX6_slip_58, bX6_slip_59, bX6_slip_66, bX6_slip_69, bX6_slip_75, k6_noWide (show 2 ≤ 10 by omega) rc1, k6_noWide (show 2 ≤ 10 by omega) rc2, k6_noWide (show 2 ≤ 10 by omega) rc4, k6_noWide (show 2 ≤ 10 by omega) rc6, t59, r590, r594, r595, r596, r599, t60, l60, v0, c0, c1, c2, c3, k6_isKey (show 2 ≤ 10 by omega) (e0 _) k10, k6_isMachine (show 2 ≤ 10 by omega) (e1 _) m5, k6_no (show 1 ≤ 10 by omega) rc1, k6_no (show 1 ≤ 10 by omega) rc2, k6_no (show 1 ≤ 10 by omega) rc3, k6_no (show 1 ≤ 10 by omega) rc4, k6_no (show 1 ≤ 10 by omega) rc6, k6_isTooth (show 2 ≤ 10 by omega), k6_isIn (show 1 ≤ 10 by omega), k6_wrong (show 1 ≤ 10 by omega), isin_01, bz0, ite_bz, e0, e1, Option.toList_some, Option.toList_none, List.cons_append, List.nil_append, and_assoc, exists_and_left, exists_eq_left, true_and, and_true, Nat.reduceLeDiff, not_false_eq_true, not_true_eq_false, ↓reduceIte, eq_self, ← Int32.not_lt, ite_not, Classical.not_not]
  simp only [bnl] at hq
  cases c : ik x (nI K) with
  | false => simp only [c, decide_true, decide_false, not_false_eq_true, not_true_eq_false, ↓reduceIte, Bool.false_eq_true, Bool.and_true, Bool.true_and, Bool.false_and, Bool.and_false, true_and, false_and, and_true, and_false] at hq ⊢; exact hq _ (mS_rf _) (frR_rf _)
  | true =>
    obtain ⟨k, hk, rfl⟩ := ikt (by omega) c
    have hk10 : k < 10 := by omega
    simp only [c, decide_true, decide_false, not_false_eq_true, not_true_eq_false, ↓reduceIte, Bool.false_eq_true, Bool.and_true, Bool.true_and, Bool.false_and, Bool.and_false, true_and, false_and, and_true, and_false, xN_n (show k < 100000 by omega)] at hq ⊢
    cases c2 : ik y (nI M) with
    | false => simp only [c2, decide_true, decide_false, not_false_eq_true, not_true_eq_false, ↓reduceIte, Bool.false_eq_true, Bool.and_true, Bool.true_and, Bool.false_and, Bool.and_false, true_and, false_and, and_true, and_false] at hq ⊢; exact hq _ (mS_rf _) (frR_rf _)
    | true =>
      obtain ⟨m, hm, rfl⟩ := ikt (by omega) c2
      have hm5 : m < 5 := by omega
      simp only [c2, decide_true, decide_false, not_false_eq_true, not_true_eq_false, ↓reduceIte, Bool.false_eq_true, Bool.and_true, Bool.true_and, Bool.false_and, Bool.and_false, true_and, false_and, and_true, and_false, xN_n (show m < 100000 by omega)] at hq ⊢
      by_cases n0 : n < 0
      · simp only [n0, decide_true, decide_false, not_false_eq_true, not_true_eq_false, ↓reduceIte, Bool.false_eq_true, Bool.and_true, Bool.true_and, Bool.false_and, Bool.and_false, true_and, false_and, and_true, and_false] at hq ⊢; exact hq _ (mS_rf _) (frR_rf _)
      by_cases t2 : t < 2
      · simp only [n0, t2, decide_true, decide_false, not_false_eq_true, not_true_eq_false, ↓reduceIte, Bool.false_eq_true, Bool.and_true, Bool.true_and, Bool.false_and, Bool.and_false, true_and, false_and, and_true, and_false] at hq ⊢; exact hq _ (mS_rf _) (frR_rf _)
      by_cases n6 : 6 < n
      · simp only [n0, t2, n6, decide_true, decide_false, not_false_eq_true, not_true_eq_false, ↓reduceIte, Bool.false_eq_true, Bool.and_true, Bool.true_and, Bool.false_and, Bool.and_false, true_and, false_and, and_true, and_false] at hq ⊢; exact hq _ (mS_rf _) (frR_rf _)
      by_cases t20 : 20 < t
      · simp only [n0, t2, n6, t20, decide_true, decide_false, not_false_eq_true, not_true_eq_false, ↓reduceIte, Bool.false_eq_true, Bool.and_true, Bool.true_and, Bool.false_and, Bool.and_false, true_and, false_and, and_true, and_false] at hq ⊢; exact hq _ (mS_rf _) (frR_rf _)
      obtain ⟨a, _, a6, rfl⟩ : ∃ j, 0 ≤ j ∧ j ≤ 6 ∧ n = nI j := oub_in (a := 0) (b := 6) (by omega) (by omega) (by unfold oub; rw [if_neg (show ¬ n < nI 0 from n0), if_neg (show ¬ nI 6 < n from n6)])
      obtain ⟨b, b2, b20, rfl⟩ : ∃ j, 2 ≤ j ∧ j ≤ 20 ∧ t = nI j := oub_in (a := 2) (b := 20) (by omega) (by omega) (by unfold oub; rw [if_neg (show ¬ t < nI 2 from t2), if_neg (show ¬ nI 20 < t from t20)])
      cases c3 : i01 p with
      | false => simp only [n0, t2, n6, t20, c3, decide_true, decide_false, not_false_eq_true, not_true_eq_false, ↓reduceIte, Bool.false_eq_true, Bool.and_true, Bool.true_and, Bool.false_and, Bool.and_false, true_and, false_and, and_true, and_false] at hq ⊢; exact hq _ (mS_rf _) (frR_rf _)
      | true =>
        have p01 := i01t c3
        have q1 := slN_le (σ := mv 60 h) (k := k) (m := m) a6 b20
        have q2 := pw_le a6 b20
        have q3 : 0 < b ^ a := Nat.pow_pos (by omega)
        have hp : 2 ^ a ≤ 64 := Nat.pow_le_pow_right (n := 2) (j := 6) (by omega) a6
        have et : (nI b - 1).toInt64 = lN (b - 1) := by rw [show (1 : Int32) = nI 1 from rfl, pk_sub (by omega), nI_l (by omega)]
        simp only [n0, t2, n6, t20, c3, decide_true, decide_false, not_false_eq_true, not_true_eq_false, ↓reduceIte, Bool.false_eq_true, Bool.and_true, Bool.true_and, Bool.false_and, Bool.and_false, true_and, false_and, and_true, and_false, xN_n (show a < 100000 by omega), xN_n (show b < 100000 by omega)] at hq ⊢
        have hq : ∀ g, Q (some (.long (lN (if p = 0 then slN (mv 60 h) k m a b / Nat.gcd (slN (mv 60 h) k m a b) (b ^ a) else b ^ a / Nat.gcd (slN (mv 60 h) k m a b) (b ^ a))))) (mPut h 66 g) := by
          intro g
          by_cases p0 : p = 0 <;> simp only [p0, decide_true, decide_false, not_false_eq_true, not_true_eq_false, ↓reduceIte, Bool.false_eq_true, Bool.and_true, Bool.true_and, Bool.false_and, Bool.and_false, true_and, false_and, and_true, and_false] at hq ⊢ <;> exact hq _ mS_66 frR_66
        rw [bX6_slip_76]
        refine wl (fun i => WP 10 eX6_slip Q 85 [.ref 59, .int (nI k), .int (nI m), .int (nI a), .int (nI b), .int p, .long 0, mU, .long (lN (b ^ i)), mU, .int (nI i), mU, mU, mU, mU] [] (mPut h 66 x0)) a ?_ a 0 (by omega) ?_
        · intro i hi hw
          rw [Nat.pow_succ] at hw
          rw [bX6_slip_85]
          simp only [bX6_slip_91, nlt (show i ≤ 100000 by omega) (show a ≤ 100000 by omega), hi, nI_l (show b < 2 ^ 31 by omega), lN_mul, nI_1, Option.toList_some, Option.toList_none, List.cons_append, List.nil_append, and_assoc, exists_and_left, exists_eq_left, true_and, and_true, Nat.reduceLeDiff, not_false_eq_true, not_true_eq_false, ↓reduceIte, eq_self, ← Int32.not_lt, ite_not, Classical.not_not]
          exact hw
        · simp only [bX6_slip_85, bX6_slip_105, nlt (show a ≤ 100000 by omega) (show a ≤ 100000 by omega), Nat.lt_irrefl, Option.toList_some, Option.toList_none, List.cons_append, List.nil_append, and_assoc, exists_and_left, exists_eq_left, true_and, and_true, Nat.reduceLeDiff, not_false_eq_true, not_true_eq_false, ↓reduceIte, eq_self, ← Int32.not_lt, ite_not, Classical.not_not]
          refine wl (fun i => ∀ u v w z x, WP 10 eX6_slip Q 108 [.ref 59, .int (nI k), .int (nI m), .int (nI a), .int (nI b), .int p, .long (lN (rW (mv 60 h) k m a b i)), mU, .long (lN (b ^ a)), mU, .int (nI i), u, v, w, z] [] (mPut h 66 x)) (2 ^ a) ?_ (2 ^ a) 0 (by omega) ?_ _ _ _ _ x0
          · intro i hi hw u v w z x
            have hw := hw
            rw [rW] at hw
            rw [bX6_slip_108]
            simp only [bX6_slip_116, bX6_slip_124, sh1 (show a < 31 by omega), nlt (show i ≤ 100000 by omega) (show 2 ^ a ≤ 100000 by omega), hi, t59, k6_takes (show 2 ≤ 10 by omega) hk10, Option.toList_some, Option.toList_none, List.cons_append, List.nil_append, and_assoc, exists_and_left, exists_eq_left, true_and, and_true, Nat.reduceLeDiff, not_false_eq_true, not_true_eq_false, ↓reduceIte, eq_self, ← Int32.not_lt, ite_not, Classical.not_not]
            refine wl (fun j => ∀ z, WP 10 eX6_slip Q 127 [.ref 59, .int (nI k), .int (nI m), .int (nI a), .int (nI b), .int p, .long (lN (rW (mv 60 h) k m a b i)), mU, .long (lN (b ^ a)), mU, .int (nI i), .long (lN (wtP b i j)), mU, .int (nI j), z] [] (mPut h 66 (pT (cuS (mv 60 h) m (rowF (mv 60 h) k) i j) x 5))) a ?_ a 0 (by omega) ?_ _
            · intro j hj hw z
              have hw := hw
              rw [wtP, cuS, show i.testBit j = decide (i / 2 ^ j % 2 = 1) from Nat.testBit_eq_decide_div_mod_eq] at hw
              rw [bX6_slip_127]
              simp only [bX6_slip_133, bX6_slip_144, bX6_slip_148, nlt (show j ≤ 100000 by omega) (show a ≤ 100000 by omega), hj, tbit (show i < 2 ^ 31 by omega) (show j < 31 by omega), Option.toList_some, Option.toList_none, List.cons_append, List.nil_append, and_assoc, exists_and_left, exists_eq_left, true_and, and_true, Nat.reduceLeDiff, not_false_eq_true, not_true_eq_false, ↓reduceIte, eq_self, ← Int32.not_lt, ite_not, Classical.not_not]
              rcases (show i / 2 ^ j % 2 = 0 ∨ i / 2 ^ j % 2 = 1 by omega) with q | q
              · simp only [q, show ¬ nI 0 = 1 by decide, show ¬ (0 : Nat) = 1 by decide, decide_true, decide_false, not_false_eq_true, not_true_eq_false, ↓reduceIte, Bool.false_eq_true, Bool.and_true, Bool.true_and, Bool.false_and, Bool.and_false, true_and, false_and, and_true, and_false] at hw ⊢
                simp only [bX6_slip_149, bX6_slip_162, bX6_slip_167, bX6_slip_181, bX6_slip_182, bX6_slip_185, t59, et, lN_mul, k6_cutsBy (show 5 ≤ 10 by omega) hm5, show nI 0 = 0 from rfl, nI_1, Option.toList_some, Option.toList_none, List.cons_append, List.nil_append, and_assoc, exists_and_left, exists_eq_left, true_and, and_true, Nat.reduceLeDiff, not_false_eq_true, not_true_eq_false, ↓reduceIte, eq_self, ← Int32.not_lt, ite_not, Classical.not_not] at hw ⊢
                exact hw _
              · simp only [q, show nI 1 = 1 from rfl, decide_true, decide_false, not_false_eq_true, not_true_eq_false, ↓reduceIte, Bool.false_eq_true, Bool.and_true, Bool.true_and, Bool.false_and, Bool.and_false, true_and, false_and, and_true, and_false] at hw ⊢
                simp only [bX6_slip_149, bX6_slip_158, bX6_slip_167, bX6_slip_177, bX6_slip_182, bX6_slip_185, t59, n01, show (1 : Int64) = lN 1 from rfl, lN_mul, k6_cutsBy (show 5 ≤ 10 by omega) hm5, nI_1, Option.toList_some, Option.toList_none, List.cons_append, List.nil_append, and_assoc, exists_and_left, exists_eq_left, true_and, and_true, Nat.reduceLeDiff, not_false_eq_true, not_true_eq_false, ↓reduceIte, eq_self, ← Int32.not_lt, ite_not, Classical.not_not] at hw ⊢
                exact hw _
            · intro z
              simp only [bX6_slip_127, bX6_slip_191, bX6_slip_197, bX6_slip_200, bX6_slip_204, bX6_slip_209, bX6_slip_212, bX6_slip_217, bX6_slip_218, nlt (show a ≤ 100000 by omega) (show a ≤ 100000 by omega), Nat.lt_irrefl, t59, k6_opensIn (show 3 ≤ 10 by omega) G, k6_isSnapped (show 2 ≤ 10 by omega) (G66 G _) hk10, mv66, show (0 : Int32) = nI 0 from rfl, nlt (show 0 ≤ 100000 by omega) (show a ≤ 100000 by omega), show ∀ b : Bool, (bz b = nI 0) = (b = false) from bz0, ite_bz, show (0 : Int64) = lN 0 from rfl, lN_add, nI_1, Option.toList_some, Option.toList_none, List.cons_append, List.nil_append, and_assoc, exists_and_left, exists_eq_left, true_and, and_true, Nat.reduceLeDiff, not_false_eq_true, not_true_eq_false, ↓reduceIte, eq_self, ← Int32.not_lt, ite_not, Classical.not_not]
              rw [show slF (mv 60 h) k m a i = fitb (cuS (mv 60 h) m (rowF (mv 60 h) k) i a) (pinF (mv 60 h)) (mv 60 h 3) from rfl] at hw
              cases f1 : fitb (cuS (mv 60 h) m (rowF (mv 60 h) k) i a) (pinF (mv 60 h)) (mv 60 h 3) with
              | false => simp only [f1, decide_true, decide_false, not_false_eq_true, not_true_eq_false, ↓reduceIte, Bool.false_eq_true, Bool.and_true, Bool.true_and, Bool.false_and, Bool.and_false, true_and, false_and, and_true, and_false] at hw ⊢; exact hw _ _ _ _ _
              | true =>
                by_cases a0 : 0 < a
                · simp only [f1, a0, decide_true, decide_false, not_false_eq_true, not_true_eq_false, ↓reduceIte, Bool.false_eq_true, Bool.and_true, Bool.true_and, Bool.false_and, Bool.and_false, true_and, false_and, and_true, and_false, Bool.true_or] at hw ⊢; exact hw _ _ _ _ _
                · cases f2 : snb (mv 60 h) k <;> simp only [f1, f2, a0, decide_true, decide_false, not_false_eq_true, not_true_eq_false, ↓reduceIte, Bool.false_eq_true, Bool.and_true, Bool.true_and, Bool.false_and, Bool.and_false, true_and, false_and, and_true, and_false, Bool.false_or, Bool.not_true, Bool.not_false] at hw ⊢ <;> exact hw _ _ _ _ _
          · intro u v w z x
            rw [rW_eq a6]
            simp only [bX6_slip_108, bX6_slip_227, bX6_slip_236, sh1 (show a < 31 by omega), nlt (show 2 ^ a ≤ 100000 by omega) (show 2 ^ a ≤ 100000 by omega), Nat.lt_irrefl, k6_partOf (show 2 ≤ 10 by omega) (show slN (mv 60 h) k m a b < 2 ^ 62 by omega) (show b ^ a < 2 ^ 40 by omega) q3 p01, Option.toList_some, Option.toList_none, List.cons_append, List.nil_append, and_assoc, exists_and_left, exists_eq_left, true_and, and_true, Nat.reduceLeDiff, not_false_eq_true, not_true_eq_false, ↓reduceIte, eq_self, ← Int32.not_lt, ite_not, Classical.not_not]
            exact hq _
section R9
variable {h : mH}
def w59 (h : mH) (z : Int32) : mH := mPut h 59 (upd (h 59) 12 z)
theorem k6_drawn {d m : Nat} (hd : 1 ≤ d) (h0 : 0 < m) (h1 : m ≤ 1000) (z : Int32) (x : Nat → Int32) (r : Option Value) (h' : mH) : Cal d eX6_drawn [.ref 59, .int (nI m)] (mPut (w59 h z) 66 x) r h' ↔ r = some (.int (nI (dN m (dw z)))) ∧ h' = mPut (w59 h (dw z)) 66 x := by
  refine Cal_iff (Cal_le (d := 1) (Cal_of rfl (fun Q hq => ?_)) hd) r h'
  show WP 0 eX6_drawn Q 0 [.ref 59, .int (nI m)] [] (mPut (w59 h z) 66 x)
  have e1 : mPut (w59 h z) 66 x 59 = upd (h 59) 12 z := by rw [q59]; rfl
  have e2 : mPut (mPut (w59 h z) 66 x) 59 (upd (upd (h 59) 12 z) 12 (z * 1664525 + 1013904223)) = mPut (w59 h (dw z)) 66 x := by
    unfold w59
    rw [mPut_comm _ _ _ (by omega), mPut_put]
    congr 2
    funext j
    simp only [upd_at]
    split <;> rfl
  have u1 : ∀ (f : Nat → Int32) v, upd f 12 v 12 = v := fun f v => if_pos rfl
  have e3 : mPut (w59 h (dw z)) 66 x 59 = upd (h 59) 12 (dw z) := by rw [q59]; rfl
  have z0 : ¬ nI m = 0 := by rw [show (0 : Int32) = nI 0 from rfl, neq (by omega) (by omega)]; omega
  simp only [bX6_drawn_0, bX6_drawn_14, t59, e1, u1, e2, e3, z0, dN_eq h0 h1, Option.toList_some, Option.toList_none, List.cons_append, List.nil_append, and_assoc, exists_and_left, exists_eq_left, true_and, and_true, Nat.reduceLeDiff, not_false_eq_true, not_true_eq_false, ↓reduceIte, eq_self, ← Int32.not_lt, ite_not, Classical.not_not]
  exact hq
theorem mS_w59 {z : Int32} {x : Nat → Int32} : mS (mPut (w59 h z) 66 x) = mS h := by
  rw [mS_66]
  unfold w59 mS
  rw [mv_out (by omega), mv_out (by omega)]
  rfl
theorem frR_w59 {z : Int32} {x : Nat → Int32} : frR h (mPut (w59 h z) 66 x) := frR_p (frR_p frR_r (by omega)) (by omega)
end R9
theorem r_lots (n z w : Int32) : KR eX6_lots [.int n, .int z, .int w] (f_lots n z w) := by
  refine KR_of66 rfl (fun h K M GS G Q hq x0 => ?_)
  show WP 10 eX6_lots Q 0 [.ref 59, .int n, .int z, .int w, mU, mU] [] (mPut h 66 x0)
  have g0 : mv 60 h 0 = nI K := G.s0
  have g1 : mv 60 h 1 = nI M := G.s1
  have e0 : ∀ x, mPut h 66 x 60 0 = nI K := fun x => by rw [q60]; exact G.s0
  have e1 : ∀ x, mPut h 66 x 60 1 = nI M := fun x => by rw [q60]; exact G.s1
  have k10 := G.k10
  have m5 := G.m5
  have gk := gdkN G
  have gm := gdmN G
  unfold f_lots at hq
  simp only [mS_1, mS_if, mS_im, mS_ln, mS_l, mS_rn, mS_r, mS_q, g0, g1, bno, gk, gm] at hq
  simp only [bX6_lots_0, bX6_lots_5, bX6_lots_11, bX6_lots_12, bX6_lots_18, bX6_lots_24, t59, r590, r594, r595, r596, r599, t60, l60, v0, c0, c1, c2, c3, k6_isKey (show 2 ≤ 10 by omega) (e0 _) k10, k6_isMachine (show 2 ≤ 10 by omega) (e1 _) m5, k6_no (show 1 ≤ 10 by omega) rc1, k6_no (show 1 ≤ 10 by omega) rc2, k6_no (show 1 ≤ 10 by omega) rc3, k6_no (show 1 ≤ 10 by omega) rc4, k6_no (show 1 ≤ 10 by omega) rc6, k6_isTooth (show 2 ≤ 10 by omega), k6_isIn (show 1 ≤ 10 by omega), k6_wrong (show 1 ≤ 10 by omega), isin_01, bz0, ite_bz, e0, e1, Option.toList_some, Option.toList_none, List.cons_append, List.nil_append, and_assoc, exists_and_left, exists_eq_left, true_and, and_true, Nat.reduceLeDiff, not_false_eq_true, not_true_eq_false, ↓reduceIte, eq_self, ← Int32.not_lt, ite_not, Classical.not_not]
  rcases oub_c (v := n) (a := 1) (b := 20) with ⟨h1, e⟩ | ⟨h1, h2, e⟩ | ⟨h1, h2, e⟩
  · simp only [e, h1, show ¬ (-4 : Int32) = 0 by decide, decide_true, decide_false, not_false_eq_true, not_true_eq_false, ↓reduceIte, Bool.false_eq_true, Bool.and_true, Bool.true_and, Bool.false_and, Bool.and_false, true_and, false_and, and_true, and_false] at hq ⊢; exact hq _ (mS_rf _) (frR_rf _)
  · simp only [e, h1, h2, show ¬ (-6 : Int32) = 0 by decide, decide_true, decide_false, not_false_eq_true, not_true_eq_false, ↓reduceIte, Bool.false_eq_true, Bool.and_true, Bool.true_and, Bool.false_and, Bool.and_false, true_and, false_and, and_true, and_false] at hq ⊢; exact hq _ (mS_rf _) (frR_rf _)
  · obtain ⟨m, m1, m20, rfl⟩ := oub_in (a := 1) (b := 20) (by omega) (by omega) e
    simp only [e, h1, h2, decide_true, decide_false, not_false_eq_true, not_true_eq_false, ↓reduceIte, Bool.false_eq_true, Bool.and_true, Bool.true_and, Bool.false_and, Bool.and_false, true_and, false_and, and_true, and_false, xN_n (show m < 100000 by omega)] at hq ⊢
    simp only [bX6_lots_25, bX6_lots_31, bX6_lots_34, bX6_lots_40, bX6_lots_41, bX6_lots_50, bX6_lots_59, bX6_lots_65, t59, r590, r594, r595, r596, r599, t60, l60, v0, c0, c1, c2, c3, k6_isKey (show 2 ≤ 10 by omega) (e0 _) k10, k6_isMachine (show 2 ≤ 10 by omega) (e1 _) m5, k6_no (show 1 ≤ 10 by omega) rc1, k6_no (show 1 ≤ 10 by omega) rc2, k6_no (show 1 ≤ 10 by omega) rc3, k6_no (show 1 ≤ 10 by omega) rc4, k6_no (show 1 ≤ 10 by omega) rc6, k6_isTooth (show 2 ≤ 10 by omega), k6_isIn (show 1 ≤ 10 by omega), k6_wrong (show 1 ≤ 10 by omega), isin_01, bz0, ite_bz, e0, e1, Option.toList_some, Option.toList_none, List.cons_append, List.nil_append, and_assoc, exists_and_left, exists_eq_left, true_and, and_true, Nat.reduceLeDiff, not_false_eq_true, not_true_eq_false, ↓reduceIte, eq_self, ← Int32.not_lt, ite_not, Classical.not_not]
    cases c3 : i01 w with
    | false => simp only [c3, decide_true, decide_false, not_false_eq_true, not_true_eq_false, ↓reduceIte, Bool.false_eq_true, Bool.and_true, Bool.true_and, Bool.false_and, Bool.and_false, true_and, false_and, and_true, and_false] at hq ⊢; exact hq _ (mS_rf _) (frR_rf _)
    | true =>
      simp only [c3, decide_true, decide_false, not_false_eq_true, not_true_eq_false, ↓reduceIte, Bool.false_eq_true, Bool.and_true, Bool.true_and, Bool.false_and, Bool.and_false, true_and, false_and, and_true, and_false] at hq ⊢
      simp only [show (0 : Int32) = nI 0 from rfl, neq (show K ≤ 100000 by omega) (show 0 ≤ 100000 by omega), neq (show M ≤ 100000 by omega) (show 0 ≤ 100000 by omega)] at hq ⊢
      by_cases k0 : K = 0
      · simp only [k0, decide_true, decide_false, not_false_eq_true, not_true_eq_false, ↓reduceIte, Bool.false_eq_true, Bool.and_true, Bool.true_and, Bool.false_and, Bool.and_false, true_and, false_and, and_true, and_false] at hq ⊢; exact hq _ (mS_rf _) (frR_rf _)
      by_cases m0 : M = 0
      · simp only [k0, m0, decide_true, decide_false, not_false_eq_true, not_true_eq_false, ↓reduceIte, Bool.false_eq_true, Bool.and_true, Bool.true_and, Bool.false_and, Bool.and_false, true_and, false_and, and_true, and_false] at hq ⊢; exact hq _ (mS_rf _) (frR_rf _)
      simp only [k0, m0, decide_true, decide_false, not_false_eq_true, not_true_eq_false, ↓reduceIte, Bool.false_eq_true, Bool.and_true, Bool.true_and, Bool.false_and, Bool.and_false, true_and, false_and, and_true, and_false] at hq ⊢
      have hK : 0 < K := by omega
      have hM : 0 < M := by omega
      have hq : ∀ z' g, Q (some (.int (ltA (mv 60 h) K M m z (decide (w = 1))))) (mPut (w59 h z') 66 g) := fun z' g => hq _ mS_w59 frR_w59
      have ew : mPut (mPut h 66 x0) 59 (upd (h 59) 12 z) = mPut (w59 h z) 66 x0 := by unfold w59; rw [mPut_comm _ _ _ (by omega)]
      have mw : ∀ z, mv 60 (w59 h z) = mv 60 h := fun z => mv_out (by omega)
      have Gw : ∀ z, gdN (mv 60 (w59 h z)) K M := fun z => by rw [mw]; exact G
      have e0 : ∀ z x, mPut (w59 h z) 66 x 60 0 = nI K := fun z x => by rw [q60]; exact (Gw z).s0
      have e1 : ∀ z x, mPut (w59 h z) 66 x 60 1 = nI M := fun z x => by rw [q60]; exact (Gw z).s1
      simp only [bX6_lots_66, bX6_lots_71, t59, q59, ew, Option.toList_some, Option.toList_none, List.cons_append, List.nil_append, and_assoc, exists_and_left, exists_eq_left, true_and, and_true, Nat.reduceLeDiff, not_false_eq_true, not_true_eq_false, ↓reduceIte, eq_self, ← Int32.not_lt, ite_not, Classical.not_not]
      have st : ∀ x, WP 10 eX6_lots Q 77 [.ref 59, .int (nI m), .int z, .int w, .int (sm (fun i => if w = 1 then ltW (mv 60 h) K M z i else ltO (mv 60 h) K M z i) 0), .int (nI 0)] [] (mPut (w59 h (sd z (3 * 0))) 66 x) := by
        refine wl (fun i => ∀ x, WP 10 eX6_lots Q 77 [.ref 59, .int (nI m), .int z, .int w, .int (sm (fun i => if w = 1 then ltW (mv 60 h) K M z i else ltO (mv 60 h) K M z i) i), .int (nI i)] [] (mPut (w59 h (sd z (3 * i))) 66 x)) m ?_ m 0 (by omega) ?_
        · intro i hi hw x
          have hw := hw
          rw [sm] at hw
          have d1 := dN_lt hK (dw (sd z (3 * i)))
          have d2 := dN_lt hM (dw (dw (sd z (3 * i))))
          have d3 := dN_lt hM (dw (dw (dw (sd z (3 * i)))))
          rw [bX6_lots_77]
          simp only [bX6_lots_83, bX6_lots_94, bX6_lots_97, bX6_lots_108, bX6_lots_112, bX6_lots_123, bX6_lots_127, nlt (show i ≤ 100000 by omega) (show m ≤ 100000 by omega), hi, t59, r590, t60, l60, v0, c0, c1, e0, e1, k6_drawn (show 1 ≤ 10 by omega) hK (show K ≤ 1000 by omega), k6_drawn (show 1 ≤ 10 by omega) hM (show M ≤ 1000 by omega), k6_takes (show 2 ≤ 10 by omega) (show dN K (dw (sd z (3 * i))) < 10 by omega), k6_cutsBy0 (show 5 ≤ 10 by omega) (show dN M (dw (dw (sd z (3 * i)))) < 5 by omega), k6_cutsBy0 (show 5 ≤ 10 by omega) (show dN M (dw (dw (dw (sd z (3 * i))))) < 5 by omega), mw, Option.toList_some, Option.toList_none, List.cons_append, List.nil_append, and_assoc, exists_and_left, exists_eq_left, true_and, and_true, Nat.reduceLeDiff, not_false_eq_true, not_true_eq_false, ↓reduceIte, eq_self, ← Int32.not_lt, ite_not, Classical.not_not]
          by_cases w1 : w = 1
          · simp only [w1, decide_true, decide_false, not_false_eq_true, not_true_eq_false, ↓reduceIte, Bool.false_eq_true, Bool.and_true, Bool.true_and, Bool.false_and, Bool.and_false, true_and, false_and, and_true, and_false] at hw ⊢
            simp only [bX6_lots_134, bX6_lots_138, bX6_lots_153, t59, k6_wiggle (show 2 ≤ 10 by omega), mw, nI_1, Option.toList_some, Option.toList_none, List.cons_append, List.nil_append, and_assoc, exists_and_left, exists_eq_left, true_and, and_true, Nat.reduceLeDiff, not_false_eq_true, not_true_eq_false, ↓reduceIte, eq_self, ← Int32.not_lt, ite_not, Classical.not_not]
            exact hw _
          · simp only [w1, decide_true, decide_false, not_false_eq_true, not_true_eq_false, ↓reduceIte, Bool.false_eq_true, Bool.and_true, Bool.true_and, Bool.false_and, Bool.and_false, true_and, false_and, and_true, and_false] at hw ⊢
            simp only [bX6_lots_141, bX6_lots_145, bX6_lots_148, bX6_lots_152, bX6_lots_153, t59, k6_opensIn (show 3 ≤ 10 by omega) (Gw _), mw, bz0, ite_bz, nI_1, Option.toList_some, Option.toList_none, List.cons_append, List.nil_append, and_assoc, exists_and_left, exists_eq_left, true_and, and_true, Nat.reduceLeDiff, not_false_eq_true, not_true_eq_false, ↓reduceIte, eq_self, ← Int32.not_lt, ite_not, Classical.not_not]
            rw [show ltO (mv 60 h) K M z i = bz (fitb (cutM (mv 60 h) (dN M (dw (dw (dw (sd z (3 * i)))))) (cutM (mv 60 h) (dN M (dw (dw (sd z (3 * i))))) (rowF (mv 60 h) (dN K (dw (sd z (3 * i))))))) (pinF (mv 60 h)) (mv 60 h 3)) from rfl] at hw
            cases cc : fitb (cutM (mv 60 h) (dN M (dw (dw (dw (sd z (3 * i)))))) (cutM (mv 60 h) (dN M (dw (dw (sd z (3 * i))))) (rowF (mv 60 h) (dN K (dw (sd z (3 * i))))))) (pinF (mv 60 h)) (mv 60 h 3) <;> simp only [cc, decide_true, decide_false, not_false_eq_true, not_true_eq_false, ↓reduceIte, Bool.false_eq_true, Bool.and_true, Bool.true_and, Bool.false_and, Bool.and_false, true_and, false_and, and_true, and_false, bzt, bzf] at hw ⊢ <;> exact hw _
        · intro x
          have hh := hq (sd z (3 * m)) x
          unfold ltA at hh
          simp only [bX6_lots_77, bX6_lots_162, nlt (show m ≤ 100000 by omega) (show m ≤ 100000 by omega), Nat.lt_irrefl, Option.toList_some, Option.toList_none, List.cons_append, List.nil_append, and_assoc, exists_and_left, exists_eq_left, true_and, and_true, Nat.reduceLeDiff, not_false_eq_true, not_true_eq_false, ↓reduceIte, eq_self, ← Int32.not_lt, ite_not, Classical.not_not]
          by_cases w1 : w = 1 <;> simp only [w1, decide_true, decide_false, not_false_eq_true, not_true_eq_false, ↓reduceIte, Bool.false_eq_true, Bool.and_true, Bool.true_and, Bool.false_and, Bool.and_false, true_and, false_and, and_true, and_false] at hh ⊢ <;> exact hh
      exact st _
