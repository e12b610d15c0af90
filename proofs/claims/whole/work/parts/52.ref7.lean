section R7
variable {h : mH} {K M : Nat}
theorem k6_isTold {d : Nat} (hd : 1 ≤ d) (F g : Nat → Int32) (r : Option Value) (h' : mH) : Cal d eX6_isTold [.ref 59] (mPut h 66 (pT F g 5)) r h' ↔ r = some (.int (bz (eqr F (h 64)))) ∧ h' = mPut h 66 (pT F g 5) := by
  refine Cal_iff (Cal_le (d := 1) (Cal_of rfl (fun Q hq => ?_)) hd) r h'
  show WP 0 eX6_isTold Q 0 [.ref 59, mU, mU] [] (mPut h 66 (pT F g 5))
  rw [bX6_isTold_0]
  refine wl (fun i => WP 0 eX6_isTold Q 4 [.ref 59, .int (bz (alb (fun t => decide (F t = h 64 t)) i)), .int (nI i)] [] (mPut h 66 (pT F g 5))) 5 ?_ 5 0 (by omega) ?_
  · intro i hi hw
    rw [alb, ← bz_and] at hw
    rw [bX6_isTold_4]
    simp only [bX6_isTold_9, bX6_isTold_25, bX6_isTold_29, bX6_isTold_30, show (5 : Int32) = nI 5 from rfl, nlt (show i ≤ 100000 by omega) (show 5 ≤ 100000 by omega), hi, t59, r595, r599, t64, l64, t66, l66, vp_nI hi (show 5 ≤ 100 by omega), vp_nI (show i < 12 by omega) (show 12 ≤ 100 by omega), nI_cl (show i < 100 by omega), mPut_self, q64, pT_lt hi, nI_1, Option.toList_some, Option.toList_none, List.cons_append, List.nil_append, and_assoc, exists_and_left, exists_eq_left, true_and, and_true, Nat.reduceLeDiff, not_false_eq_true, not_true_eq_false, ↓reduceIte, eq_self, ← Int32.not_lt, ite_not, Classical.not_not]
    by_cases c : F i = h 64 i <;> simp only [c, decide_true, decide_false, not_false_eq_true, not_true_eq_false, ↓reduceIte, Bool.false_eq_true, Bool.and_true, Bool.true_and, Bool.false_and, Bool.and_false, true_and, false_and, and_true, and_false, bzt, bzf] at hw ⊢ <;> exact hw
  · simp only [bX6_isTold_4, bX6_isTold_38, show (5 : Int32) = nI 5 from rfl, nlt (show 5 ≤ 100000 by omega) (show 5 ≤ 100000 by omega), Nat.lt_irrefl, nbz, Option.toList_some, Option.toList_none, List.cons_append, List.nil_append, and_assoc, exists_and_left, exists_eq_left, true_and, and_true, Nat.reduceLeDiff, not_false_eq_true, not_true_eq_false, ↓reduceIte, eq_self, ← Int32.not_lt, ite_not, Classical.not_not]
    exact hq
theorem e6_lastHeight {d k t a b : Nat} (hd : 6 ≤ d) (hk : k < 10) (ht : t < 5) (ha : a < 5) (hb : b < 5) (x0 : Nat → Int32) : ∃ g, Cal d eX6_lastHeight [.ref 59, .int (nI k), .int (nI t), .int (nI a), .int (nI b)] (mPut h 66 x0) (some (.int (tw (mv 60 h) (mv 60 h (9 + 7 * k + t)) t a b))) (mPut h 66 g) := by
  obtain ⟨h', ⟨g, e⟩, hc⟩ := Cal_pr (d := 5) (D := d) (E := eX6_lastHeight) (as := [.ref 59, .int (nI k), .int (nI t), .int (nI a), .int (nI b)]) (h := mPut h 66 x0) (r := some (.int (tw (mv 60 h) (mv 60 h (9 + 7 * k + t)) t a b))) (P := fun h' => ∃ g, h' = mPut h 66 g) hd rfl (fun Q hq => by
    show WP 5 eX6_lastHeight Q 0 [.ref 59, .int (nI k), .int (nI t), .int (nI a), .int (nI b)] [] (mPut h 66 x0)
    simp only [bX6_lastHeight_0, bX6_lastHeight_5, bX6_lastHeight_11, bX6_lastHeight_18, t59, k6_takes (show 2 ≤ 5 by omega) hk, k6_cutsBy0 (Nat.le_refl 5) ha, k6_cutsBy0 (Nat.le_refl 5) hb, r599, t66, l66, vp_nI ht (show 5 ≤ 100 by omega), nI_cl (show t < 100 by omega), mPut_self, pT_lt ht, Option.toList_some, Option.toList_none, List.cons_append, List.nil_append, and_assoc, exists_and_left, exists_eq_left, true_and, and_true, Nat.reduceLeDiff, not_false_eq_true, not_true_eq_false, ↓reduceIte, eq_self, ← Int32.not_lt, ite_not, Classical.not_not]
    exact hq _ ⟨_, rfl⟩)
  subst e
  exact ⟨g, hc⟩
end R7
theorem r_two (x t : Int32) : KR eX6_two [.int x, .int t] (f_two x t) := by
  refine KR_of66 rfl (fun h K M GS G Q hq x0 => ?_)
  show WP 10 eX6_two Q 0 [.ref 59, .int x, .int t, mU, mU, mU, mU, mU] [] (mPut h 66 x0)
  have g0 : mv 60 h 0 = nI K := G.s0
  have g1 : mv 60 h 1 = nI M := G.s1
  have e0 : ∀ x, mPut h 66 x 60 0 = nI K := fun x => by rw [q60]; exact G.s0
  have e1 : ∀ x, mPut h 66 x 60 1 = nI M := fun x => by rw [q60]; exact G.s1
  have k10 := G.k10
  have m5 := G.m5
  have gk := gdkN G
  have gm := gdmN G
  unfold f_two at hq
  simp only [mS_1, mS_if, mS_im, mS_ln, mS_l, mS_rn, mS_r, mS_q, g0, g1, bno, gk, gm] at hq
  simp only [bX6_two_0, bX6_two_5, bX6_two_8, bX6_two_12, bX6_two_15, bX6_two_20, t59, r590, r594, r595, r596, r599, t60, l60, v0, c0, c1, c2, c3, k6_isKey (show 2 ≤ 10 by omega) (e0 _) k10, k6_isMachine (show 2 ≤ 10 by omega) (e1 _) m5, k6_no (show 1 ≤ 10 by omega) rc1, k6_no (show 1 ≤ 10 by omega) rc2, k6_no (show 1 ≤ 10 by omega) rc3, k6_no (show 1 ≤ 10 by omega) rc4, k6_no (show 1 ≤ 10 by omega) rc6, k6_isTooth (show 2 ≤ 10 by omega), k6_isIn (show 1 ≤ 10 by omega), k6_wrong (show 1 ≤ 10 by omega), isin_01, bz0, ite_bz, e0, e1, Option.toList_some, Option.toList_none, List.cons_append, List.nil_append, and_assoc, exists_and_left, exists_eq_left, true_and, and_true, Nat.reduceLeDiff, not_false_eq_true, not_true_eq_false, ↓reduceIte, eq_self, ← Int32.not_lt, ite_not, Classical.not_not]
  cases c : ik x (nI K) with
  | false => simp only [c, decide_true, decide_false, not_false_eq_true, not_true_eq_false, ↓reduceIte, Bool.false_eq_true, Bool.and_true, Bool.true_and, Bool.false_and, Bool.and_false, true_and, false_and, and_true, and_false] at hq ⊢; exact hq _ (mS_rf _) (frR_rf _)
  | true =>
    obtain ⟨k, hk, rfl⟩ := ikt (by omega) c
    have hk10 : k < 10 := by omega
    simp only [c, decide_true, decide_false, not_false_eq_true, not_true_eq_false, ↓reduceIte, Bool.false_eq_true, Bool.and_true, Bool.true_and, Bool.false_and, Bool.and_false, true_and, false_and, and_true, and_false, xN_n (show k < 100000 by omega)] at hq ⊢
    cases c2 : ik t 5 with
    | false => simp only [c2, decide_true, decide_false, not_false_eq_true, not_true_eq_false, ↓reduceIte, Bool.false_eq_true, Bool.and_true, Bool.true_and, Bool.false_and, Bool.and_false, true_and, false_and, and_true, and_false] at hq ⊢; exact hq _ (mS_rf _) (frR_rf _)
    | true =>
      obtain ⟨u, hu, rfl⟩ := ik5t c2
      simp only [c2, decide_true, decide_false, not_false_eq_true, not_true_eq_false, ↓reduceIte, Bool.false_eq_true, Bool.and_true, Bool.true_and, Bool.false_and, Bool.and_false, true_and, false_and, and_true, and_false, xN_n (show u < 100000 by omega)] at hq ⊢
      rw [bX6_two_21]
      have sp : ∀ a b, b < 10 → spP (mv 60 h) M (mv 60 h (9 + 7 * k + u)) u (10 * a + b) = (decide (b < M) && std (mv 60 h) M (mv 60 h (9 + 7 * k + u)) u a b) := fun a b hb => by
        unfold spP; rw [show (10 * a + b) % 10 = b by omega, show (10 * a + b) / 10 = a by omega]
      have hq : ∀ g, Q (some (.int (on (fst (spP (mv 60 h) M (mv 60 h (9 + 7 * k + u)) u) 0 (10 * M))))) (mPut h 66 g) := fun g => hq _ mS_66 frR_66
      have key : ∀ (j a : Nat), a + j = M → (∀ g, Q (some (.int (on (fst (spP (mv 60 h) M (mv 60 h (9 + 7 * k + u)) u) (10 * a) (10 * j))))) (mPut h 66 g)) → ∀ p q r s x, WP 10 eX6_two Q 23 [.ref 59, .int (nI k), .int (nI u), .int (nI a), p, q, r, s] [] (mPut h 66 x) := by
        intro j
        induction j with
        | zero =>
          intro a ha hq2 p q r s x
          have : a = M := by omega
          subst this
          simp only [bX6_two_23, bX6_two_145, nlt (show a ≤ 100000 by omega) (show a ≤ 100000 by omega), Nat.lt_irrefl, t59, r590, r594, r595, r596, r599, t60, l60, v0, c0, c1, c2, c3, k6_isKey (show 2 ≤ 10 by omega) (e0 _) k10, k6_isMachine (show 2 ≤ 10 by omega) (e1 _) m5, k6_no (show 1 ≤ 10 by omega) rc1, k6_no (show 1 ≤ 10 by omega) rc2, k6_no (show 1 ≤ 10 by omega) rc3, k6_no (show 1 ≤ 10 by omega) rc4, k6_no (show 1 ≤ 10 by omega) rc6, k6_isTooth (show 2 ≤ 10 by omega), k6_isIn (show 1 ≤ 10 by omega), k6_wrong (show 1 ≤ 10 by omega), isin_01, bz0, ite_bz, e0, e1, Option.toList_some, Option.toList_none, List.cons_append, List.nil_append, and_assoc, exists_and_left, exists_eq_left, true_and, and_true, Nat.reduceLeDiff, not_false_eq_true, not_true_eq_false, ↓reduceIte, eq_self, ← Int32.not_lt, ite_not, Classical.not_not]
          exact hq2 _
        | succ j ih =>
          intro a ha hq2 p q r s x
          have a5 : a < 5 := by omega
          rw [bX6_two_23]
          simp only [bX6_two_33, nlt (show a ≤ 100000 by omega) (show M ≤ 100000 by omega), show a < M by omega, t59, r590, r594, r595, r596, r599, t60, l60, v0, c0, c1, c2, c3, k6_isKey (show 2 ≤ 10 by omega) (e0 _) k10, k6_isMachine (show 2 ≤ 10 by omega) (e1 _) m5, k6_no (show 1 ≤ 10 by omega) rc1, k6_no (show 1 ≤ 10 by omega) rc2, k6_no (show 1 ≤ 10 by omega) rc3, k6_no (show 1 ≤ 10 by omega) rc4, k6_no (show 1 ≤ 10 by omega) rc6, k6_isTooth (show 2 ≤ 10 by omega), k6_isIn (show 1 ≤ 10 by omega), k6_wrong (show 1 ≤ 10 by omega), isin_01, bz0, ite_bz, e0, e1, Option.toList_some, Option.toList_none, List.cons_append, List.nil_append, and_assoc, exists_and_left, exists_eq_left, true_and, and_true, Nat.reduceLeDiff, not_false_eq_true, not_true_eq_false, ↓reduceIte, eq_self, ← Int32.not_lt, ite_not, Classical.not_not]
          have inner : ∀ (i b : Nat), b + i = M → (∀ g, Q (some (.int (on (fst (spP (mv 60 h) M (mv 60 h (9 + 7 * k + u)) u) (10 * a + b) (i + (10 - M) + 10 * j))))) (mPut h 66 g)) → ∀ q r s x, WP 10 eX6_two Q 36 [.ref 59, .int (nI k), .int (nI u), .int (nI a), .int (nI b), q, r, s] [] (mPut h 66 x) := by
            intro i
            induction i with
            | zero =>
              intro b hb hq3 q r s x
              have : b = M := by omega
              subst this
              simp only [bX6_two_36, bX6_two_139, nlt (show b ≤ 100000 by omega) (show b ≤ 100000 by omega), Nat.lt_irrefl, nI_1, t59, r590, r594, r595, r596, r599, t60, l60, v0, c0, c1, c2, c3, k6_isKey (show 2 ≤ 10 by omega) (e0 _) k10, k6_isMachine (show 2 ≤ 10 by omega) (e1 _) m5, k6_no (show 1 ≤ 10 by omega) rc1, k6_no (show 1 ≤ 10 by omega) rc2, k6_no (show 1 ≤ 10 by omega) rc3, k6_no (show 1 ≤ 10 by omega) rc4, k6_no (show 1 ≤ 10 by omega) rc6, k6_isTooth (show 2 ≤ 10 by omega), k6_isIn (show 1 ≤ 10 by omega), k6_wrong (show 1 ≤ 10 by omega), isin_01, bz0, ite_bz, e0, e1, Option.toList_some, Option.toList_none, List.cons_append, List.nil_append, and_assoc, exists_and_left, exists_eq_left, true_and, and_true, Nat.reduceLeDiff, not_false_eq_true, not_true_eq_false, ↓reduceIte, eq_self, ← Int32.not_lt, ite_not, Classical.not_not]
              refine ih (a + 1) (by omega) ?_ _ _ _ _ _
              rw [Nat.zero_add, fst_skip (fun q h1 h2 => by rw [show q = 10 * a + (q - 10 * a) by omega, sp _ _ (by omega), decide_eq_false (by omega)]; rfl), show 10 * a + b + (10 - b) = 10 * (a + 1) by omega] at hq3
              exact hq3
            | succ i ihi =>
              intro b hb hq3 q r s x
              have b5 : b < 5 := by omega
              rw [show i + 1 + (10 - M) + 10 * j = (i + (10 - M) + 10 * j) + 1 by omega, fst, sp a b (by omega), decide_eq_true (show b < M by omega)] at hq3
              obtain ⟨g1', hc1⟩ := e6_lastHeight (show 6 ≤ 10 by omega) (h := h) hk10 hu a5 b5 x
              rw [bX6_two_36]
              simp only [bX6_two_47, bX6_two_56, nlt (show b ≤ 100000 by omega) (show M ≤ 100000 by omega), show b < M by omega, Cal_iff hc1, t59, r590, r594, r595, r596, r599, t60, l60, v0, c0, c1, c2, c3, k6_isKey (show 2 ≤ 10 by omega) (e0 _) k10, k6_isMachine (show 2 ≤ 10 by omega) (e1 _) m5, k6_no (show 1 ≤ 10 by omega) rc1, k6_no (show 1 ≤ 10 by omega) rc2, k6_no (show 1 ≤ 10 by omega) rc3, k6_no (show 1 ≤ 10 by omega) rc4, k6_no (show 1 ≤ 10 by omega) rc6, k6_isTooth (show 2 ≤ 10 by omega), k6_isIn (show 1 ≤ 10 by omega), k6_wrong (show 1 ≤ 10 by omega), isin_01, bz0, ite_bz, e0, e1, Option.toList_some, Option.toList_none, List.cons_append, List.nil_append, and_assoc, exists_and_left, exists_eq_left, true_and, and_true, Nat.reduceLeDiff, not_false_eq_true, not_true_eq_false, ↓reduceIte, eq_self, ← Int32.not_lt, ite_not, Classical.not_not]
              have lp : ∀ x, WP 10 eX6_two Q 64 [.ref 59, .int (nI k), .int (nI u), .int (nI a), .int (nI b), .int (tw (mv 60 h) (mv 60 h (9 + 7 * k + u)) u a b), .int (bz (alb (stO (mv 60 h) (mv 60 h (9 + 7 * k + u)) u a b) 0)), .int (nI 0)] [] (mPut h 66 x) := by
                refine wl (fun m => ∀ x, WP 10 eX6_two Q 64 [.ref 59, .int (nI k), .int (nI u), .int (nI a), .int (nI b), .int (tw (mv 60 h) (mv 60 h (9 + 7 * k + u)) u a b), .int (bz (alb (stO (mv 60 h) (mv 60 h (9 + 7 * k + u)) u a b) m)), .int (nI m)] [] (mPut h 66 x)) M ?_ M 0 (by omega) ?_
                · intro m hm hw x
                  have hw := hw
                  rw [alb, ← bz_and, show stO (mv 60 h) (mv 60 h (9 + 7 * k + u)) u a b m = (decide (¬ tw (mv 60 h) (mv 60 h (9 + 7 * k + u)) u a b < tw (mv 60 h) (mv 60 h (9 + 7 * k + u)) u m b) && decide (¬ tw (mv 60 h) (mv 60 h (9 + 7 * k + u)) u a m < tw (mv 60 h) (mv 60 h (9 + 7 * k + u)) u a b)) from rfl] at hw
                  obtain ⟨g2', hc2⟩ := e6_lastHeight (show 6 ≤ 10 by omega) (h := h) hk10 hu (show m < 5 by omega) b5 x
                  obtain ⟨g3', hc3⟩ := e6_lastHeight (show 6 ≤ 10 by omega) (h := h) hk10 hu a5 (show m < 5 by omega) g2'
                  rw [bX6_two_64]
                  simp only [bX6_two_75, bX6_two_87, bX6_two_92, bX6_two_101, bX6_two_106, bX6_two_110, bX6_two_111, nlt (show m ≤ 100000 by omega) (show M ≤ 100000 by omega), hm, Cal_iff hc2, Cal_iff hc3, nI_1, t59, r590, r594, r595, r596, r599, t60, l60, v0, c0, c1, c2, c3, k6_isKey (show 2 ≤ 10 by omega) (e0 _) k10, k6_isMachine (show 2 ≤ 10 by omega) (e1 _) m5, k6_no (show 1 ≤ 10 by omega) rc1, k6_no (show 1 ≤ 10 by omega) rc2, k6_no (show 1 ≤ 10 by omega) rc3, k6_no (show 1 ≤ 10 by omega) rc4, k6_no (show 1 ≤ 10 by omega) rc6, k6_isTooth (show 2 ≤ 10 by omega), k6_isIn (show 1 ≤ 10 by omega), k6_wrong (show 1 ≤ 10 by omega), isin_01, bz0, ite_bz, e0, e1, Option.toList_some, Option.toList_none, List.cons_append, List.nil_append, and_assoc, exists_and_left, exists_eq_left, true_and, and_true, Nat.reduceLeDiff, not_false_eq_true, not_true_eq_false, ↓reduceIte, eq_self, ← Int32.not_lt, ite_not, Classical.not_not]
                  by_cases d1 : tw (mv 60 h) (mv 60 h (9 + 7 * k + u)) u a b < tw (mv 60 h) (mv 60 h (9 + 7 * k + u)) u m b
                  · simp only [d1, decide_true, decide_false, not_false_eq_true, not_true_eq_false, ↓reduceIte, Bool.false_eq_true, Bool.and_true, Bool.true_and, Bool.false_and, Bool.and_false, true_and, false_and, and_true, and_false, bzf] at hw ⊢; exact hw _
                  · by_cases d2 : tw (mv 60 h) (mv 60 h (9 + 7 * k + u)) u a m < tw (mv 60 h) (mv 60 h (9 + 7 * k + u)) u a b <;> simp only [d1, d2, decide_true, decide_false, not_false_eq_true, not_true_eq_false, ↓reduceIte, Bool.false_eq_true, Bool.and_true, Bool.true_and, Bool.false_and, Bool.and_false, true_and, false_and, and_true, and_false, bzt, bzf] at hw ⊢ <;> exact hw _
                · intro x
                  simp only [bX6_two_64, bX6_two_120, bX6_two_125, bX6_two_133, nlt (show M ≤ 100000 by omega) (show M ≤ 100000 by omega), Nat.lt_irrefl, show (10 : Int32) = nI 10 from rfl, nI_mul, nI_plus, nI_1, t59, r590, r594, r595, r596, r599, t60, l60, v0, c0, c1, c2, c3, k6_isKey (show 2 ≤ 10 by omega) (e0 _) k10, k6_isMachine (show 2 ≤ 10 by omega) (e1 _) m5, k6_no (show 1 ≤ 10 by omega) rc1, k6_no (show 1 ≤ 10 by omega) rc2, k6_no (show 1 ≤ 10 by omega) rc3, k6_no (show 1 ≤ 10 by omega) rc4, k6_no (show 1 ≤ 10 by omega) rc6, k6_isTooth (show 2 ≤ 10 by omega), k6_isIn (show 1 ≤ 10 by omega), k6_wrong (show 1 ≤ 10 by omega), isin_01, bz0, ite_bz, e0, e1, Option.toList_some, Option.toList_none, List.cons_append, List.nil_append, and_assoc, exists_and_left, exists_eq_left, true_and, and_true, Nat.reduceLeDiff, not_false_eq_true, not_true_eq_false, ↓reduceIte, eq_self, ← Int32.not_lt, ite_not, Classical.not_not]
                  rw [show std (mv 60 h) M (mv 60 h (9 + 7 * k + u)) u a b = alb (stO (mv 60 h) (mv 60 h (9 + 7 * k + u)) u a b) M from rfl] at hq3
                  cases cc : alb (stO (mv 60 h) (mv 60 h (9 + 7 * k + u)) u a b) M with
                  | true => simp only [cc, decide_true, decide_false, not_false_eq_true, not_true_eq_false, ↓reduceIte, Bool.false_eq_true, Bool.and_true, Bool.true_and, Bool.false_and, Bool.and_false, true_and, false_and, and_true, and_false] at hq3 ⊢; exact hq3 _
                  | false => simp only [cc, decide_true, decide_false, not_false_eq_true, not_true_eq_false, ↓reduceIte, Bool.false_eq_true, Bool.and_true, Bool.true_and, Bool.false_and, Bool.and_false, true_and, false_and, and_true, and_false] at hq3 ⊢; exact ihi (b + 1) (by omega) hq3 _ _ _ _
              exact lp _
          refine inner M 0 (by omega) ?_ _ _ _ _
          rw [show M + (10 - M) + 10 * j = 10 * (j + 1) by omega]
          exact hq2
      exact key M 0 (by omega) hq _ _ _ _ _
theorem r_which (x v w : Int32) : KR eX6_which [.int x, .int v, .int w] (f_which x v w) := by
  refine KR_of66 rfl (fun h K M GS G Q hq x0 => ?_)
  show WP 10 eX6_which Q 0 [.ref 59, .int x, .int v, .int w, mU, mU, mU] [] (mPut h 66 x0)
  have g0 : mv 60 h 0 = nI K := G.s0
  have g1 : mv 60 h 1 = nI M := G.s1
  have e0 : ∀ x, mPut h 66 x 60 0 = nI K := fun x => by rw [q60]; exact G.s0
  have e1 : ∀ x, mPut h 66 x 60 1 = nI M := fun x => by rw [q60]; exact G.s1
  have k10 := G.k10
  have m5 := G.m5
  have gk := gdkN G
  have gm := gdmN G
  unfold f_which at hq
  simp only [mS_1, mS_if, mS_im, mS_ln, mS_l, mS_rn, mS_r, mS_q, g0, g1, bno, gk, gm] at hq
  simp only [bX6_which_0, bX6_which_5, bX6_which_8, bX6_which_14, bX6_which_17, bX6_which_18, t59, r590, r594, r595, r596, r599, t60, l60, v0, c0, c1, c2, c3, k6_isKey (show 2 ≤ 10 by omega) (e0 _) k10, k6_isMachine (show 2 ≤ 10 by omega) (e1 _) m5, k6_no (show 1 ≤ 10 by omega) rc1, k6_no (show 1 ≤ 10 by omega) rc2, k6_no (show 1 ≤ 10 by omega) rc3, k6_no (show 1 ≤ 10 by omega) rc4, k6_no (show 1 ≤ 10 by omega) rc6, k6_isTooth (show 2 ≤ 10 by omega), k6_isIn (show 1 ≤ 10 by omega), k6_wrong (show 1 ≤ 10 by omega), isin_01, bz0, ite_bz, e0, e1, Option.toList_some, Option.toList_none, List.cons_append, List.nil_append, and_assoc, exists_and_left, exists_eq_left, true_and, and_true, Nat.reduceLeDiff, not_false_eq_true, not_true_eq_false, ↓reduceIte, eq_self, ← Int32.not_lt, ite_not, Classical.not_not]
  cases c : ik x (nI K) with
  | false =>
    simp only [c, show ¬ (-1 : Int32) = 0 by decide, decide_true, decide_false, not_false_eq_true, not_true_eq_false, ↓reduceIte, Bool.false_eq_true, Bool.and_true, Bool.true_and, Bool.false_and, Bool.and_false, true_and, false_and, and_true, and_false] at hq ⊢
    simp only [bX6_which_55, bX6_which_60, bX6_which_66, show ¬ (-1 : Int32) = 0 by decide, t59, r590, r594, r595, r596, r599, t60, l60, v0, c0, c1, c2, c3, k6_isKey (show 2 ≤ 10 by omega) (e0 _) k10, k6_isMachine (show 2 ≤ 10 by omega) (e1 _) m5, k6_no (show 1 ≤ 10 by omega) rc1, k6_no (show 1 ≤ 10 by omega) rc2, k6_no (show 1 ≤ 10 by omega) rc3, k6_no (show 1 ≤ 10 by omega) rc4, k6_no (show 1 ≤ 10 by omega) rc6, k6_isTooth (show 2 ≤ 10 by omega), k6_isIn (show 1 ≤ 10 by omega), k6_wrong (show 1 ≤ 10 by omega), isin_01, bz0, ite_bz, e0, e1, Option.toList_some, Option.toList_none, List.cons_append, List.nil_append, and_assoc, exists_and_left, exists_eq_left, true_and, and_true, Nat.reduceLeDiff, not_false_eq_true, not_true_eq_false, ↓reduceIte, eq_self, ← Int32.not_lt, ite_not, Classical.not_not]
    exact hq _ (mS_rf _) (frR_rf _)
  | true =>
    obtain ⟨k, hk, rfl⟩ := ikt (by omega) c
    have hk10 : k < 10 := by omega
    simp only [c, decide_true, decide_false, not_false_eq_true, not_true_eq_false, ↓reduceIte, Bool.false_eq_true, Bool.and_true, Bool.true_and, Bool.false_and, Bool.and_false, true_and, false_and, and_true, and_false, xN_n (show k < 100000 by omega)] at hq ⊢
    by_cases o : oub v 0 9 = 0
    · simp only [o, decide_true, decide_false, not_false_eq_true, not_true_eq_false, ↓reduceIte, Bool.false_eq_true, Bool.and_true, Bool.true_and, Bool.false_and, Bool.and_false, true_and, false_and, and_true, and_false] at hq ⊢
      simp only [bX6_which_25, bX6_which_31, bX6_which_34, bX6_which_39, bX6_which_47, bX6_which_52, q59, t59, r590, r594, r595, r596, r599, t60, l60, v0, c0, c1, c2, c3, k6_isKey (show 2 ≤ 10 by omega) (e0 _) k10, k6_isMachine (show 2 ≤ 10 by omega) (e1 _) m5, k6_no (show 1 ≤ 10 by omega) rc1, k6_no (show 1 ≤ 10 by omega) rc2, k6_no (show 1 ≤ 10 by omega) rc3, k6_no (show 1 ≤ 10 by omega) rc4, k6_no (show 1 ≤ 10 by omega) rc6, k6_isTooth (show 2 ≤ 10 by omega), k6_isIn (show 1 ≤ 10 by omega), k6_wrong (show 1 ≤ 10 by omega), isin_01, bz0, ite_bz, e0, e1, Option.toList_some, Option.toList_none, List.cons_append, List.nil_append, and_assoc, exists_and_left, exists_eq_left, true_and, and_true, Nat.reduceLeDiff, not_false_eq_true, not_true_eq_false, ↓reduceIte, eq_self, ← Int32.not_lt, ite_not, Classical.not_not]
      cases c3 : i01 w with
      | false =>
        simp only [c3, decide_true, decide_false, not_false_eq_true, not_true_eq_false, ↓reduceIte, Bool.false_eq_true, Bool.and_true, Bool.true_and, Bool.false_and, Bool.and_false, true_and, false_and, and_true, and_false] at hq ⊢
        simp only [bX6_which_53, bX6_which_55, bX6_which_60, bX6_which_66, show ¬ (-2 : Int32) = 0 by decide, t59, r590, r594, r595, r596, r599, t60, l60, v0, c0, c1, c2, c3, k6_isKey (show 2 ≤ 10 by omega) (e0 _) k10, k6_isMachine (show 2 ≤ 10 by omega) (e1 _) m5, k6_no (show 1 ≤ 10 by omega) rc1, k6_no (show 1 ≤ 10 by omega) rc2, k6_no (show 1 ≤ 10 by omega) rc3, k6_no (show 1 ≤ 10 by omega) rc4, k6_no (show 1 ≤ 10 by omega) rc6, k6_isTooth (show 2 ≤ 10 by omega), k6_isIn (show 1 ≤ 10 by omega), k6_wrong (show 1 ≤ 10 by omega), isin_01, bz0, ite_bz, e0, e1, Option.toList_some, Option.toList_none, List.cons_append, List.nil_append, and_assoc, exists_and_left, exists_eq_left, true_and, and_true, Nat.reduceLeDiff, not_false_eq_true, not_true_eq_false, ↓reduceIte, eq_self, ← Int32.not_lt, ite_not, Classical.not_not]
        exact hq _ (mS_rf _) (frR_rf _)
      | true =>
        by_cases r5 : h 59 8 = 5
        · simp only [c3, r5, decide_true, decide_false, not_false_eq_true, not_true_eq_false, ↓reduceIte, Bool.false_eq_true, Bool.and_true, Bool.true_and, Bool.false_and, Bool.and_false, true_and, false_and, and_true, and_false] at hq ⊢
          simp only [bX6_which_53, bX6_which_55, bX6_which_67, Option.toList_some, Option.toList_none, List.cons_append, List.nil_append, and_assoc, exists_and_left, exists_eq_left, true_and, and_true, Nat.reduceLeDiff, not_false_eq_true, not_true_eq_false, ↓reduceIte, eq_self, ← Int32.not_lt, ite_not, Classical.not_not]
          by_cases w0 : w = 0
          · simp only [w0, decide_true, decide_false, not_false_eq_true, not_true_eq_false, ↓reduceIte, Bool.false_eq_true, Bool.and_true, Bool.true_and, Bool.false_and, Bool.and_false, true_and, false_and, and_true, and_false] at hq ⊢
            refine wl (fun i => ∀ x, WP 10 eX6_which Q 73 [.ref 59, .int (nI k), .int v, .int 0, .int 0, .int (nI (nb (mtc (mv 60 h) k (h 64)) i)), .int (nI i)] [] (mPut h 66 x)) M ?_ M 0 (by omega) ?_ x0
            · intro i hi hw x
              have e := nb_n (mtc (mv 60 h) k (h 64)) (show i < 31 by omega)
              rw [show mtc (mv 60 h) k (h 64) i = eqr (cutM (mv 60 h) i (rowF (mv 60 h) k)) (h 64) from rfl] at e
              rw [bX6_which_73]
              simp only [bX6_which_79, bX6_which_90, bX6_which_93, bX6_which_98, bX6_which_102, bX6_which_109, bX6_which_119, bX6_which_125, bX6_which_128, bX6_which_135, bX6_which_136, nlt (show i ≤ 100000 by omega) (show M ≤ 100000 by omega), hi, k6_takes (show 2 ≤ 10 by omega) hk10, k6_cutsBy0 (show 5 ≤ 10 by omega) (show i < 5 by omega), k6_isTold (show 1 ≤ 10 by omega), nI_1, t59, r590, r594, r595, r596, r599, t60, l60, v0, c0, c1, c2, c3, k6_isKey (show 2 ≤ 10 by omega) (e0 _) k10, k6_isMachine (show 2 ≤ 10 by omega) (e1 _) m5, k6_no (show 1 ≤ 10 by omega) rc1, k6_no (show 1 ≤ 10 by omega) rc2, k6_no (show 1 ≤ 10 by omega) rc3, k6_no (show 1 ≤ 10 by omega) rc4, k6_no (show 1 ≤ 10 by omega) rc6, k6_isTooth (show 2 ≤ 10 by omega), k6_isIn (show 1 ≤ 10 by omega), k6_wrong (show 1 ≤ 10 by omega), isin_01, bz0, ite_bz, e0, e1, Option.toList_some, Option.toList_none, List.cons_append, List.nil_append, and_assoc, exists_and_left, exists_eq_left, true_and, and_true, Nat.reduceLeDiff, not_false_eq_true, not_true_eq_false, ↓reduceIte, eq_self, ← Int32.not_lt, ite_not, Classical.not_not]
              cases cc : eqr (cutM (mv 60 h) i (rowF (mv 60 h) k)) (h 64) <;> simp only [cc, decide_true, decide_false, not_false_eq_true, not_true_eq_false, ↓reduceIte, Bool.false_eq_true, Bool.and_true, Bool.true_and, Bool.false_and, Bool.and_false, true_and, false_and, and_true, and_false] at e ⊢ <;> rw [e] <;> exact hw _
            · intro x
              simp only [bX6_which_73, bX6_which_79, bX6_which_90, bX6_which_145, nlt (show M ≤ 100000 by omega) (show M ≤ 100000 by omega), Nat.lt_irrefl, t59, r590, r594, r595, r596, r599, t60, l60, v0, c0, c1, c2, c3, k6_isKey (show 2 ≤ 10 by omega) (e0 _) k10, k6_isMachine (show 2 ≤ 10 by omega) (e1 _) m5, k6_no (show 1 ≤ 10 by omega) rc1, k6_no (show 1 ≤ 10 by omega) rc2, k6_no (show 1 ≤ 10 by omega) rc3, k6_no (show 1 ≤ 10 by omega) rc4, k6_no (show 1 ≤ 10 by omega) rc6, k6_isTooth (show 2 ≤ 10 by omega), k6_isIn (show 1 ≤ 10 by omega), k6_wrong (show 1 ≤ 10 by omega), isin_01, bz0, ite_bz, e0, e1, Option.toList_some, Option.toList_none, List.cons_append, List.nil_append, and_assoc, exists_and_left, exists_eq_left, true_and, and_true, Nat.reduceLeDiff, not_false_eq_true, not_true_eq_false, ↓reduceIte, eq_self, ← Int32.not_lt, ite_not, Classical.not_not]
              exact hq _ mS_66 frR_66
          · simp only [w0, decide_true, decide_false, not_false_eq_true, not_true_eq_false, ↓reduceIte, Bool.false_eq_true, Bool.and_true, Bool.true_and, Bool.false_and, Bool.and_false, true_and, false_and, and_true, and_false] at hq ⊢
            refine wl (fun i => ∀ x, WP 10 eX6_which Q 73 [.ref 59, .int (nI k), .int v, .int w, .int 0, .int (nI (nb (ktc (mv 60 h) k v (h 64)) i)), .int (nI i)] [] (mPut h 66 x)) 6 ?_ 6 0 (by omega) ?_ x0
            · intro i hi hw x
              have e := nb_n (ktc (mv 60 h) k v (h 64)) (show i < 31 by omega)
              rw [show ktc (mv 60 h) k v (h 64) i = eqr (cutF (nI i) v (rowF (mv 60 h) k)) (h 64) from rfl] at e
              rw [bX6_which_73]
              simp only [bX6_which_88, bX6_which_90, bX6_which_93, bX6_which_98, bX6_which_112, bX6_which_119, bX6_which_125, bX6_which_128, bX6_which_135, bX6_which_136, w0, show (6 : Int32) = nI 6 from rfl, nlt (show i ≤ 100000 by omega) (show 6 ≤ 100000 by omega), hi, k6_takes (show 2 ≤ 10 by omega) hk10, k6_cutsIn (show 4 ≤ 10 by omega), k6_isTold (show 1 ≤ 10 by omega), nI_1, t59, r590, r594, r595, r596, r599, t60, l60, v0, c0, c1, c2, c3, k6_isKey (show 2 ≤ 10 by omega) (e0 _) k10, k6_isMachine (show 2 ≤ 10 by omega) (e1 _) m5, k6_no (show 1 ≤ 10 by omega) rc1, k6_no (show 1 ≤ 10 by omega) rc2, k6_no (show 1 ≤ 10 by omega) rc3, k6_no (show 1 ≤ 10 by omega) rc4, k6_no (show 1 ≤ 10 by omega) rc6, k6_isTooth (show 2 ≤ 10 by omega), k6_isIn (show 1 ≤ 10 by omega), k6_wrong (show 1 ≤ 10 by omega), isin_01, bz0, ite_bz, e0, e1, Option.toList_some, Option.toList_none, List.cons_append, List.nil_append, and_assoc, exists_and_left, exists_eq_left, true_and, and_true, Nat.reduceLeDiff, not_false_eq_true, not_true_eq_false, ↓reduceIte, eq_self, ← Int32.not_lt, ite_not, Classical.not_not]
              cases cc : eqr (cutF (nI i) v (rowF (mv 60 h) k)) (h 64) <;> simp only [cc, decide_true, decide_false, not_false_eq_true, not_true_eq_false, ↓reduceIte, Bool.false_eq_true, Bool.and_true, Bool.true_and, Bool.false_and, Bool.and_false, true_and, false_and, and_true, and_false] at e ⊢ <;> rw [e] <;> exact hw _
            · intro x
              simp only [bX6_which_73, bX6_which_88, bX6_which_90, bX6_which_145, w0, show (6 : Int32) = nI 6 from rfl, nlt (show 6 ≤ 100000 by omega) (show 6 ≤ 100000 by omega), Nat.lt_irrefl, t59, r590, r594, r595, r596, r599, t60, l60, v0, c0, c1, c2, c3, k6_isKey (show 2 ≤ 10 by omega) (e0 _) k10, k6_isMachine (show 2 ≤ 10 by omega) (e1 _) m5, k6_no (show 1 ≤ 10 by omega) rc1, k6_no (show 1 ≤ 10 by omega) rc2, k6_no (show 1 ≤ 10 by omega) rc3, k6_no (show 1 ≤ 10 by omega) rc4, k6_no (show 1 ≤ 10 by omega) rc6, k6_isTooth (show 2 ≤ 10 by omega), k6_isIn (show 1 ≤ 10 by omega), k6_wrong (show 1 ≤ 10 by omega), isin_01, bz0, ite_bz, e0, e1, Option.toList_some, Option.toList_none, List.cons_append, List.nil_append, and_assoc, exists_and_left, exists_eq_left, true_and, and_true, Nat.reduceLeDiff, not_false_eq_true, not_true_eq_false, ↓reduceIte, eq_self, ← Int32.not_lt, ite_not, Classical.not_not]
              exact hq _ mS_66 frR_66
        · simp only [c3, r5, decide_true, decide_false, not_false_eq_true, not_true_eq_false, ↓reduceIte, Bool.false_eq_true, Bool.and_true, Bool.true_and, Bool.false_and, Bool.and_false, true_and, false_and, and_true, and_false] at hq ⊢
          simp only [bX6_which_53, bX6_which_55, bX6_which_60, bX6_which_66, show ¬ (-3 : Int32) = 0 by decide, t59, r590, r594, r595, r596, r599, t60, l60, v0, c0, c1, c2, c3, k6_isKey (show 2 ≤ 10 by omega) (e0 _) k10, k6_isMachine (show 2 ≤ 10 by omega) (e1 _) m5, k6_no (show 1 ≤ 10 by omega) rc1, k6_no (show 1 ≤ 10 by omega) rc2, k6_no (show 1 ≤ 10 by omega) rc3, k6_no (show 1 ≤ 10 by omega) rc4, k6_no (show 1 ≤ 10 by omega) rc6, k6_isTooth (show 2 ≤ 10 by omega), k6_isIn (show 1 ≤ 10 by omega), k6_wrong (show 1 ≤ 10 by omega), isin_01, bz0, ite_bz, e0, e1, Option.toList_some, Option.toList_none, List.cons_append, List.nil_append, and_assoc, exists_and_left, exists_eq_left, true_and, and_true, Nat.reduceLeDiff, not_false_eq_true, not_true_eq_false, ↓reduceIte, eq_self, ← Int32.not_lt, ite_not, Classical.not_not]
          exact hq _ (mS_rf _) (frR_rf _)
    · simp only [o, decide_true, decide_false, not_false_eq_true, not_true_eq_false, ↓reduceIte, Bool.false_eq_true, Bool.and_true, Bool.true_and, Bool.false_and, Bool.and_false, true_and, false_and, and_true, and_false] at hq ⊢
      simp only [bX6_which_55, bX6_which_60, bX6_which_66, o, t59, k6_no (show 1 ≤ 10 by omega) (oub_r o), Option.toList_some, Option.toList_none, List.cons_append, List.nil_append, and_assoc, exists_and_left, exists_eq_left, true_and, and_true, Nat.reduceLeDiff, not_false_eq_true, not_true_eq_false, ↓reduceIte, eq_self, ← Int32.not_lt, ite_not, Classical.not_not]
      exact hq _ (mS_rf _) (frR_rf _)
theorem and_nb (p : Nat → Bool) (n K : Nat) : decide (n &&& nb p K = 0) = alb (fun k => !(n.testBit k && p k)) K := by
  by_cases c : ∃ k, k < K ∧ (n.testBit k && p k) = true
  · obtain ⟨k, hk, e⟩ := c
    rw [alb_f (p := fun k => !(n.testBit k && p k)) (i := k) (by simp only [e, Bool.not_true]) hk]
    refine decide_eq_false (fun z => ?_)
    have : (n &&& nb p K).testBit k = true := by rw [Nat.testBit_and, nb_bit, decide_eq_true hk, Bool.true_and]; exact e
    rw [z, Nat.zero_testBit] at this
    cases this
  · have al : ∀ k, k < K → (n.testBit k && p k) = false := fun k hk => by
      cases e : (n.testBit k && p k) with
      | false => rfl
      | true => exact absurd ⟨k, hk, e⟩ c
    rw [alb_t (fun k hk => by simp only [al k hk, Bool.not_false])]
    refine decide_eq_true (Nat.eq_of_testBit_eq (fun j => ?_))
    rw [Nat.testBit_and, nb_bit, Nat.zero_testBit]
    by_cases hj : j < K
    · rw [decide_eq_true hj, Bool.true_and]; exact al j hj
    · rw [decide_eq_false hj, Bool.false_and, Bool.and_false]
theorem r_spare : KR eX6_spare [] f_spare := by
  refine KR_of66 rfl (fun h K M GS G Q hq x0 => ?_)
  show WP 10 eX6_spare Q 0 [.ref 59, mU, mU, mU, mU, mU, mU] [] (mPut h 66 x0)
  have g0 : mv 60 h 0 = nI K := G.s0
  have g1 : mv 60 h 1 = nI M := G.s1
  have e0 : ∀ x, mPut h 66 x 60 0 = nI K := fun x => by rw [q60]; exact G.s0
  have e1 : ∀ x, mPut h 66 x 60 1 = nI M := fun x => by rw [q60]; exact G.s1
  have k10 := G.k10
  have m5 := G.m5
  have gk := gdkN G
  have gm := gdmN G
  unfold f_spare at hq
  simp only [mS_1, mS_if, mS_im, mS_ln, mS_l, mS_rn, mS_r, mS_q, g0, g1, bno, gk, gm] at hq
  rw [bX6_spare_0]
  have hp : 2 ^ K ≤ 1024 := Nat.pow_le_pow_right (n := 2) (j := 10) (by omega) k10
  have hp0 : 0 < 2 ^ K := Nat.two_pow_pos K
  refine wl (fun n => ∀ p q r s, WP 10 eX6_spare Q 5 [.ref 59, .int (on (bst (spN (mv 60 h) K) spW n)), .int (nI n), p, q, r, s] [] (mPut h 66 x0)) (2 ^ K) ?_ (2 ^ K) 0 (by omega) ?_ _ _ _ _
  · intro n hn hw p q r s
    have hw := hw
    have l1 := ct_le n.testBit 10
    rw [bst] at hw
    have body : ∀ (f : Int32), (∀ s, WP 10 eX6_spare Q 150 [.ref 59, .int f, .int (nI n), .int (nI (enN (mv 60 h) n K)), .int (bz (decide (n &&& nb (snb (mv 60 h)) K = 0))), .int (nI K), s] [] (mPut h 66 x0)) → ∀ p q r s', WP 10 eX6_spare Q 35 [.ref 59, .int f, .int (nI n), p, q, r, s'] [] (mPut h 66 x0) := by
      intro f hx p q r s'
      rw [bX6_spare_35]
      refine wl (fun i => ∀ s, WP 10 eX6_spare Q 43 [.ref 59, .int f, .int (nI n), .int (nI (enN (mv 60 h) n i)), .int (bz (alb (fun k => !(n.testBit k && snb (mv 60 h) k)) i)), .int (nI i), s] [] (mPut h 66 x0)) K ?_ K 0 (by omega) ?_ _
      · intro i hi hw s
        have i10 : i < 10 := by omega
        have hw := hw
        rw [enN, alb, ← bz_and] at hw
        have eb : n.testBit i = decide (n / 2 ^ i % 2 = 1) := Nat.testBit_eq_decide_div_mod_eq
        rw [bX6_spare_43]
        simp only [bX6_spare_54, bX6_spare_63, bX6_spare_144, nlt (show i ≤ 100000 by omega) (show K ≤ 100000 by omega), hi, tbit (show n < 2 ^ 31 by omega) (show i < 31 by omega), nI_1, t59, r590, r594, r595, r596, r599, t60, l60, v0, c0, c1, c2, c3, k6_isKey (show 2 ≤ 10 by omega) (e0 _) k10, k6_isMachine (show 2 ≤ 10 by omega) (e1 _) m5, k6_no (show 1 ≤ 10 by omega) rc1, k6_no (show 1 ≤ 10 by omega) rc2, k6_no (show 1 ≤ 10 by omega) rc3, k6_no (show 1 ≤ 10 by omega) rc4, k6_no (show 1 ≤ 10 by omega) rc6, k6_isTooth (show 2 ≤ 10 by omega), k6_isIn (show 1 ≤ 10 by omega), k6_wrong (show 1 ≤ 10 by omega), isin_01, bz0, ite_bz, e0, e1, Option.toList_some, Option.toList_none, List.cons_append, List.nil_append, and_assoc, exists_and_left, exists_eq_left, true_and, and_true, Nat.reduceLeDiff, not_false_eq_true, not_true_eq_false, ↓reduceIte, eq_self, ← Int32.not_lt, ite_not, Classical.not_not]
        rcases (show n / 2 ^ i % 2 = 0 ∨ n / 2 ^ i % 2 = 1 by omega) with q | q
        · have tb : n.testBit i = false := by rw [eb, q]; rfl
          simp only [tb, q, show nI 0 = 0 from rfl, decide_true, decide_false, not_false_eq_true, not_true_eq_false, ↓reduceIte, Bool.false_eq_true, Bool.and_true, Bool.true_and, Bool.false_and, Bool.and_false, true_and, false_and, and_true, and_false, Nat.or_zero, Bool.not_false, bzt] at hw ⊢
          have e1 : ∀ b, bz b &&& 1 = bz b := fun b => by cases b <;> rfl
          rw [e1] at hw
          exact hw _
        · have tb : n.testBit i = true := by rw [eb, q]; rfl
          have q1 : ¬ nI 1 = 0 := by decide
          simp only [tb, q, q1, decide_true, decide_false, not_false_eq_true, not_true_eq_false, ↓reduceIte, Bool.false_eq_true, Bool.and_true, Bool.true_and, Bool.false_and, Bool.and_false, true_and, false_and, and_true, and_false] at hw ⊢
          have lp : WP 10 eX6_spare Q 82 [.ref 59, .int f, .int (nI n), .int (nI (enN (mv 60 h) n i)), .int (bz (alb (fun k => !(n.testBit k && snb (mv 60 h) k)) i)), .int (nI i), s] [.int (bz (!snb (mv 60 h) i)), .int (bz (alb (fun k => !(n.testBit k && snb (mv 60 h) k)) i))] (mPut h 66 x0) := by
            rw [bX6_spare_82]
            have st := wl (fun t => WP 10 eX6_spare Q 88 [.ref 59, .int f, .int (nI n), .int (nI (enN (mv 60 h) n i ||| nb (fun t => nr (mv 60 h 3) (rowF (mv 60 h) i t) (pinF (mv 60 h) t)) t)), .int (bz (alb (fun k => !(n.testBit k && snb (mv 60 h) k)) i) &&& bz (!snb (mv 60 h) i)), .int (nI i), .int (nI t)] [] (mPut h 66 x0)) 5 ?_ 5 0 (by omega) ?_
            · rw [show nb (fun t => nr (mv 60 h 3) (rowF (mv 60 h) i t) (pinF (mv 60 h) t)) 0 = 0 from rfl, Nat.or_zero] at st
              exact st
            · intro t ht hw
              have e := nb_n (fun t => nr (mv 60 h 3) (rowF (mv 60 h) i t) (pinF (mv 60 h) t)) (show t < 31 by omega)
              rw [show nr (mv 60 h 3) (rowF (mv 60 h) i t) (pinF (mv 60 h) t) = decide (¬ mv 60 h 3 < ap (rowF (mv 60 h) i t) (pinF (mv 60 h) t)) from rfl] at e
              rw [← nI_or, ← e, ← Int32.or_assoc, nI_or] at hw
              rw [bX6_spare_88]
              simp only [bX6_spare_94, bX6_spare_106, bX6_spare_119, bX6_spare_128, bX6_spare_135, bX6_spare_136, show (5 : Int32) = nI 5 from rfl, nlt (show t ≤ 100000 by omega) (show 5 ≤ 100000 by omega), ht, k6_of (show 1 ≤ 10 by omega), v89 (show 9 + 7 * i + t < 89 by omega), nI_cl (show 9 + 7 * i + t < 100 by omega), show (4 : Int32) = nI 4 from rfl, nI_plus, v89 (show 4 + t < 89 by omega), nI_cl (show 4 + t < 100 by omega), q60, mvE (c := 60) (h := h) (show 9 + 7 * i + t < 89 by omega), mvE (c := 60) (h := h) (show 4 + t < 89 by omega), mvE (c := 60) (h := h) (show 3 < 89 by omega), k6_apart (show 1 ≤ 10 by omega), nI_1, t59, r590, r594, r595, r596, r599, t60, l60, v0, c0, c1, c2, c3, k6_isKey (show 2 ≤ 10 by omega) (e0 _) k10, k6_isMachine (show 2 ≤ 10 by omega) (e1 _) m5, k6_no (show 1 ≤ 10 by omega) rc1, k6_no (show 1 ≤ 10 by omega) rc2, k6_no (show 1 ≤ 10 by omega) rc3, k6_no (show 1 ≤ 10 by omega) rc4, k6_no (show 1 ≤ 10 by omega) rc6, k6_isTooth (show 2 ≤ 10 by omega), k6_isIn (show 1 ≤ 10 by omega), k6_wrong (show 1 ≤ 10 by omega), isin_01, bz0, ite_bz, e0, e1, Option.toList_some, Option.toList_none, List.cons_append, List.nil_append, and_assoc, exists_and_left, exists_eq_left, true_and, and_true, Nat.reduceLeDiff, not_false_eq_true, not_true_eq_false, ↓reduceIte, eq_self, ← Int32.not_lt, ite_not, Classical.not_not]
              rw [show mv 60 h (9 + 7 * i + t) = rowF (mv 60 h) i t from rfl, show mv 60 h (4 + t) = pinF (mv 60 h) t from rfl]
              by_cases cc : mv 60 h 3 < ap (rowF (mv 60 h) i t) (pinF (mv 60 h) t) <;> simp only [cc, decide_true, decide_false, not_false_eq_true, not_true_eq_false, ↓reduceIte, Bool.false_eq_true, Bool.and_true, Bool.true_and, Bool.false_and, Bool.and_false, true_and, false_and, and_true, and_false] at hw ⊢ <;> exact hw
            · simp only [bX6_spare_88, bX6_spare_144, show (5 : Int32) = nI 5 from rfl, nlt (show 5 ≤ 100000 by omega) (show 5 ≤ 100000 by omega), Nat.lt_irrefl, nI_1, Option.toList_some, Option.toList_none, List.cons_append, List.nil_append, and_assoc, exists_and_left, exists_eq_left, true_and, and_true, Nat.reduceLeDiff, not_false_eq_true, not_true_eq_false, ↓reduceIte, eq_self, ← Int32.not_lt, ite_not, Classical.not_not]
              exact hw _
          simp only [bX6_spare_66, bX6_spare_74, bX6_spare_77, bX6_spare_81, k6_isSnapped (show 2 ≤ 10 by omega) (G66 G _) i10, mv66, t59, r590, r594, r595, r596, r599, t60, l60, v0, c0, c1, c2, c3, k6_isKey (show 2 ≤ 10 by omega) (e0 _) k10, k6_isMachine (show 2 ≤ 10 by omega) (e1 _) m5, k6_no (show 1 ≤ 10 by omega) rc1, k6_no (show 1 ≤ 10 by omega) rc2, k6_no (show 1 ≤ 10 by omega) rc3, k6_no (show 1 ≤ 10 by omega) rc4, k6_no (show 1 ≤ 10 by omega) rc6, k6_isTooth (show 2 ≤ 10 by omega), k6_isIn (show 1 ≤ 10 by omega), k6_wrong (show 1 ≤ 10 by omega), isin_01, bz0, ite_bz, e0, e1, Option.toList_some, Option.toList_none, List.cons_append, List.nil_append, and_assoc, exists_and_left, exists_eq_left, true_and, and_true, Nat.reduceLeDiff, not_false_eq_true, not_true_eq_false, ↓reduceIte, eq_self, ← Int32.not_lt, ite_not, Classical.not_not]
          cases a : snb (mv 60 h) i <;> simp only [a, decide_true, decide_false, not_false_eq_true, not_true_eq_false, ↓reduceIte, Bool.false_eq_true, Bool.and_true, Bool.true_and, Bool.false_and, Bool.and_false, true_and, false_and, and_true, and_false, Bool.not_true, Bool.not_false, bzt, bzf] at lp ⊢ <;> exact lp
      · intro s
        simp only [bX6_spare_43, nlt (show K ≤ 100000 by omega) (show K ≤ 100000 by omega), Nat.lt_irrefl, t59, r590, r594, r595, r596, r599, t60, l60, v0, c0, c1, c2, c3, k6_isKey (show 2 ≤ 10 by omega) (e0 _) k10, k6_isMachine (show 2 ≤ 10 by omega) (e1 _) m5, k6_no (show 1 ≤ 10 by omega) rc1, k6_no (show 1 ≤ 10 by omega) rc2, k6_no (show 1 ≤ 10 by omega) rc3, k6_no (show 1 ≤ 10 by omega) rc4, k6_no (show 1 ≤ 10 by omega) rc6, k6_isTooth (show 2 ≤ 10 by omega), k6_isIn (show 1 ≤ 10 by omega), k6_wrong (show 1 ≤ 10 by omega), isin_01, bz0, ite_bz, e0, e1, Option.toList_some, Option.toList_none, List.cons_append, List.nil_append, and_assoc, exists_and_left, exists_eq_left, true_and, and_true, Nat.reduceLeDiff, not_false_eq_true, not_true_eq_false, ↓reduceIte, eq_self, ← Int32.not_lt, ite_not, Classical.not_not]
        rw [← and_nb]
        exact hx s
    have hl := enN_lt (mv 60 h) n K
    have tail : ∀ (f : Option Nat), (∀ p q r s, (if spN (mv 60 h) K n = true then WP 10 eX6_spare Q 5 [.ref 59, .int (nI n), .int (nI (n + 1)), p, q, r, s] [] (mPut h 66 x0) else WP 10 eX6_spare Q 5 [.ref 59, .int (on f), .int (nI (n + 1)), p, q, r, s] [] (mPut h 66 x0))) → ∀ s, WP 10 eX6_spare Q 150 [.ref 59, .int (on f), .int (nI n), .int (nI (enN (mv 60 h) n K)), .int (bz (decide (n &&& nb (snb (mv 60 h)) K = 0))), .int (nI K), s] [] (mPut h 66 x0) := by
      intro f hf s
      unfold spN at hf
      simp only [bX6_spare_150, bX6_spare_155, bX6_spare_161, bX6_spare_163, bz0, ite_bz, show (31 : Int32) = nI 31 from rfl, neq (show enN (mv 60 h) n K ≤ 100000 by omega) (show 31 ≤ 100000 by omega), nI_1, Option.toList_some, Option.toList_none, List.cons_append, List.nil_append, and_assoc, exists_and_left, exists_eq_left, true_and, and_true, Nat.reduceLeDiff, not_false_eq_true, not_true_eq_false, ↓reduceIte, eq_self, ← Int32.not_lt, ite_not, Classical.not_not]
      by_cases c1 : n &&& nb (snb (mv 60 h)) K = 0
      · by_cases c2 : enN (mv 60 h) n K = 31 <;> simp only [c1, c2, decide_true, decide_false, not_false_eq_true, not_true_eq_false, ↓reduceIte, Bool.false_eq_true, Bool.and_true, Bool.true_and, Bool.false_and, Bool.and_false, true_and, false_and, and_true, and_false] at hf ⊢ <;> exact hf _ _ _ _
      · simp only [c1, decide_true, decide_false, not_false_eq_true, not_true_eq_false, ↓reduceIte, Bool.false_eq_true, Bool.and_true, Bool.true_and, Bool.false_and, Bool.and_false, true_and, false_and, and_true, and_false] at hf ⊢; exact hf _ _ _ _
    rw [bX6_spare_5]
    simp only [bX6_spare_17, sh1 (show K < 31 by omega), nlt (show n ≤ 100000 by omega) (show 2 ^ K ≤ 100000 by omega), hn, t59, r590, r594, r595, r596, r599, t60, l60, v0, c0, c1, c2, c3, k6_isKey (show 2 ≤ 10 by omega) (e0 _) k10, k6_isMachine (show 2 ≤ 10 by omega) (e1 _) m5, k6_no (show 1 ≤ 10 by omega) rc1, k6_no (show 1 ≤ 10 by omega) rc2, k6_no (show 1 ≤ 10 by omega) rc3, k6_no (show 1 ≤ 10 by omega) rc4, k6_no (show 1 ≤ 10 by omega) rc6, k6_isTooth (show 2 ≤ 10 by omega), k6_isIn (show 1 ≤ 10 by omega), k6_wrong (show 1 ≤ 10 by omega), isin_01, bz0, ite_bz, e0, e1, Option.toList_some, Option.toList_none, List.cons_append, List.nil_append, and_assoc, exists_and_left, exists_eq_left, true_and, and_true, Nat.reduceLeDiff, not_false_eq_true, not_true_eq_false, ↓reduceIte, eq_self, ← Int32.not_lt, ite_not, Classical.not_not]
    cases e : bst (spN (mv 60 h) K) spW n with
    | none =>
      rw [e] at hw
      simp only [on, show (-9 : Int32) < 0 by decide, decide_true, decide_false, not_false_eq_true, not_true_eq_false, ↓reduceIte, Bool.false_eq_true, Bool.and_true, Bool.true_and, Bool.false_and, Bool.and_false, true_and, false_and, and_true, and_false] at hw ⊢
      refine body _ (tail none (fun p q r s => ?_)) _ _ _ _
      have := hw p q r s
      cases cc : spN (mv 60 h) K n <;> simp only [cc, decide_true, decide_false, not_false_eq_true, not_true_eq_false, ↓reduceIte, Bool.false_eq_true, Bool.and_true, Bool.true_and, Bool.false_and, Bool.and_false, true_and, false_and, and_true, and_false, on] at this ⊢ <;> exact this
    | some b =>
      have hb := bst_lt e
      have l2 := ct_le b.testBit 10
      rw [e] at hw
      simp only [on, nnn (show b ≤ 100000 by omega), decide_true, decide_false, not_false_eq_true, not_true_eq_false, ↓reduceIte, Bool.false_eq_true, Bool.and_true, Bool.true_and, Bool.false_and, Bool.and_false, true_and, false_and, and_true, and_false] at hw ⊢
      simp only [bX6_spare_21, bX6_spare_25, bX6_spare_29, bX6_spare_32, bX6_spare_163, k6_bits (show 1 ≤ 10 by omega) (show n < 1024 by omega), k6_bits (show 1 ≤ 10 by omega) (show b < 1024 by omega), nlt (show ct n.testBit 10 ≤ 100000 by omega) (show ct b.testBit 10 ≤ 100000 by omega), nI_1, Option.toList_some, Option.toList_none, List.cons_append, List.nil_append, and_assoc, exists_and_left, exists_eq_left, true_and, and_true, Nat.reduceLeDiff, not_false_eq_true, not_true_eq_false, ↓reduceIte, eq_self, ← Int32.not_lt, ite_not, Classical.not_not]
      have ew : (spW n < spW b) = (ct n.testBit 10 < ct b.testBit 10) := nlt (by omega) (by omega)
      simp only [ew] at hw
      by_cases c1 : ct n.testBit 10 < ct b.testBit 10
      · simp only [c1, decide_true, decide_false, not_false_eq_true, not_true_eq_false, ↓reduceIte, Bool.false_eq_true, Bool.and_true, Bool.true_and, Bool.false_and, Bool.and_false, true_and, false_and, and_true, and_false] at hw ⊢
        refine body _ (tail (some b) (fun p q r s => ?_)) _ _ _ _
        have := hw p q r s
        cases cc : spN (mv 60 h) K n <;> simp only [cc, decide_true, decide_false, not_false_eq_true, not_true_eq_false, ↓reduceIte, Bool.false_eq_true, Bool.and_true, Bool.true_and, Bool.false_and, Bool.and_false, true_and, false_and, and_true, and_false, on] at this ⊢ <;> exact this
      · simp only [c1, decide_true, decide_false, not_false_eq_true, not_true_eq_false, ↓reduceIte, Bool.false_eq_true, Bool.and_true, Bool.true_and, Bool.false_and, Bool.and_false, true_and, false_and, and_true, and_false] at hw ⊢
        have := hw p q r s
        cases cc : spN (mv 60 h) K n <;> simp only [cc, decide_true, decide_false, not_false_eq_true, not_true_eq_false, ↓reduceIte, Bool.false_eq_true, Bool.and_true, Bool.true_and, Bool.false_and, Bool.and_false, true_and, false_and, and_true, and_false, on] at this ⊢ <;> exact this
  · intro p q r s
    simp only [bX6_spare_5, bX6_spare_169, sh1 (show K < 31 by omega), nlt (show 2 ^ K ≤ 100000 by omega) (show 2 ^ K ≤ 100000 by omega), Nat.lt_irrefl, t59, r590, r594, r595, r596, r599, t60, l60, v0, c0, c1, c2, c3, k6_isKey (show 2 ≤ 10 by omega) (e0 _) k10, k6_isMachine (show 2 ≤ 10 by omega) (e1 _) m5, k6_no (show 1 ≤ 10 by omega) rc1, k6_no (show 1 ≤ 10 by omega) rc2, k6_no (show 1 ≤ 10 by omega) rc3, k6_no (show 1 ≤ 10 by omega) rc4, k6_no (show 1 ≤ 10 by omega) rc6, k6_isTooth (show 2 ≤ 10 by omega), k6_isIn (show 1 ≤ 10 by omega), k6_wrong (show 1 ≤ 10 by omega), isin_01, bz0, ite_bz, e0, e1, Option.toList_some, Option.toList_none, List.cons_append, List.nil_append, and_assoc, exists_and_left, exists_eq_left, true_and, and_true, Nat.reduceLeDiff, not_false_eq_true, not_true_eq_false, ↓reduceIte, eq_self, ← Int32.not_lt, ite_not, Classical.not_not]
    exact hq _ mS_66 frR_66
