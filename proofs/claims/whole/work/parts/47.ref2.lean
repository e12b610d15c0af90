theorem mS_598 {h : mH} {g : Nat → Int32} {v : Int32} : mS (mPut (mPut h 66 g) 59 (upd (h 59) 8 v)) = ((mS h).1, (mS h).2.1, (mS h).2.2.1, (v, (mS h).2.2.2.1.2), (mS h).2.2.2.2) := by
  unfold mS
  rw [mv_out (by omega), mv_out (by omega), mv_out (by omega), mv_out (by omega)]
  rfl
theorem r_clear : KR eX6_clear [] f_clear := by
  refine KR_of66 rfl (fun h K M GS G Q hq x0 => ?_)
  show WP 10 eX6_clear Q 0 [.ref 59, mU] [] (mPut h 66 x0)
  have g0 : mv 60 h 0 = nI K := G.s0
  have g1 : mv 60 h 1 = nI M := G.s1
  have e0 : ∀ x, mPut h 66 x 60 0 = nI K := fun x => by rw [q60]; exact G.s0
  have e1 : ∀ x, mPut h 66 x 60 1 = nI M := fun x => by rw [q60]; exact G.s1
  have k10 := G.k10
  have m5 := G.m5
  have gk := gdkN G
  have gm := gdmN G
  unfold f_clear at hq
  simp only [mS_1, mS_if, mS_im, mS_ln, mS_l, mS_rn, mS_r, mS_q, g0, g1, bno, gk, gm] at hq
  simp only [bX6_clear_0, bX6_clear_10, q59, t59, r590, r594, r595, r596, r599, t60, l60, v0, c0, c1, c2, c3, k6_isKey (show 2 ≤ 10 by omega) (e0 _) k10, k6_isMachine (show 2 ≤ 10 by omega) (e1 _) m5, k6_no (show 1 ≤ 10 by omega) rc1, k6_no (show 1 ≤ 10 by omega) rc2, k6_no (show 1 ≤ 10 by omega) rc3, k6_no (show 1 ≤ 10 by omega) rc4, k6_no (show 1 ≤ 10 by omega) rc6, k6_isTooth (show 2 ≤ 10 by omega), k6_isIn (show 1 ≤ 10 by omega), k6_wrong (show 1 ≤ 10 by omega), isin_01, bz0, ite_bz, e0, e1, Option.toList_some, Option.toList_none, List.cons_append, List.nil_append, and_assoc, exists_and_left, exists_eq_left, true_and, and_true, Nat.reduceLeDiff, not_false_eq_true, not_true_eq_false, ↓reduceIte, eq_self, ← Int32.not_lt, ite_not, Classical.not_not]
  exact hq _ mS_598 (frR_p frR_66 (by omega))
theorem r_letter (c : Int32) : KR eX6_letter [.int c] (f_letter c) := by
  refine KR_of66 rfl (fun h K M GS G Q hq x0 => ?_)
  show WP 10 eX6_letter Q 0 [.ref 59, .int c] [] (mPut h 66 x0)
  have g0 : mv 60 h 0 = nI K := G.s0
  have g1 : mv 60 h 1 = nI M := G.s1
  have e0 : ∀ x, mPut h 66 x 60 0 = nI K := fun x => by rw [q60]; exact G.s0
  have e1 : ∀ x, mPut h 66 x 60 1 = nI M := fun x => by rw [q60]; exact G.s1
  have k10 := G.k10
  have m5 := G.m5
  have gk := gdkN G
  have gm := gdmN G
  unfold f_letter at hq
  simp only [mS_1, mS_if, mS_im, mS_ln, mS_l, mS_rn, mS_r, mS_q, g0, g1, bno, gk, gm] at hq
  obtain ⟨n, lc, en, L⟩ := GS.2.2.1
  have n96 := L.1
  have e7 : h 59 7 = nI n := en
  have o : (nI n < 96) = (n < 96) := nlt (b := 96) (by omega) (by omega)
  have o2 : (nI n = 96) = (n = 96) := neq (b := 96) (by omega) (by omega)
  simp only [bX6_letter_0, bX6_letter_4, bX6_letter_10, bX6_letter_11, bX6_letter_18, bX6_letter_27, bX6_letter_33, q59, e7, o, o2, t59, r590, r594, r595, r596, r599, t60, l60, v0, c0, c1, c2, c3, k6_isKey (show 2 ≤ 10 by omega) (e0 _) k10, k6_isMachine (show 2 ≤ 10 by omega) (e1 _) m5, k6_no (show 1 ≤ 10 by omega) rc1, k6_no (show 1 ≤ 10 by omega) rc2, k6_no (show 1 ≤ 10 by omega) rc3, k6_no (show 1 ≤ 10 by omega) rc4, k6_no (show 1 ≤ 10 by omega) rc6, k6_isTooth (show 2 ≤ 10 by omega), k6_isIn (show 1 ≤ 10 by omega), k6_wrong (show 1 ≤ 10 by omega), isin_01, bz0, ite_bz, e0, e1, Option.toList_some, Option.toList_none, List.cons_append, List.nil_append, and_assoc, exists_and_left, exists_eq_left, true_and, and_true, Nat.reduceLeDiff, not_false_eq_true, not_true_eq_false, ↓reduceIte, eq_self, ← Int32.not_lt, ite_not, Classical.not_not] at hq ⊢
  by_cases c0 : c < 0
  · simp only [c0, decide_true, decide_false, not_false_eq_true, not_true_eq_false, ↓reduceIte, Bool.false_eq_true, Bool.and_true, Bool.true_and, Bool.false_and, Bool.and_false, true_and, false_and, and_true, and_false] at hq ⊢; exact hq _ (mS_rf _) (frR_rf _)
  by_cases c1 : 255 < c
  · simp only [c0, c1, decide_true, decide_false, not_false_eq_true, not_true_eq_false, ↓reduceIte, Bool.false_eq_true, Bool.and_true, Bool.true_and, Bool.false_and, Bool.and_false, true_and, false_and, and_true, and_false, true_or] at hq ⊢; exact hq _ (mS_rf _) (frR_rf _)
  by_cases c2 : n < 96
  · have p1 : ∀ x, mPut (mPut h 66 x0) 63 x 59 = h 59 := fun x => by rw [mPut_ne _ _ (by omega), q59]
    have p2 : mPut h 66 x0 63 = h 63 := mPut_ne _ _ (by omega)
    have u1 : ∀ (f : Nat → Int32) v, upd f 7 v 7 = v := fun f v => if_pos rfl
    simp only [c0, c1, c2, show ¬ n = 96 by omega, decide_true, decide_false, not_false_eq_true, not_true_eq_false, ↓reduceIte, Bool.false_eq_true, Bool.and_true, Bool.true_and, Bool.false_and, Bool.and_false, true_and, false_and, and_true, and_false, or_self, xN_n (show n < 100000 by omega)] at hq ⊢
    simp only [bX6_letter_34, bX6_letter_44, bX6_letter_54, t63, l63, q59, e7, p1, p2, vp_nI c2 (show 96 ≤ 100 by omega), nI_cl (show n < 100 by omega), mPut_self, u1, nI_1, t59, r590, r594, r595, r596, r599, t60, l60, v0, c0, c1, c2, c3, k6_isKey (show 2 ≤ 10 by omega) (e0 _) k10, k6_isMachine (show 2 ≤ 10 by omega) (e1 _) m5, k6_no (show 1 ≤ 10 by omega) rc1, k6_no (show 1 ≤ 10 by omega) rc2, k6_no (show 1 ≤ 10 by omega) rc3, k6_no (show 1 ≤ 10 by omega) rc4, k6_no (show 1 ≤ 10 by omega) rc6, k6_isTooth (show 2 ≤ 10 by omega), k6_isIn (show 1 ≤ 10 by omega), k6_wrong (show 1 ≤ 10 by omega), isin_01, bz0, ite_bz, e0, e1, Option.toList_some, Option.toList_none, List.cons_append, List.nil_append, and_assoc, exists_and_left, exists_eq_left, true_and, and_true, Nat.reduceLeDiff, not_false_eq_true, not_true_eq_false, ↓reduceIte, eq_self, ← Int32.not_lt, ite_not, Classical.not_not] at hq ⊢
    refine hq _ ?_ (frR_p (frR_p frR_66 (by omega)) (by omega))
    unfold mS
    rw [mv_out (by omega), mv_out (by omega), mv_out (by omega), mv_out (by omega), mv_out (by omega), mv_out (by omega)]
    rfl
  · simp only [c0, c1, c2, show n = 96 by omega, decide_true, decide_false, not_false_eq_true, not_true_eq_false, ↓reduceIte, Bool.false_eq_true, Bool.and_true, Bool.true_and, Bool.false_and, Bool.and_false, true_and, false_and, and_true, and_false, or_true] at hq ⊢; exact hq _ (mS_rf _) (frR_rf _)
theorem r_row (v : Int32) : KR eX6_row [.int v] (f_row v) := by
  refine KR_of66 rfl (fun h K M GS G Q hq x0 => ?_)
  show WP 10 eX6_row Q 0 [.ref 59, .int v, mU] [] (mPut h 66 x0)
  have g0 : mv 60 h 0 = nI K := G.s0
  have g1 : mv 60 h 1 = nI M := G.s1
  have e0 : ∀ x, mPut h 66 x 60 0 = nI K := fun x => by rw [q60]; exact G.s0
  have e1 : ∀ x, mPut h 66 x 60 1 = nI M := fun x => by rw [q60]; exact G.s1
  have k10 := G.k10
  have m5 := G.m5
  have gk := gdkN G
  have gm := gdmN G
  unfold f_row at hq
  simp only [mS_1, mS_if, mS_im, mS_ln, mS_l, mS_rn, mS_r, mS_q, g0, g1, bno, gk, gm] at hq
  obtain ⟨r, r12, er⟩ := GS.2.2.2
  have e8 : h 59 8 = nI r := er
  have o : (nI r < 12) = (r < 12) := nlt (b := 12) (by omega) (by omega)
  have o2 : (nI r = 12) = (r = 12) := neq (b := 12) (by omega) (by omega)
  simp only [e8, o] at hq
  simp only [bX6_row_0, bX6_row_6, bX6_row_11, bX6_row_20, q59, e8, o2, t59, r590, r594, r595, r596, r599, t60, l60, v0, c0, c1, c2, c3, k6_isKey (show 2 ≤ 10 by omega) (e0 _) k10, k6_isMachine (show 2 ≤ 10 by omega) (e1 _) m5, k6_no (show 1 ≤ 10 by omega) rc1, k6_no (show 1 ≤ 10 by omega) rc2, k6_no (show 1 ≤ 10 by omega) rc3, k6_no (show 1 ≤ 10 by omega) rc4, k6_no (show 1 ≤ 10 by omega) rc6, k6_isTooth (show 2 ≤ 10 by omega), k6_isIn (show 1 ≤ 10 by omega), k6_wrong (show 1 ≤ 10 by omega), isin_01, bz0, ite_bz, e0, e1, Option.toList_some, Option.toList_none, List.cons_append, List.nil_append, and_assoc, exists_and_left, exists_eq_left, true_and, and_true, Nat.reduceLeDiff, not_false_eq_true, not_true_eq_false, ↓reduceIte, eq_self, ← Int32.not_lt, ite_not, Classical.not_not]
  rcases oub_c (v := v) (a := 0) (b := 99) with ⟨h1, e⟩ | ⟨h1, h2, e⟩ | ⟨h1, h2, e⟩
  · simp only [e, h1, show ¬ (-4 : Int32) = 0 by decide, decide_true, decide_false, not_false_eq_true, not_true_eq_false, ↓reduceIte, Bool.false_eq_true, Bool.and_true, Bool.true_and, Bool.false_and, Bool.and_false, true_and, false_and, and_true, and_false] at hq ⊢
    simp only [bX6_row_23, bX6_row_27, bX6_row_32, show ¬ (-4 : Int32) = 0 by decide, t59, r590, r594, r595, r596, r599, t60, l60, v0, c0, c1, c2, c3, k6_isKey (show 2 ≤ 10 by omega) (e0 _) k10, k6_isMachine (show 2 ≤ 10 by omega) (e1 _) m5, k6_no (show 1 ≤ 10 by omega) rc1, k6_no (show 1 ≤ 10 by omega) rc2, k6_no (show 1 ≤ 10 by omega) rc3, k6_no (show 1 ≤ 10 by omega) rc4, k6_no (show 1 ≤ 10 by omega) rc6, k6_isTooth (show 2 ≤ 10 by omega), k6_isIn (show 1 ≤ 10 by omega), k6_wrong (show 1 ≤ 10 by omega), isin_01, bz0, ite_bz, e0, e1, Option.toList_some, Option.toList_none, List.cons_append, List.nil_append, and_assoc, exists_and_left, exists_eq_left, true_and, and_true, Nat.reduceLeDiff, not_false_eq_true, not_true_eq_false, ↓reduceIte, eq_self, ← Int32.not_lt, ite_not, Classical.not_not]
    exact hq _ (mS_rf _) (frR_rf _)
  · simp only [e, h1, h2, show ¬ (-6 : Int32) = 0 by decide, decide_true, decide_false, not_false_eq_true, not_true_eq_false, ↓reduceIte, Bool.false_eq_true, Bool.and_true, Bool.true_and, Bool.false_and, Bool.and_false, true_and, false_and, and_true, and_false] at hq ⊢
    simp only [bX6_row_23, bX6_row_27, bX6_row_32, show ¬ (-6 : Int32) = 0 by decide, t59, r590, r594, r595, r596, r599, t60, l60, v0, c0, c1, c2, c3, k6_isKey (show 2 ≤ 10 by omega) (e0 _) k10, k6_isMachine (show 2 ≤ 10 by omega) (e1 _) m5, k6_no (show 1 ≤ 10 by omega) rc1, k6_no (show 1 ≤ 10 by omega) rc2, k6_no (show 1 ≤ 10 by omega) rc3, k6_no (show 1 ≤ 10 by omega) rc4, k6_no (show 1 ≤ 10 by omega) rc6, k6_isTooth (show 2 ≤ 10 by omega), k6_isIn (show 1 ≤ 10 by omega), k6_wrong (show 1 ≤ 10 by omega), isin_01, bz0, ite_bz, e0, e1, Option.toList_some, Option.toList_none, List.cons_append, List.nil_append, and_assoc, exists_and_left, exists_eq_left, true_and, and_true, Nat.reduceLeDiff, not_false_eq_true, not_true_eq_false, ↓reduceIte, eq_self, ← Int32.not_lt, ite_not, Classical.not_not]
    exact hq _ (mS_rf _) (frR_rf _)
  · simp only [e, h1, h2, decide_true, decide_false, not_false_eq_true, not_true_eq_false, ↓reduceIte, Bool.false_eq_true, Bool.and_true, Bool.true_and, Bool.false_and, Bool.and_false, true_and, false_and, and_true, and_false] at hq ⊢
    by_cases c2 : r < 12
    · have p1 : ∀ x, mPut (mPut h 66 x0) 64 x 59 = h 59 := fun x => by rw [mPut_ne _ _ (by omega), q59]
      have u1 : ∀ (f : Nat → Int32) v, upd f 8 v 8 = v := fun f v => if_pos rfl
      simp only [c2, show ¬ r = 12 by omega, decide_true, decide_false, not_false_eq_true, not_true_eq_false, ↓reduceIte, Bool.false_eq_true, Bool.and_true, Bool.true_and, Bool.false_and, Bool.and_false, true_and, false_and, and_true, and_false, xN_n (show r < 100000 by omega)] at hq ⊢
      simp only [bX6_row_23, bX6_row_33, bX6_row_43, bX6_row_53, t64, l64, q59, q64, e8, p1, vp_nI c2 (show 12 ≤ 100 by omega), nI_cl (show r < 100 by omega), mPut_self, u1, nI_1, t59, r590, r594, r595, r596, r599, t60, l60, v0, c0, c1, c2, c3, k6_isKey (show 2 ≤ 10 by omega) (e0 _) k10, k6_isMachine (show 2 ≤ 10 by omega) (e1 _) m5, k6_no (show 1 ≤ 10 by omega) rc1, k6_no (show 1 ≤ 10 by omega) rc2, k6_no (show 1 ≤ 10 by omega) rc3, k6_no (show 1 ≤ 10 by omega) rc4, k6_no (show 1 ≤ 10 by omega) rc6, k6_isTooth (show 2 ≤ 10 by omega), k6_isIn (show 1 ≤ 10 by omega), k6_wrong (show 1 ≤ 10 by omega), isin_01, bz0, ite_bz, e0, e1, Option.toList_some, Option.toList_none, List.cons_append, List.nil_append, and_assoc, exists_and_left, exists_eq_left, true_and, and_true, Nat.reduceLeDiff, not_false_eq_true, not_true_eq_false, ↓reduceIte, eq_self, ← Int32.not_lt, ite_not, Classical.not_not] at hq ⊢
      refine hq _ ?_ (frR_p (frR_p frR_66 (by omega)) (by omega))
      unfold mS
      rw [mv_out (by omega), mv_out (by omega), mv_out (by omega), mv_out (by omega), mv_out (by omega), mv_out (by omega)]
      rfl
    · simp only [c2, show r = 12 by omega, decide_true, decide_false, not_false_eq_true, not_true_eq_false, ↓reduceIte, Bool.false_eq_true, Bool.and_true, Bool.true_and, Bool.false_and, Bool.and_false, true_and, false_and, and_true, and_false] at hq ⊢
      simp only [bX6_row_23, bX6_row_27, bX6_row_32, show ¬ (-6 : Int32) = 0 by decide, t59, r590, r594, r595, r596, r599, t60, l60, v0, c0, c1, c2, c3, k6_isKey (show 2 ≤ 10 by omega) (e0 _) k10, k6_isMachine (show 2 ≤ 10 by omega) (e1 _) m5, k6_no (show 1 ≤ 10 by omega) rc1, k6_no (show 1 ≤ 10 by omega) rc2, k6_no (show 1 ≤ 10 by omega) rc3, k6_no (show 1 ≤ 10 by omega) rc4, k6_no (show 1 ≤ 10 by omega) rc6, k6_isTooth (show 2 ≤ 10 by omega), k6_isIn (show 1 ≤ 10 by omega), k6_wrong (show 1 ≤ 10 by omega), isin_01, bz0, ite_bz, e0, e1, Option.toList_some, Option.toList_none, List.cons_append, List.nil_append, and_assoc, exists_and_left, exists_eq_left, true_and, and_true, Nat.reduceLeDiff, not_false_eq_true, not_true_eq_false, ↓reduceIte, eq_self, ← Int32.not_lt, ite_not, Classical.not_not]
      exact hq _ (mS_rf _) (frR_rf _)
theorem r_judge (x : Int32) : KR eX6_judge [.int x] (f_judge x) := by
  refine KR_of66 rfl (fun h K M GS G Q hq x0 => ?_)
  show WP 10 eX6_judge Q 0 [.ref 59, .int x, mU, mU] [] (mPut h 66 x0)
  have g0 : mv 60 h 0 = nI K := G.s0
  have g1 : mv 60 h 1 = nI M := G.s1
  have e0 : ∀ x, mPut h 66 x 60 0 = nI K := fun x => by rw [q60]; exact G.s0
  have e1 : ∀ x, mPut h 66 x 60 1 = nI M := fun x => by rw [q60]; exact G.s1
  have k10 := G.k10
  have m5 := G.m5
  have gk := gdkN G
  have gm := gdmN G
  unfold f_judge at hq
  simp only [mS_1, mS_if, mS_im, mS_ln, mS_l, mS_rn, mS_r, mS_q, g0, g1, bno, gk, gm] at hq
  obtain ⟨r, r12, er⟩ := GS.2.2.2
  have e8 : h 59 8 = nI r := er
  simp only [bX6_judge_0, bX6_judge_5, bX6_judge_8, bX6_judge_13, t59, r590, r594, r595, r596, r599, t60, l60, v0, c0, c1, c2, c3, k6_isKey (show 2 ≤ 10 by omega) (e0 _) k10, k6_isMachine (show 2 ≤ 10 by omega) (e1 _) m5, k6_no (show 1 ≤ 10 by omega) rc1, k6_no (show 1 ≤ 10 by omega) rc2, k6_no (show 1 ≤ 10 by omega) rc3, k6_no (show 1 ≤ 10 by omega) rc4, k6_no (show 1 ≤ 10 by omega) rc6, k6_isTooth (show 2 ≤ 10 by omega), k6_isIn (show 1 ≤ 10 by omega), k6_wrong (show 1 ≤ 10 by omega), isin_01, bz0, ite_bz, e0, e1, Option.toList_some, Option.toList_none, List.cons_append, List.nil_append, and_assoc, exists_and_left, exists_eq_left, true_and, and_true, Nat.reduceLeDiff, not_false_eq_true, not_true_eq_false, ↓reduceIte, eq_self, ← Int32.not_lt, ite_not, Classical.not_not]
  cases c : ik x (nI K) with
  | false => simp only [c, decide_true, decide_false, not_false_eq_true, not_true_eq_false, ↓reduceIte, Bool.false_eq_true, Bool.and_true, Bool.true_and, Bool.false_and, Bool.and_false, true_and, false_and, and_true, and_false] at hq ⊢; exact hq _ (mS_rf _) (frR_rf _)
  | true =>
    obtain ⟨k, hk, rfl⟩ := ikt (by omega) c
    have hk10 : k < 10 := by omega
    simp only [c, decide_true, decide_false, not_false_eq_true, not_true_eq_false, ↓reduceIte, Bool.false_eq_true, Bool.and_true, Bool.true_and, Bool.false_and, Bool.and_false, true_and, false_and, and_true, and_false, xN_n (show k < 100000 by omega), e8, xN_n (show r < 100000 by omega)] at hq ⊢
    simp only [bX6_judge_14, bX6_judge_24, q59, e8, t59, r590, r594, r595, r596, r599, t60, l60, v0, c0, c1, c2, c3, k6_isKey (show 2 ≤ 10 by omega) (e0 _) k10, k6_isMachine (show 2 ≤ 10 by omega) (e1 _) m5, k6_no (show 1 ≤ 10 by omega) rc1, k6_no (show 1 ≤ 10 by omega) rc2, k6_no (show 1 ≤ 10 by omega) rc3, k6_no (show 1 ≤ 10 by omega) rc4, k6_no (show 1 ≤ 10 by omega) rc6, k6_isTooth (show 2 ≤ 10 by omega), k6_isIn (show 1 ≤ 10 by omega), k6_wrong (show 1 ≤ 10 by omega), isin_01, bz0, ite_bz, e0, e1, Option.toList_some, Option.toList_none, List.cons_append, List.nil_append, and_assoc, exists_and_left, exists_eq_left, true_and, and_true, Nat.reduceLeDiff, not_false_eq_true, not_true_eq_false, ↓reduceIte, eq_self, ← Int32.not_lt, ite_not, Classical.not_not]
    have hq := hq _ (mS_598 (g := x0) (v := 0)) (frR_p frR_66 (by omega))
    have w60 : mPut (mPut h 66 x0) 59 (upd (h 59) 8 0) 60 = h 60 := by rw [mPut_ne _ _ (by omega), q60]
    have w64 : mPut (mPut h 66 x0) 59 (upd (h 59) 8 0) 64 = h 64 := by rw [mPut_ne _ _ (by omega), q64]
    generalize mPut (mPut h 66 x0) 59 (upd (h 59) 8 0) = w at w60 w64 hq ⊢
    have key : ∀ (n i : Nat), i + n = r → Q (some (.int (on (fst (jdP (mv 60 h) k (h 64)) i n)))) w → WP 10 eX6_judge Q 26 [.ref 59, .int (nI k), .int (nI r), .int (nI i)] [] w := by
      intro n
      induction n with
      | zero =>
        intro i hi hq2
        simp only [bX6_judge_26, bX6_judge_65, nlt (show i ≤ 100000 by omega) (show r ≤ 100000 by omega), show ¬ i < r by omega, Option.toList_some, Option.toList_none, List.cons_append, List.nil_append, and_assoc, exists_and_left, exists_eq_left, true_and, and_true, Nat.reduceLeDiff, not_false_eq_true, not_true_eq_false, ↓reduceIte, eq_self, ← Int32.not_lt, ite_not, Classical.not_not]
        exact hq2
      | succ n ih =>
        intro i hi hq2
        rw [fst, show jdP (mv 60 h) k (h 64) i = (!decide (i < 5) || !decide (h 64 i = mv 60 h (9 + 7 * k + i))) from rfl] at hq2
        have e5 : ik (nI i) 5 = decide (i < 5) := ikk (n := 5) (by omega) (by omega)
        rw [bX6_judge_26]
        simp only [bX6_judge_31, bX6_judge_35, bX6_judge_57, nlt (show i ≤ 100000 by omega) (show r ≤ 100000 by omega), show i < r by omega, k6_isTooth (show 2 ≤ 10 by omega), e5, bz0, ite_bz, Option.toList_some, Option.toList_none, List.cons_append, List.nil_append, and_assoc, exists_and_left, exists_eq_left, true_and, and_true, Nat.reduceLeDiff, not_false_eq_true, not_true_eq_false, ↓reduceIte, eq_self, ← Int32.not_lt, ite_not, Classical.not_not]
        by_cases c5 : i < 5
        · simp only [c5, decide_true, decide_false, not_false_eq_true, not_true_eq_false, ↓reduceIte, Bool.false_eq_true, Bool.and_true, Bool.true_and, Bool.false_and, Bool.and_false, true_and, false_and, and_true, and_false, Bool.not_true, Bool.false_or] at hq2 ⊢
          simp only [bX6_judge_38, bX6_judge_47, bX6_judge_57, bX6_judge_59, t59, r590, r595, t60, l60, t64, l64, k6_of (show 1 ≤ 10 by omega), v89 (show 9 + 7 * k + i < 89 by omega), nI_cl (show 9 + 7 * k + i < 100 by omega), vp_nI (show i < 12 by omega) (show 12 ≤ 100 by omega), nI_cl (show i < 100 by omega), w60, w64, mvE (c := 60) (h := h) (show 9 + 7 * k + i < 89 by omega), nI_1, Option.toList_some, Option.toList_none, List.cons_append, List.nil_append, and_assoc, exists_and_left, exists_eq_left, true_and, and_true, Nat.reduceLeDiff, not_false_eq_true, not_true_eq_false, ↓reduceIte, eq_self, ← Int32.not_lt, ite_not, Classical.not_not]
          by_cases c6 : h 64 i = mv 60 h (9 + 7 * k + i)
          · simp only [c6, decide_true, decide_false, not_false_eq_true, not_true_eq_false, ↓reduceIte, Bool.false_eq_true, Bool.and_true, Bool.true_and, Bool.false_and, Bool.and_false, true_and, false_and, and_true, and_false, Bool.not_true] at hq2 ⊢; exact ih (i + 1) (by omega) hq2
          · have c7 : ¬ mv 60 h (9 + 7 * k + i) = h 64 i := fun z => c6 z.symm
            simp only [c6, c7, decide_true, decide_false, not_false_eq_true, not_true_eq_false, ↓reduceIte, Bool.false_eq_true, Bool.and_true, Bool.true_and, Bool.false_and, Bool.and_false, true_and, false_and, and_true, and_false, Bool.not_false] at hq2 ⊢; exact hq2
        · simp only [c5, decide_true, decide_false, not_false_eq_true, not_true_eq_false, ↓reduceIte, Bool.false_eq_true, Bool.and_true, Bool.true_and, Bool.false_and, Bool.and_false, true_and, false_and, and_true, and_false, Bool.not_false, Bool.true_or] at hq2 ⊢; exact hq2
    exact key r 0 (by omega) hq
theorem k6_openMany {d K M : Nat} (hd : 5 ≤ d) {h : mH} (G : gdN (mv 60 h) K M) : ∀ x, ∃ g, Cal d eX6_openMany [.ref 59] (mPut h 66 x) (some (.int (nI (ct (opb (mv 60 h)) K)))) (mPut h 66 g) := by
  intro x0
  have k10 := G.k10
  have e0 : ∀ x, mPut h 66 x 60 0 = nI K := fun x => by rw [q60]; exact G.s0
  obtain ⟨h', ⟨g, e⟩, hc⟩ := Cal_pr (d := 4) (D := d) (E := eX6_openMany) (as := [.ref 59]) (h := mPut h 66 x0) (r := some (.int (nI (ct (opb (mv 60 h)) K)))) (P := fun h' => ∃ g, h' = mPut h 66 g) hd rfl (fun Q hq => by
    show WP 4 eX6_openMany Q 0 [.ref 59, mU, mU] [] (mPut h 66 x0)
    simp only [bX6_openMany_0]
    refine wl (fun i => ∀ x, WP 4 eX6_openMany Q 4 [.ref 59, .int (nI (ct (opb (mv 60 h)) i)), .int (nI i)] [] (mPut h 66 x)) K ?_ K 0 (by omega) ?_ x0
    · intro i hi hw x
      have hw := hw
      rw [ct] at hw
      rw [bX6_openMany_4]
      simp only [bX6_openMany_14, bX6_openMany_20, bX6_openMany_23, bX6_openMany_27, bX6_openMany_28, t59, r590, t60, l60, v0, c0, e0, nlt (show i ≤ 100000 by omega) (show K ≤ 100000 by omega), hi, k6_opens (Nat.le_refl 4) G (show i < 10 by omega), bz0, ite_bz, nI_1, Option.toList_some, Option.toList_none, List.cons_append, List.nil_append, and_assoc, exists_and_left, exists_eq_left, true_and, and_true, Nat.reduceLeDiff, not_false_eq_true, not_true_eq_false, ↓reduceIte, eq_self, ← Int32.not_lt, ite_not, Classical.not_not]
      cases c : opb (mv 60 h) i <;> simp only [c, decide_true, decide_false, not_false_eq_true, not_true_eq_false, ↓reduceIte, Bool.false_eq_true, Bool.and_true, Bool.true_and, Bool.false_and, Bool.and_false, true_and, false_and, and_true, and_false, nI_1, Int32.add_zero, Nat.add_zero] at hw ⊢ <;> exact hw _
    · intro x
      simp only [bX6_openMany_4, bX6_openMany_36, t59, r590, t60, l60, v0, c0, e0, nlt (show K ≤ 100000 by omega) (show K ≤ 100000 by omega), Nat.lt_irrefl, Option.toList_some, Option.toList_none, List.cons_append, List.nil_append, and_assoc, exists_and_left, exists_eq_left, true_and, and_true, Nat.reduceLeDiff, not_false_eq_true, not_true_eq_false, ↓reduceIte, eq_self, ← Int32.not_lt, ite_not, Classical.not_not]
      exact hq _ ⟨x, rfl⟩)
  subst e
  exact ⟨g, hc⟩
theorem isin_n {x a b : Int32} (h : isin x a b = true) : ¬ x < a ∧ ¬ b < x := by unfold isin at h; simp at h; exact ⟨Int32.not_lt.mpr h.1, Int32.not_lt.mpr h.2⟩
theorem r_count (w : Int32) : KR eX6_count [.int w] (f_count w) := by
  refine KR_of66 rfl (fun h K M GS G Q hq x0 => ?_)
  show WP 10 eX6_count Q 0 [.ref 59, .int w, mU, mU] [] (mPut h 66 x0)
  have g0 : mv 60 h 0 = nI K := G.s0
  have g1 : mv 60 h 1 = nI M := G.s1
  have e0 : ∀ x, mPut h 66 x 60 0 = nI K := fun x => by rw [q60]; exact G.s0
  have e1 : ∀ x, mPut h 66 x 60 1 = nI M := fun x => by rw [q60]; exact G.s1
  have k10 := G.k10
  have m5 := G.m5
  have gk := gdkN G
  have gm := gdmN G
  unfold f_count at hq
  simp only [mS_1, mS_if, mS_im, mS_ln, mS_l, mS_rn, mS_r, mS_q, g0, g1, bno, gk, gm] at hq
  simp only [bX6_count_0, bX6_count_8, t59, r590, r594, r595, r596, r599, t60, l60, v0, c0, c1, c2, c3, k6_isKey (show 2 ≤ 10 by omega) (e0 _) k10, k6_isMachine (show 2 ≤ 10 by omega) (e1 _) m5, k6_no (show 1 ≤ 10 by omega) rc1, k6_no (show 1 ≤ 10 by omega) rc2, k6_no (show 1 ≤ 10 by omega) rc3, k6_no (show 1 ≤ 10 by omega) rc4, k6_no (show 1 ≤ 10 by omega) rc6, k6_isTooth (show 2 ≤ 10 by omega), k6_isIn (show 1 ≤ 10 by omega), k6_wrong (show 1 ≤ 10 by omega), isin_01, bz0, ite_bz, e0, e1, Option.toList_some, Option.toList_none, List.cons_append, List.nil_append, and_assoc, exists_and_left, exists_eq_left, true_and, and_true, Nat.reduceLeDiff, not_false_eq_true, not_true_eq_false, ↓reduceIte, eq_self, ← Int32.not_lt, ite_not, Classical.not_not]
  cases ci : isin w 11 16 with
  | true =>
    obtain ⟨a, b⟩ := isin_n ci
    obtain ⟨j, j1, j2, rfl⟩ : ∃ j, 11 ≤ j ∧ j ≤ 16 ∧ w = nI j := oub_in (a := 11) (b := 16) (by omega) (by omega) (by unfold oub; rw [if_neg (show ¬ w < nI 11 from a), if_neg (show ¬ nI 16 < w from b)])
    have ej : nI j - 10 = nI (j - 10) := pk_sub (b := 10) (by omega)
    have nj : ∀ m, m < 10 → ¬ nI j = nI m := fun m hm => by rw [neq (by omega) (by omega)]; omega
    have p65 : mPut h 66 x0 65 = h 65 := mPut_ne _ _ (by omega)
    simp only [show ¬ nI j = 0 from nj 0 (by omega), show ¬ nI j = 1 from nj 1 (by omega), show ¬ nI j = 2 from nj 2 (by omega), show ¬ nI j = 3 from nj 3 (by omega), show ¬ nI j = 4 from nj 4 (by omega), show ¬ nI j = 5 from nj 5 (by omega), show ¬ nI j = 6 from nj 6 (by omega), show ¬ nI j = 7 from nj 7 (by omega), a, b, decide_true, decide_false, not_false_eq_true, not_true_eq_false, ↓reduceIte, Bool.false_eq_true, Bool.and_true, Bool.true_and, Bool.false_and, Bool.and_false, true_and, false_and, and_true, and_false, ej, xN_n (show j - 10 < 100000 by omega)] at hq ⊢
    simp only [bX6_count_11, t59, r596, t65, l65, ej, vp_nI (show j - 10 < 7 by omega) (show 7 ≤ 100 by omega), nI_cl (show j - 10 < 100 by omega), p65, Option.toList_some, Option.toList_none, List.cons_append, List.nil_append, and_assoc, exists_and_left, exists_eq_left, true_and, and_true, Nat.reduceLeDiff, not_false_eq_true, not_true_eq_false, ↓reduceIte, eq_self, ← Int32.not_lt, ite_not, Classical.not_not]
    exact hq _ mS_66 frR_66
  | false =>
    simp only [decide_true, decide_false, not_false_eq_true, not_true_eq_false, ↓reduceIte, Bool.false_eq_true, Bool.and_true, Bool.true_and, Bool.false_and, Bool.and_false, true_and, false_and, and_true, and_false]
    simp only [bX6_count_21, swP, Int.reduceAdd, Int32.reduceOfInt]
    have q : ∀ t, t < 4 → ∀ x, vp_in (nI t) 89 ∧ mPut h 66 x 60 (nI t).toNatClampNeg = mv 60 h t := fun t ht x => ⟨v89 (by omega), by rw [nI_cl (by omega), q60]; exact mvE (by omega)⟩
    by_cases w0 : w = 0
    · simp only [w0, decide_true, decide_false, not_false_eq_true, not_true_eq_false, ↓reduceIte, Bool.false_eq_true, Bool.and_true, Bool.true_and, Bool.false_and, Bool.and_false, true_and, false_and, and_true, and_false] at hq ⊢
      simp only [bX6_count_72, t59, r590, r594, r595, r596, r599, t60, l60, v0, c0, c1, c2, c3, k6_isKey (show 2 ≤ 10 by omega) (e0 _) k10, k6_isMachine (show 2 ≤ 10 by omega) (e1 _) m5, k6_no (show 1 ≤ 10 by omega) rc1, k6_no (show 1 ≤ 10 by omega) rc2, k6_no (show 1 ≤ 10 by omega) rc3, k6_no (show 1 ≤ 10 by omega) rc4, k6_no (show 1 ≤ 10 by omega) rc6, k6_isTooth (show 2 ≤ 10 by omega), k6_isIn (show 1 ≤ 10 by omega), k6_wrong (show 1 ≤ 10 by omega), isin_01, bz0, ite_bz, e0, e1, Option.toList_some, Option.toList_none, List.cons_append, List.nil_append, and_assoc, exists_and_left, exists_eq_left, true_and, and_true, Nat.reduceLeDiff, not_false_eq_true, not_true_eq_false, ↓reduceIte, eq_self, ← Int32.not_lt, ite_not, Classical.not_not]
      exact hq _ mS_66 frR_66
    by_cases w1 : w = 1
    · simp only [w1, show ¬ (1 : Int32) = 0 by decide, decide_true, decide_false, not_false_eq_true, not_true_eq_false, ↓reduceIte, Bool.false_eq_true, Bool.and_true, Bool.true_and, Bool.false_and, Bool.and_false, true_and, false_and, and_true, and_false] at hq ⊢
      simp only [bX6_count_72, t59, r590, r594, r595, r596, r599, t60, l60, v0, c0, c1, c2, c3, k6_isKey (show 2 ≤ 10 by omega) (e0 _) k10, k6_isMachine (show 2 ≤ 10 by omega) (e1 _) m5, k6_no (show 1 ≤ 10 by omega) rc1, k6_no (show 1 ≤ 10 by omega) rc2, k6_no (show 1 ≤ 10 by omega) rc3, k6_no (show 1 ≤ 10 by omega) rc4, k6_no (show 1 ≤ 10 by omega) rc6, k6_isTooth (show 2 ≤ 10 by omega), k6_isIn (show 1 ≤ 10 by omega), k6_wrong (show 1 ≤ 10 by omega), isin_01, bz0, ite_bz, e0, e1, Option.toList_some, Option.toList_none, List.cons_append, List.nil_append, and_assoc, exists_and_left, exists_eq_left, true_and, and_true, Nat.reduceLeDiff, not_false_eq_true, not_true_eq_false, ↓reduceIte, eq_self, ← Int32.not_lt, ite_not, Classical.not_not]
      exact hq _ mS_66 frR_66
    by_cases w2 : w = 2
    · simp only [w2, show ¬ (2 : Int32) = 0 by decide, show ¬ (2 : Int32) = 1 by decide, decide_true, decide_false, not_false_eq_true, not_true_eq_false, ↓reduceIte, Bool.false_eq_true, Bool.and_true, Bool.true_and, Bool.false_and, Bool.and_false, true_and, false_and, and_true, and_false] at hq ⊢
      simp only [bX6_count_72, q60, mvE (c := 60) (h := h) (show 2 < 89 by omega), t59, r590, r594, r595, r596, r599, t60, l60, v0, c0, c1, c2, c3, k6_isKey (show 2 ≤ 10 by omega) (e0 _) k10, k6_isMachine (show 2 ≤ 10 by omega) (e1 _) m5, k6_no (show 1 ≤ 10 by omega) rc1, k6_no (show 1 ≤ 10 by omega) rc2, k6_no (show 1 ≤ 10 by omega) rc3, k6_no (show 1 ≤ 10 by omega) rc4, k6_no (show 1 ≤ 10 by omega) rc6, k6_isTooth (show 2 ≤ 10 by omega), k6_isIn (show 1 ≤ 10 by omega), k6_wrong (show 1 ≤ 10 by omega), isin_01, bz0, ite_bz, e0, e1, Option.toList_some, Option.toList_none, List.cons_append, List.nil_append, and_assoc, exists_and_left, exists_eq_left, true_and, and_true, Nat.reduceLeDiff, not_false_eq_true, not_true_eq_false, ↓reduceIte, eq_self, ← Int32.not_lt, ite_not, Classical.not_not]
      exact hq _ mS_66 frR_66
    by_cases w3 : w = 3
    · simp only [w3, show ¬ (3 : Int32) = 0 by decide, show ¬ (3 : Int32) = 1 by decide, show ¬ (3 : Int32) = 2 by decide, decide_true, decide_false, not_false_eq_true, not_true_eq_false, ↓reduceIte, Bool.false_eq_true, Bool.and_true, Bool.true_and, Bool.false_and, Bool.and_false, true_and, false_and, and_true, and_false] at hq ⊢
      simp only [bX6_count_72, q60, mvE (c := 60) (h := h) (show 3 < 89 by omega), t59, r590, r594, r595, r596, r599, t60, l60, v0, c0, c1, c2, c3, k6_isKey (show 2 ≤ 10 by omega) (e0 _) k10, k6_isMachine (show 2 ≤ 10 by omega) (e1 _) m5, k6_no (show 1 ≤ 10 by omega) rc1, k6_no (show 1 ≤ 10 by omega) rc2, k6_no (show 1 ≤ 10 by omega) rc3, k6_no (show 1 ≤ 10 by omega) rc4, k6_no (show 1 ≤ 10 by omega) rc6, k6_isTooth (show 2 ≤ 10 by omega), k6_isIn (show 1 ≤ 10 by omega), k6_wrong (show 1 ≤ 10 by omega), isin_01, bz0, ite_bz, e0, e1, Option.toList_some, Option.toList_none, List.cons_append, List.nil_append, and_assoc, exists_and_left, exists_eq_left, true_and, and_true, Nat.reduceLeDiff, not_false_eq_true, not_true_eq_false, ↓reduceIte, eq_self, ← Int32.not_lt, ite_not, Classical.not_not]
      exact hq _ mS_66 frR_66
    by_cases w4 : w = 4
    · simp only [w4, show ¬ (4 : Int32) = 0 by decide, show ¬ (4 : Int32) = 1 by decide, show ¬ (4 : Int32) = 2 by decide, show ¬ (4 : Int32) = 3 by decide, decide_true, decide_false, not_false_eq_true, not_true_eq_false, ↓reduceIte, Bool.false_eq_true, Bool.and_true, Bool.true_and, Bool.false_and, Bool.and_false, true_and, false_and, and_true, and_false] at hq ⊢
      simp only [bX6_count_79]
      refine wl (fun i => WP 10 eX6_count Q 81 [.ref 59, .int 4, .int (nI (nb (snb (mv 60 h)) i)), .int (nI i)] [] (mPut h 66 x0)) K ?_ K 0 (by omega) ?_
      · intro i hi hw
        have e := nb_n (snb (mv 60 h)) (show i < 31 by omega)
        rw [bX6_count_81]
        simp only [bX6_count_91, bX6_count_97, bX6_count_100, bX6_count_106, bX6_count_107, nlt (show i ≤ 100000 by omega) (show K ≤ 100000 by omega), hi, k6_isSnapped (show 2 ≤ 10 by omega) (G66 G _) (show i < 10 by omega), mv66, nI_1, t59, r590, r594, r595, r596, r599, t60, l60, v0, c0, c1, c2, c3, k6_isKey (show 2 ≤ 10 by omega) (e0 _) k10, k6_isMachine (show 2 ≤ 10 by omega) (e1 _) m5, k6_no (show 1 ≤ 10 by omega) rc1, k6_no (show 1 ≤ 10 by omega) rc2, k6_no (show 1 ≤ 10 by omega) rc3, k6_no (show 1 ≤ 10 by omega) rc4, k6_no (show 1 ≤ 10 by omega) rc6, k6_isTooth (show 2 ≤ 10 by omega), k6_isIn (show 1 ≤ 10 by omega), k6_wrong (show 1 ≤ 10 by omega), isin_01, bz0, ite_bz, e0, e1, Option.toList_some, Option.toList_none, List.cons_append, List.nil_append, and_assoc, exists_and_left, exists_eq_left, true_and, and_true, Nat.reduceLeDiff, not_false_eq_true, not_true_eq_false, ↓reduceIte, eq_self, ← Int32.not_lt, ite_not, Classical.not_not]
        cases c : snb (mv 60 h) i <;> simp only [c, decide_true, decide_false, not_false_eq_true, not_true_eq_false, ↓reduceIte, Bool.false_eq_true, Bool.and_true, Bool.true_and, Bool.false_and, Bool.and_false, true_and, false_and, and_true, and_false] at e ⊢ <;> rw [e] <;> exact hw
      · simp only [bX6_count_81, bX6_count_115, nlt (show K ≤ 100000 by omega) (show K ≤ 100000 by omega), Nat.lt_irrefl, t59, r590, r594, r595, r596, r599, t60, l60, v0, c0, c1, c2, c3, k6_isKey (show 2 ≤ 10 by omega) (e0 _) k10, k6_isMachine (show 2 ≤ 10 by omega) (e1 _) m5, k6_no (show 1 ≤ 10 by omega) rc1, k6_no (show 1 ≤ 10 by omega) rc2, k6_no (show 1 ≤ 10 by omega) rc3, k6_no (show 1 ≤ 10 by omega) rc4, k6_no (show 1 ≤ 10 by omega) rc6, k6_isTooth (show 2 ≤ 10 by omega), k6_isIn (show 1 ≤ 10 by omega), k6_wrong (show 1 ≤ 10 by omega), isin_01, bz0, ite_bz, e0, e1, Option.toList_some, Option.toList_none, List.cons_append, List.nil_append, and_assoc, exists_and_left, exists_eq_left, true_and, and_true, Nat.reduceLeDiff, not_false_eq_true, not_true_eq_false, ↓reduceIte, eq_self, ← Int32.not_lt, ite_not, Classical.not_not]
        exact hq _ mS_66 frR_66
    by_cases w5 : w = 5
    · obtain ⟨g, hc⟩ := k6_openMany (show 5 ≤ 10 by omega) G x0
      simp only [w5, show ¬ (5 : Int32) = 0 by decide, show ¬ (5 : Int32) = 1 by decide, show ¬ (5 : Int32) = 2 by decide, show ¬ (5 : Int32) = 3 by decide, show ¬ (5 : Int32) = 4 by decide, decide_true, decide_false, not_false_eq_true, not_true_eq_false, ↓reduceIte, Bool.false_eq_true, Bool.and_true, Bool.true_and, Bool.false_and, Bool.and_false, true_and, false_and, and_true, and_false] at hq ⊢
      simp only [bX6_count_117, bX6_count_121, Cal_iff hc, t59, r590, r594, r595, r596, r599, t60, l60, v0, c0, c1, c2, c3, k6_isKey (show 2 ≤ 10 by omega) (e0 _) k10, k6_isMachine (show 2 ≤ 10 by omega) (e1 _) m5, k6_no (show 1 ≤ 10 by omega) rc1, k6_no (show 1 ≤ 10 by omega) rc2, k6_no (show 1 ≤ 10 by omega) rc3, k6_no (show 1 ≤ 10 by omega) rc4, k6_no (show 1 ≤ 10 by omega) rc6, k6_isTooth (show 2 ≤ 10 by omega), k6_isIn (show 1 ≤ 10 by omega), k6_wrong (show 1 ≤ 10 by omega), isin_01, bz0, ite_bz, e0, e1, Option.toList_some, Option.toList_none, List.cons_append, List.nil_append, and_assoc, exists_and_left, exists_eq_left, true_and, and_true, Nat.reduceLeDiff, not_false_eq_true, not_true_eq_false, ↓reduceIte, eq_self, ← Int32.not_lt, ite_not, Classical.not_not]
      exact hq _ mS_66 frR_66
    by_cases w6 : w = 6
    · simp only [w6, show ¬ (6 : Int32) = 0 by decide, show ¬ (6 : Int32) = 1 by decide, show ¬ (6 : Int32) = 2 by decide, show ¬ (6 : Int32) = 3 by decide, show ¬ (6 : Int32) = 4 by decide, show ¬ (6 : Int32) = 5 by decide, decide_true, decide_false, not_false_eq_true, not_true_eq_false, ↓reduceIte, Bool.false_eq_true, Bool.and_true, Bool.true_and, Bool.false_and, Bool.and_false, true_and, false_and, and_true, and_false] at hq ⊢
      simp only [bX6_count_122, q59, t59, r590, r594, r595, r596, r599, t60, l60, v0, c0, c1, c2, c3, k6_isKey (show 2 ≤ 10 by omega) (e0 _) k10, k6_isMachine (show 2 ≤ 10 by omega) (e1 _) m5, k6_no (show 1 ≤ 10 by omega) rc1, k6_no (show 1 ≤ 10 by omega) rc2, k6_no (show 1 ≤ 10 by omega) rc3, k6_no (show 1 ≤ 10 by omega) rc4, k6_no (show 1 ≤ 10 by omega) rc6, k6_isTooth (show 2 ≤ 10 by omega), k6_isIn (show 1 ≤ 10 by omega), k6_wrong (show 1 ≤ 10 by omega), isin_01, bz0, ite_bz, e0, e1, Option.toList_some, Option.toList_none, List.cons_append, List.nil_append, and_assoc, exists_and_left, exists_eq_left, true_and, and_true, Nat.reduceLeDiff, not_false_eq_true, not_true_eq_false, ↓reduceIte, eq_self, ← Int32.not_lt, ite_not, Classical.not_not]
      exact hq _ mS_66 frR_66
    by_cases w7 : w = 7
    · simp only [w7, show ¬ (7 : Int32) = 0 by decide, show ¬ (7 : Int32) = 1 by decide, show ¬ (7 : Int32) = 2 by decide, show ¬ (7 : Int32) = 3 by decide, show ¬ (7 : Int32) = 4 by decide, show ¬ (7 : Int32) = 5 by decide, show ¬ (7 : Int32) = 6 by decide, decide_true, decide_false, not_false_eq_true, not_true_eq_false, ↓reduceIte, Bool.false_eq_true, Bool.and_true, Bool.true_and, Bool.false_and, Bool.and_false, true_and, false_and, and_true, and_false] at hq ⊢
      simp only [bX6_count_127, q59, t59, r590, r594, r595, r596, r599, t60, l60, v0, c0, c1, c2, c3, k6_isKey (show 2 ≤ 10 by omega) (e0 _) k10, k6_isMachine (show 2 ≤ 10 by omega) (e1 _) m5, k6_no (show 1 ≤ 10 by omega) rc1, k6_no (show 1 ≤ 10 by omega) rc2, k6_no (show 1 ≤ 10 by omega) rc3, k6_no (show 1 ≤ 10 by omega) rc4, k6_no (show 1 ≤ 10 by omega) rc6, k6_isTooth (show 2 ≤ 10 by omega), k6_isIn (show 1 ≤ 10 by omega), k6_wrong (show 1 ≤ 10 by omega), isin_01, bz0, ite_bz, e0, e1, Option.toList_some, Option.toList_none, List.cons_append, List.nil_append, and_assoc, exists_and_left, exists_eq_left, true_and, and_true, Nat.reduceLeDiff, not_false_eq_true, not_true_eq_false, ↓reduceIte, eq_self, ← Int32.not_lt, ite_not, Classical.not_not]
      exact hq _ mS_66 frR_66
    · simp only [w0, w1, w2, w3, w4, w5, w6, w7, decide_true, decide_false, not_false_eq_true, not_true_eq_false, ↓reduceIte, Bool.false_eq_true, Bool.and_true, Bool.true_and, Bool.false_and, Bool.and_false, true_and, false_and, and_true, and_false] at hq ⊢
      simp only [bX6_count_132]
      unfold isin at ci
      by_cases a : w < 11
      · simp only [a, decide_true, decide_false, not_false_eq_true, not_true_eq_false, ↓reduceIte, Bool.false_eq_true, Bool.and_true, Bool.true_and, Bool.false_and, Bool.and_false, true_and, false_and, and_true, and_false] at hq; exact hq _ mS_66 frR_66
      by_cases b : 16 < w
      · simp only [a, b, decide_true, decide_false, not_false_eq_true, not_true_eq_false, ↓reduceIte, Bool.false_eq_true, Bool.and_true, Bool.true_and, Bool.false_and, Bool.and_false, true_and, false_and, and_true, and_false] at hq; exact hq _ mS_66 frR_66
      simp only [a, b, decide_true, decide_false, not_false_eq_true, not_true_eq_false, ↓reduceIte, Bool.false_eq_true, Bool.and_true, Bool.true_and, Bool.false_and, Bool.and_false, true_and, false_and, and_true, and_false] at ci
      cases ci
theorem k6_lays {d a b : Nat} (hd : 1 ≤ d) (ha : tg a = 100) (la : ln a = 89) (hb : tg b = 100) (lb : ln b = 89) (hab : ¬ a = b) (h : mH) (r : Option Value) (h' : mH) : Cal d eX6_lays [.ref a, .ref b] h r h' ↔ r = none ∧ h' = mPut h b (pT (h a) (h b) 89) := by
  refine Cal_iff (Cal_le (d := 1) (Cal_of rfl (fun Q hq => ?_)) hd) r h'
  show WP 0 eX6_lays Q 0 [.ref a, .ref b, mU] [] h
  simp only [bX6_lays_0]
  have key := wl (fun i => WP 0 eX6_lays Q 2 [.ref a, .ref b, .int (nI i)] [] (mPut h b (pT (h a) (h b) i))) 89 ?_ 89 0 (by omega) ?_
  · rw [pT_0, mPut_id] at key; exact key
  · intro i hi hw
    have e := pT_succ (h a) (h b) i
    rw [bX6_lays_2]
    simp only [bX6_lays_8, bX6_lays_14, show (89 : Int32) = nI 89 from rfl, nlt (show i ≤ 100000 by omega) (show 89 ≤ 100000 by omega), hi, ha, la, hb, lb, v89 hi, nI_cl (show i < 100 by omega), mPut_ne h _ hab, mPut_self, mPut_put, e, nI_1, Option.toList_some, Option.toList_none, List.cons_append, List.nil_append, and_assoc, exists_and_left, exists_eq_left, true_and, and_true, Nat.reduceLeDiff, not_false_eq_true, not_true_eq_false, ↓reduceIte, eq_self, ← Int32.not_lt, ite_not, Classical.not_not]
    exact hw
  · simp only [bX6_lays_2, bX6_lays_20, show (89 : Int32) = nI 89 from rfl, nlt (show 89 ≤ 100000 by omega) (show 89 ≤ 100000 by omega), Nat.lt_irrefl, Option.toList_some, Option.toList_none, List.cons_append, List.nil_append, and_assoc, exists_and_left, exists_eq_left, true_and, and_true, Nat.reduceLeDiff, not_false_eq_true, not_true_eq_false, ↓reduceIte, eq_self, ← Int32.not_lt, ite_not, Classical.not_not]
    exact hq
theorem mv_lay {h : mH} {a b : Nat} {f : Nat → Int32} : mv b (mPut h b (pT (h a) f 89)) = mv a h := by
  funext i
  unfold mv
  rw [mPut_self]
  by_cases c : i < 89
  · rw [if_pos c, if_pos c, pT_lt c]
  · rw [if_neg c, if_neg c]
theorem r_image : KR eX6_image [] f_image := by
  refine KR_of66 rfl (fun h K M GS G Q hq x0 => ?_)
  show WP 10 eX6_image Q 0 [.ref 59] [] (mPut h 66 x0)
  have g0 : mv 60 h 0 = nI K := G.s0
  have g1 : mv 60 h 1 = nI M := G.s1
  have e0 : ∀ x, mPut h 66 x 60 0 = nI K := fun x => by rw [q60]; exact G.s0
  have e1 : ∀ x, mPut h 66 x 60 1 = nI M := fun x => by rw [q60]; exact G.s1
  have k10 := G.k10
  have m5 := G.m5
  have gk := gdkN G
  have gm := gdmN G
  unfold f_image at hq
  simp only [mS_1, mS_if, mS_im, mS_ln, mS_l, mS_rn, mS_r, mS_q, g0, g1, bno, gk, gm] at hq
  have e2 : ∀ x, mPut (mPut (mPut h 66 x0) 61 x) 59 (upd (h 59) 3 1) 60 2 = mv 60 h 2 := fun x => by rw [mPut_ne _ _ (by omega), mPut_ne _ _ (by omega), q60]; exact mvE (by omega)
  have p1 : ∀ x, mPut (mPut h 66 x0) 61 x 59 = h 59 := fun x => by rw [mPut_ne _ _ (by omega), q59]
  simp only [bX6_image_0, bX6_image_11, bX6_image_16, r591, k6_lays (show 1 ≤ 10 by omega) t60 l60 t61 l61 (show ¬ 60 = 61 by omega), p1, e2, t59, r590, r594, r595, r596, r599, t60, l60, v0, c0, c1, c2, c3, k6_isKey (show 2 ≤ 10 by omega) (e0 _) k10, k6_isMachine (show 2 ≤ 10 by omega) (e1 _) m5, k6_no (show 1 ≤ 10 by omega) rc1, k6_no (show 1 ≤ 10 by omega) rc2, k6_no (show 1 ≤ 10 by omega) rc3, k6_no (show 1 ≤ 10 by omega) rc4, k6_no (show 1 ≤ 10 by omega) rc6, k6_isTooth (show 2 ≤ 10 by omega), k6_isIn (show 1 ≤ 10 by omega), k6_wrong (show 1 ≤ 10 by omega), isin_01, bz0, ite_bz, e0, e1, Option.toList_some, Option.toList_none, List.cons_append, List.nil_append, and_assoc, exists_and_left, exists_eq_left, true_and, and_true, Nat.reduceLeDiff, not_false_eq_true, not_true_eq_false, ↓reduceIte, eq_self, ← Int32.not_lt, ite_not, Classical.not_not]
  refine hq _ ?_ (frR_p (frR_p frR_66 (by omega)) (by omega))
  have e61 : mv 61 (mPut (mPut (mPut h 66 x0) 61 (pT (mPut h 66 x0 60) (mPut h 66 x0 61) 89)) 59 (upd (h 59) 3 1)) = mv 60 h := by rw [mv_out (by omega), mv_lay, mv66]
  unfold mS
  rw [e61, mv_out (c := 60) (by omega), mv_out (c := 60) (by omega), mv66]
  rfl
theorem r_on : KR eX6_on [] f_on := by
  refine KR_of66 rfl (fun h K M GS G Q hq x0 => ?_)
  show WP 10 eX6_on Q 0 [.ref 59] [] (mPut h 66 x0)
  have g0 : mv 60 h 0 = nI K := G.s0
  have g1 : mv 60 h 1 = nI M := G.s1
  have e0 : ∀ x, mPut h 66 x 60 0 = nI K := fun x => by rw [q60]; exact G.s0
  have e1 : ∀ x, mPut h 66 x 60 1 = nI M := fun x => by rw [q60]; exact G.s1
  have k10 := G.k10
  have m5 := G.m5
  have gk := gdkN G
  have gm := gdmN G
  unfold f_on at hq
  simp only [mS_1, mS_if, mS_im, mS_ln, mS_l, mS_rn, mS_r, mS_q, g0, g1, bno, gk, gm] at hq
  rcases GS.2.1 with z | ⟨z, K2, M2, G2⟩
  · have z : h 59 3 = 0 := z
    simp only [bX6_on_0, bX6_on_7, bX6_on_13, q59, z, t59, r590, r594, r595, r596, r599, t60, l60, v0, c0, c1, c2, c3, k6_isKey (show 2 ≤ 10 by omega) (e0 _) k10, k6_isMachine (show 2 ≤ 10 by omega) (e1 _) m5, k6_no (show 1 ≤ 10 by omega) rc1, k6_no (show 1 ≤ 10 by omega) rc2, k6_no (show 1 ≤ 10 by omega) rc3, k6_no (show 1 ≤ 10 by omega) rc4, k6_no (show 1 ≤ 10 by omega) rc6, k6_isTooth (show 2 ≤ 10 by omega), k6_isIn (show 1 ≤ 10 by omega), k6_wrong (show 1 ≤ 10 by omega), isin_01, bz0, ite_bz, e0, e1, Option.toList_some, Option.toList_none, List.cons_append, List.nil_append, and_assoc, exists_and_left, exists_eq_left, true_and, and_true, Nat.reduceLeDiff, not_false_eq_true, not_true_eq_false, ↓reduceIte, eq_self, ← Int32.not_lt, ite_not, Classical.not_not] at hq ⊢
    exact hq _ (mS_rf _) (frR_rf _)
  · have z : h 59 3 = 1 := z
    have eI : cI (h 59 3) (mv 61 h) = mv 61 h := by rw [z]; rfl
    rw [eI] at hq
    simp only [z, n01, decide_true, decide_false, not_false_eq_true, not_true_eq_false, ↓reduceIte, Bool.false_eq_true, Bool.and_true, Bool.true_and, Bool.false_and, Bool.and_false, true_and, false_and, and_true, and_false] at hq
    have p61 : mPut h 66 x0 61 = h 61 := mPut_ne _ _ (by omega)
    have e60 : mv 60 (mPut (mPut h 66 x0) 60 (pT (mPut h 66 x0 61) (mPut h 66 x0 60) 89)) = mv 61 h := by rw [mv_lay, mv_out (by omega)]
    have e2 : mPut (mPut h 66 x0) 60 (pT (mPut h 66 x0 61) (mPut h 66 x0 60) 89) 60 2 = mv 61 h 2 := by rw [← e60]; exact mvE (by omega)
    simp only [bX6_on_0, bX6_on_14, bX6_on_25, q59, z, n01, r591, k6_lays (show 1 ≤ 10 by omega) t61 l61 t60 l60 (show ¬ 61 = 60 by omega), e2, t59, r590, r594, r595, r596, r599, t60, l60, v0, c0, c1, c2, c3, k6_isKey (show 2 ≤ 10 by omega) (e0 _) k10, k6_isMachine (show 2 ≤ 10 by omega) (e1 _) m5, k6_no (show 1 ≤ 10 by omega) rc1, k6_no (show 1 ≤ 10 by omega) rc2, k6_no (show 1 ≤ 10 by omega) rc3, k6_no (show 1 ≤ 10 by omega) rc4, k6_no (show 1 ≤ 10 by omega) rc6, k6_isTooth (show 2 ≤ 10 by omega), k6_isIn (show 1 ≤ 10 by omega), k6_wrong (show 1 ≤ 10 by omega), isin_01, bz0, ite_bz, e0, e1, Option.toList_some, Option.toList_none, List.cons_append, List.nil_append, and_assoc, exists_and_left, exists_eq_left, true_and, and_true, Nat.reduceLeDiff, not_false_eq_true, not_true_eq_false, ↓reduceIte, eq_self, ← Int32.not_lt, ite_not, Classical.not_not]
    refine hq _ ?_ (frR_p frR_66 (by omega))
    unfold mS
    rw [e60, mv_out (c := 61) (by omega), mv_out (c := 61) (by omega)]
    rfl
