theorem c_pin (x : Int32) : KC eX5_pin [.int x] (f_pin x) := by
  refine KC_of rfl (fun h K M GS G Q hq => ?_)
  show WP 10 eX5_pin Q 0 [.ref 0, .int x] [] h
  have e0 : h 1 2 = nI K := G.s0
  have e1 : h 1 6 = nI M := G.s1
  have g0 : cv 1 h 0 = nI K := G.s0
  have g1 : cv 1 h 1 = nI M := G.s1
  unfold f_pin at hq
  simp only [bX5_pin_0, bX5_pin_4, bX5_pin_7, bX5_pin_12, bX5_pin_13, t0, r00, r04, t52, tgS s1, k_hasKey (show 1 ≤ 10 by omega) s1, k_hasMachine (show 1 ≤ 10 by omega) s1, k_refuse (show 1 ≤ 10 by omega) rc1, k_refuse (show 1 ≤ 10 by omega) rc2, k_refuse (show 1 ≤ 10 by omega) rc3, k_refuse (show 1 ≤ 10 by omega) rc4, k_refuse (show 1 ≤ 10 by omega) rc6, k_isTooth (show 1 ≤ 10 by omega), k_isZeroOrOne (show 1 ≤ 10 by omega), k_outside (show 1 ≤ 10 by omega), bz0, ite_bz, e0, e1, Option.toList_some, Option.toList_none, List.cons_append, List.nil_append, and_assoc, exists_and_left, exists_eq_left, true_and, and_true, Nat.reduceLeDiff, not_false_eq_true, not_true_eq_false, ↓reduceIte, eq_self, ← Int32.not_lt, ite_not, Classical.not_not] at hq ⊢
  simp only [cS_1, cS_if, cS_im, cS_ln, cS_l, cS_rn, cS_r, cS_q, g0, g1, bno] at hq
  cases c : ik x 5 with
  | false => simp only [c, decide_true, decide_false, not_false_eq_true, not_true_eq_false, ↓reduceIte, Bool.false_eq_true, Bool.and_true, Bool.true_and, Bool.false_and, Bool.and_false, true_and, false_and, and_true, and_false] at hq ⊢; exact hq _ (cS_rf _) (frC_rf _)
  | true =>
    obtain ⟨t, ht, rfl⟩ := ik5t c
    simp only [c, decide_true, decide_false, not_false_eq_true, not_true_eq_false, ↓reduceIte, Bool.false_eq_true, Bool.and_true, Bool.true_and, Bool.false_and, Bool.and_false, true_and, false_and, and_true, and_false, xN_n (show t < 100000 by omega), cvP ht] at hq ⊢
    simp only [rfS0 s1, tgP s1, lnP s1, vp_nI ht (show 5 ≤ 100 by omega), nI_cl (show t < 100 by omega), Option.toList_some, Option.toList_none, List.cons_append, List.nil_append, and_assoc, exists_and_left, exists_eq_left, true_and, and_true, Nat.reduceLeDiff, not_false_eq_true, not_true_eq_false, ↓reduceIte, eq_self, ← Int32.not_lt, ite_not, Classical.not_not]
    exact hq _ rfl frC_r
theorem c_key (x w : Int32) : KC eX5_key [.int x, .int w] (f_key x w) := by
  refine KC_of rfl (fun h K M GS G Q hq => ?_)
  show WP 10 eX5_key Q 0 [.ref 0, .int x, .int w] [] h
  have e0 : h 1 2 = nI K := G.s0
  have e1 : h 1 6 = nI M := G.s1
  have g0 : cv 1 h 0 = nI K := G.s0
  have g1 : cv 1 h 1 = nI M := G.s1
  have k10 := G.k10
  unfold f_key at hq
  simp only [cS_1, cS_if, cS_im, cS_ln, cS_l, cS_rn, cS_r, cS_q, g0, g1, bno] at hq
  simp only [bX5_key_0, bX5_key_8, bX5_key_11, bX5_key_16, bX5_key_17, bX5_key_21, t0, r00, r04, t52, tgS s1, k_hasKey (show 1 ≤ 10 by omega) s1, k_hasMachine (show 1 ≤ 10 by omega) s1, k_refuse (show 1 ≤ 10 by omega) rc1, k_refuse (show 1 ≤ 10 by omega) rc2, k_refuse (show 1 ≤ 10 by omega) rc3, k_refuse (show 1 ≤ 10 by omega) rc4, k_refuse (show 1 ≤ 10 by omega) rc6, k_isTooth (show 1 ≤ 10 by omega), k_isZeroOrOne (show 1 ≤ 10 by omega), k_outside (show 1 ≤ 10 by omega), bz0, ite_bz, e0, e1, Option.toList_some, Option.toList_none, List.cons_append, List.nil_append, and_assoc, exists_and_left, exists_eq_left, true_and, and_true, Nat.reduceLeDiff, not_false_eq_true, not_true_eq_false, ↓reduceIte, eq_self, ← Int32.not_lt, ite_not, Classical.not_not]
  cases c : ik x (nI K) with
  | false => simp only [c, decide_true, decide_false, not_false_eq_true, not_true_eq_false, ↓reduceIte, Bool.false_eq_true, Bool.and_true, Bool.true_and, Bool.false_and, Bool.and_false, true_and, false_and, and_true, and_false] at hq ⊢; exact hq _ (cS_rf _) (frC_rf _)
  | true =>
    obtain ⟨k, hk, rfl⟩ := ikt (by omega) c
    have hk10 : k < 10 := by omega
    simp only [c, decide_true, decide_false, not_false_eq_true, not_true_eq_false, ↓reduceIte, Bool.false_eq_true, Bool.and_true, Bool.true_and, Bool.false_and, Bool.and_false, true_and, false_and, and_true, and_false, xN_n (show k < 100000 by omega)] at hq ⊢
    cases c2 : ik w 5 with
    | true =>
      obtain ⟨t, ht, rfl⟩ := ik5t c2
      simp only [c2, decide_true, decide_false, not_false_eq_true, not_true_eq_false, ↓reduceIte, Bool.false_eq_true, Bool.and_true, Bool.true_and, Bool.false_and, Bool.and_false, true_and, false_and, and_true, and_false, xN_n (show t < 100000 by omega), cvR hk10 ht] at hq ⊢
      simp only [bX5_key_24, t0, r00, tgS s1, rfS3 s1, tgH s1, lnH s1, v10K hk10, nI_cl (show k < 100 by omega), rfH s1 hk10, tgR s1 hk10, lnR s1 hk10, vp_nI ht (show 5 ≤ 100 by omega), nI_cl (show t < 100 by omega), Option.toList_some, Option.toList_none, List.cons_append, List.nil_append, and_assoc, exists_and_left, exists_eq_left, true_and, and_true, Nat.reduceLeDiff, not_false_eq_true, not_true_eq_false, ↓reduceIte, eq_self, ← Int32.not_lt, ite_not, Classical.not_not]
      exact hq _ rfl frC_r
    | false =>
      simp only [c2, decide_true, decide_false, not_false_eq_true, not_true_eq_false, ↓reduceIte, Bool.false_eq_true, Bool.and_true, Bool.true_and, Bool.false_and, Bool.and_false, true_and, false_and, and_true, and_false] at hq ⊢
      simp only [bX5_key_36, swP, Int.reduceAdd, Int32.reduceOfInt]
      by_cases w5 : w = 5
      · simp only [w5, decide_true, decide_false, not_false_eq_true, not_true_eq_false, ↓reduceIte, Bool.false_eq_true, Bool.and_true, Bool.true_and, Bool.false_and, Bool.and_false, true_and, false_and, and_true, and_false, cvF hk10] at hq ⊢
        simp only [bX5_key_72, t0, r00, tgS s1, rfS4 s1, tgF s1, lnF s1, v10K hk10, nI_cl (show k < 100 by omega), Option.toList_some, Option.toList_none, List.cons_append, List.nil_append, and_assoc, exists_and_left, exists_eq_left, true_and, and_true, Nat.reduceLeDiff, not_false_eq_true, not_true_eq_false, ↓reduceIte, eq_self, ← Int32.not_lt, ite_not, Classical.not_not]
        exact hq _ rfl frC_r
      by_cases w6 : w = 6
      · simp only [w6, show ¬ (6 : Int32) = 5 by decide, decide_true, decide_false, not_false_eq_true, not_true_eq_false, ↓reduceIte, Bool.false_eq_true, Bool.and_true, Bool.true_and, Bool.false_and, Bool.and_false, true_and, false_and, and_true, and_false, cvZ hk10] at hq ⊢
        simp only [bX5_key_82, bX5_key_91, bX5_key_94, bX5_key_98, bX5_key_99, t0, r00, tgS s1, rfS5 s1, tgZ s1, lnZ s1, v10K hk10, nI_cl (show k < 100 by omega), Option.toList_some, Option.toList_none, List.cons_append, List.nil_append, and_assoc, exists_and_left, exists_eq_left, true_and, and_true, Nat.reduceLeDiff, not_false_eq_true, not_true_eq_false, ↓reduceIte, eq_self, ← Int32.not_lt, ite_not, Classical.not_not]
        have z := G.z hk10
        rw [cvZ hk10] at z
        rcases z with z | z
        · simp only [z, decide_true, decide_false, not_false_eq_true, not_true_eq_false, ↓reduceIte, Bool.false_eq_true, Bool.and_true, Bool.true_and, Bool.false_and, Bool.and_false, true_and, false_and, and_true, and_false] at hq ⊢; exact hq _ rfl frC_r
        · simp only [z, n01, decide_true, decide_false, not_false_eq_true, not_true_eq_false, ↓reduceIte, Bool.false_eq_true, Bool.and_true, Bool.true_and, Bool.false_and, Bool.and_false, true_and, false_and, and_true, and_false] at hq ⊢; exact hq _ rfl frC_r
      by_cases w7 : w = 7
      · simp only [w7, show ¬ (7 : Int32) = 5 by decide, show ¬ (7 : Int32) = 6 by decide, decide_true, decide_false, not_false_eq_true, not_true_eq_false, ↓reduceIte, Bool.false_eq_true, Bool.and_true, Bool.true_and, Bool.false_and, Bool.and_false, true_and, false_and, and_true, and_false] at hq ⊢
        simp only [bX5_key_100, bX5_key_108, bX5_key_111, bX5_key_115, bX5_key_116, t0, r00, tgS s1, k_opens (show 3 ≤ 10 by omega) s1 G hk10, bz0, ite_bz, Option.toList_some, Option.toList_none, List.cons_append, List.nil_append, and_assoc, exists_and_left, exists_eq_left, true_and, and_true, Nat.reduceLeDiff, not_false_eq_true, not_true_eq_false, ↓reduceIte, eq_self, ← Int32.not_lt, ite_not, Classical.not_not]
        cases o : opb (cv 1 h) k <;> simp only [o, decide_true, decide_false, not_false_eq_true, not_true_eq_false, ↓reduceIte, Bool.false_eq_true, Bool.and_true, Bool.true_and, Bool.false_and, Bool.and_false, true_and, false_and, and_true, and_false, bzt, bzf] at hq ⊢ <;> exact hq _ rfl frC_r
      by_cases w8 : w = 8
      · simp only [w8, show ¬ (8 : Int32) = 5 by decide, show ¬ (8 : Int32) = 6 by decide, show ¬ (8 : Int32) = 7 by decide, decide_true, decide_false, not_false_eq_true, not_true_eq_false, ↓reduceIte, Bool.false_eq_true, Bool.and_true, Bool.true_and, Bool.false_and, Bool.and_false, true_and, false_and, and_true, and_false] at hq ⊢
        simp only [bX5_key_117, bX5_key_133, t0, r00, tgS s1, rfS3 s1, tgH s1, lnH s1, v10K hk10, nI_cl (show k < 100 by omega), rfH s1 hk10, k_wiggleKey (show 1 ≤ 10 by omega) s1 G hk10, Option.toList_some, Option.toList_none, List.cons_append, List.nil_append, and_assoc, exists_and_left, exists_eq_left, true_and, and_true, Nat.reduceLeDiff, not_false_eq_true, not_true_eq_false, ↓reduceIte, eq_self, ← Int32.not_lt, ite_not, Classical.not_not]
        exact hq _ rfl frC_r
      by_cases w9 : w = 9
      · simp only [w9, show ¬ (9 : Int32) = 5 by decide, show ¬ (9 : Int32) = 6 by decide, show ¬ (9 : Int32) = 7 by decide, show ¬ (9 : Int32) = 8 by decide, decide_true, decide_false, not_false_eq_true, not_true_eq_false, ↓reduceIte, Bool.false_eq_true, Bool.and_true, Bool.true_and, Bool.false_and, Bool.and_false, true_and, false_and, and_true, and_false] at hq ⊢
        simp only [bX5_key_134, bX5_key_150, t0, r00, tgS s1, rfS3 s1, tgH s1, lnH s1, v10K hk10, nI_cl (show k < 100 by omega), rfH s1 hk10, k_worstTooth (show 1 ≤ 10 by omega) s1 (tgR s1 hk10) (lnR s1 hk10) (G.rc hk10) G.pc, wst_cg (rowE hk10) pinE, Option.toList_some, Option.toList_none, List.cons_append, List.nil_append, and_assoc, exists_and_left, exists_eq_left, true_and, and_true, Nat.reduceLeDiff, not_false_eq_true, not_true_eq_false, ↓reduceIte, eq_self, ← Int32.not_lt, ite_not, Classical.not_not]
        exact hq _ rfl frC_r
      · simp only [w5, w6, w7, w8, w9, decide_true, decide_false, not_false_eq_true, not_true_eq_false, ↓reduceIte, Bool.false_eq_true, Bool.and_true, Bool.true_and, Bool.false_and, Bool.and_false, true_and, false_and, and_true, and_false] at hq ⊢
        simp only [bX5_key_151, bX5_key_157, t0, k_refuse (show 1 ≤ 10 by omega) rc2, Option.toList_some, Option.toList_none, List.cons_append, List.nil_append, and_assoc, exists_and_left, exists_eq_left, true_and, and_true, Nat.reduceLeDiff, not_false_eq_true, not_true_eq_false, ↓reduceIte, eq_self, ← Int32.not_lt, ite_not, Classical.not_not]
        exact hq _ (cS_rf _) (frC_rf _)
