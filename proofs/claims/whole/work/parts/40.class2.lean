theorem c_machine (x w : Int32) : KC eX5_machine [.int x, .int w] (f_machine x w) := by
  refine KC_of rfl (fun h K M GS G Q hq => ?_)
  show WP 10 eX5_machine Q 0 [.ref 0, .int x, .int w] [] h
  have e0 : h 1 2 = nI K := G.s0
  have e1 : h 1 6 = nI M := G.s1
  have g0 : cv 1 h 0 = nI K := G.s0
  have g1 : cv 1 h 1 = nI M := G.s1
  have k10 := G.k10
  have m5 := G.m5
  have gk := gdkN G
  have gm := gdmN G
  unfold f_machine at hq
  simp only [cS_1, cS_if, cS_im, cS_ln, cS_l, cS_rn, cS_r, cS_q, g0, g1, bno, gk, gm] at hq
  simp only [bX5_machine_0, bX5_machine_8, bX5_machine_11, bX5_machine_16, bX5_machine_17, bX5_machine_21, bX5_machine_24, bX5_machine_30, bX5_machine_31, t0, r00, r04, t52, tgS s1, k_hasKey (show 1 ≤ 10 by omega) s1, k_hasMachine (show 1 ≤ 10 by omega) s1, k_refuse (show 1 ≤ 10 by omega) rc1, k_refuse (show 1 ≤ 10 by omega) rc2, k_refuse (show 1 ≤ 10 by omega) rc3, k_refuse (show 1 ≤ 10 by omega) rc4, k_refuse (show 1 ≤ 10 by omega) rc6, k_isTooth (show 1 ≤ 10 by omega), k_isZeroOrOne (show 1 ≤ 10 by omega), k_outside (show 1 ≤ 10 by omega), bz0, ite_bz, e0, e1, Option.toList_some, Option.toList_none, List.cons_append, List.nil_append, and_assoc, exists_and_left, exists_eq_left, true_and, and_true, Nat.reduceLeDiff, not_false_eq_true, not_true_eq_false, ↓reduceIte, eq_self, ← Int32.not_lt, ite_not, Classical.not_not]
  cases c : ik x (nI M) with
  | false => simp only [c, decide_true, decide_false, not_false_eq_true, not_true_eq_false, ↓reduceIte, Bool.false_eq_true, Bool.and_true, Bool.true_and, Bool.false_and, Bool.and_false, true_and, false_and, and_true, and_false] at hq ⊢; exact hq _ (cS_rf _) (frC_rf _)
  | true =>
    obtain ⟨k, hk, rfl⟩ := ikt (by omega) c
    have hk5 : k < 5 := by omega
    simp only [c, decide_true, decide_false, not_false_eq_true, not_true_eq_false, ↓reduceIte, Bool.false_eq_true, Bool.and_true, Bool.true_and, Bool.false_and, Bool.and_false, true_and, false_and, and_true, and_false, xN_n (show k < 100000 by omega)] at hq ⊢
    cases c2 : i01 w with
    | false => simp only [c2, decide_true, decide_false, not_false_eq_true, not_true_eq_false, ↓reduceIte, Bool.false_eq_true, Bool.and_true, Bool.true_and, Bool.false_and, Bool.and_false, true_and, false_and, and_true, and_false] at hq ⊢; exact hq _ (cS_rf _) (frC_rf _)
    | true =>
      simp only [c2, decide_true, decide_false, not_false_eq_true, not_true_eq_false, ↓reduceIte, Bool.false_eq_true, Bool.and_true, Bool.true_and, Bool.false_and, Bool.and_false, true_and, false_and, and_true, and_false] at hq ⊢
      by_cases w0 : w = 0
      · simp only [w0, decide_true, decide_false, not_false_eq_true, not_true_eq_false, ↓reduceIte, Bool.false_eq_true, Bool.and_true, Bool.true_and, Bool.false_and, Bool.and_false, true_and, false_and, and_true, and_false, cvD hk5] at hq ⊢
        simp only [bX5_machine_35, bX5_machine_56, t0, r00, tgS s1, rfS7 s1, tgD s1, lnD s1, vp_nI hk5 (show 5 ≤ 100 by omega), nI_cl (show k < 100 by omega), Option.toList_some, Option.toList_none, List.cons_append, List.nil_append, and_assoc, exists_and_left, exists_eq_left, true_and, and_true, Nat.reduceLeDiff, not_false_eq_true, not_true_eq_false, ↓reduceIte, eq_self, ← Int32.not_lt, ite_not, Classical.not_not]
        exact hq _ rfl frC_r
      · simp only [w0, decide_true, decide_false, not_false_eq_true, not_true_eq_false, ↓reduceIte, Bool.false_eq_true, Bool.and_true, Bool.true_and, Bool.false_and, Bool.and_false, true_and, false_and, and_true, and_false, cvG hk5] at hq ⊢
        simp only [bX5_machine_47, bX5_machine_56, t0, r00, tgS s1, rfS8 s1, tgG s1, lnG s1, vp_nI hk5 (show 5 ≤ 100 by omega), nI_cl (show k < 100 by omega), Option.toList_some, Option.toList_none, List.cons_append, List.nil_append, and_assoc, exists_and_left, exists_eq_left, true_and, and_true, Nat.reduceLeDiff, not_false_eq_true, not_true_eq_false, ↓reduceIte, eq_self, ← Int32.not_lt, ite_not, Classical.not_not]
        exact hq _ rfl frC_r
theorem c_sets (x v : Int32) : KC eX5_sets [.int x, .int v] (f_sets x v) := by
  refine KC_of rfl (fun h K M GS G Q hq => ?_)
  show WP 10 eX5_sets Q 0 [.ref 0, .int x, .int v, mU, mU] [] h
  have e0 : h 1 2 = nI K := G.s0
  have e1 : h 1 6 = nI M := G.s1
  have g0 : cv 1 h 0 = nI K := G.s0
  have g1 : cv 1 h 1 = nI M := G.s1
  have k10 := G.k10
  have m5 := G.m5
  have gk := gdkN G
  have gm := gdmN G
  unfold f_sets at hq
  simp only [cS_1, cS_if, cS_im, cS_ln, cS_l, cS_rn, cS_r, cS_q, g0, g1, bno, gk, gm] at hq
  simp only [bX5_sets_0, bX5_sets_4, bX5_sets_7, bX5_sets_12, bX5_sets_13, bX5_sets_20, t0, r00, r04, t52, tgS s1, k_hasKey (show 1 ≤ 10 by omega) s1, k_hasMachine (show 1 ≤ 10 by omega) s1, k_refuse (show 1 ≤ 10 by omega) rc1, k_refuse (show 1 ≤ 10 by omega) rc2, k_refuse (show 1 ≤ 10 by omega) rc3, k_refuse (show 1 ≤ 10 by omega) rc4, k_refuse (show 1 ≤ 10 by omega) rc6, k_isTooth (show 1 ≤ 10 by omega), k_isZeroOrOne (show 1 ≤ 10 by omega), k_outside (show 1 ≤ 10 by omega), bz0, ite_bz, e0, e1, Option.toList_some, Option.toList_none, List.cons_append, List.nil_append, and_assoc, exists_and_left, exists_eq_left, true_and, and_true, Nat.reduceLeDiff, not_false_eq_true, not_true_eq_false, ↓reduceIte, eq_self, ← Int32.not_lt, ite_not, Classical.not_not]
  cases c : ik x 5 with
  | false => simp only [c, decide_true, decide_false, not_false_eq_true, not_true_eq_false, ↓reduceIte, Bool.false_eq_true, Bool.and_true, Bool.true_and, Bool.false_and, Bool.and_false, true_and, false_and, and_true, and_false] at hq ⊢; exact hq _ (cS_rf _) (frC_rf _)
  | true =>
    obtain ⟨t, ht, rfl⟩ := ik5t c
    simp only [c, decide_true, decide_false, not_false_eq_true, not_true_eq_false, ↓reduceIte, Bool.false_eq_true, Bool.and_true, Bool.true_and, Bool.false_and, Bool.and_false, true_and, false_and, and_true, and_false, xN_n (show t < 100000 by omega)] at hq ⊢
    by_cases o : oub v 0 99 = 0
    · simp only [o, decide_true, decide_false, not_false_eq_true, not_true_eq_false, ↓reduceIte, Bool.false_eq_true, Bool.and_true, Bool.true_and, Bool.false_and, Bool.and_false, true_and, false_and, and_true, and_false, cvP ht] at hq ⊢
      simp only [bX5_sets_31, bX5_sets_52, t0, r00, tgS s1, rfS0 s1, tgP s1, lnP s1, vp_nI ht (show 5 ≤ 100 by omega), nI_cl (show t < 100 by omega), Option.toList_some, Option.toList_none, List.cons_append, List.nil_append, and_assoc, exists_and_left, exists_eq_left, true_and, and_true, Nat.reduceLeDiff, not_false_eq_true, not_true_eq_false, ↓reduceIte, eq_self, ← Int32.not_lt, ite_not, Classical.not_not]
      refine hq _ ?_ (frC_p frC_r (by omega))
      rw [cS_o1 (onl.rfl'.put (by omega) (by omega)), cv_uP ht]
    · simp only [o, decide_true, decide_false, not_false_eq_true, not_true_eq_false, ↓reduceIte, Bool.false_eq_true, Bool.and_true, Bool.true_and, Bool.false_and, Bool.and_false, true_and, false_and, and_true, and_false] at hq ⊢
      simp only [bX5_sets_25, bX5_sets_30, t0, k_refuse (show 1 ≤ 10 by omega) (oub_r o), Option.toList_some, Option.toList_none, List.cons_append, List.nil_append, and_assoc, exists_and_left, exists_eq_left, true_and, and_true, Nat.reduceLeDiff, not_false_eq_true, not_true_eq_false, ↓reduceIte, eq_self, ← Int32.not_lt, ite_not, Classical.not_not]
      exact hq _ (cS_rf _) (frC_rf _)
theorem c_slack (v : Int32) : KC eX5_slack [.int v] (f_slack v) := by
  refine KC_of rfl (fun h K M GS G Q hq => ?_)
  show WP 10 eX5_slack Q 0 [.ref 0, .int v, mU, mU] [] h
  have e0 : h 1 2 = nI K := G.s0
  have e1 : h 1 6 = nI M := G.s1
  have g0 : cv 1 h 0 = nI K := G.s0
  have g1 : cv 1 h 1 = nI M := G.s1
  have k10 := G.k10
  have m5 := G.m5
  have gk := gdkN G
  have gm := gdmN G
  unfold f_slack at hq
  simp only [cS_1, cS_if, cS_im, cS_ln, cS_l, cS_rn, cS_r, cS_q, g0, g1, bno, gk, gm] at hq
  simp only [bX5_slack_0, bX5_slack_7, t0, r00, r04, t52, tgS s1, k_hasKey (show 1 ≤ 10 by omega) s1, k_hasMachine (show 1 ≤ 10 by omega) s1, k_refuse (show 1 ≤ 10 by omega) rc1, k_refuse (show 1 ≤ 10 by omega) rc2, k_refuse (show 1 ≤ 10 by omega) rc3, k_refuse (show 1 ≤ 10 by omega) rc4, k_refuse (show 1 ≤ 10 by omega) rc6, k_isTooth (show 1 ≤ 10 by omega), k_isZeroOrOne (show 1 ≤ 10 by omega), k_outside (show 1 ≤ 10 by omega), bz0, ite_bz, e0, e1, Option.toList_some, Option.toList_none, List.cons_append, List.nil_append, and_assoc, exists_and_left, exists_eq_left, true_and, and_true, Nat.reduceLeDiff, not_false_eq_true, not_true_eq_false, ↓reduceIte, eq_self, ← Int32.not_lt, ite_not, Classical.not_not]
  by_cases o : oub v 0 9 = 0
  · simp only [o, decide_true, decide_false, not_false_eq_true, not_true_eq_false, ↓reduceIte, Bool.false_eq_true, Bool.and_true, Bool.true_and, Bool.false_and, Bool.and_false, true_and, false_and, and_true, and_false, cv3] at hq ⊢
    simp only [bX5_slack_18, bX5_slack_34, t0, r00, tgS s1, Option.toList_some, Option.toList_none, List.cons_append, List.nil_append, and_assoc, exists_and_left, exists_eq_left, true_and, and_true, Nat.reduceLeDiff, not_false_eq_true, not_true_eq_false, ↓reduceIte, eq_self, ← Int32.not_lt, ite_not, Classical.not_not]
    refine hq _ ?_ (frC_p frC_r (by omega))
    rw [cS_o1 (onl.rfl'.put (by omega) (by omega)), cv_u3]
  · simp only [o, decide_true, decide_false, not_false_eq_true, not_true_eq_false, ↓reduceIte, Bool.false_eq_true, Bool.and_true, Bool.true_and, Bool.false_and, Bool.and_false, true_and, false_and, and_true, and_false] at hq ⊢
    simp only [bX5_slack_12, bX5_slack_17, t0, k_refuse (show 1 ≤ 10 by omega) (oub_r o), Option.toList_some, Option.toList_none, List.cons_append, List.nil_append, and_assoc, exists_and_left, exists_eq_left, true_and, and_true, Nat.reduceLeDiff, not_false_eq_true, not_true_eq_false, ↓reduceIte, eq_self, ← Int32.not_lt, ite_not, Classical.not_not]
    exact hq _ (cS_rf _) (frC_rf _)
theorem c_files (x t v : Int32) : KC eX5_files [.int x, .int t, .int v] (f_files x t v) := by
  refine KC_of rfl (fun h K M GS G Q hq => ?_)
  show WP 10 eX5_files Q 0 [.ref 0, .int x, .int t, .int v, mU, mU] [] h
  have e0 : h 1 2 = nI K := G.s0
  have e1 : h 1 6 = nI M := G.s1
  have g0 : cv 1 h 0 = nI K := G.s0
  have g1 : cv 1 h 1 = nI M := G.s1
  have k10 := G.k10
  have m5 := G.m5
  have gk := gdkN G
  have gm := gdmN G
  unfold f_files at hq
  simp only [cS_1, cS_if, cS_im, cS_ln, cS_l, cS_rn, cS_r, cS_q, g0, g1, bno, gk, gm] at hq
  simp only [bX5_files_0, bX5_files_8, bX5_files_11, bX5_files_15, bX5_files_18, bX5_files_23, bX5_files_24, bX5_files_31, t0, r00, r04, t52, tgS s1, k_hasKey (show 1 ≤ 10 by omega) s1, k_hasMachine (show 1 ≤ 10 by omega) s1, k_refuse (show 1 ≤ 10 by omega) rc1, k_refuse (show 1 ≤ 10 by omega) rc2, k_refuse (show 1 ≤ 10 by omega) rc3, k_refuse (show 1 ≤ 10 by omega) rc4, k_refuse (show 1 ≤ 10 by omega) rc6, k_isTooth (show 1 ≤ 10 by omega), k_isZeroOrOne (show 1 ≤ 10 by omega), k_outside (show 1 ≤ 10 by omega), bz0, ite_bz, e0, e1, Option.toList_some, Option.toList_none, List.cons_append, List.nil_append, and_assoc, exists_and_left, exists_eq_left, true_and, and_true, Nat.reduceLeDiff, not_false_eq_true, not_true_eq_false, ↓reduceIte, eq_self, ← Int32.not_lt, ite_not, Classical.not_not]
  cases c : ik x (nI K) with
  | false => simp only [c, decide_true, decide_false, not_false_eq_true, not_true_eq_false, ↓reduceIte, Bool.false_eq_true, Bool.and_true, Bool.true_and, Bool.false_and, Bool.and_false, true_and, false_and, and_true, and_false] at hq ⊢; exact hq _ (cS_rf _) (frC_rf _)
  | true =>
    obtain ⟨k, hk, rfl⟩ := ikt (by omega) c
    have hk10 : k < 10 := by omega
    simp only [c, decide_true, decide_false, not_false_eq_true, not_true_eq_false, ↓reduceIte, Bool.false_eq_true, Bool.and_true, Bool.true_and, Bool.false_and, Bool.and_false, true_and, false_and, and_true, and_false, xN_n (show k < 100000 by omega)] at hq ⊢
    cases c2 : ik t 5 with
    | false => simp only [c2, decide_true, decide_false, not_false_eq_true, not_true_eq_false, ↓reduceIte, Bool.false_eq_true, Bool.and_true, Bool.true_and, Bool.false_and, Bool.and_false, true_and, false_and, and_true, and_false] at hq ⊢; exact hq _ (cS_rf _) (frC_rf _)
    | true =>
      obtain ⟨t, ht, rfl⟩ := ik5t c2
      simp only [c2, decide_true, decide_false, not_false_eq_true, not_true_eq_false, ↓reduceIte, Bool.false_eq_true, Bool.and_true, Bool.true_and, Bool.false_and, Bool.and_false, true_and, false_and, and_true, and_false, xN_n (show t < 100000 by omega)] at hq ⊢
      by_cases o : oub v 0 99 = 0
      · simp only [o, decide_true, decide_false, not_false_eq_true, not_true_eq_false, ↓reduceIte, Bool.false_eq_true, Bool.and_true, Bool.true_and, Bool.false_and, Bool.and_false, true_and, false_and, and_true, and_false, cvR hk10 ht] at hq ⊢
        simp only [bX5_files_45, bX5_files_70, t0, r00, tgS s1, rfS3 s1, tgH s1, lnH s1, v10K hk10, nI_cl (show k < 100 by omega), rfH s1 hk10, tgR s1 hk10, lnR s1 hk10, vp_nI ht (show 5 ≤ 100 by omega), nI_cl (show t < 100 by omega), Option.toList_some, Option.toList_none, List.cons_append, List.nil_append, and_assoc, exists_and_left, exists_eq_left, true_and, and_true, Nat.reduceLeDiff, not_false_eq_true, not_true_eq_false, ↓reduceIte, eq_self, ← Int32.not_lt, ite_not, Classical.not_not]
        refine hq _ ?_ (frC_p frC_r (by omega))
        rw [cS_o1 (onl.rfl'.put (by omega) (by omega)), cv_uR hk10 ht]
      · simp only [o, decide_true, decide_false, not_false_eq_true, not_true_eq_false, ↓reduceIte, Bool.false_eq_true, Bool.and_true, Bool.true_and, Bool.false_and, Bool.and_false, true_and, false_and, and_true, and_false] at hq ⊢
        simp only [bX5_files_38, bX5_files_44, t0, k_refuse (show 1 ≤ 10 by omega) (oub_r o), Option.toList_some, Option.toList_none, List.cons_append, List.nil_append, and_assoc, exists_and_left, exists_eq_left, true_and, and_true, Nat.reduceLeDiff, not_false_eq_true, not_true_eq_false, ↓reduceIte, eq_self, ← Int32.not_lt, ite_not, Classical.not_not]
        exact hq _ (cS_rf _) (frC_rf _)
theorem c_turn (x q v : Int32) : KC eX5_turn [.int x, .int q, .int v] (f_turn x q v) := by
  refine KC_of rfl (fun h K M GS G Q hq => ?_)
  show WP 10 eX5_turn Q 0 [.ref 0, .int x, .int q, .int v, mU, mU] [] h
  have e0 : h 1 2 = nI K := G.s0
  have e1 : h 1 6 = nI M := G.s1
  have g0 : cv 1 h 0 = nI K := G.s0
  have g1 : cv 1 h 1 = nI M := G.s1
  have k10 := G.k10
  have m5 := G.m5
  have gk := gdkN G
  have gm := gdmN G
  unfold f_turn at hq
  simp only [cS_1, cS_if, cS_im, cS_ln, cS_l, cS_rn, cS_r, cS_q, g0, g1, bno, gk, gm] at hq
  simp only [bX5_turn_0, bX5_turn_8, bX5_turn_11, bX5_turn_16, bX5_turn_17, bX5_turn_21, bX5_turn_27, bX5_turn_33, bX5_turn_34, bX5_turn_41, t0, r00, r04, t52, tgS s1, k_hasKey (show 1 ≤ 10 by omega) s1, k_hasMachine (show 1 ≤ 10 by omega) s1, k_refuse (show 1 ≤ 10 by omega) rc1, k_refuse (show 1 ≤ 10 by omega) rc2, k_refuse (show 1 ≤ 10 by omega) rc3, k_refuse (show 1 ≤ 10 by omega) rc4, k_refuse (show 1 ≤ 10 by omega) rc6, k_isTooth (show 1 ≤ 10 by omega), k_isZeroOrOne (show 1 ≤ 10 by omega), k_outside (show 1 ≤ 10 by omega), bz0, ite_bz, e0, e1, Option.toList_some, Option.toList_none, List.cons_append, List.nil_append, and_assoc, exists_and_left, exists_eq_left, true_and, and_true, Nat.reduceLeDiff, not_false_eq_true, not_true_eq_false, ↓reduceIte, eq_self, ← Int32.not_lt, ite_not, Classical.not_not]
  cases c : ik x (nI M) with
  | false => simp only [c, decide_true, decide_false, not_false_eq_true, not_true_eq_false, ↓reduceIte, Bool.false_eq_true, Bool.and_true, Bool.true_and, Bool.false_and, Bool.and_false, true_and, false_and, and_true, and_false] at hq ⊢; exact hq _ (cS_rf _) (frC_rf _)
  | true =>
    obtain ⟨k, hk, rfl⟩ := ikt (by omega) c
    have hk5 : k < 5 := by omega
    simp only [c, decide_true, decide_false, not_false_eq_true, not_true_eq_false, ↓reduceIte, Bool.false_eq_true, Bool.and_true, Bool.true_and, Bool.false_and, Bool.and_false, true_and, false_and, and_true, and_false, xN_n (show k < 100000 by omega)] at hq ⊢
    unfold ik at hq
    by_cases q0 : q < 0
    · simp only [q0, decide_true, decide_false, not_false_eq_true, not_true_eq_false, ↓reduceIte, Bool.false_eq_true, Bool.and_true, Bool.true_and, Bool.false_and, Bool.and_false, true_and, false_and, and_true, and_false] at hq ⊢; exact hq _ (cS_rf _) (frC_rf _)
    by_cases q6 : q < 6
    · simp only [q0, q6, decide_true, decide_false, not_false_eq_true, not_true_eq_false, ↓reduceIte, Bool.false_eq_true, Bool.and_true, Bool.true_and, Bool.false_and, Bool.and_false, true_and, false_and, and_true, and_false] at hq ⊢
      by_cases o : oub v 0 9 = 0
      · simp only [o, decide_true, decide_false, not_false_eq_true, not_true_eq_false, ↓reduceIte, Bool.false_eq_true, Bool.and_true, Bool.true_and, Bool.false_and, Bool.and_false, true_and, false_and, and_true, and_false, cvD hk5, cvG hk5] at hq ⊢
        simp only [bX5_turn_55, bX5_turn_89, bX5_turn_99, t0, r00, tgS s1, rfS7 s1, tgD s1, lnD s1, rfS8 s1, tgG s1, lnG s1, vp_nI hk5 (show 5 ≤ 100 by omega), nI_cl (show k < 100 by omega), Option.toList_some, Option.toList_none, List.cons_append, List.nil_append, and_assoc, exists_and_left, exists_eq_left, true_and, and_true, Nat.reduceLeDiff, not_false_eq_true, not_true_eq_false, ↓reduceIte, eq_self, ← Int32.not_lt, ite_not, Classical.not_not]
        refine hq _ ?_ (frC_p (frC_p frC_r (by omega)) (by omega))
        rw [cS_o1 ((onl.rfl'.put (by omega) (by omega)).put (by omega) (by omega)), cv_uG hk5, cv_uD hk5]
      · simp only [o, decide_true, decide_false, not_false_eq_true, not_true_eq_false, ↓reduceIte, Bool.false_eq_true, Bool.and_true, Bool.true_and, Bool.false_and, Bool.and_false, true_and, false_and, and_true, and_false] at hq ⊢
        simp only [bX5_turn_48, bX5_turn_54, t0, k_refuse (show 1 ≤ 10 by omega) (oub_r o), Option.toList_some, Option.toList_none, List.cons_append, List.nil_append, and_assoc, exists_and_left, exists_eq_left, true_and, and_true, Nat.reduceLeDiff, not_false_eq_true, not_true_eq_false, ↓reduceIte, eq_self, ← Int32.not_lt, ite_not, Classical.not_not]
        exact hq _ (cS_rf _) (frC_rf _)
    · simp only [q0, q6, decide_true, decide_false, not_false_eq_true, not_true_eq_false, ↓reduceIte, Bool.false_eq_true, Bool.and_true, Bool.true_and, Bool.false_and, Bool.and_false, true_and, false_and, and_true, and_false] at hq ⊢; exact hq _ (cS_rf _) (frC_rf _)
theorem c_cut (x y : Int32) : KC eX5_cut [.int x, .int y] (f_cut x y) := by
  refine KC_of rfl (fun h K M GS G Q hq => ?_)
  show WP 10 eX5_cut Q 0 [.ref 0, .int x, .int y] [] h
  have e0 : h 1 2 = nI K := G.s0
  have e1 : h 1 6 = nI M := G.s1
  have g0 : cv 1 h 0 = nI K := G.s0
  have g1 : cv 1 h 1 = nI M := G.s1
  have k10 := G.k10
  have m5 := G.m5
  have gk := gdkN G
  have gm := gdmN G
  unfold f_cut at hq
  simp only [cS_1, cS_if, cS_im, cS_ln, cS_l, cS_rn, cS_r, cS_q, g0, g1, bno, gk, gm] at hq
  simp only [bX5_cut_0, bX5_cut_8, bX5_cut_11, bX5_cut_19, bX5_cut_22, bX5_cut_27, t0, r00, r04, t52, tgS s1, k_hasKey (show 1 ≤ 10 by omega) s1, k_hasMachine (show 1 ≤ 10 by omega) s1, k_refuse (show 1 ≤ 10 by omega) rc1, k_refuse (show 1 ≤ 10 by omega) rc2, k_refuse (show 1 ≤ 10 by omega) rc3, k_refuse (show 1 ≤ 10 by omega) rc4, k_refuse (show 1 ≤ 10 by omega) rc6, k_isTooth (show 1 ≤ 10 by omega), k_isZeroOrOne (show 1 ≤ 10 by omega), k_outside (show 1 ≤ 10 by omega), bz0, ite_bz, e0, e1, Option.toList_some, Option.toList_none, List.cons_append, List.nil_append, and_assoc, exists_and_left, exists_eq_left, true_and, and_true, Nat.reduceLeDiff, not_false_eq_true, not_true_eq_false, ↓reduceIte, eq_self, ← Int32.not_lt, ite_not, Classical.not_not]
  cases c : ik x (nI K) with
  | false => simp only [c, decide_true, decide_false, not_false_eq_true, not_true_eq_false, ↓reduceIte, Bool.false_eq_true, Bool.and_true, Bool.true_and, Bool.false_and, Bool.and_false, true_and, false_and, and_true, and_false] at hq ⊢; exact hq _ (cS_rf _) (frC_rf _)
  | true =>
    obtain ⟨k, hk, rfl⟩ := ikt (by omega) c
    have hk10 : k < 10 := by omega
    simp only [c, decide_true, decide_false, not_false_eq_true, not_true_eq_false, ↓reduceIte, Bool.false_eq_true, Bool.and_true, Bool.true_and, Bool.false_and, Bool.and_false, true_and, false_and, and_true, and_false, xN_n (show k < 100000 by omega)] at hq ⊢
    cases c2 : ik y (nI M) with
    | false => simp only [c2, decide_true, decide_false, not_false_eq_true, not_true_eq_false, ↓reduceIte, Bool.false_eq_true, Bool.and_true, Bool.true_and, Bool.false_and, Bool.and_false, true_and, false_and, and_true, and_false] at hq ⊢; exact hq _ (cS_rf _) (frC_rf _)
    | true =>
      obtain ⟨m, hm, rfl⟩ := ikt (by omega) c2
      simp only [c2, decide_true, decide_false, not_false_eq_true, not_true_eq_false, ↓reduceIte, Bool.false_eq_true, Bool.and_true, Bool.true_and, Bool.false_and, Bool.and_false, true_and, false_and, and_true, and_false, xN_n (show m < 100000 by omega)] at hq ⊢
      unfold snb at hq
      simp only [bX5_cut_28, bX5_cut_37, bX5_cut_40, bX5_cut_46, bX5_cut_47, bX5_cut_59, bX5_cut_65, rfS5 s1, tgZ s1, lnZ s1, v10K hk10, nI_cl (show k < 100 by omega), ← cvZ (s := 1) (h := h) hk10, show (10 : Int32) = nI 10 from rfl, nlt (show K ≤ 100000 by omega) (show 10 ≤ 100000 by omega), t0, r00, r04, t52, tgS s1, k_hasKey (show 1 ≤ 10 by omega) s1, k_hasMachine (show 1 ≤ 10 by omega) s1, k_refuse (show 1 ≤ 10 by omega) rc1, k_refuse (show 1 ≤ 10 by omega) rc2, k_refuse (show 1 ≤ 10 by omega) rc3, k_refuse (show 1 ≤ 10 by omega) rc4, k_refuse (show 1 ≤ 10 by omega) rc6, k_isTooth (show 1 ≤ 10 by omega), k_isZeroOrOne (show 1 ≤ 10 by omega), k_outside (show 1 ≤ 10 by omega), bz0, ite_bz, e0, e1, Option.toList_some, Option.toList_none, List.cons_append, List.nil_append, and_assoc, exists_and_left, exists_eq_left, true_and, and_true, Nat.reduceLeDiff, not_false_eq_true, not_true_eq_false, ↓reduceIte, eq_self, ← Int32.not_lt, ite_not, Classical.not_not] at hq ⊢
      by_cases z : cv 1 h (9 + 7 * k + 6) = 0
      · by_cases k9 : K < 10
        · obtain ⟨h2, hc, w1, w2⟩ := e_addCopy (show 4 ≤ 10 by omega) s1 G k9 hk hm
          simp only [z, k9, decide_true, decide_false, not_false_eq_true, not_true_eq_false, ↓reduceIte, Bool.false_eq_true, Bool.and_true, Bool.true_and, Bool.false_and, Bool.and_false, true_and, false_and, and_true, and_false] at hq ⊢
          simp only [bX5_cut_66, bX5_cut_75, t0, r00, tgS s1, Cal_iff hc, Option.toList_some, Option.toList_none, List.cons_append, List.nil_append, and_assoc, exists_and_left, exists_eq_left, true_and, and_true, Nat.reduceLeDiff, not_false_eq_true, not_true_eq_false, ↓reduceIte, eq_self, ← Int32.not_lt, ite_not, Classical.not_not]
          refine hq _ ?_ (onl1_frC w2)
          rw [cS_o1 w2, w1]
        · simp only [z, k9, decide_true, decide_false, not_false_eq_true, not_true_eq_false, ↓reduceIte, Bool.false_eq_true, Bool.and_true, Bool.true_and, Bool.false_and, Bool.and_false, true_and, false_and, and_true, and_false] at hq ⊢; exact hq _ (cS_rf _) (frC_rf _)
      · simp only [z, decide_true, decide_false, not_false_eq_true, not_true_eq_false, ↓reduceIte, Bool.false_eq_true, Bool.and_true, Bool.true_and, Bool.false_and, Bool.and_false, true_and, false_and, and_true, and_false] at hq ⊢; exact hq _ (cS_rf _) (frC_rf _)
theorem c_uses (x n : Int32) : KC eX5_uses [.int x, .int n] (f_uses x n) := by
  refine KC_of rfl (fun h K M GS G Q hq => ?_)
  show WP 10 eX5_uses Q 0 [.ref 0, .int x, .int n] [] h
  have e0 : h 1 2 = nI K := G.s0
  have e1 : h 1 6 = nI M := G.s1
  have g0 : cv 1 h 0 = nI K := G.s0
  have g1 : cv 1 h 1 = nI M := G.s1
  have k10 := G.k10
  have m5 := G.m5
  have gk := gdkN G
  have gm := gdmN G
  unfold f_uses at hq
  simp only [cS_1, cS_if, cS_im, cS_ln, cS_l, cS_rn, cS_r, cS_q, g0, g1, bno, gk, gm] at hq
  simp only [bX5_uses_0, bX5_uses_8, bX5_uses_11, bX5_uses_16, bX5_uses_17, bX5_uses_22, bX5_uses_28, bX5_uses_29, bX5_uses_35, bX5_uses_50, bX5_uses_56, t0, r00, r04, t52, tgS s1, k_hasKey (show 1 ≤ 10 by omega) s1, k_hasMachine (show 1 ≤ 10 by omega) s1, k_refuse (show 1 ≤ 10 by omega) rc1, k_refuse (show 1 ≤ 10 by omega) rc2, k_refuse (show 1 ≤ 10 by omega) rc3, k_refuse (show 1 ≤ 10 by omega) rc4, k_refuse (show 1 ≤ 10 by omega) rc6, k_isTooth (show 1 ≤ 10 by omega), k_isZeroOrOne (show 1 ≤ 10 by omega), k_outside (show 1 ≤ 10 by omega), bz0, ite_bz, e0, e1, Option.toList_some, Option.toList_none, List.cons_append, List.nil_append, and_assoc, exists_and_left, exists_eq_left, true_and, and_true, Nat.reduceLeDiff, not_false_eq_true, not_true_eq_false, ↓reduceIte, eq_self, ← Int32.not_lt, ite_not, Classical.not_not]
  cases c : ik x (nI K) with
  | false => simp only [c, decide_true, decide_false, not_false_eq_true, not_true_eq_false, ↓reduceIte, Bool.false_eq_true, Bool.and_true, Bool.true_and, Bool.false_and, Bool.and_false, true_and, false_and, and_true, and_false] at hq ⊢; exact hq _ (cS_rf _) (frC_rf _)
  | true =>
    obtain ⟨k, hk, rfl⟩ := ikt (by omega) c
    have hk10 : k < 10 := by omega
    simp only [c, decide_true, decide_false, not_false_eq_true, not_true_eq_false, ↓reduceIte, Bool.false_eq_true, Bool.and_true, Bool.true_and, Bool.false_and, Bool.and_false, true_and, false_and, and_true, and_false, xN_n (show k < 100000 by omega)] at hq ⊢
    by_cases n1 : n < 1
    · simp only [n1, decide_true, decide_false, not_false_eq_true, not_true_eq_false, ↓reduceIte, Bool.false_eq_true, Bool.and_true, Bool.true_and, Bool.false_and, Bool.and_false, true_and, false_and, and_true, and_false] at hq ⊢; exact hq _ (cS_rf _) (frC_rf _)
    by_cases n9 : 99 < n
    · simp only [n1, n9, decide_true, decide_false, not_false_eq_true, not_true_eq_false, ↓reduceIte, Bool.false_eq_true, Bool.and_true, Bool.true_and, Bool.false_and, Bool.and_false, true_and, false_and, and_true, and_false] at hq ⊢; exact hq _ (cS_rf _) (frC_rf _)
    simp only [n1, n9, decide_true, decide_false, not_false_eq_true, not_true_eq_false, ↓reduceIte, Bool.false_eq_true, Bool.and_true, Bool.true_and, Bool.false_and, Bool.and_false, true_and, false_and, and_true, and_false, cv2] at hq ⊢
    by_cases u9 : 9999 < h 1 9 + n
    · simp only [u9, decide_true, decide_false, not_false_eq_true, not_true_eq_false, ↓reduceIte, Bool.false_eq_true, Bool.and_true, Bool.true_and, Bool.false_and, Bool.and_false, true_and, false_and, and_true, and_false] at hq ⊢; exact hq _ (cS_rf _) (frC_rf _)
    unfold snb at hq
    simp only [u9, decide_true, decide_false, not_false_eq_true, not_true_eq_false, ↓reduceIte, Bool.false_eq_true, Bool.and_true, Bool.true_and, Bool.false_and, Bool.and_false, true_and, false_and, and_true, and_false] at hq ⊢
    simp only [bX5_uses_57, bX5_uses_66, bX5_uses_69, bX5_uses_75, rfS5 s1, tgZ s1, lnZ s1, v10K hk10, nI_cl (show k < 100 by omega), ← cvZ (s := 1) (h := h) hk10, t0, r00, r04, t52, tgS s1, k_hasKey (show 1 ≤ 10 by omega) s1, k_hasMachine (show 1 ≤ 10 by omega) s1, k_refuse (show 1 ≤ 10 by omega) rc1, k_refuse (show 1 ≤ 10 by omega) rc2, k_refuse (show 1 ≤ 10 by omega) rc3, k_refuse (show 1 ≤ 10 by omega) rc4, k_refuse (show 1 ≤ 10 by omega) rc6, k_isTooth (show 1 ≤ 10 by omega), k_isZeroOrOne (show 1 ≤ 10 by omega), k_outside (show 1 ≤ 10 by omega), bz0, ite_bz, e0, e1, Option.toList_some, Option.toList_none, List.cons_append, List.nil_append, and_assoc, exists_and_left, exists_eq_left, true_and, and_true, Nat.reduceLeDiff, not_false_eq_true, not_true_eq_false, ↓reduceIte, eq_self, ← Int32.not_lt, ite_not, Classical.not_not] at hq ⊢
    by_cases z : cv 1 h (9 + 7 * k + 6) = 0
    · obtain ⟨h2, hc, w1, w2⟩ := e_wear (show 2 ≤ 10 by omega) s1 (h := h) hk10 n
      obtain ⟨nn, n2, n3, rfl⟩ : ∃ nn, 1 ≤ nn ∧ nn ≤ 99 ∧ n = nI nn := oub_in (a := 1) (b := 99) (by omega) (by omega) (by unfold oub; rw [if_neg (show ¬ n < nI 1 from n1), if_neg (show ¬ nI 99 < n from n9)])
      have G2 : gdN (cv 1 h2) K M := by rw [w1]; exact usd_gd G hk10 (by omega) u9
      simp only [z, decide_true, decide_false, not_false_eq_true, not_true_eq_false, ↓reduceIte, Bool.false_eq_true, Bool.and_true, Bool.true_and, Bool.false_and, Bool.and_false, true_and, false_and, and_true, and_false] at hq ⊢
      simp only [bX5_uses_76, bX5_uses_85, bX5_uses_93, bX5_uses_96, bX5_uses_100, bX5_uses_101, t0, r00, tgS s1, Cal_iff hc, k_opens (show 3 ≤ 10 by omega) s1 G2 hk10, w1, bz0, ite_bz, Option.toList_some, Option.toList_none, List.cons_append, List.nil_append, and_assoc, exists_and_left, exists_eq_left, true_and, and_true, Nat.reduceLeDiff, not_false_eq_true, not_true_eq_false, ↓reduceIte, eq_self, ← Int32.not_lt, ite_not, Classical.not_not]
      have hh := hq h2 (by rw [cS_o1 w2, w1]) (onl1_frC w2)
      cases o : opb (usd (cv 1 h) k (nI nn)) k <;> simp only [o, decide_true, decide_false, not_false_eq_true, not_true_eq_false, ↓reduceIte, Bool.false_eq_true, Bool.and_true, Bool.true_and, Bool.false_and, Bool.and_false, true_and, false_and, and_true, and_false, bzt, bzf] at hh ⊢ <;> exact hh
    · simp only [z, decide_true, decide_false, not_false_eq_true, not_true_eq_false, ↓reduceIte, Bool.false_eq_true, Bool.and_true, Bool.true_and, Bool.false_and, Bool.and_false, true_and, false_and, and_true, and_false] at hq ⊢; exact hq _ (cS_rf _) (frC_rf _)
theorem ct_not (p : Nat → Bool) : ∀ n, ct (fun i => !p i) n = n - ct p n
  | 0 => rfl
  | n + 1 => by
    have := ct_le p n
    rw [ct, ct, ct_not p n]
    cases p n <;> simp <;> omega
theorem c_snaps (x : Int32) : KC eX5_snaps [.int x] (f_snaps x) := by
  refine KC_of rfl (fun h K M GS G Q hq => ?_)
  show WP 10 eX5_snaps Q 0 [.ref 0, .int x] [] h
  have e0 : h 1 2 = nI K := G.s0
  have e1 : h 1 6 = nI M := G.s1
  have g0 : cv 1 h 0 = nI K := G.s0
  have g1 : cv 1 h 1 = nI M := G.s1
  have k10 := G.k10
  have m5 := G.m5
  have gk := gdkN G
  have gm := gdmN G
  unfold f_snaps at hq
  simp only [cS_1, cS_if, cS_im, cS_ln, cS_l, cS_rn, cS_r, cS_q, g0, g1, bno, gk, gm] at hq
  simp only [bX5_snaps_0, bX5_snaps_8, bX5_snaps_11, bX5_snaps_16, t0, r00, r04, t52, tgS s1, k_hasKey (show 1 ≤ 10 by omega) s1, k_hasMachine (show 1 ≤ 10 by omega) s1, k_refuse (show 1 ≤ 10 by omega) rc1, k_refuse (show 1 ≤ 10 by omega) rc2, k_refuse (show 1 ≤ 10 by omega) rc3, k_refuse (show 1 ≤ 10 by omega) rc4, k_refuse (show 1 ≤ 10 by omega) rc6, k_isTooth (show 1 ≤ 10 by omega), k_isZeroOrOne (show 1 ≤ 10 by omega), k_outside (show 1 ≤ 10 by omega), bz0, ite_bz, e0, e1, Option.toList_some, Option.toList_none, List.cons_append, List.nil_append, and_assoc, exists_and_left, exists_eq_left, true_and, and_true, Nat.reduceLeDiff, not_false_eq_true, not_true_eq_false, ↓reduceIte, eq_self, ← Int32.not_lt, ite_not, Classical.not_not]
  cases c : ik x (nI K) with
  | false => simp only [c, decide_true, decide_false, not_false_eq_true, not_true_eq_false, ↓reduceIte, Bool.false_eq_true, Bool.and_true, Bool.true_and, Bool.false_and, Bool.and_false, true_and, false_and, and_true, and_false] at hq ⊢; exact hq _ (cS_rf _) (frC_rf _)
  | true =>
    obtain ⟨k, hk, rfl⟩ := ikt (by omega) c
    have hk10 : k < 10 := by omega
    simp only [c, decide_true, decide_false, not_false_eq_true, not_true_eq_false, ↓reduceIte, Bool.false_eq_true, Bool.and_true, Bool.true_and, Bool.false_and, Bool.and_false, true_and, false_and, and_true, and_false, xN_n (show k < 100000 by omega)] at hq ⊢
    have es : snb (cv 1 h) k = decide (¬ cv 1 h (9 + 7 * k + 6) = 0) := rfl
    rw [es] at hq
    simp only [bX5_snaps_17, bX5_snaps_26, bX5_snaps_29, bX5_snaps_35, rfS5 s1, tgZ s1, lnZ s1, v10K hk10, nI_cl (show k < 100 by omega), ← cvZ (s := 1) (h := h) hk10, t0, r00, r04, t52, tgS s1, k_hasKey (show 1 ≤ 10 by omega) s1, k_hasMachine (show 1 ≤ 10 by omega) s1, k_refuse (show 1 ≤ 10 by omega) rc1, k_refuse (show 1 ≤ 10 by omega) rc2, k_refuse (show 1 ≤ 10 by omega) rc3, k_refuse (show 1 ≤ 10 by omega) rc4, k_refuse (show 1 ≤ 10 by omega) rc6, k_isTooth (show 1 ≤ 10 by omega), k_isZeroOrOne (show 1 ≤ 10 by omega), k_outside (show 1 ≤ 10 by omega), bz0, ite_bz, e0, e1, Option.toList_some, Option.toList_none, List.cons_append, List.nil_append, and_assoc, exists_and_left, exists_eq_left, true_and, and_true, Nat.reduceLeDiff, not_false_eq_true, not_true_eq_false, ↓reduceIte, eq_self, ← Int32.not_lt, ite_not, Classical.not_not]
    by_cases z : cv 1 h (9 + 7 * k + 6) = 0
    · simp only [z, decide_true, decide_false, not_false_eq_true, not_true_eq_false, ↓reduceIte, Bool.false_eq_true, Bool.and_true, Bool.true_and, Bool.false_and, Bool.and_false, true_and, false_and, and_true, and_false] at hq ⊢
      have w1 : cv 1 (mPut h 15 (upd (h 15) k 1)) = upd (cv 1 h) (9 + 7 * k + 6) 1 := cv_uZ (s := 1) hk10 1
      have G2 : gdN (cv 1 (mPut h 15 (upd (h 15) k 1))) K M := by rw [w1]; exact gd_o G (Or.inr (Or.inr (Or.inl ⟨by omega, by omega, by omega, Or.inr rfl⟩)))
      have l1 := ct_le (snb (upd (cv 1 h) (9 + 7 * k + 6) 1)) K
      simp only [bX5_snaps_36, bX5_snaps_46, bX5_snaps_60, bX5_snaps_63, t0, r00, tgS s1, rfS5 s1, tgZ s1, lnZ s1, v10K hk10, nI_cl (show k < 100 by omega), or_true, Nat.reduceAdd, k_snappedBits (show 1 ≤ 10 by omega) s1 G2, w1, k_bitCount (show 1 ≤ 10 by omega) (nb_1024 _ k10), nb_ct _ k10, G2.s0', pk_sub l1, Option.toList_some, Option.toList_none, List.cons_append, List.nil_append, and_assoc, exists_and_left, exists_eq_left, true_and, and_true, Nat.reduceLeDiff, not_false_eq_true, not_true_eq_false, ↓reduceIte, eq_self, ← Int32.not_lt, ite_not, Classical.not_not]
      have hh := hq _ (by rw [cS_o1 (onl.rfl'.put (c := 15) (f := upd (h 15) k 1) (by omega) (by omega)), w1]) (frC_p frC_r (by omega))
      rw [ct_not] at hh
      exact hh
    · simp only [z, decide_true, decide_false, not_false_eq_true, not_true_eq_false, ↓reduceIte, Bool.false_eq_true, Bool.and_true, Bool.true_and, Bool.false_and, Bool.and_false, true_and, false_and, and_true, and_false] at hq ⊢; exact hq _ (cS_rf _) (frC_rf _)
theorem c_opening : KC eX5_opening [] f_opening := by
  refine KC_of rfl (fun h K M GS G Q hq => ?_)
  show WP 10 eX5_opening Q 0 [.ref 0] [] h
  have e0 : h 1 2 = nI K := G.s0
  have e1 : h 1 6 = nI M := G.s1
  have g0 : cv 1 h 0 = nI K := G.s0
  have g1 : cv 1 h 1 = nI M := G.s1
  have k10 := G.k10
  have m5 := G.m5
  have gk := gdkN G
  have gm := gdmN G
  unfold f_opening at hq
  simp only [cS_1, cS_if, cS_im, cS_ln, cS_l, cS_rn, cS_r, cS_q, g0, g1, bno, gk, gm] at hq
  simp only [bX5_opening_0, bX5_opening_7, k_openingBits (show 4 ≤ 10 by omega) s1 G, t0, r00, r04, t52, tgS s1, k_hasKey (show 1 ≤ 10 by omega) s1, k_hasMachine (show 1 ≤ 10 by omega) s1, k_refuse (show 1 ≤ 10 by omega) rc1, k_refuse (show 1 ≤ 10 by omega) rc2, k_refuse (show 1 ≤ 10 by omega) rc3, k_refuse (show 1 ≤ 10 by omega) rc4, k_refuse (show 1 ≤ 10 by omega) rc6, k_isTooth (show 1 ≤ 10 by omega), k_isZeroOrOne (show 1 ≤ 10 by omega), k_outside (show 1 ≤ 10 by omega), bz0, ite_bz, e0, e1, Option.toList_some, Option.toList_none, List.cons_append, List.nil_append, and_assoc, exists_and_left, exists_eq_left, true_and, and_true, Nat.reduceLeDiff, not_false_eq_true, not_true_eq_false, ↓reduceIte, eq_self, ← Int32.not_lt, ite_not, Classical.not_not]
  exact hq _ rfl frC_r
theorem c_family (x w : Int32) : KC eX5_family [.int x, .int w] (f_family x w) := by
  refine KC_of rfl (fun h K M GS G Q hq => ?_)
  show WP 10 eX5_family Q 0 [.ref 0, .int x, .int w] [] h
  have e0 : h 1 2 = nI K := G.s0
  have e1 : h 1 6 = nI M := G.s1
  have g0 : cv 1 h 0 = nI K := G.s0
  have g1 : cv 1 h 1 = nI M := G.s1
  have k10 := G.k10
  have m5 := G.m5
  have gk := gdkN G
  have gm := gdmN G
  unfold f_family at hq
  simp only [cS_1, cS_if, cS_im, cS_ln, cS_l, cS_rn, cS_r, cS_q, g0, g1, bno, gk, gm] at hq
  simp only [bX5_family_0, bX5_family_8, bX5_family_11, bX5_family_16, t0, r00, r04, t52, tgS s1, k_hasKey (show 1 ≤ 10 by omega) s1, k_hasMachine (show 1 ≤ 10 by omega) s1, k_refuse (show 1 ≤ 10 by omega) rc1, k_refuse (show 1 ≤ 10 by omega) rc2, k_refuse (show 1 ≤ 10 by omega) rc3, k_refuse (show 1 ≤ 10 by omega) rc4, k_refuse (show 1 ≤ 10 by omega) rc6, k_isTooth (show 1 ≤ 10 by omega), k_isZeroOrOne (show 1 ≤ 10 by omega), k_outside (show 1 ≤ 10 by omega), bz0, ite_bz, e0, e1, Option.toList_some, Option.toList_none, List.cons_append, List.nil_append, and_assoc, exists_and_left, exists_eq_left, true_and, and_true, Nat.reduceLeDiff, not_false_eq_true, not_true_eq_false, ↓reduceIte, eq_self, ← Int32.not_lt, ite_not, Classical.not_not]
  cases c : ik x (nI K) with
  | false => simp only [c, decide_true, decide_false, not_false_eq_true, not_true_eq_false, ↓reduceIte, Bool.false_eq_true, Bool.and_true, Bool.true_and, Bool.false_and, Bool.and_false, true_and, false_and, and_true, and_false] at hq ⊢; exact hq _ (cS_rf _) (frC_rf _)
  | true =>
    obtain ⟨k, hk, rfl⟩ := ikt (by omega) c
    simp only [c, decide_true, decide_false, not_false_eq_true, not_true_eq_false, ↓reduceIte, Bool.false_eq_true, Bool.and_true, Bool.true_and, Bool.false_and, Bool.and_false, true_and, false_and, and_true, and_false, xN_n (show k < 100000 by omega)] at hq ⊢
    simp only [bX5_family_17, swP, Int.reduceAdd, Int32.reduceOfInt]
    by_cases w0 : w = 0
    · simp only [w0, decide_true, decide_false, not_false_eq_true, not_true_eq_false, ↓reduceIte, Bool.false_eq_true, Bool.and_true, Bool.true_and, Bool.false_and, Bool.and_false, true_and, false_and, and_true, and_false] at hq ⊢
      simp only [bX5_family_48, bX5_family_56, t0, r00, k_depthOf (show 3 ≤ 10 by omega) s1 G hk, Option.toList_some, Option.toList_none, List.cons_append, List.nil_append, and_assoc, exists_and_left, exists_eq_left, true_and, and_true, Nat.reduceLeDiff, not_false_eq_true, not_true_eq_false, ↓reduceIte, eq_self, ← Int32.not_lt, ite_not, Classical.not_not]
      exact hq _ rfl frC_r
    by_cases w1 : w = 1
    · simp only [w1, show ¬ (1 : Int32) = 0 by decide, decide_true, decide_false, not_false_eq_true, not_true_eq_false, ↓reduceIte, Bool.false_eq_true, Bool.and_true, Bool.true_and, Bool.false_and, Bool.and_false, true_and, false_and, and_true, and_false] at hq ⊢
      simp only [bX5_family_57, bX5_family_65, t0, r00, k_rootOf (show 3 ≤ 10 by omega) s1 G hk, Option.toList_some, Option.toList_none, List.cons_append, List.nil_append, and_assoc, exists_and_left, exists_eq_left, true_and, and_true, Nat.reduceLeDiff, not_false_eq_true, not_true_eq_false, ↓reduceIte, eq_self, ← Int32.not_lt, ite_not, Classical.not_not]
      exact hq _ rfl frC_r
    by_cases w2 : w = 2
    · simp only [w2, show ¬ (2 : Int32) = 0 by decide, show ¬ (2 : Int32) = 1 by decide, decide_true, decide_false, not_false_eq_true, not_true_eq_false, ↓reduceIte, Bool.false_eq_true, Bool.and_true, Bool.true_and, Bool.false_and, Bool.and_false, true_and, false_and, and_true, and_false] at hq ⊢
      simp only [bX5_family_66, bX5_family_74, t0, r00, k_childrenOf (show 2 ≤ 10 by omega) s1 G hk, Option.toList_some, Option.toList_none, List.cons_append, List.nil_append, and_assoc, exists_and_left, exists_eq_left, true_and, and_true, Nat.reduceLeDiff, not_false_eq_true, not_true_eq_false, ↓reduceIte, eq_self, ← Int32.not_lt, ite_not, Classical.not_not]
      exact hq _ rfl frC_r
    by_cases w3 : w = 3
    · simp only [w3, show ¬ (3 : Int32) = 0 by decide, show ¬ (3 : Int32) = 1 by decide, show ¬ (3 : Int32) = 2 by decide, decide_true, decide_false, not_false_eq_true, not_true_eq_false, ↓reduceIte, Bool.false_eq_true, Bool.and_true, Bool.true_and, Bool.false_and, Bool.and_false, true_and, false_and, and_true, and_false] at hq ⊢
      simp only [bX5_family_75, bX5_family_83, t0, r00, k_heirsOf (show 2 ≤ 10 by omega) s1 G hk, Option.toList_some, Option.toList_none, List.cons_append, List.nil_append, and_assoc, exists_and_left, exists_eq_left, true_and, and_true, Nat.reduceLeDiff, not_false_eq_true, not_true_eq_false, ↓reduceIte, eq_self, ← Int32.not_lt, ite_not, Classical.not_not]
      exact hq _ rfl frC_r
    · simp only [w0, w1, w2, w3, decide_true, decide_false, not_false_eq_true, not_true_eq_false, ↓reduceIte, Bool.false_eq_true, Bool.and_true, Bool.true_and, Bool.false_and, Bool.and_false, true_and, false_and, and_true, and_false] at hq ⊢
      simp only [bX5_family_84, bX5_family_90, t0, k_refuse (show 1 ≤ 10 by omega) rc2, Option.toList_some, Option.toList_none, List.cons_append, List.nil_append, and_assoc, exists_and_left, exists_eq_left, true_and, and_true, Nat.reduceLeDiff, not_false_eq_true, not_true_eq_false, ↓reduceIte, eq_self, ← Int32.not_lt, ite_not, Classical.not_not]
      exact hq _ (cS_rf _) (frC_rf _)
theorem c_common (x y : Int32) : KC eX5_common [.int x, .int y] (f_common x y) := by
  refine KC_of rfl (fun h K M GS G Q hq => ?_)
  show WP 10 eX5_common Q 0 [.ref 0, .int x, .int y] [] h
  have e0 : h 1 2 = nI K := G.s0
  have e1 : h 1 6 = nI M := G.s1
  have g0 : cv 1 h 0 = nI K := G.s0
  have g1 : cv 1 h 1 = nI M := G.s1
  have k10 := G.k10
  have m5 := G.m5
  have gk := gdkN G
  have gm := gdmN G
  unfold f_common at hq
  simp only [cS_1, cS_if, cS_im, cS_ln, cS_l, cS_rn, cS_r, cS_q, g0, g1, bno, gk, gm] at hq
  simp only [bX5_common_0, bX5_common_8, bX5_common_11, bX5_common_19, bX5_common_22, bX5_common_27, t0, r00, r04, t52, tgS s1, k_hasKey (show 1 ≤ 10 by omega) s1, k_hasMachine (show 1 ≤ 10 by omega) s1, k_refuse (show 1 ≤ 10 by omega) rc1, k_refuse (show 1 ≤ 10 by omega) rc2, k_refuse (show 1 ≤ 10 by omega) rc3, k_refuse (show 1 ≤ 10 by omega) rc4, k_refuse (show 1 ≤ 10 by omega) rc6, k_isTooth (show 1 ≤ 10 by omega), k_isZeroOrOne (show 1 ≤ 10 by omega), k_outside (show 1 ≤ 10 by omega), bz0, ite_bz, e0, e1, Option.toList_some, Option.toList_none, List.cons_append, List.nil_append, and_assoc, exists_and_left, exists_eq_left, true_and, and_true, Nat.reduceLeDiff, not_false_eq_true, not_true_eq_false, ↓reduceIte, eq_self, ← Int32.not_lt, ite_not, Classical.not_not]
  cases c : ik x (nI K) with
  | false => simp only [c, decide_true, decide_false, not_false_eq_true, not_true_eq_false, ↓reduceIte, Bool.false_eq_true, Bool.and_true, Bool.true_and, Bool.false_and, Bool.and_false, true_and, false_and, and_true, and_false] at hq ⊢; exact hq _ (cS_rf _) (frC_rf _)
  | true =>
    obtain ⟨k, hk, rfl⟩ := ikt (by omega) c
    simp only [c, decide_true, decide_false, not_false_eq_true, not_true_eq_false, ↓reduceIte, Bool.false_eq_true, Bool.and_true, Bool.true_and, Bool.false_and, Bool.and_false, true_and, false_and, and_true, and_false, xN_n (show k < 100000 by omega)] at hq ⊢
    cases c2 : ik y (nI K) with
    | false => simp only [c2, decide_true, decide_false, not_false_eq_true, not_true_eq_false, ↓reduceIte, Bool.false_eq_true, Bool.and_true, Bool.true_and, Bool.false_and, Bool.and_false, true_and, false_and, and_true, and_false] at hq ⊢; exact hq _ (cS_rf _) (frC_rf _)
    | true =>
      obtain ⟨m, hm, rfl⟩ := ikt (by omega) c2
      simp only [c2, decide_true, decide_false, not_false_eq_true, not_true_eq_false, ↓reduceIte, Bool.false_eq_true, Bool.and_true, Bool.true_and, Bool.false_and, Bool.and_false, true_and, false_and, and_true, and_false, xN_n (show m < 100000 by omega)] at hq ⊢
      simp only [bX5_common_28, bX5_common_37, t0, r00, k_commonOf (show 3 ≤ 10 by omega) s1 G hk hm, Option.toList_some, Option.toList_none, List.cons_append, List.nil_append, and_assoc, exists_and_left, exists_eq_left, true_and, and_true, Nat.reduceLeDiff, not_false_eq_true, not_true_eq_false, ↓reduceIte, eq_self, ← Int32.not_lt, ite_not, Classical.not_not]
      exact hq _ rfl frC_r
theorem c_nearest : KC eX5_nearest [] f_nearest := by
  refine KC_of rfl (fun h K M GS G Q hq => ?_)
  show WP 10 eX5_nearest Q 0 [.ref 0] [] h
  have e0 : h 1 2 = nI K := G.s0
  have e1 : h 1 6 = nI M := G.s1
  have g0 : cv 1 h 0 = nI K := G.s0
  have g1 : cv 1 h 1 = nI M := G.s1
  have k10 := G.k10
  have m5 := G.m5
  have gk := gdkN G
  have gm := gdmN G
  unfold f_nearest at hq
  simp only [cS_1, cS_if, cS_im, cS_ln, cS_l, cS_rn, cS_r, cS_q, g0, g1, bno, gk, gm] at hq
  simp only [bX5_nearest_0, bX5_nearest_7, k_nearestKey (show 3 ≤ 10 by omega) s1 G, t0, r00, r04, t52, tgS s1, k_hasKey (show 1 ≤ 10 by omega) s1, k_hasMachine (show 1 ≤ 10 by omega) s1, k_refuse (show 1 ≤ 10 by omega) rc1, k_refuse (show 1 ≤ 10 by omega) rc2, k_refuse (show 1 ≤ 10 by omega) rc3, k_refuse (show 1 ≤ 10 by omega) rc4, k_refuse (show 1 ≤ 10 by omega) rc6, k_isTooth (show 1 ≤ 10 by omega), k_isZeroOrOne (show 1 ≤ 10 by omega), k_outside (show 1 ≤ 10 by omega), bz0, ite_bz, e0, e1, Option.toList_some, Option.toList_none, List.cons_append, List.nil_append, and_assoc, exists_and_left, exists_eq_left, true_and, and_true, Nat.reduceLeDiff, not_false_eq_true, not_true_eq_false, ↓reduceIte, eq_self, ← Int32.not_lt, ite_not, Classical.not_not]
  exact hq _ rfl frC_r
theorem c_next (w : Int32) : KC eX5_next [.int w] (f_next w) := by
  refine KC_of rfl (fun h K M GS G Q hq => ?_)
  show WP 10 eX5_next Q 0 [.ref 0, .int w] [] h
  have e0 : h 1 2 = nI K := G.s0
  have e1 : h 1 6 = nI M := G.s1
  have g0 : cv 1 h 0 = nI K := G.s0
  have g1 : cv 1 h 1 = nI M := G.s1
  have k10 := G.k10
  have m5 := G.m5
  have gk := gdkN G
  have gm := gdmN G
  unfold f_next at hq
  simp only [cS_1, cS_if, cS_im, cS_ln, cS_l, cS_rn, cS_r, cS_q, g0, g1, bno, gk, gm] at hq
  simp only [bX5_next_0, bX5_next_4, bX5_next_7, bX5_next_13, bX5_next_14, bX5_next_27, bX5_next_31, bX5_next_32, t0, r00, r04, t52, tgS s1, k_hasKey (show 1 ≤ 10 by omega) s1, k_hasMachine (show 1 ≤ 10 by omega) s1, k_refuse (show 1 ≤ 10 by omega) rc1, k_refuse (show 1 ≤ 10 by omega) rc2, k_refuse (show 1 ≤ 10 by omega) rc3, k_refuse (show 1 ≤ 10 by omega) rc4, k_refuse (show 1 ≤ 10 by omega) rc6, k_isTooth (show 1 ≤ 10 by omega), k_isZeroOrOne (show 1 ≤ 10 by omega), k_outside (show 1 ≤ 10 by omega), bz0, ite_bz, e0, e1, Option.toList_some, Option.toList_none, List.cons_append, List.nil_append, and_assoc, exists_and_left, exists_eq_left, true_and, and_true, Nat.reduceLeDiff, not_false_eq_true, not_true_eq_false, ↓reduceIte, eq_self, ← Int32.not_lt, ite_not, Classical.not_not]
  cases c : i01 w with
  | false => simp only [c, decide_true, decide_false, not_false_eq_true, not_true_eq_false, ↓reduceIte, Bool.false_eq_true, Bool.and_true, Bool.true_and, Bool.false_and, Bool.and_false, true_and, false_and, and_true, and_false] at hq ⊢; exact hq _ (cS_rf _) (frC_rf _)
  | true =>
    simp only [c, decide_true, decide_false, not_false_eq_true, not_true_eq_false, ↓reduceIte, Bool.false_eq_true, Bool.and_true, Bool.true_and, Bool.false_and, Bool.and_false, true_and, false_and, and_true, and_false] at hq ⊢
    obtain ⟨g, hc⟩ := e_bestNext (show 5 ≤ 10 by omega) s1 G (decide (w = 1))
    unfold bz at hc
    by_cases w1 : w = 1
    · simp only [w1, decide_true, decide_false, not_false_eq_true, not_true_eq_false, ↓reduceIte, Bool.false_eq_true, Bool.and_true, Bool.true_and, Bool.false_and, Bool.and_false, true_and, false_and, and_true, and_false] at hq hc ⊢
      simp only [bX5_next_35, Cal_iff hc, Option.toList_some, Option.toList_none, List.cons_append, List.nil_append, and_assoc, exists_and_left, exists_eq_left, true_and, and_true, Nat.reduceLeDiff, not_false_eq_true, not_true_eq_false, ↓reduceIte, eq_self, ← Int32.not_lt, ite_not, Classical.not_not]
      exact hq _ cS_53 (frC_p frC_r (by omega))
    · simp only [w1, decide_true, decide_false, not_false_eq_true, not_true_eq_false, ↓reduceIte, Bool.false_eq_true, Bool.and_true, Bool.true_and, Bool.false_and, Bool.and_false, true_and, false_and, and_true, and_false] at hq hc ⊢
      simp only [bX5_next_35, Cal_iff hc, Option.toList_some, Option.toList_none, List.cons_append, List.nil_append, and_assoc, exists_and_left, exists_eq_left, true_and, and_true, Nat.reduceLeDiff, not_false_eq_true, not_true_eq_false, ↓reduceIte, eq_self, ← Int32.not_lt, ite_not, Classical.not_not]
      exact hq _ cS_53 (frC_p frC_r (by omega))
theorem c_inRow (x y w : Int32) : KC eX5_inRow [.int x, .int y, .int w] (f_inRow x y w) := by
  refine KC_of rfl (fun h K M GS G Q hq => ?_)
  show WP 10 eX5_inRow Q 0 [.ref 0, .int x, .int y, .int w] [] h
  have e0 : h 1 2 = nI K := G.s0
  have e1 : h 1 6 = nI M := G.s1
  have g0 : cv 1 h 0 = nI K := G.s0
  have g1 : cv 1 h 1 = nI M := G.s1
  have k10 := G.k10
  have m5 := G.m5
  have gk := gdkN G
  have gm := gdmN G
  unfold f_inRow at hq
  simp only [cS_1, cS_if, cS_im, cS_ln, cS_l, cS_rn, cS_r, cS_q, g0, g1, bno, gk, gm] at hq
  simp only [bX5_inRow_0, bX5_inRow_8, bX5_inRow_11, bX5_inRow_19, bX5_inRow_22, bX5_inRow_27, bX5_inRow_28, bX5_inRow_32, bX5_inRow_35, bX5_inRow_41, bX5_inRow_42, t0, r00, r04, t52, tgS s1, k_hasKey (show 1 ≤ 10 by omega) s1, k_hasMachine (show 1 ≤ 10 by omega) s1, k_refuse (show 1 ≤ 10 by omega) rc1, k_refuse (show 1 ≤ 10 by omega) rc2, k_refuse (show 1 ≤ 10 by omega) rc3, k_refuse (show 1 ≤ 10 by omega) rc4, k_refuse (show 1 ≤ 10 by omega) rc6, k_isTooth (show 1 ≤ 10 by omega), k_isZeroOrOne (show 1 ≤ 10 by omega), k_outside (show 1 ≤ 10 by omega), bz0, ite_bz, e0, e1, Option.toList_some, Option.toList_none, List.cons_append, List.nil_append, and_assoc, exists_and_left, exists_eq_left, true_and, and_true, Nat.reduceLeDiff, not_false_eq_true, not_true_eq_false, ↓reduceIte, eq_self, ← Int32.not_lt, ite_not, Classical.not_not]
  cases c : ik x (nI K) with
  | false => simp only [c, decide_true, decide_false, not_false_eq_true, not_true_eq_false, ↓reduceIte, Bool.false_eq_true, Bool.and_true, Bool.true_and, Bool.false_and, Bool.and_false, true_and, false_and, and_true, and_false] at hq ⊢; exact hq _ (cS_rf _) (frC_rf _)
  | true =>
    obtain ⟨k, hk, rfl⟩ := ikt (by omega) c
    simp only [c, decide_true, decide_false, not_false_eq_true, not_true_eq_false, ↓reduceIte, Bool.false_eq_true, Bool.and_true, Bool.true_and, Bool.false_and, Bool.and_false, true_and, false_and, and_true, and_false, xN_n (show k < 100000 by omega)] at hq ⊢
    cases c2 : ik y (nI M) with
    | false => simp only [c2, decide_true, decide_false, not_false_eq_true, not_true_eq_false, ↓reduceIte, Bool.false_eq_true, Bool.and_true, Bool.true_and, Bool.false_and, Bool.and_false, true_and, false_and, and_true, and_false] at hq ⊢; exact hq _ (cS_rf _) (frC_rf _)
    | true =>
      obtain ⟨m, hm, rfl⟩ := ikt (by omega) c2
      simp only [c2, decide_true, decide_false, not_false_eq_true, not_true_eq_false, ↓reduceIte, Bool.false_eq_true, Bool.and_true, Bool.true_and, Bool.false_and, Bool.and_false, true_and, false_and, and_true, and_false, xN_n (show m < 100000 by omega)] at hq ⊢
      cases c3 : i01 w with
      | false => simp only [c3, decide_true, decide_false, not_false_eq_true, not_true_eq_false, ↓reduceIte, Bool.false_eq_true, Bool.and_true, Bool.true_and, Bool.false_and, Bool.and_false, true_and, false_and, and_true, and_false] at hq ⊢; exact hq _ (cS_rf _) (frC_rf _)
      | true =>
        simp only [c3, decide_true, decide_false, not_false_eq_true, not_true_eq_false, ↓reduceIte, Bool.false_eq_true, Bool.and_true, Bool.true_and, Bool.false_and, Bool.and_false, true_and, false_and, and_true, and_false] at hq ⊢
        by_cases w0 : w = 0
        · obtain ⟨g, hc⟩ := e_copiesThatOpen (show 5 ≤ 10 by omega) s1 G (show k < 10 by omega) (show m < 5 by omega)
          simp only [w0, decide_true, decide_false, not_false_eq_true, not_true_eq_false, ↓reduceIte, Bool.false_eq_true, Bool.and_true, Bool.true_and, Bool.false_and, Bool.and_false, true_and, false_and, and_true, and_false] at hq ⊢
          simp only [bX5_inRow_46, bX5_inRow_59, bX5_inRow_75, t0, r00, r04, t52, Cal_iff hc, Option.toList_some, Option.toList_none, List.cons_append, List.nil_append, and_assoc, exists_and_left, exists_eq_left, true_and, and_true, Nat.reduceLeDiff, not_false_eq_true, not_true_eq_false, ↓reduceIte, eq_self, ← Int32.not_lt, ite_not, Classical.not_not]
          exact hq _ cS_53 (frC_p frC_r (by omega))
        · obtain ⟨g, hc⟩ := e_toothThatGoesFirst (show 5 ≤ 10 by omega) s1 G (show k < 10 by omega) (show m < 5 by omega)
          simp only [w0, decide_true, decide_false, not_false_eq_true, not_true_eq_false, ↓reduceIte, Bool.false_eq_true, Bool.and_true, Bool.true_and, Bool.false_and, Bool.and_false, true_and, false_and, and_true, and_false] at hq ⊢
          simp only [bX5_inRow_62, bX5_inRow_75, t0, r00, r04, t52, Cal_iff hc, Option.toList_some, Option.toList_none, List.cons_append, List.nil_append, and_assoc, exists_and_left, exists_eq_left, true_and, and_true, Nat.reduceLeDiff, not_false_eq_true, not_true_eq_false, ↓reduceIte, eq_self, ← Int32.not_lt, ite_not, Classical.not_not]
          exact hq _ cS_53 (frC_p frC_r (by omega))
theorem c_lasts (x : Int32) : KC eX5_lasts [.int x] (f_lasts x) := by
  refine KC_of rfl (fun h K M GS G Q hq => ?_)
  show WP 10 eX5_lasts Q 0 [.ref 0, .int x] [] h
  have e0 : h 1 2 = nI K := G.s0
  have e1 : h 1 6 = nI M := G.s1
  have g0 : cv 1 h 0 = nI K := G.s0
  have g1 : cv 1 h 1 = nI M := G.s1
  have k10 := G.k10
  have m5 := G.m5
  have gk := gdkN G
  have gm := gdmN G
  unfold f_lasts at hq
  simp only [cS_1, cS_if, cS_im, cS_ln, cS_l, cS_rn, cS_r, cS_q, g0, g1, bno, gk, gm] at hq
  simp only [bX5_lasts_0, bX5_lasts_8, bX5_lasts_11, bX5_lasts_16, t0, r00, r04, t52, tgS s1, k_hasKey (show 1 ≤ 10 by omega) s1, k_hasMachine (show 1 ≤ 10 by omega) s1, k_refuse (show 1 ≤ 10 by omega) rc1, k_refuse (show 1 ≤ 10 by omega) rc2, k_refuse (show 1 ≤ 10 by omega) rc3, k_refuse (show 1 ≤ 10 by omega) rc4, k_refuse (show 1 ≤ 10 by omega) rc6, k_isTooth (show 1 ≤ 10 by omega), k_isZeroOrOne (show 1 ≤ 10 by omega), k_outside (show 1 ≤ 10 by omega), bz0, ite_bz, e0, e1, Option.toList_some, Option.toList_none, List.cons_append, List.nil_append, and_assoc, exists_and_left, exists_eq_left, true_and, and_true, Nat.reduceLeDiff, not_false_eq_true, not_true_eq_false, ↓reduceIte, eq_self, ← Int32.not_lt, ite_not, Classical.not_not]
  cases c : ik x (nI K) with
  | false => simp only [c, decide_true, decide_false, not_false_eq_true, not_true_eq_false, ↓reduceIte, Bool.false_eq_true, Bool.and_true, Bool.true_and, Bool.false_and, Bool.and_false, true_and, false_and, and_true, and_false] at hq ⊢; exact hq _ (cS_rf _) (frC_rf _)
  | true =>
    obtain ⟨k, hk, rfl⟩ := ikt (by omega) c
    simp only [c, decide_true, decide_false, not_false_eq_true, not_true_eq_false, ↓reduceIte, Bool.false_eq_true, Bool.and_true, Bool.true_and, Bool.false_and, Bool.and_false, true_and, false_and, and_true, and_false, xN_n (show k < 100000 by omega)] at hq ⊢
    simp only [bX5_lasts_17, bX5_lasts_29, t0, r00, r04, t52, k_usesTillShut (show 3 ≤ 10 by omega) s1 G (show k < 10 by omega), Option.toList_some, Option.toList_none, List.cons_append, List.nil_append, and_assoc, exists_and_left, exists_eq_left, true_and, and_true, Nat.reduceLeDiff, not_false_eq_true, not_true_eq_false, ↓reduceIte, eq_self, ← Int32.not_lt, ite_not, Classical.not_not]
    exact hq _ rfl frC_r
theorem c_fit (x : Int32) : KC eX5_fit [.int x] (f_fit x) := by
  refine KC_of rfl (fun h K M GS G Q hq => ?_)
  show WP 10 eX5_fit Q 0 [.ref 0, .int x, mU] [] h
  have e0 : h 1 2 = nI K := G.s0
  have e1 : h 1 6 = nI M := G.s1
  have g0 : cv 1 h 0 = nI K := G.s0
  have g1 : cv 1 h 1 = nI M := G.s1
  have k10 := G.k10
  have m5 := G.m5
  have gk := gdkN G
  have gm := gdmN G
  unfold f_fit at hq
  simp only [cS_1, cS_if, cS_im, cS_ln, cS_l, cS_rn, cS_r, cS_q, g0, g1, bno, gk, gm] at hq
  simp only [bX5_fit_0, bX5_fit_8, bX5_fit_11, bX5_fit_16, t0, r00, r04, t52, tgS s1, k_hasKey (show 1 ≤ 10 by omega) s1, k_hasMachine (show 1 ≤ 10 by omega) s1, k_refuse (show 1 ≤ 10 by omega) rc1, k_refuse (show 1 ≤ 10 by omega) rc2, k_refuse (show 1 ≤ 10 by omega) rc3, k_refuse (show 1 ≤ 10 by omega) rc4, k_refuse (show 1 ≤ 10 by omega) rc6, k_isTooth (show 1 ≤ 10 by omega), k_isZeroOrOne (show 1 ≤ 10 by omega), k_outside (show 1 ≤ 10 by omega), bz0, ite_bz, e0, e1, Option.toList_some, Option.toList_none, List.cons_append, List.nil_append, and_assoc, exists_and_left, exists_eq_left, true_and, and_true, Nat.reduceLeDiff, not_false_eq_true, not_true_eq_false, ↓reduceIte, eq_self, ← Int32.not_lt, ite_not, Classical.not_not]
  cases c : ik x (nI K) with
  | false => simp only [c, decide_true, decide_false, not_false_eq_true, not_true_eq_false, ↓reduceIte, Bool.false_eq_true, Bool.and_true, Bool.true_and, Bool.false_and, Bool.and_false, true_and, false_and, and_true, and_false] at hq ⊢; exact hq _ (cS_rf _) (frC_rf _)
  | true =>
    obtain ⟨k, hk, rfl⟩ := ikt (by omega) c
    have hk10 : k < 10 := by omega
    have w4 := wst_le (rowF (cv 1 h) k) (pinF (cv 1 h)) 4
    have ej := jab_ap (G.r hk10 (wst (rowF (cv 1 h) k) (pinF (cv 1 h)) 4) (by omega)) (G.p (wst (rowF (cv 1 h) k) (pinF (cv 1 h)) 4) (by omega))
    simp only [c, decide_true, decide_false, not_false_eq_true, not_true_eq_false, ↓reduceIte, Bool.false_eq_true, Bool.and_true, Bool.true_and, Bool.false_and, Bool.and_false, true_and, false_and, and_true, and_false, xN_n (show k < 100000 by omega)] at hq ⊢
    unfold ftA at hq
    rw [← ej, ← rowE hk10 _ (by omega), ← pinE _ (by omega)] at hq
    simp only [bX5_fit_17, bX5_fit_33, t0, r00, tgS s1, rfS0 s1, tgP s1, lnP s1, rfS3 s1, tgH s1, lnH s1, v10K hk10, nI_cl (show k < 100 by omega), rfH s1 hk10, tgR s1 hk10, lnR s1 hk10, k_worstTooth (show 1 ≤ 10 by omega) s1 (tgR s1 hk10) (lnR s1 hk10) (G.rc hk10) G.pc, wst_cg (rowE hk10) pinE, vp_nI (show wst (rowF (cv 1 h) k) (pinF (cv 1 h)) 4 < 5 by omega) (show 5 ≤ 100 by omega), nI_cl (show wst (rowF (cv 1 h) k) (pinF (cv 1 h)) 4 < 100 by omega), Option.toList_some, Option.toList_none, List.cons_append, List.nil_append, and_assoc, exists_and_left, exists_eq_left, true_and, and_true, Nat.reduceLeDiff, not_false_eq_true, not_true_eq_false, ↓reduceIte, eq_self, ← Int32.not_lt, ite_not, Classical.not_not]
    exact hq _ rfl frC_r
theorem c_anew (t : Int32) : KC eX5_anew [.int t] (f_anew t) := by
  refine KC_of rfl (fun h K M GS G Q hq => ?_)
  show WP 10 eX5_anew Q 0 [.ref 0, .int t] [] h
  have e0 : h 1 2 = nI K := G.s0
  have e1 : h 1 6 = nI M := G.s1
  have g0 : cv 1 h 0 = nI K := G.s0
  have g1 : cv 1 h 1 = nI M := G.s1
  have k10 := G.k10
  have m5 := G.m5
  have gk := gdkN G
  have gm := gdmN G
  unfold f_anew at hq
  simp only [cS_1, cS_if, cS_im, cS_ln, cS_l, cS_rn, cS_r, cS_q, g0, g1, bno, gk, gm] at hq
  simp only [bX5_anew_0, bX5_anew_17, bX5_anew_21, bX5_anew_24, bX5_anew_29, t0, r00, r04, t52, tgS s1, k_hasKey (show 1 ≤ 10 by omega) s1, k_hasMachine (show 1 ≤ 10 by omega) s1, k_refuse (show 1 ≤ 10 by omega) rc1, k_refuse (show 1 ≤ 10 by omega) rc2, k_refuse (show 1 ≤ 10 by omega) rc3, k_refuse (show 1 ≤ 10 by omega) rc4, k_refuse (show 1 ≤ 10 by omega) rc6, k_isTooth (show 1 ≤ 10 by omega), k_isZeroOrOne (show 1 ≤ 10 by omega), k_outside (show 1 ≤ 10 by omega), bz0, ite_bz, e0, e1, Option.toList_some, Option.toList_none, List.cons_append, List.nil_append, and_assoc, exists_and_left, exists_eq_left, true_and, and_true, Nat.reduceLeDiff, not_false_eq_true, not_true_eq_false, ↓reduceIte, eq_self, ← Int32.not_lt, ite_not, Classical.not_not]
  by_cases t1 : t = -1
  · obtain ⟨g, hc⟩ := e_openAnew (show 3 ≤ 10 by omega) s1 G
    simp only [t1, decide_true, decide_false, not_false_eq_true, not_true_eq_false, ↓reduceIte, Bool.false_eq_true, Bool.and_true, Bool.true_and, Bool.false_and, Bool.and_false, true_and, false_and, and_true, and_false] at hq ⊢
    simp only [bX5_anew_5, bX5_anew_16, t0, r00, r04, t52, Cal_iff hc, Option.toList_some, Option.toList_none, List.cons_append, List.nil_append, and_assoc, exists_and_left, exists_eq_left, true_and, and_true, Nat.reduceLeDiff, not_false_eq_true, not_true_eq_false, ↓reduceIte, eq_self, ← Int32.not_lt, ite_not, Classical.not_not]
    exact hq _ cS_53 (frC_p frC_r (by omega))
  · simp only [t1, decide_true, decide_false, not_false_eq_true, not_true_eq_false, ↓reduceIte, Bool.false_eq_true, Bool.and_true, Bool.true_and, Bool.false_and, Bool.and_false, true_and, false_and, and_true, and_false] at hq ⊢
    cases c : ik t 5 with
    | false => simp only [c, decide_true, decide_false, not_false_eq_true, not_true_eq_false, ↓reduceIte, Bool.false_eq_true, Bool.and_true, Bool.true_and, Bool.false_and, Bool.and_false, true_and, false_and, and_true, and_false] at hq ⊢; exact hq _ (cS_rf _) (frC_rf _)
    | true =>
      obtain ⟨u, hu, rfl⟩ := ik5t c
      simp only [c, decide_true, decide_false, not_false_eq_true, not_true_eq_false, ↓reduceIte, Bool.false_eq_true, Bool.and_true, Bool.true_and, Bool.false_and, Bool.and_false, true_and, false_and, and_true, and_false, xN_n (show u < 100000 by omega)] at hq ⊢
      simp only [bX5_anew_30, bX5_anew_42, t0, r00, r04, t52, k_pinAnew (show 2 ≤ 10 by omega) s1 G hu, Option.toList_some, Option.toList_none, List.cons_append, List.nil_append, and_assoc, exists_and_left, exists_eq_left, true_and, and_true, Nat.reduceLeDiff, not_false_eq_true, not_true_eq_false, ↓reduceIte, eq_self, ← Int32.not_lt, ite_not, Classical.not_not]
      exact hq _ rfl frC_r
