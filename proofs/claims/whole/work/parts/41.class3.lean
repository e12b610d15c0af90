theorem k_isFull {d : Nat} (hd : 1 ≤ d) (h : mH) (r : Option Value) (h' : mH) : Cal d eX4_isFull [.ref 55] h r h' ↔ r = some (.int (bz (decide (¬ h 55 1 < 96)))) ∧ h' = h := by
  refine Cal_iff (Cal_le (d := 1) (Cal_of rfl (fun Q hq => ?_)) hd) r h'
  show WP 0 eX4_isFull Q 0 [.ref 55] [] h
  simp only [bX4_isFull_0, bX4_isFull_9, bX4_isFull_13, bX4_isFull_14, t55, nb0, nb1, Option.toList_some, Option.toList_none, List.cons_append, List.nil_append, and_assoc, exists_and_left, exists_eq_left, true_and, and_true, Nat.reduceLeDiff, not_false_eq_true, not_true_eq_false, ↓reduceIte, eq_self, ← Int32.not_lt, ite_not, Classical.not_not]
  by_cases c : h 55 1 < 96 <;> simp only [c, decide_true, decide_false, not_false_eq_true, not_true_eq_false, ↓reduceIte, Bool.false_eq_true, Bool.and_true, Bool.true_and, Bool.false_and, Bool.and_false, true_and, false_and, and_true, and_false, bzt, bzf] at hq ⊢ <;> exact hq
theorem k_take {d : Nat} (hd : 1 ≤ d) {n : Nat} {h : mH} (e1 : h 55 1 = nI n) (hn : n < 96) (c : Int32) (r : Option Value) (h' : mH) : Cal d eX4_take [.ref 55, .int c] h r h' ↔ r = some (.int (nI (n + 1))) ∧ h' = mPut (mPut h 56 (upd (h 56) n c)) 55 (upd (h 55) 1 (nI (n + 1))) := by
  refine Cal_iff (Cal_le (d := 1) (Cal_of rfl (fun Q hq => ?_)) hd) r h'
  show WP 0 eX4_take Q 0 [.ref 55, .int c] [] h
  have p1 : ∀ x, mPut h 56 x 55 = h 55 := fun x => mPut_ne h x (by omega)
  have u1 : ∀ (f : Nat → Int32) v, upd f 1 v 1 = v := fun f v => if_pos rfl
  simp only [bX4_take_0, bX4_take_9, bX4_take_19, bX4_take_29, t55, e1, show (96 : Int32) = nI 96 from rfl, nlt (show n ≤ 100000 by omega) (show 96 ≤ 100000 by omega), hn, r550, t56, l56, vp_nI hn (show 96 ≤ 100 by omega), nI_cl (show n < 100 by omega), p1, nI_1, mPut_self, u1, Option.toList_some, Option.toList_none, List.cons_append, List.nil_append, and_assoc, exists_and_left, exists_eq_left, true_and, and_true, Nat.reduceLeDiff, not_false_eq_true, not_true_eq_false, ↓reduceIte, eq_self, ← Int32.not_lt, ite_not, Classical.not_not]
  exact hq
theorem c_letter (c : Int32) : KC eX5_letter [.int c] (f_letter c) := by
  refine KC_of rfl (fun h K M GS G Q hq => ?_)
  show WP 10 eX5_letter Q 0 [.ref 0, .int c] [] h
  have e0 : h 1 2 = nI K := G.s0
  have e1 : h 1 6 = nI M := G.s1
  have g0 : cv 1 h 0 = nI K := G.s0
  have g1 : cv 1 h 1 = nI M := G.s1
  have k10 := G.k10
  have m5 := G.m5
  have gk := gdkN G
  have gm := gdmN G
  unfold f_letter at hq
  simp only [cS_1, cS_if, cS_im, cS_ln, cS_l, cS_rn, cS_r, cS_q, g0, g1, bno, gk, gm] at hq
  obtain ⟨n, lc, en, L⟩ := GS.2.2.1
  have n96 := L.1
  have e55 : h 55 1 = nI n := en
  simp only [bX5_letter_0, bX5_letter_4, bX5_letter_10, bX5_letter_11, bX5_letter_18, bX5_letter_25, bX5_letter_28, bX5_letter_34, r05, t55, k_isFull (show 1 ≤ 10 by omega), e55, show (96 : Int32) = nI 96 from rfl, nlt (show n ≤ 100000 by omega) (show 96 ≤ 100000 by omega), t0, r00, r04, t52, tgS s1, k_hasKey (show 1 ≤ 10 by omega) s1, k_hasMachine (show 1 ≤ 10 by omega) s1, k_refuse (show 1 ≤ 10 by omega) rc1, k_refuse (show 1 ≤ 10 by omega) rc2, k_refuse (show 1 ≤ 10 by omega) rc3, k_refuse (show 1 ≤ 10 by omega) rc4, k_refuse (show 1 ≤ 10 by omega) rc6, k_isTooth (show 1 ≤ 10 by omega), k_isZeroOrOne (show 1 ≤ 10 by omega), k_outside (show 1 ≤ 10 by omega), bz0, ite_bz, e0, e1, Option.toList_some, Option.toList_none, List.cons_append, List.nil_append, and_assoc, exists_and_left, exists_eq_left, true_and, and_true, Nat.reduceLeDiff, not_false_eq_true, not_true_eq_false, ↓reduceIte, eq_self, ← Int32.not_lt, ite_not, Classical.not_not] at hq ⊢
  by_cases c0 : c < 0
  · simp only [c0, decide_true, decide_false, not_false_eq_true, not_true_eq_false, ↓reduceIte, Bool.false_eq_true, Bool.and_true, Bool.true_and, Bool.false_and, Bool.and_false, true_and, false_and, and_true, and_false] at hq ⊢; exact hq _ (cS_rf _) (frC_rf _)
  by_cases c1 : 255 < c
  · simp only [c0, c1, decide_true, decide_false, not_false_eq_true, not_true_eq_false, ↓reduceIte, Bool.false_eq_true, Bool.and_true, Bool.true_and, Bool.false_and, Bool.and_false, true_and, false_and, and_true, and_false, true_or] at hq ⊢; exact hq _ (cS_rf _) (frC_rf _)
  by_cases c2 : n < 96
  · simp only [c0, c1, c2, decide_true, decide_false, not_false_eq_true, not_true_eq_false, ↓reduceIte, Bool.false_eq_true, Bool.and_true, Bool.true_and, Bool.false_and, Bool.and_false, true_and, false_and, and_true, and_false, or_self, xN_n (show n < 100000 by omega)] at hq ⊢
    simp only [bX5_letter_35, bX5_letter_43, t0, r05, t55, k_take (show 1 ≤ 10 by omega) e55 c2, nI_1, Option.toList_some, Option.toList_none, List.cons_append, List.nil_append, and_assoc, exists_and_left, exists_eq_left, true_and, and_true, Nat.reduceLeDiff, not_false_eq_true, not_true_eq_false, ↓reduceIte, eq_self, ← Int32.not_lt, ite_not, Classical.not_not] at hq ⊢
    refine hq _ ?_ (frC_p (frC_p frC_r (by omega)) (by omega))
    unfold cS
    rw [cv_out (by omega), cv_out (by omega), cv_out (by omega), cv_out (by omega)]
    rfl
  · simp only [c0, c1, c2, decide_true, decide_false, not_false_eq_true, not_true_eq_false, ↓reduceIte, Bool.false_eq_true, Bool.and_true, Bool.true_and, Bool.false_and, Bool.and_false, true_and, false_and, and_true, and_false, or_true] at hq ⊢; exact hq _ (cS_rf _) (frC_rf _)
theorem set_in {v : Int32} {K : Nat} (hK : K ≤ 10) (h : oub v 1 (nI (2 ^ K - 1)) = 0) : ∃ n, n < 1024 ∧ n < 2 ^ K ∧ v = nI n := by
  have hp : 2 ^ K ≤ 1024 := Nat.pow_le_pow_right (n := 2) (j := 10) (by omega) hK
  have hp0 : 0 < 2 ^ K := Nat.two_pow_pos K
  obtain ⟨n, h1, h2, e⟩ := oub_in (a := 1) (b := 2 ^ K - 1) (by omega) (by omega) h
  exact ⟨n, by omega, by omega, e⟩
theorem c_first (n t : Int32) : KC eX5_first [.int n, .int t] (f_first n t) := by
  refine KC_of rfl (fun h K M GS G Q hq => ?_)
  show WP 10 eX5_first Q 0 [.ref 0, .int n, .int t, mU] [] h
  have e0 : h 1 2 = nI K := G.s0
  have e1 : h 1 6 = nI M := G.s1
  have g0 : cv 1 h 0 = nI K := G.s0
  have g1 : cv 1 h 1 = nI M := G.s1
  have k10 := G.k10
  have m5 := G.m5
  have gk := gdkN G
  have gm := gdmN G
  unfold f_first at hq
  simp only [cS_1, cS_if, cS_im, cS_ln, cS_l, cS_rn, cS_r, cS_q, g0, g1, bno, gk, gm] at hq
  simp only [bX5_first_0, bX5_first_9, bX5_first_12, k_allKeysBits (show 1 ≤ 10 by omega) s1 G, t0, r00, r04, t52, tgS s1, k_hasKey (show 1 ≤ 10 by omega) s1, k_hasMachine (show 1 ≤ 10 by omega) s1, k_refuse (show 1 ≤ 10 by omega) rc1, k_refuse (show 1 ≤ 10 by omega) rc2, k_refuse (show 1 ≤ 10 by omega) rc3, k_refuse (show 1 ≤ 10 by omega) rc4, k_refuse (show 1 ≤ 10 by omega) rc6, k_isTooth (show 1 ≤ 10 by omega), k_isZeroOrOne (show 1 ≤ 10 by omega), k_outside (show 1 ≤ 10 by omega), bz0, ite_bz, e0, e1, Option.toList_some, Option.toList_none, List.cons_append, List.nil_append, and_assoc, exists_and_left, exists_eq_left, true_and, and_true, Nat.reduceLeDiff, not_false_eq_true, not_true_eq_false, ↓reduceIte, eq_self, ← Int32.not_lt, ite_not, Classical.not_not]
  by_cases o : oub n 1 (nI (2 ^ K - 1)) = 0
  · obtain ⟨m, hm, _, rfl⟩ := set_in k10 o
    simp only [o, decide_true, decide_false, not_false_eq_true, not_true_eq_false, ↓reduceIte, Bool.false_eq_true, Bool.and_true, Bool.true_and, Bool.false_and, Bool.and_false, true_and, false_and, and_true, and_false, xN_n (show m < 100000 by omega)] at hq ⊢
    simp only [bX5_first_23, bX5_first_27, bX5_first_30, bX5_first_35, t0, r00, r04, t52, tgS s1, k_hasKey (show 1 ≤ 10 by omega) s1, k_hasMachine (show 1 ≤ 10 by omega) s1, k_refuse (show 1 ≤ 10 by omega) rc1, k_refuse (show 1 ≤ 10 by omega) rc2, k_refuse (show 1 ≤ 10 by omega) rc3, k_refuse (show 1 ≤ 10 by omega) rc4, k_refuse (show 1 ≤ 10 by omega) rc6, k_isTooth (show 1 ≤ 10 by omega), k_isZeroOrOne (show 1 ≤ 10 by omega), k_outside (show 1 ≤ 10 by omega), bz0, ite_bz, e0, e1, Option.toList_some, Option.toList_none, List.cons_append, List.nil_append, and_assoc, exists_and_left, exists_eq_left, true_and, and_true, Nat.reduceLeDiff, not_false_eq_true, not_true_eq_false, ↓reduceIte, eq_self, ← Int32.not_lt, ite_not, Classical.not_not]
    cases c : ik t 5 with
    | false => simp only [c, decide_true, decide_false, not_false_eq_true, not_true_eq_false, ↓reduceIte, Bool.false_eq_true, Bool.and_true, Bool.true_and, Bool.false_and, Bool.and_false, true_and, false_and, and_true, and_false] at hq ⊢; exact hq _ (cS_rf _) (frC_rf _)
    | true =>
      obtain ⟨u, hu, rfl⟩ := ik5t c
      simp only [c, decide_true, decide_false, not_false_eq_true, not_true_eq_false, ↓reduceIte, Bool.false_eq_true, Bool.and_true, Bool.true_and, Bool.false_and, Bool.and_false, true_and, false_and, and_true, and_false, xN_n (show u < 100000 by omega)] at hq ⊢
      simp only [bX5_first_36, bX5_first_49, t0, r00, r04, t52, k_codeOfSet (show 3 ≤ 10 by omega) s1 G hm hu, Option.toList_some, Option.toList_none, List.cons_append, List.nil_append, and_assoc, exists_and_left, exists_eq_left, true_and, and_true, Nat.reduceLeDiff, not_false_eq_true, not_true_eq_false, ↓reduceIte, eq_self, ← Int32.not_lt, ite_not, Classical.not_not]
      exact hq _ rfl frC_r
  · simp only [o, decide_true, decide_false, not_false_eq_true, not_true_eq_false, ↓reduceIte, Bool.false_eq_true, Bool.and_true, Bool.true_and, Bool.false_and, Bool.and_false, true_and, false_and, and_true, and_false] at hq ⊢
    simp only [bX5_first_17, bX5_first_22, t0, k_refuse (show 1 ≤ 10 by omega) (oub_r o), Option.toList_some, Option.toList_none, List.cons_append, List.nil_append, and_assoc, exists_and_left, exists_eq_left, true_and, and_true, Nat.reduceLeDiff, not_false_eq_true, not_true_eq_false, ↓reduceIte, eq_self, ← Int32.not_lt, ite_not, Classical.not_not]
    exact hq _ (cS_rf _) (frC_rf _)
theorem c_unlike (n x : Int32) : KC eX5_unlike [.int n, .int x] (f_unlike n x) := by
  refine KC_of rfl (fun h K M GS G Q hq => ?_)
  show WP 10 eX5_unlike Q 0 [.ref 0, .int n, .int x, mU] [] h
  have e0 : h 1 2 = nI K := G.s0
  have e1 : h 1 6 = nI M := G.s1
  have g0 : cv 1 h 0 = nI K := G.s0
  have g1 : cv 1 h 1 = nI M := G.s1
  have k10 := G.k10
  have m5 := G.m5
  have gk := gdkN G
  have gm := gdmN G
  unfold f_unlike at hq
  simp only [cS_1, cS_if, cS_im, cS_ln, cS_l, cS_rn, cS_r, cS_q, g0, g1, bno, gk, gm] at hq
  simp only [bX5_unlike_0, bX5_unlike_9, bX5_unlike_12, k_allKeysBits (show 1 ≤ 10 by omega) s1 G, t0, r00, r04, t52, tgS s1, k_hasKey (show 1 ≤ 10 by omega) s1, k_hasMachine (show 1 ≤ 10 by omega) s1, k_refuse (show 1 ≤ 10 by omega) rc1, k_refuse (show 1 ≤ 10 by omega) rc2, k_refuse (show 1 ≤ 10 by omega) rc3, k_refuse (show 1 ≤ 10 by omega) rc4, k_refuse (show 1 ≤ 10 by omega) rc6, k_isTooth (show 1 ≤ 10 by omega), k_isZeroOrOne (show 1 ≤ 10 by omega), k_outside (show 1 ≤ 10 by omega), bz0, ite_bz, e0, e1, Option.toList_some, Option.toList_none, List.cons_append, List.nil_append, and_assoc, exists_and_left, exists_eq_left, true_and, and_true, Nat.reduceLeDiff, not_false_eq_true, not_true_eq_false, ↓reduceIte, eq_self, ← Int32.not_lt, ite_not, Classical.not_not]
  by_cases o : oub n 1 (nI (2 ^ K - 1)) = 0
  · obtain ⟨m, hm, _, rfl⟩ := set_in k10 o
    simp only [o, decide_true, decide_false, not_false_eq_true, not_true_eq_false, ↓reduceIte, Bool.false_eq_true, Bool.and_true, Bool.true_and, Bool.false_and, Bool.and_false, true_and, false_and, and_true, and_false, xN_n (show m < 100000 by omega)] at hq ⊢
    simp only [bX5_unlike_23, bX5_unlike_31, bX5_unlike_34, bX5_unlike_39, t0, r00, r04, t52, tgS s1, k_hasKey (show 1 ≤ 10 by omega) s1, k_hasMachine (show 1 ≤ 10 by omega) s1, k_refuse (show 1 ≤ 10 by omega) rc1, k_refuse (show 1 ≤ 10 by omega) rc2, k_refuse (show 1 ≤ 10 by omega) rc3, k_refuse (show 1 ≤ 10 by omega) rc4, k_refuse (show 1 ≤ 10 by omega) rc6, k_isTooth (show 1 ≤ 10 by omega), k_isZeroOrOne (show 1 ≤ 10 by omega), k_outside (show 1 ≤ 10 by omega), bz0, ite_bz, e0, e1, Option.toList_some, Option.toList_none, List.cons_append, List.nil_append, and_assoc, exists_and_left, exists_eq_left, true_and, and_true, Nat.reduceLeDiff, not_false_eq_true, not_true_eq_false, ↓reduceIte, eq_self, ← Int32.not_lt, ite_not, Classical.not_not]
    cases c : ik x (nI K) with
    | false => simp only [c, decide_true, decide_false, not_false_eq_true, not_true_eq_false, ↓reduceIte, Bool.false_eq_true, Bool.and_true, Bool.true_and, Bool.false_and, Bool.and_false, true_and, false_and, and_true, and_false] at hq ⊢; exact hq _ (cS_rf _) (frC_rf _)
    | true =>
      obtain ⟨k, hk, rfl⟩ := ikt (by omega) c
      simp only [c, decide_true, decide_false, not_false_eq_true, not_true_eq_false, ↓reduceIte, Bool.false_eq_true, Bool.and_true, Bool.true_and, Bool.false_and, Bool.and_false, true_and, false_and, and_true, and_false, xN_n (show k < 100000 by omega)] at hq ⊢
      simp only [bX5_unlike_40, bX5_unlike_53, t0, r00, r04, t52, k_unlikeTeeth (show 4 ≤ 10 by omega) s1 G hm (show k < 10 by omega), Option.toList_some, Option.toList_none, List.cons_append, List.nil_append, and_assoc, exists_and_left, exists_eq_left, true_and, and_true, Nat.reduceLeDiff, not_false_eq_true, not_true_eq_false, ↓reduceIte, eq_self, ← Int32.not_lt, ite_not, Classical.not_not]
      exact hq _ rfl frC_r
  · simp only [o, decide_true, decide_false, not_false_eq_true, not_true_eq_false, ↓reduceIte, Bool.false_eq_true, Bool.and_true, Bool.true_and, Bool.false_and, Bool.and_false, true_and, false_and, and_true, and_false] at hq ⊢
    simp only [bX5_unlike_17, bX5_unlike_22, t0, k_refuse (show 1 ≤ 10 by omega) (oub_r o), Option.toList_some, Option.toList_none, List.cons_append, List.nil_append, and_assoc, exists_and_left, exists_eq_left, true_and, and_true, Nat.reduceLeDiff, not_false_eq_true, not_true_eq_false, ↓reduceIte, eq_self, ← Int32.not_lt, ite_not, Classical.not_not]
    exact hq _ (cS_rf _) (frC_rf _)
theorem c_mend (x : Int32) : KC eX5_mend [.int x] (f_mend x) := by
  refine KC_of rfl (fun h K M GS G Q hq => ?_)
  show WP 10 eX5_mend Q 0 [.ref 0, .int x] [] h
  have e0 : h 1 2 = nI K := G.s0
  have e1 : h 1 6 = nI M := G.s1
  have g0 : cv 1 h 0 = nI K := G.s0
  have g1 : cv 1 h 1 = nI M := G.s1
  have k10 := G.k10
  have m5 := G.m5
  have gk := gdkN G
  have gm := gdmN G
  unfold f_mend at hq
  simp only [cS_1, cS_if, cS_im, cS_ln, cS_l, cS_rn, cS_r, cS_q, g0, g1, bno, gk, gm] at hq
  simp only [bX5_mend_0, bX5_mend_8, bX5_mend_11, bX5_mend_18, t0, r00, r04, t52, tgS s1, k_hasKey (show 1 ≤ 10 by omega) s1, k_hasMachine (show 1 ≤ 10 by omega) s1, k_refuse (show 1 ≤ 10 by omega) rc1, k_refuse (show 1 ≤ 10 by omega) rc2, k_refuse (show 1 ≤ 10 by omega) rc3, k_refuse (show 1 ≤ 10 by omega) rc4, k_refuse (show 1 ≤ 10 by omega) rc6, k_isTooth (show 1 ≤ 10 by omega), k_isZeroOrOne (show 1 ≤ 10 by omega), k_outside (show 1 ≤ 10 by omega), bz0, ite_bz, e0, e1, Option.toList_some, Option.toList_none, List.cons_append, List.nil_append, and_assoc, exists_and_left, exists_eq_left, true_and, and_true, Nat.reduceLeDiff, not_false_eq_true, not_true_eq_false, ↓reduceIte, eq_self, ← Int32.not_lt, ite_not, Classical.not_not]
  cases c : ik x (nI K) with
  | false => simp only [c, decide_true, decide_false, not_false_eq_true, not_true_eq_false, ↓reduceIte, Bool.false_eq_true, Bool.and_true, Bool.true_and, Bool.false_and, Bool.and_false, true_and, false_and, and_true, and_false] at hq ⊢; exact hq _ (cS_rf _) (frC_rf _)
  | true =>
    obtain ⟨k, hk, rfl⟩ := ikt (by omega) c
    simp only [c, decide_true, decide_false, not_false_eq_true, not_true_eq_false, ↓reduceIte, Bool.false_eq_true, Bool.and_true, Bool.true_and, Bool.false_and, Bool.and_false, true_and, false_and, and_true, and_false, xN_n (show k < 100000 by omega)] at hq ⊢
    obtain ⟨g, hc⟩ := e_lessByMending (show 3 ≤ 10 by omega) s1 G (show k < 10 by omega)
    simp only [bX5_mend_20, bX5_mend_32, t0, r00, r04, t52, Cal_iff hc, Option.toList_some, Option.toList_none, List.cons_append, List.nil_append, and_assoc, exists_and_left, exists_eq_left, true_and, and_true, Nat.reduceLeDiff, not_false_eq_true, not_true_eq_false, ↓reduceIte, eq_self, ← Int32.not_lt, ite_not, Classical.not_not]
    exact hq _ cS_53 (frC_p frC_r (by omega))
theorem c_line (x : Int32) : KC eX5_line [.int x] (f_line x) := by
  refine KC_of rfl (fun h K M GS G Q hq => ?_)
  show WP 10 eX5_line Q 0 [.ref 0, .int x] [] h
  have e0 : h 1 2 = nI K := G.s0
  have e1 : h 1 6 = nI M := G.s1
  have g0 : cv 1 h 0 = nI K := G.s0
  have g1 : cv 1 h 1 = nI M := G.s1
  have k10 := G.k10
  have m5 := G.m5
  have gk := gdkN G
  have gm := gdmN G
  unfold f_line at hq
  simp only [cS_1, cS_if, cS_im, cS_ln, cS_l, cS_rn, cS_r, cS_q, g0, g1, bno, gk, gm] at hq
  simp only [bX5_line_0, bX5_line_8, bX5_line_11, bX5_line_16, t0, r00, r04, t52, tgS s1, k_hasKey (show 1 ≤ 10 by omega) s1, k_hasMachine (show 1 ≤ 10 by omega) s1, k_refuse (show 1 ≤ 10 by omega) rc1, k_refuse (show 1 ≤ 10 by omega) rc2, k_refuse (show 1 ≤ 10 by omega) rc3, k_refuse (show 1 ≤ 10 by omega) rc4, k_refuse (show 1 ≤ 10 by omega) rc6, k_isTooth (show 1 ≤ 10 by omega), k_isZeroOrOne (show 1 ≤ 10 by omega), k_outside (show 1 ≤ 10 by omega), bz0, ite_bz, e0, e1, Option.toList_some, Option.toList_none, List.cons_append, List.nil_append, and_assoc, exists_and_left, exists_eq_left, true_and, and_true, Nat.reduceLeDiff, not_false_eq_true, not_true_eq_false, ↓reduceIte, eq_self, ← Int32.not_lt, ite_not, Classical.not_not]
  cases c : ik x (nI K) with
  | false => simp only [c, decide_true, decide_false, not_false_eq_true, not_true_eq_false, ↓reduceIte, Bool.false_eq_true, Bool.and_true, Bool.true_and, Bool.false_and, Bool.and_false, true_and, false_and, and_true, and_false] at hq ⊢; exact hq _ (cS_rf _) (frC_rf _)
  | true =>
    obtain ⟨k, hk, rfl⟩ := ikt (by omega) c
    simp only [c, decide_true, decide_false, not_false_eq_true, not_true_eq_false, ↓reduceIte, Bool.false_eq_true, Bool.and_true, Bool.true_and, Bool.false_and, Bool.and_false, true_and, false_and, and_true, and_false, xN_n (show k < 100000 by omega)] at hq ⊢
    simp only [bX5_line_17, bX5_line_25, t0, r00, k_openHeirsOf (show 5 ≤ 10 by omega) s1 G hk, Option.toList_some, Option.toList_none, List.cons_append, List.nil_append, and_assoc, exists_and_left, exists_eq_left, true_and, and_true, Nat.reduceLeDiff, not_false_eq_true, not_true_eq_false, ↓reduceIte, eq_self, ← Int32.not_lt, ite_not, Classical.not_not]
    exact hq _ rfl frC_r
theorem c_bestLine : KC eX5_bestLine [] f_bestLine := by
  refine KC_of rfl (fun h K M GS G Q hq => ?_)
  show WP 10 eX5_bestLine Q 0 [.ref 0] [] h
  have e0 : h 1 2 = nI K := G.s0
  have e1 : h 1 6 = nI M := G.s1
  have g0 : cv 1 h 0 = nI K := G.s0
  have g1 : cv 1 h 1 = nI M := G.s1
  have k10 := G.k10
  have m5 := G.m5
  have gk := gdkN G
  have gm := gdmN G
  unfold f_bestLine at hq
  simp only [cS_1, cS_if, cS_im, cS_ln, cS_l, cS_rn, cS_r, cS_q, g0, g1, bno, gk, gm] at hq
  simp only [bX5_bestLine_0, bX5_bestLine_7, k_bestRoot (show 5 ≤ 10 by omega) s1 G, t0, r00, r04, t52, tgS s1, k_hasKey (show 1 ≤ 10 by omega) s1, k_hasMachine (show 1 ≤ 10 by omega) s1, k_refuse (show 1 ≤ 10 by omega) rc1, k_refuse (show 1 ≤ 10 by omega) rc2, k_refuse (show 1 ≤ 10 by omega) rc3, k_refuse (show 1 ≤ 10 by omega) rc4, k_refuse (show 1 ≤ 10 by omega) rc6, k_isTooth (show 1 ≤ 10 by omega), k_isZeroOrOne (show 1 ≤ 10 by omega), k_outside (show 1 ≤ 10 by omega), bz0, ite_bz, e0, e1, Option.toList_some, Option.toList_none, List.cons_append, List.nil_append, and_assoc, exists_and_left, exists_eq_left, true_and, and_true, Nat.reduceLeDiff, not_false_eq_true, not_true_eq_false, ↓reduceIte, eq_self, ← Int32.not_lt, ite_not, Classical.not_not]
  exact hq _ rfl frC_r
theorem c_ask (x : Int32) : KC eX5_ask [.int x] (f_ask x) := by
  refine KC_of rfl (fun h K M GS G Q hq => ?_)
  show WP 10 eX5_ask Q 0 [.ref 0, .int x] [] h
  have e0 : h 1 2 = nI K := G.s0
  have e1 : h 1 6 = nI M := G.s1
  have g0 : cv 1 h 0 = nI K := G.s0
  have g1 : cv 1 h 1 = nI M := G.s1
  have k10 := G.k10
  have m5 := G.m5
  have gk := gdkN G
  have gm := gdmN G
  unfold f_ask at hq
  simp only [cS_1, cS_if, cS_im, cS_ln, cS_l, cS_rn, cS_r, cS_q, g0, g1, bno, gk, gm] at hq
  simp only [bX5_ask_0, bX5_ask_8, bX5_ask_11, bX5_ask_16, t0, r00, r04, t52, tgS s1, k_hasKey (show 1 ≤ 10 by omega) s1, k_hasMachine (show 1 ≤ 10 by omega) s1, k_refuse (show 1 ≤ 10 by omega) rc1, k_refuse (show 1 ≤ 10 by omega) rc2, k_refuse (show 1 ≤ 10 by omega) rc3, k_refuse (show 1 ≤ 10 by omega) rc4, k_refuse (show 1 ≤ 10 by omega) rc6, k_isTooth (show 1 ≤ 10 by omega), k_isZeroOrOne (show 1 ≤ 10 by omega), k_outside (show 1 ≤ 10 by omega), bz0, ite_bz, e0, e1, Option.toList_some, Option.toList_none, List.cons_append, List.nil_append, and_assoc, exists_and_left, exists_eq_left, true_and, and_true, Nat.reduceLeDiff, not_false_eq_true, not_true_eq_false, ↓reduceIte, eq_self, ← Int32.not_lt, ite_not, Classical.not_not]
  cases c : ik x (nI K) with
  | false => simp only [c, decide_true, decide_false, not_false_eq_true, not_true_eq_false, ↓reduceIte, Bool.false_eq_true, Bool.and_true, Bool.true_and, Bool.false_and, Bool.and_false, true_and, false_and, and_true, and_false] at hq ⊢; exact hq _ (cS_rf _) (frC_rf _)
  | true =>
    obtain ⟨k, hk, rfl⟩ := ikt (by omega) c
    simp only [c, decide_true, decide_false, not_false_eq_true, not_true_eq_false, ↓reduceIte, Bool.false_eq_true, Bool.and_true, Bool.true_and, Bool.false_and, Bool.and_false, true_and, false_and, and_true, and_false, xN_n (show k < 100000 by omega)] at hq ⊢
    simp only [bX5_ask_17, bX5_ask_25, t0, r00, k_whomToAsk (show 5 ≤ 10 by omega) s1 G hk, Option.toList_some, Option.toList_none, List.cons_append, List.nil_append, and_assoc, exists_and_left, exists_eq_left, true_and, and_true, Nat.reduceLeDiff, not_false_eq_true, not_true_eq_false, ↓reduceIte, eq_self, ← Int32.not_lt, ite_not, Classical.not_not]
    exact hq _ rfl frC_r
theorem c_spare : KC eX5_spare [] f_spare := by
  refine KC_of rfl (fun h K M GS G Q hq => ?_)
  show WP 10 eX5_spare Q 0 [.ref 0] [] h
  have e0 : h 1 2 = nI K := G.s0
  have e1 : h 1 6 = nI M := G.s1
  have g0 : cv 1 h 0 = nI K := G.s0
  have g1 : cv 1 h 1 = nI M := G.s1
  have k10 := G.k10
  have m5 := G.m5
  have gk := gdkN G
  have gm := gdmN G
  unfold f_spare at hq
  simp only [cS_1, cS_if, cS_im, cS_ln, cS_l, cS_rn, cS_r, cS_q, g0, g1, bno, gk, gm] at hq
  obtain ⟨g, hc⟩ := e_fewestEnough (show 3 ≤ 10 by omega) s1 G
  simp only [bX5_spare_0, bX5_spare_11, Cal_iff hc, t0, r00, r04, t52, tgS s1, k_hasKey (show 1 ≤ 10 by omega) s1, k_hasMachine (show 1 ≤ 10 by omega) s1, k_refuse (show 1 ≤ 10 by omega) rc1, k_refuse (show 1 ≤ 10 by omega) rc2, k_refuse (show 1 ≤ 10 by omega) rc3, k_refuse (show 1 ≤ 10 by omega) rc4, k_refuse (show 1 ≤ 10 by omega) rc6, k_isTooth (show 1 ≤ 10 by omega), k_isZeroOrOne (show 1 ≤ 10 by omega), k_outside (show 1 ≤ 10 by omega), bz0, ite_bz, e0, e1, Option.toList_some, Option.toList_none, List.cons_append, List.nil_append, and_assoc, exists_and_left, exists_eq_left, true_and, and_true, Nat.reduceLeDiff, not_false_eq_true, not_true_eq_false, ↓reduceIte, eq_self, ← Int32.not_lt, ite_not, Classical.not_not]
  exact hq _ cS_54 (frC_p frC_r (by omega))
theorem c_two (x t : Int32) : KC eX5_two [.int x, .int t] (f_two x t) := by
  refine KC_of rfl (fun h K M GS G Q hq => ?_)
  show WP 10 eX5_two Q 0 [.ref 0, .int x, .int t] [] h
  have e0 : h 1 2 = nI K := G.s0
  have e1 : h 1 6 = nI M := G.s1
  have g0 : cv 1 h 0 = nI K := G.s0
  have g1 : cv 1 h 1 = nI M := G.s1
  have k10 := G.k10
  have m5 := G.m5
  have gk := gdkN G
  have gm := gdmN G
  unfold f_two at hq
  simp only [cS_1, cS_if, cS_im, cS_ln, cS_l, cS_rn, cS_r, cS_q, g0, g1, bno, gk, gm] at hq
  simp only [bX5_two_0, bX5_two_8, bX5_two_11, bX5_two_15, bX5_two_18, bX5_two_23, t0, r00, r04, t52, tgS s1, k_hasKey (show 1 ≤ 10 by omega) s1, k_hasMachine (show 1 ≤ 10 by omega) s1, k_refuse (show 1 ≤ 10 by omega) rc1, k_refuse (show 1 ≤ 10 by omega) rc2, k_refuse (show 1 ≤ 10 by omega) rc3, k_refuse (show 1 ≤ 10 by omega) rc4, k_refuse (show 1 ≤ 10 by omega) rc6, k_isTooth (show 1 ≤ 10 by omega), k_isZeroOrOne (show 1 ≤ 10 by omega), k_outside (show 1 ≤ 10 by omega), bz0, ite_bz, e0, e1, Option.toList_some, Option.toList_none, List.cons_append, List.nil_append, and_assoc, exists_and_left, exists_eq_left, true_and, and_true, Nat.reduceLeDiff, not_false_eq_true, not_true_eq_false, ↓reduceIte, eq_self, ← Int32.not_lt, ite_not, Classical.not_not]
  cases c : ik x (nI K) with
  | false => simp only [c, decide_true, decide_false, not_false_eq_true, not_true_eq_false, ↓reduceIte, Bool.false_eq_true, Bool.and_true, Bool.true_and, Bool.false_and, Bool.and_false, true_and, false_and, and_true, and_false] at hq ⊢; exact hq _ (cS_rf _) (frC_rf _)
  | true =>
    obtain ⟨k, hk, rfl⟩ := ikt (by omega) c
    have hk10 : k < 10 := by omega
    simp only [c, decide_true, decide_false, not_false_eq_true, not_true_eq_false, ↓reduceIte, Bool.false_eq_true, Bool.and_true, Bool.true_and, Bool.false_and, Bool.and_false, true_and, false_and, and_true, and_false, xN_n (show k < 100000 by omega)] at hq ⊢
    cases c2 : ik t 5 with
    | false => simp only [c2, decide_true, decide_false, not_false_eq_true, not_true_eq_false, ↓reduceIte, Bool.false_eq_true, Bool.and_true, Bool.true_and, Bool.false_and, Bool.and_false, true_and, false_and, and_true, and_false] at hq ⊢; exact hq _ (cS_rf _) (frC_rf _)
    | true =>
      obtain ⟨u, hu, rfl⟩ := ik5t c2
      simp only [c2, decide_true, decide_false, not_false_eq_true, not_true_eq_false, ↓reduceIte, Bool.false_eq_true, Bool.and_true, Bool.true_and, Bool.false_and, Bool.and_false, true_and, false_and, and_true, and_false, xN_n (show u < 100000 by omega)] at hq ⊢
      simp only [bX5_two_24, bX5_two_47, t0, r00, r04, t52, tgS s1, rfS3 s1, tgH s1, lnH s1, v10K hk10, nI_cl (show k < 100 by omega), rfH s1 hk10, tgR s1 hk10, lnR s1 hk10, vp_nI hu (show 5 ≤ 100 by omega), nI_cl (show u < 100 by omega), k_steadyPair (show 6 ≤ 10 by omega) s1 G, ← cvR (s := 1) (h := h) hk10 hu, Option.toList_some, Option.toList_none, List.cons_append, List.nil_append, and_assoc, exists_and_left, exists_eq_left, true_and, and_true, Nat.reduceLeDiff, not_false_eq_true, not_true_eq_false, ↓reduceIte, eq_self, ← Int32.not_lt, ite_not, Classical.not_not]
      exact hq _ rfl frC_r
theorem c_which (x v w : Int32) : KC eX5_which [.int x, .int v, .int w] (f_which x v w) := by
  refine KC_of rfl (fun h K M GS G Q hq => ?_)
  show WP 10 eX5_which Q 0 [.ref 0, .int x, .int v, .int w, mU] [] h
  have e0 : h 1 2 = nI K := G.s0
  have e1 : h 1 6 = nI M := G.s1
  have g0 : cv 1 h 0 = nI K := G.s0
  have g1 : cv 1 h 1 = nI M := G.s1
  have k10 := G.k10
  have m5 := G.m5
  have gk := gdkN G
  have gm := gdmN G
  unfold f_which at hq
  simp only [cS_1, cS_if, cS_im, cS_ln, cS_l, cS_rn, cS_r, cS_q, g0, g1, bno, gk, gm] at hq
  simp only [bX5_which_0, bX5_which_8, bX5_which_11, bX5_which_16, bX5_which_17, bX5_which_24, t0, r00, r04, t52, tgS s1, k_hasKey (show 1 ≤ 10 by omega) s1, k_hasMachine (show 1 ≤ 10 by omega) s1, k_refuse (show 1 ≤ 10 by omega) rc1, k_refuse (show 1 ≤ 10 by omega) rc2, k_refuse (show 1 ≤ 10 by omega) rc3, k_refuse (show 1 ≤ 10 by omega) rc4, k_refuse (show 1 ≤ 10 by omega) rc6, k_isTooth (show 1 ≤ 10 by omega), k_isZeroOrOne (show 1 ≤ 10 by omega), k_outside (show 1 ≤ 10 by omega), bz0, ite_bz, e0, e1, Option.toList_some, Option.toList_none, List.cons_append, List.nil_append, and_assoc, exists_and_left, exists_eq_left, true_and, and_true, Nat.reduceLeDiff, not_false_eq_true, not_true_eq_false, ↓reduceIte, eq_self, ← Int32.not_lt, ite_not, Classical.not_not]
  cases c : ik x (nI K) with
  | false => simp only [c, decide_true, decide_false, not_false_eq_true, not_true_eq_false, ↓reduceIte, Bool.false_eq_true, Bool.and_true, Bool.true_and, Bool.false_and, Bool.and_false, true_and, false_and, and_true, and_false] at hq ⊢; exact hq _ (cS_rf _) (frC_rf _)
  | true =>
    obtain ⟨k, hk, rfl⟩ := ikt (by omega) c
    have hk10 : k < 10 := by omega
    simp only [c, decide_true, decide_false, not_false_eq_true, not_true_eq_false, ↓reduceIte, Bool.false_eq_true, Bool.and_true, Bool.true_and, Bool.false_and, Bool.and_false, true_and, false_and, and_true, and_false, xN_n (show k < 100000 by omega)] at hq ⊢
    by_cases o : oub v 0 9 = 0
    · simp only [o, decide_true, decide_false, not_false_eq_true, not_true_eq_false, ↓reduceIte, Bool.false_eq_true, Bool.and_true, Bool.true_and, Bool.false_and, Bool.and_false, true_and, false_and, and_true, and_false] at hq ⊢
      simp only [bX5_which_38, bX5_which_42, bX5_which_45, bX5_which_51, bX5_which_52, bX5_which_60, bX5_which_66, bX5_which_67, t0, r00, r04, t52, tgS s1, k_hasKey (show 1 ≤ 10 by omega) s1, k_hasMachine (show 1 ≤ 10 by omega) s1, k_refuse (show 1 ≤ 10 by omega) rc1, k_refuse (show 1 ≤ 10 by omega) rc2, k_refuse (show 1 ≤ 10 by omega) rc3, k_refuse (show 1 ≤ 10 by omega) rc4, k_refuse (show 1 ≤ 10 by omega) rc6, k_isTooth (show 1 ≤ 10 by omega), k_isZeroOrOne (show 1 ≤ 10 by omega), k_outside (show 1 ≤ 10 by omega), bz0, ite_bz, e0, e1, Option.toList_some, Option.toList_none, List.cons_append, List.nil_append, and_assoc, exists_and_left, exists_eq_left, true_and, and_true, Nat.reduceLeDiff, not_false_eq_true, not_true_eq_false, ↓reduceIte, eq_self, ← Int32.not_lt, ite_not, Classical.not_not]
      cases c3 : i01 w with
      | false => simp only [c3, decide_true, decide_false, not_false_eq_true, not_true_eq_false, ↓reduceIte, Bool.false_eq_true, Bool.and_true, Bool.true_and, Bool.false_and, Bool.and_false, true_and, false_and, and_true, and_false] at hq ⊢; exact hq _ (cS_rf _) (frC_rf _)
      | true =>
        by_cases r5 : h 0 7 = 5
        · simp only [c3, r5, decide_true, decide_false, not_false_eq_true, not_true_eq_false, ↓reduceIte, Bool.false_eq_true, Bool.and_true, Bool.true_and, Bool.false_and, Bool.and_false, true_and, false_and, and_true, and_false] at hq ⊢
          by_cases w0 : w = 0
          · obtain ⟨g, hc⟩ := e_machinesThatCut (show 5 ≤ 10 by omega) s1 G hk10
            simp only [w0, decide_true, decide_false, not_false_eq_true, not_true_eq_false, ↓reduceIte, Bool.false_eq_true, Bool.and_true, Bool.true_and, Bool.false_and, Bool.and_false, true_and, false_and, and_true, and_false] at hq ⊢
            simp only [bX5_which_71, bX5_which_87, bX5_which_107, t0, r00, r04, r06, t52, Cal_iff hc, Option.toList_some, Option.toList_none, List.cons_append, List.nil_append, and_assoc, exists_and_left, exists_eq_left, true_and, and_true, Nat.reduceLeDiff, not_false_eq_true, not_true_eq_false, ↓reduceIte, eq_self, ← Int32.not_lt, ite_not, Classical.not_not]
            exact hq _ cS_53 (frC_p frC_r (by omega))
          · obtain ⟨g, hc⟩ := e_kindsThatCut (show 5 ≤ 10 by omega) s1 (h := h) hk10 v
            simp only [w0, decide_true, decide_false, not_false_eq_true, not_true_eq_false, ↓reduceIte, Bool.false_eq_true, Bool.and_true, Bool.true_and, Bool.false_and, Bool.and_false, true_and, false_and, and_true, and_false] at hq ⊢
            simp only [bX5_which_90, bX5_which_107, t0, r00, r04, r06, t52, Cal_iff hc, Option.toList_some, Option.toList_none, List.cons_append, List.nil_append, and_assoc, exists_and_left, exists_eq_left, true_and, and_true, Nat.reduceLeDiff, not_false_eq_true, not_true_eq_false, ↓reduceIte, eq_self, ← Int32.not_lt, ite_not, Classical.not_not]
            exact hq _ cS_53 (frC_p frC_r (by omega))
        · simp only [c3, r5, decide_true, decide_false, not_false_eq_true, not_true_eq_false, ↓reduceIte, Bool.false_eq_true, Bool.and_true, Bool.true_and, Bool.false_and, Bool.and_false, true_and, false_and, and_true, and_false] at hq ⊢; exact hq _ (cS_rf _) (frC_rf _)
    · simp only [o, decide_true, decide_false, not_false_eq_true, not_true_eq_false, ↓reduceIte, Bool.false_eq_true, Bool.and_true, Bool.true_and, Bool.false_and, Bool.and_false, true_and, false_and, and_true, and_false] at hq ⊢
      simp only [bX5_which_31, bX5_which_37, t0, k_refuse (show 1 ≤ 10 by omega) (oub_r o), Option.toList_some, Option.toList_none, List.cons_append, List.nil_append, and_assoc, exists_and_left, exists_eq_left, true_and, and_true, Nat.reduceLeDiff, not_false_eq_true, not_true_eq_false, ↓reduceIte, eq_self, ← Int32.not_lt, ite_not, Classical.not_not]
      exact hq _ (cS_rf _) (frC_rf _)
theorem c_row (v : Int32) : KC eX5_row [.int v] (f_row v) := by
  refine KC_of rfl (fun h K M GS G Q hq => ?_)
  show WP 10 eX5_row Q 0 [.ref 0, .int v] [] h
  have e0 : h 1 2 = nI K := G.s0
  have e1 : h 1 6 = nI M := G.s1
  have g0 : cv 1 h 0 = nI K := G.s0
  have g1 : cv 1 h 1 = nI M := G.s1
  have k10 := G.k10
  have m5 := G.m5
  have gk := gdkN G
  have gm := gdmN G
  unfold f_row at hq
  simp only [cS_1, cS_if, cS_im, cS_ln, cS_l, cS_rn, cS_r, cS_q, g0, g1, bno, gk, gm] at hq
  obtain ⟨r, r12, er⟩ := GS.2.2.2
  have e7 : h 0 7 = nI r := er
  simp only [bX5_row_0, bX5_row_4, bX5_row_10, bX5_row_11, bX5_row_17, bX5_row_26, bX5_row_32, e7, show (12 : Int32) = nI 12 from rfl, nlt (show r ≤ 100000 by omega) (show 12 ≤ 100000 by omega), t0, r00, r04, t52, tgS s1, k_hasKey (show 1 ≤ 10 by omega) s1, k_hasMachine (show 1 ≤ 10 by omega) s1, k_refuse (show 1 ≤ 10 by omega) rc1, k_refuse (show 1 ≤ 10 by omega) rc2, k_refuse (show 1 ≤ 10 by omega) rc3, k_refuse (show 1 ≤ 10 by omega) rc4, k_refuse (show 1 ≤ 10 by omega) rc6, k_isTooth (show 1 ≤ 10 by omega), k_isZeroOrOne (show 1 ≤ 10 by omega), k_outside (show 1 ≤ 10 by omega), bz0, ite_bz, e0, e1, Option.toList_some, Option.toList_none, List.cons_append, List.nil_append, and_assoc, exists_and_left, exists_eq_left, true_and, and_true, Nat.reduceLeDiff, not_false_eq_true, not_true_eq_false, ↓reduceIte, eq_self, ← Int32.not_lt, ite_not, Classical.not_not] at hq ⊢
  by_cases c0 : v < 0
  · simp only [c0, decide_true, decide_false, not_false_eq_true, not_true_eq_false, ↓reduceIte, Bool.false_eq_true, Bool.and_true, Bool.true_and, Bool.false_and, Bool.and_false, true_and, false_and, and_true, and_false] at hq ⊢; exact hq _ (cS_rf _) (frC_rf _)
  by_cases c1 : 99 < v
  · simp only [c0, c1, decide_true, decide_false, not_false_eq_true, not_true_eq_false, ↓reduceIte, Bool.false_eq_true, Bool.and_true, Bool.true_and, Bool.false_and, Bool.and_false, true_and, false_and, and_true, and_false] at hq ⊢; exact hq _ (cS_rf _) (frC_rf _)
  by_cases c2 : r < 12
  · have p1 : ∀ x, mPut h 57 x 0 = h 0 := fun x => mPut_ne h x (by omega)
    have u1 : ∀ (f : Nat → Int32) v, upd f 7 v 7 = v := fun f v => if_pos rfl
    simp only [c0, c1, c2, decide_true, decide_false, not_false_eq_true, not_true_eq_false, ↓reduceIte, Bool.false_eq_true, Bool.and_true, Bool.true_and, Bool.false_and, Bool.and_false, true_and, false_and, and_true, and_false, xN_n (show r < 100000 by omega)] at hq ⊢
    simp only [bX5_row_33, bX5_row_43, bX5_row_53, t0, r06, t57, l57, e7, vp_nI c2 (show 12 ≤ 100 by omega), nI_cl (show r < 100 by omega), p1, mPut_self, u1, nI_1, Option.toList_some, Option.toList_none, List.cons_append, List.nil_append, and_assoc, exists_and_left, exists_eq_left, true_and, and_true, Nat.reduceLeDiff, not_false_eq_true, not_true_eq_false, ↓reduceIte, eq_self, ← Int32.not_lt, ite_not, Classical.not_not] at hq ⊢
    refine hq _ ?_ (frC_p (frC_p frC_r (by omega)) (by omega))
    unfold cS
    rw [cv_out (by omega), cv_out (by omega), cv_out (by omega), cv_out (by omega)]
    rfl
  · simp only [c0, c1, c2, decide_true, decide_false, not_false_eq_true, not_true_eq_false, ↓reduceIte, Bool.false_eq_true, Bool.and_true, Bool.true_and, Bool.false_and, Bool.and_false, true_and, false_and, and_true, and_false] at hq ⊢; exact hq _ (cS_rf _) (frC_rf _)
theorem cS_7 {h : mH} {x : Int32} : cS (mPut h 0 (upd (h 0) 7 x)) = ((cS h).1, (cS h).2.1, (cS h).2.2.1, (x, (cS h).2.2.2.1.2), (cS h).2.2.2.2) := by
  unfold cS
  rw [cv_out (by omega), cv_out (by omega)]
  rfl
theorem k_firstToldWrong {d : Nat} (hd : 1 ≤ d) {h : mH} {r k : Nat} (hr : r ≤ 12) (e7 : h 0 7 = nI r) (hk : k < 10) (r' : Option Value) (h' : mH) : Cal d eX5_firstToldWrong [.ref 0, .ref (1 + 3 + k)] h r' h' ↔ r' = some (.int (on (fst (jdP (cv 1 h) k (h 57)) 0 r))) ∧ h' = h := by
  refine Cal_iff (Cal_le (d := 1) (Cal_of rfl (fun Q hq => ?_)) hd) r' h'
  show WP 0 eX5_firstToldWrong Q 0 [.ref 0, .ref (1 + 3 + k), mU] [] h
  simp only [bX5_firstToldWrong_0]
  have key : ∀ (n i : Nat), i + n = r → Q (some (.int (on (fst (jdP (cv 1 h) k (h 57)) i n)))) h → WP 0 eX5_firstToldWrong Q 2 [.ref 0, .ref (1 + 3 + k), .int (nI i)] [] h := by
    intro n
    induction n with
    | zero =>
      intro i hi hq2
      have ir : i = r := by omega
      simp only [bX5_firstToldWrong_2, bX5_firstToldWrong_35, t0, e7, nlt (show i ≤ 100000 by omega) (show r ≤ 100000 by omega), show ¬ i < r by omega, Option.toList_some, Option.toList_none, List.cons_append, List.nil_append, and_assoc, exists_and_left, exists_eq_left, true_and, and_true, Nat.reduceLeDiff, not_false_eq_true, not_true_eq_false, ↓reduceIte, eq_self, ← Int32.not_lt, ite_not, Classical.not_not]
      exact hq2
    | succ n ih =>
      intro i hi hq
      rw [fst, show jdP (cv 1 h) k (h 57) i = (!decide (i < 5) || !decide (h 57 i = cv 1 h (9 + 7 * k + i))) from rfl] at hq
      rw [bX5_firstToldWrong_2]
      simp only [bX5_firstToldWrong_10, bX5_firstToldWrong_27, t0, e7, nlt (show i ≤ 100000 by omega) (show r ≤ 100000 by omega), show i < r by omega, show (5 : Int32) = nI 5 from rfl, nlt (show i ≤ 100000 by omega) (show 5 ≤ 100000 by omega), Option.toList_some, Option.toList_none, List.cons_append, List.nil_append, and_assoc, exists_and_left, exists_eq_left, true_and, and_true, Nat.reduceLeDiff, not_false_eq_true, not_true_eq_false, ↓reduceIte, eq_self, ← Int32.not_lt, ite_not, Classical.not_not]
      by_cases c : i < 5
      · simp only [c, decide_true, decide_false, not_false_eq_true, not_true_eq_false, ↓reduceIte, Bool.false_eq_true, Bool.and_true, Bool.true_and, Bool.false_and, Bool.and_false, true_and, false_and, and_true, and_false, cvR hk c, Bool.not_true, Bool.false_or] at hq ⊢
        simp only [bX5_firstToldWrong_15, bX5_firstToldWrong_27, bX5_firstToldWrong_29, t0, r06, t57, l57, tgR s1 hk, lnR s1 hk, vp_nI c (show 5 ≤ 100 by omega), vp_nI (show i < 12 by omega) (show 12 ≤ 100 by omega), nI_cl (show i < 100 by omega), nI_1, Option.toList_some, Option.toList_none, List.cons_append, List.nil_append, and_assoc, exists_and_left, exists_eq_left, true_and, and_true, Nat.reduceLeDiff, not_false_eq_true, not_true_eq_false, ↓reduceIte, eq_self, ← Int32.not_lt, ite_not, Classical.not_not]
        by_cases c2 : h 57 i = h (1 + 3 + k) i
        · simp only [c2, decide_true, decide_false, not_false_eq_true, not_true_eq_false, ↓reduceIte, Bool.false_eq_true, Bool.and_true, Bool.true_and, Bool.false_and, Bool.and_false, true_and, false_and, and_true, and_false, Bool.not_true] at hq ⊢; exact ih (i + 1) (by omega) hq
        · simp only [c2, decide_true, decide_false, not_false_eq_true, not_true_eq_false, ↓reduceIte, Bool.false_eq_true, Bool.and_true, Bool.true_and, Bool.false_and, Bool.and_false, true_and, false_and, and_true, and_false, Bool.not_false] at hq ⊢; exact hq
      · simp only [c, decide_true, decide_false, not_false_eq_true, not_true_eq_false, ↓reduceIte, Bool.false_eq_true, Bool.and_true, Bool.true_and, Bool.false_and, Bool.and_false, true_and, false_and, and_true, and_false, Bool.not_false, Bool.true_or] at hq ⊢; exact hq
  exact key r 0 (by omega) hq
theorem c_judge (x : Int32) : KC eX5_judge [.int x] (f_judge x) := by
  refine KC_of rfl (fun h K M GS G Q hq => ?_)
  show WP 10 eX5_judge Q 0 [.ref 0, .int x, mU] [] h
  have e0 : h 1 2 = nI K := G.s0
  have e1 : h 1 6 = nI M := G.s1
  have g0 : cv 1 h 0 = nI K := G.s0
  have g1 : cv 1 h 1 = nI M := G.s1
  have k10 := G.k10
  have m5 := G.m5
  have gk := gdkN G
  have gm := gdmN G
  unfold f_judge at hq
  simp only [cS_1, cS_if, cS_im, cS_ln, cS_l, cS_rn, cS_r, cS_q, g0, g1, bno, gk, gm] at hq
  obtain ⟨r, r12, er⟩ := GS.2.2.2
  have e7 : h 0 7 = nI r := er
  simp only [bX5_judge_0, bX5_judge_8, bX5_judge_11, bX5_judge_16, t0, r00, r04, t52, tgS s1, k_hasKey (show 1 ≤ 10 by omega) s1, k_hasMachine (show 1 ≤ 10 by omega) s1, k_refuse (show 1 ≤ 10 by omega) rc1, k_refuse (show 1 ≤ 10 by omega) rc2, k_refuse (show 1 ≤ 10 by omega) rc3, k_refuse (show 1 ≤ 10 by omega) rc4, k_refuse (show 1 ≤ 10 by omega) rc6, k_isTooth (show 1 ≤ 10 by omega), k_isZeroOrOne (show 1 ≤ 10 by omega), k_outside (show 1 ≤ 10 by omega), bz0, ite_bz, e0, e1, Option.toList_some, Option.toList_none, List.cons_append, List.nil_append, and_assoc, exists_and_left, exists_eq_left, true_and, and_true, Nat.reduceLeDiff, not_false_eq_true, not_true_eq_false, ↓reduceIte, eq_self, ← Int32.not_lt, ite_not, Classical.not_not]
  cases c : ik x (nI K) with
  | false => simp only [c, decide_true, decide_false, not_false_eq_true, not_true_eq_false, ↓reduceIte, Bool.false_eq_true, Bool.and_true, Bool.true_and, Bool.false_and, Bool.and_false, true_and, false_and, and_true, and_false] at hq ⊢; exact hq _ (cS_rf _) (frC_rf _)
  | true =>
    obtain ⟨k, hk, rfl⟩ := ikt (by omega) c
    have hk10 : k < 10 := by omega
    simp only [c, decide_true, decide_false, not_false_eq_true, not_true_eq_false, ↓reduceIte, Bool.false_eq_true, Bool.and_true, Bool.true_and, Bool.false_and, Bool.and_false, true_and, false_and, and_true, and_false, xN_n (show k < 100000 by omega), e7, xN_n (show r < 100000 by omega)] at hq ⊢
    simp only [bX5_judge_17, bX5_judge_30, bX5_judge_36, t0, r00, tgS s1, rfS3 s1, tgH s1, lnH s1, v10K hk10, nI_cl (show k < 100 by omega), rfH s1 hk10, k_firstToldWrong (show 1 ≤ 10 by omega) r12 e7 hk10, Option.toList_some, Option.toList_none, List.cons_append, List.nil_append, and_assoc, exists_and_left, exists_eq_left, true_and, and_true, Nat.reduceLeDiff, not_false_eq_true, not_true_eq_false, ↓reduceIte, eq_self, ← Int32.not_lt, ite_not, Classical.not_not]
    exact hq _ cS_7 (frC_p frC_r (by omega))
theorem c_clear : KC eX5_clear [] f_clear := by
  refine KC_of rfl (fun h K M GS G Q hq => ?_)
  show WP 10 eX5_clear Q 0 [.ref 0, mU] [] h
  have e0 : h 1 2 = nI K := G.s0
  have e1 : h 1 6 = nI M := G.s1
  have g0 : cv 1 h 0 = nI K := G.s0
  have g1 : cv 1 h 1 = nI M := G.s1
  have k10 := G.k10
  have m5 := G.m5
  have gk := gdkN G
  have gm := gdmN G
  unfold f_clear at hq
  simp only [cS_1, cS_if, cS_im, cS_ln, cS_l, cS_rn, cS_r, cS_q, g0, g1, bno, gk, gm] at hq
  simp only [bX5_clear_0, bX5_clear_10, t0, r00, r04, t52, tgS s1, k_hasKey (show 1 ≤ 10 by omega) s1, k_hasMachine (show 1 ≤ 10 by omega) s1, k_refuse (show 1 ≤ 10 by omega) rc1, k_refuse (show 1 ≤ 10 by omega) rc2, k_refuse (show 1 ≤ 10 by omega) rc3, k_refuse (show 1 ≤ 10 by omega) rc4, k_refuse (show 1 ≤ 10 by omega) rc6, k_isTooth (show 1 ≤ 10 by omega), k_isZeroOrOne (show 1 ≤ 10 by omega), k_outside (show 1 ≤ 10 by omega), bz0, ite_bz, e0, e1, Option.toList_some, Option.toList_none, List.cons_append, List.nil_append, and_assoc, exists_and_left, exists_eq_left, true_and, and_true, Nat.reduceLeDiff, not_false_eq_true, not_true_eq_false, ↓reduceIte, eq_self, ← Int32.not_lt, ite_not, Classical.not_not]
  exact hq _ cS_7 (frC_p frC_r (by omega))
theorem c_lots (n z w : Int32) : KC eX5_lots [.int n, .int z, .int w] (f_lots n z w) := by
  refine KC_of rfl (fun h K M GS G Q hq => ?_)
  show WP 10 eX5_lots Q 0 [.ref 0, .int n, .int z, .int w, mU] [] h
  have e0 : h 1 2 = nI K := G.s0
  have e1 : h 1 6 = nI M := G.s1
  have g0 : cv 1 h 0 = nI K := G.s0
  have g1 : cv 1 h 1 = nI M := G.s1
  have k10 := G.k10
  have m5 := G.m5
  have gk := gdkN G
  have gm := gdmN G
  unfold f_lots at hq
  simp only [cS_1, cS_if, cS_im, cS_ln, cS_l, cS_rn, cS_r, cS_q, g0, g1, bno, gk, gm] at hq
  simp only [bX5_lots_0, bX5_lots_7, t0, r00, r04, t52, tgS s1, k_hasKey (show 1 ≤ 10 by omega) s1, k_hasMachine (show 1 ≤ 10 by omega) s1, k_refuse (show 1 ≤ 10 by omega) rc1, k_refuse (show 1 ≤ 10 by omega) rc2, k_refuse (show 1 ≤ 10 by omega) rc3, k_refuse (show 1 ≤ 10 by omega) rc4, k_refuse (show 1 ≤ 10 by omega) rc6, k_isTooth (show 1 ≤ 10 by omega), k_isZeroOrOne (show 1 ≤ 10 by omega), k_outside (show 1 ≤ 10 by omega), bz0, ite_bz, e0, e1, Option.toList_some, Option.toList_none, List.cons_append, List.nil_append, and_assoc, exists_and_left, exists_eq_left, true_and, and_true, Nat.reduceLeDiff, not_false_eq_true, not_true_eq_false, ↓reduceIte, eq_self, ← Int32.not_lt, ite_not, Classical.not_not]
  by_cases o : oub n 1 20 = 0
  · obtain ⟨m, m1, m20, rfl⟩ := oub_in (a := 1) (b := 20) (by omega) (by omega) o
    simp only [o, decide_true, decide_false, not_false_eq_true, not_true_eq_false, ↓reduceIte, Bool.false_eq_true, Bool.and_true, Bool.true_and, Bool.false_and, Bool.and_false, true_and, false_and, and_true, and_false, xN_n (show m < 100000 by omega)] at hq ⊢
    simp only [bX5_lots_21, bX5_lots_25, bX5_lots_28, bX5_lots_34, bX5_lots_35, bX5_lots_45, bX5_lots_55, bX5_lots_61, bX5_lots_62, bX5_lots_77, bX5_lots_81, bX5_lots_82, t0, r00, r04, t52, tgS s1, k_hasKey (show 1 ≤ 10 by omega) s1, k_hasMachine (show 1 ≤ 10 by omega) s1, k_refuse (show 1 ≤ 10 by omega) rc1, k_refuse (show 1 ≤ 10 by omega) rc2, k_refuse (show 1 ≤ 10 by omega) rc3, k_refuse (show 1 ≤ 10 by omega) rc4, k_refuse (show 1 ≤ 10 by omega) rc6, k_isTooth (show 1 ≤ 10 by omega), k_isZeroOrOne (show 1 ≤ 10 by omega), k_outside (show 1 ≤ 10 by omega), bz0, ite_bz, e0, e1, Option.toList_some, Option.toList_none, List.cons_append, List.nil_append, and_assoc, exists_and_left, exists_eq_left, true_and, and_true, Nat.reduceLeDiff, not_false_eq_true, not_true_eq_false, ↓reduceIte, eq_self, ← Int32.not_lt, ite_not, Classical.not_not]
    cases c3 : i01 w with
    | false => simp only [c3, decide_true, decide_false, not_false_eq_true, not_true_eq_false, ↓reduceIte, Bool.false_eq_true, Bool.and_true, Bool.true_and, Bool.false_and, Bool.and_false, true_and, false_and, and_true, and_false] at hq ⊢; exact hq _ (cS_rf _) (frC_rf _)
    | true =>
      simp only [c3, decide_true, decide_false, not_false_eq_true, not_true_eq_false, ↓reduceIte, Bool.false_eq_true, Bool.and_true, Bool.true_and, Bool.false_and, Bool.and_false, true_and, false_and, and_true, and_false] at hq ⊢
      simp only [show (0 : Int32) = nI 0 from rfl, neq (show K ≤ 100000 by omega) (show 0 ≤ 100000 by omega), neq (show M ≤ 100000 by omega) (show 0 ≤ 100000 by omega)] at hq ⊢
      by_cases k0 : K = 0
      · simp only [k0, decide_true, decide_false, not_false_eq_true, not_true_eq_false, ↓reduceIte, Bool.false_eq_true, Bool.and_true, Bool.true_and, Bool.false_and, Bool.and_false, true_and, false_and, and_true, and_false] at hq ⊢; exact hq _ (cS_rf _) (frC_rf _)
      by_cases m0 : M = 0
      · simp only [k0, m0, decide_true, decide_false, not_false_eq_true, not_true_eq_false, ↓reduceIte, Bool.false_eq_true, Bool.and_true, Bool.true_and, Bool.false_and, Bool.and_false, true_and, false_and, and_true, and_false] at hq ⊢; exact hq _ (cS_rf _) (frC_rf _)
      obtain ⟨a, b, hc⟩ := e_drawLots (show 5 ≤ 10 by omega) s1 G (show 0 < K by omega) (show 0 < M by omega) m20 z (decide (w = 1))
      unfold bz at hc
      by_cases w1 : w = 1
      · simp only [k0, m0, w1, decide_true, decide_false, not_false_eq_true, not_true_eq_false, ↓reduceIte, Bool.false_eq_true, Bool.and_true, Bool.true_and, Bool.false_and, Bool.and_false, true_and, false_and, and_true, and_false] at hq hc ⊢
        simp only [bX5_lots_85, Cal_iff hc, Option.toList_some, Option.toList_none, List.cons_append, List.nil_append, and_assoc, exists_and_left, exists_eq_left, true_and, and_true, Nat.reduceLeDiff, not_false_eq_true, not_true_eq_false, ↓reduceIte, eq_self, ← Int32.not_lt, ite_not, Classical.not_not]
        exact hq _ cS_w frC_w
      · simp only [k0, m0, w1, decide_true, decide_false, not_false_eq_true, not_true_eq_false, ↓reduceIte, Bool.false_eq_true, Bool.and_true, Bool.true_and, Bool.false_and, Bool.and_false, true_and, false_and, and_true, and_false] at hq hc ⊢
        rw [show (0 : Int32) = nI 0 from rfl] at hc
        simp only [bX5_lots_85, Cal_iff hc, Option.toList_some, Option.toList_none, List.cons_append, List.nil_append, and_assoc, exists_and_left, exists_eq_left, true_and, and_true, Nat.reduceLeDiff, not_false_eq_true, not_true_eq_false, ↓reduceIte, eq_self, ← Int32.not_lt, ite_not, Classical.not_not]
        exact hq _ cS_w frC_w
  · simp only [o, decide_true, decide_false, not_false_eq_true, not_true_eq_false, ↓reduceIte, Bool.false_eq_true, Bool.and_true, Bool.true_and, Bool.false_and, Bool.and_false, true_and, false_and, and_true, and_false] at hq ⊢
    simp only [bX5_lots_14, bX5_lots_20, t0, k_refuse (show 1 ≤ 10 by omega) (oub_r o), Option.toList_some, Option.toList_none, List.cons_append, List.nil_append, and_assoc, exists_and_left, exists_eq_left, true_and, and_true, Nat.reduceLeDiff, not_false_eq_true, not_true_eq_false, ↓reduceIte, eq_self, ← Int32.not_lt, ite_not, Classical.not_not]
    exact hq _ (cS_rf _) (frC_rf _)
theorem c_count (w : Int32) : KC eX5_count [.int w] (f_count w) := by
  refine KC_of rfl (fun h K M GS G Q hq => ?_)
  show WP 10 eX5_count Q 0 [.ref 0, .int w] [] h
  have e0 : h 1 2 = nI K := G.s0
  have e1 : h 1 6 = nI M := G.s1
  have g0 : cv 1 h 0 = nI K := G.s0
  have g1 : cv 1 h 1 = nI M := G.s1
  have k10 := G.k10
  have m5 := G.m5
  have gk := gdkN G
  have gm := gdmN G
  unfold f_count at hq
  simp only [cS_1, cS_if, cS_im, cS_ln, cS_l, cS_rn, cS_r, cS_q, g0, g1, bno, gk, gm] at hq
  simp only [bX5_count_0, swP, Int.reduceAdd, Int32.reduceOfInt]
  by_cases w0 : w = 0
  · simp only [w0, decide_true, decide_false, not_false_eq_true, not_true_eq_false, ↓reduceIte, Bool.false_eq_true, Bool.and_true, Bool.true_and, Bool.false_and, Bool.and_false, true_and, false_and, and_true, and_false] at hq ⊢
    simp only [bX5_count_48, t0, r00, r04, t52, tgS s1, k_hasKey (show 1 ≤ 10 by omega) s1, k_hasMachine (show 1 ≤ 10 by omega) s1, k_refuse (show 1 ≤ 10 by omega) rc1, k_refuse (show 1 ≤ 10 by omega) rc2, k_refuse (show 1 ≤ 10 by omega) rc3, k_refuse (show 1 ≤ 10 by omega) rc4, k_refuse (show 1 ≤ 10 by omega) rc6, k_isTooth (show 1 ≤ 10 by omega), k_isZeroOrOne (show 1 ≤ 10 by omega), k_outside (show 1 ≤ 10 by omega), bz0, ite_bz, e0, e1, Option.toList_some, Option.toList_none, List.cons_append, List.nil_append, and_assoc, exists_and_left, exists_eq_left, true_and, and_true, Nat.reduceLeDiff, not_false_eq_true, not_true_eq_false, ↓reduceIte, eq_self, ← Int32.not_lt, ite_not, Classical.not_not]
    exact hq _ rfl frC_r
  by_cases w1 : w = 1
  · simp only [w1, show ¬ (1 : Int32) = 0 by decide, decide_true, decide_false, not_false_eq_true, not_true_eq_false, ↓reduceIte, Bool.false_eq_true, Bool.and_true, Bool.true_and, Bool.false_and, Bool.and_false, true_and, false_and, and_true, and_false] at hq ⊢
    simp only [bX5_count_56, t0, r00, r04, t52, tgS s1, k_hasKey (show 1 ≤ 10 by omega) s1, k_hasMachine (show 1 ≤ 10 by omega) s1, k_refuse (show 1 ≤ 10 by omega) rc1, k_refuse (show 1 ≤ 10 by omega) rc2, k_refuse (show 1 ≤ 10 by omega) rc3, k_refuse (show 1 ≤ 10 by omega) rc4, k_refuse (show 1 ≤ 10 by omega) rc6, k_isTooth (show 1 ≤ 10 by omega), k_isZeroOrOne (show 1 ≤ 10 by omega), k_outside (show 1 ≤ 10 by omega), bz0, ite_bz, e0, e1, Option.toList_some, Option.toList_none, List.cons_append, List.nil_append, and_assoc, exists_and_left, exists_eq_left, true_and, and_true, Nat.reduceLeDiff, not_false_eq_true, not_true_eq_false, ↓reduceIte, eq_self, ← Int32.not_lt, ite_not, Classical.not_not]
    exact hq _ rfl frC_r
  by_cases w2 : w = 2
  · simp only [w2, show ¬ (2 : Int32) = 0 by decide, show ¬ (2 : Int32) = 1 by decide, decide_true, decide_false, not_false_eq_true, not_true_eq_false, ↓reduceIte, Bool.false_eq_true, Bool.and_true, Bool.true_and, Bool.false_and, Bool.and_false, true_and, false_and, and_true, and_false, cv2] at hq ⊢
    simp only [bX5_count_64, t0, r00, r04, t52, tgS s1, k_hasKey (show 1 ≤ 10 by omega) s1, k_hasMachine (show 1 ≤ 10 by omega) s1, k_refuse (show 1 ≤ 10 by omega) rc1, k_refuse (show 1 ≤ 10 by omega) rc2, k_refuse (show 1 ≤ 10 by omega) rc3, k_refuse (show 1 ≤ 10 by omega) rc4, k_refuse (show 1 ≤ 10 by omega) rc6, k_isTooth (show 1 ≤ 10 by omega), k_isZeroOrOne (show 1 ≤ 10 by omega), k_outside (show 1 ≤ 10 by omega), bz0, ite_bz, e0, e1, Option.toList_some, Option.toList_none, List.cons_append, List.nil_append, and_assoc, exists_and_left, exists_eq_left, true_and, and_true, Nat.reduceLeDiff, not_false_eq_true, not_true_eq_false, ↓reduceIte, eq_self, ← Int32.not_lt, ite_not, Classical.not_not]
    exact hq _ rfl frC_r
  by_cases w3 : w = 3
  · simp only [w3, show ¬ (3 : Int32) = 0 by decide, show ¬ (3 : Int32) = 1 by decide, show ¬ (3 : Int32) = 2 by decide, decide_true, decide_false, not_false_eq_true, not_true_eq_false, ↓reduceIte, Bool.false_eq_true, Bool.and_true, Bool.true_and, Bool.false_and, Bool.and_false, true_and, false_and, and_true, and_false, cv3] at hq ⊢
    simp only [bX5_count_72, t0, r00, r04, t52, tgS s1, k_hasKey (show 1 ≤ 10 by omega) s1, k_hasMachine (show 1 ≤ 10 by omega) s1, k_refuse (show 1 ≤ 10 by omega) rc1, k_refuse (show 1 ≤ 10 by omega) rc2, k_refuse (show 1 ≤ 10 by omega) rc3, k_refuse (show 1 ≤ 10 by omega) rc4, k_refuse (show 1 ≤ 10 by omega) rc6, k_isTooth (show 1 ≤ 10 by omega), k_isZeroOrOne (show 1 ≤ 10 by omega), k_outside (show 1 ≤ 10 by omega), bz0, ite_bz, e0, e1, Option.toList_some, Option.toList_none, List.cons_append, List.nil_append, and_assoc, exists_and_left, exists_eq_left, true_and, and_true, Nat.reduceLeDiff, not_false_eq_true, not_true_eq_false, ↓reduceIte, eq_self, ← Int32.not_lt, ite_not, Classical.not_not]
    exact hq _ rfl frC_r
  by_cases w4 : w = 4
  · simp only [w4, show ¬ (4 : Int32) = 0 by decide, show ¬ (4 : Int32) = 1 by decide, show ¬ (4 : Int32) = 2 by decide, show ¬ (4 : Int32) = 3 by decide, decide_true, decide_false, not_false_eq_true, not_true_eq_false, ↓reduceIte, Bool.false_eq_true, Bool.and_true, Bool.true_and, Bool.false_and, Bool.and_false, true_and, false_and, and_true, and_false] at hq ⊢
    simp only [bX5_count_80, bX5_count_87, k_snappedBits (show 1 ≤ 10 by omega) s1 G, t0, r00, r04, t52, tgS s1, k_hasKey (show 1 ≤ 10 by omega) s1, k_hasMachine (show 1 ≤ 10 by omega) s1, k_refuse (show 1 ≤ 10 by omega) rc1, k_refuse (show 1 ≤ 10 by omega) rc2, k_refuse (show 1 ≤ 10 by omega) rc3, k_refuse (show 1 ≤ 10 by omega) rc4, k_refuse (show 1 ≤ 10 by omega) rc6, k_isTooth (show 1 ≤ 10 by omega), k_isZeroOrOne (show 1 ≤ 10 by omega), k_outside (show 1 ≤ 10 by omega), bz0, ite_bz, e0, e1, Option.toList_some, Option.toList_none, List.cons_append, List.nil_append, and_assoc, exists_and_left, exists_eq_left, true_and, and_true, Nat.reduceLeDiff, not_false_eq_true, not_true_eq_false, ↓reduceIte, eq_self, ← Int32.not_lt, ite_not, Classical.not_not]
    exact hq _ rfl frC_r
  by_cases w5 : w = 5
  · simp only [w5, show ¬ (5 : Int32) = 0 by decide, show ¬ (5 : Int32) = 1 by decide, show ¬ (5 : Int32) = 2 by decide, show ¬ (5 : Int32) = 3 by decide, show ¬ (5 : Int32) = 4 by decide, decide_true, decide_false, not_false_eq_true, not_true_eq_false, ↓reduceIte, Bool.false_eq_true, Bool.and_true, Bool.true_and, Bool.false_and, Bool.and_false, true_and, false_and, and_true, and_false] at hq ⊢
    simp only [bX5_count_88, bX5_count_95, bX5_count_98, k_openingBits (show 4 ≤ 10 by omega) s1 G, k_bitCount (show 1 ≤ 10 by omega) (nb_1024 _ k10), nb_ct _ k10, t0, r00, r04, t52, tgS s1, k_hasKey (show 1 ≤ 10 by omega) s1, k_hasMachine (show 1 ≤ 10 by omega) s1, k_refuse (show 1 ≤ 10 by omega) rc1, k_refuse (show 1 ≤ 10 by omega) rc2, k_refuse (show 1 ≤ 10 by omega) rc3, k_refuse (show 1 ≤ 10 by omega) rc4, k_refuse (show 1 ≤ 10 by omega) rc6, k_isTooth (show 1 ≤ 10 by omega), k_isZeroOrOne (show 1 ≤ 10 by omega), k_outside (show 1 ≤ 10 by omega), bz0, ite_bz, e0, e1, Option.toList_some, Option.toList_none, List.cons_append, List.nil_append, and_assoc, exists_and_left, exists_eq_left, true_and, and_true, Nat.reduceLeDiff, not_false_eq_true, not_true_eq_false, ↓reduceIte, eq_self, ← Int32.not_lt, ite_not, Classical.not_not]
    exact hq _ rfl frC_r
  by_cases w6 : w = 6
  · simp only [w6, show ¬ (6 : Int32) = 0 by decide, show ¬ (6 : Int32) = 1 by decide, show ¬ (6 : Int32) = 2 by decide, show ¬ (6 : Int32) = 3 by decide, show ¬ (6 : Int32) = 4 by decide, show ¬ (6 : Int32) = 5 by decide, decide_true, decide_false, not_false_eq_true, not_true_eq_false, ↓reduceIte, Bool.false_eq_true, Bool.and_true, Bool.true_and, Bool.false_and, Bool.and_false, true_and, false_and, and_true, and_false] at hq ⊢
    simp only [bX5_count_99, t0, r00, r04, t52, tgS s1, k_hasKey (show 1 ≤ 10 by omega) s1, k_hasMachine (show 1 ≤ 10 by omega) s1, k_refuse (show 1 ≤ 10 by omega) rc1, k_refuse (show 1 ≤ 10 by omega) rc2, k_refuse (show 1 ≤ 10 by omega) rc3, k_refuse (show 1 ≤ 10 by omega) rc4, k_refuse (show 1 ≤ 10 by omega) rc6, k_isTooth (show 1 ≤ 10 by omega), k_isZeroOrOne (show 1 ≤ 10 by omega), k_outside (show 1 ≤ 10 by omega), bz0, ite_bz, e0, e1, Option.toList_some, Option.toList_none, List.cons_append, List.nil_append, and_assoc, exists_and_left, exists_eq_left, true_and, and_true, Nat.reduceLeDiff, not_false_eq_true, not_true_eq_false, ↓reduceIte, eq_self, ← Int32.not_lt, ite_not, Classical.not_not]
    exact hq _ rfl frC_r
  by_cases w7 : w = 7
  · have ks : ∀ r h', Cal 10 eX4_size [.ref 55] h r h' ↔ r = some (.int (h 55 1)) ∧ h' = h := Cal_iff (Cal_le (d := 1) (Cal_of rfl (fun Q hq => by
      show WP 0 eX4_size Q 0 [.ref 55] [] h
      simp only [bX4_size_0, t55, Option.toList_some, Option.toList_none, List.cons_append, List.nil_append, and_assoc, exists_and_left, exists_eq_left, true_and, and_true, Nat.reduceLeDiff, not_false_eq_true, not_true_eq_false, ↓reduceIte, eq_self, ← Int32.not_lt, ite_not, Classical.not_not]
      exact hq)) (by omega))
    simp only [w7, show ¬ (7 : Int32) = 0 by decide, show ¬ (7 : Int32) = 1 by decide, show ¬ (7 : Int32) = 2 by decide, show ¬ (7 : Int32) = 3 by decide, show ¬ (7 : Int32) = 4 by decide, show ¬ (7 : Int32) = 5 by decide, show ¬ (7 : Int32) = 6 by decide, decide_true, decide_false, not_false_eq_true, not_true_eq_false, ↓reduceIte, Bool.false_eq_true, Bool.and_true, Bool.true_and, Bool.false_and, Bool.and_false, true_and, false_and, and_true, and_false] at hq ⊢
    simp only [bX5_count_104, bX5_count_111, r05, t55, ks, t0, r00, r04, t52, tgS s1, k_hasKey (show 1 ≤ 10 by omega) s1, k_hasMachine (show 1 ≤ 10 by omega) s1, k_refuse (show 1 ≤ 10 by omega) rc1, k_refuse (show 1 ≤ 10 by omega) rc2, k_refuse (show 1 ≤ 10 by omega) rc3, k_refuse (show 1 ≤ 10 by omega) rc4, k_refuse (show 1 ≤ 10 by omega) rc6, k_isTooth (show 1 ≤ 10 by omega), k_isZeroOrOne (show 1 ≤ 10 by omega), k_outside (show 1 ≤ 10 by omega), bz0, ite_bz, e0, e1, Option.toList_some, Option.toList_none, List.cons_append, List.nil_append, and_assoc, exists_and_left, exists_eq_left, true_and, and_true, Nat.reduceLeDiff, not_false_eq_true, not_true_eq_false, ↓reduceIte, eq_self, ← Int32.not_lt, ite_not, Classical.not_not]
    exact hq _ rfl frC_r
  · simp only [w0, w1, w2, w3, w4, w5, w6, w7, decide_true, decide_false, not_false_eq_true, not_true_eq_false, ↓reduceIte, Bool.false_eq_true, Bool.and_true, Bool.true_and, Bool.false_and, Bool.and_false, true_and, false_and, and_true, and_false] at hq ⊢
    simp only [bX5_count_112, bX5_count_118, bX5_count_136, bX5_count_138, t0, r00, r04, t52, tgS s1, k_hasKey (show 1 ≤ 10 by omega) s1, k_hasMachine (show 1 ≤ 10 by omega) s1, k_refuse (show 1 ≤ 10 by omega) rc1, k_refuse (show 1 ≤ 10 by omega) rc2, k_refuse (show 1 ≤ 10 by omega) rc3, k_refuse (show 1 ≤ 10 by omega) rc4, k_refuse (show 1 ≤ 10 by omega) rc6, k_isTooth (show 1 ≤ 10 by omega), k_isZeroOrOne (show 1 ≤ 10 by omega), k_outside (show 1 ≤ 10 by omega), bz0, ite_bz, e0, e1, Option.toList_some, Option.toList_none, List.cons_append, List.nil_append, and_assoc, exists_and_left, exists_eq_left, true_and, and_true, Nat.reduceLeDiff, not_false_eq_true, not_true_eq_false, ↓reduceIte, eq_self, ← Int32.not_lt, ite_not, Classical.not_not]
    by_cases a : w < 11
    · simp only [a, decide_true, decide_false, not_false_eq_true, not_true_eq_false, ↓reduceIte, Bool.false_eq_true, Bool.and_true, Bool.true_and, Bool.false_and, Bool.and_false, true_and, false_and, and_true, and_false] at hq ⊢; exact hq _ rfl frC_r
    by_cases b : 16 < w
    · simp only [a, b, decide_true, decide_false, not_false_eq_true, not_true_eq_false, ↓reduceIte, Bool.false_eq_true, Bool.and_true, Bool.true_and, Bool.false_and, Bool.and_false, true_and, false_and, and_true, and_false] at hq ⊢; exact hq _ rfl frC_r
    obtain ⟨j, j1, j2, rfl⟩ : ∃ j, 11 ≤ j ∧ j ≤ 16 ∧ w = nI j := oub_in (a := 11) (b := 16) (by omega) (by omega) (by unfold oub; rw [if_neg (show ¬ w < nI 11 from a), if_neg (show ¬ nI 16 < w from b)])
    have ej : nI j - 10 = nI (j - 10) := pk_sub (b := 10) (by omega)
    simp only [a, b, decide_true, decide_false, not_false_eq_true, not_true_eq_false, ↓reduceIte, Bool.false_eq_true, Bool.and_true, Bool.true_and, Bool.false_and, Bool.and_false, true_and, false_and, and_true, and_false, ej, xN_n (show j - 10 < 100000 by omega)] at hq ⊢
    simp only [bX5_count_124, bX5_count_138, t0, r08, t58, l58, ej, vp_nI (show j - 10 < 7 by omega) (show 7 ≤ 100 by omega), nI_cl (show j - 10 < 100 by omega), Option.toList_some, Option.toList_none, List.cons_append, List.nil_append, and_assoc, exists_and_left, exists_eq_left, true_and, and_true, Nat.reduceLeDiff, not_false_eq_true, not_true_eq_false, ↓reduceIte, eq_self, ← Int32.not_lt, ite_not, Classical.not_not]
    exact hq _ rfl frC_r
