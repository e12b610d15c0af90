def mvf (f : Nat → Int32) (i : Nat) : Int32 := if i < 89 then f i else 0
theorem mvf_u {f : Nat → Int32} {j : Nat} (hj : j < 89) (v : Int32) : mvf (upd f j v) = upd (mvf f) j v := by
  funext i
  unfold mvf
  simp only [upd_at]
  by_cases c : i = j
  · subst c; rw [if_pos hj, if_pos rfl, if_pos rfl]
  · rw [if_neg c, if_neg c]
theorem mvf_e {f : Nat → Int32} {i : Nat} (hi : i < 89) : f i = mvf f i := by unfold mvf; rw [if_pos hi]
section R3
variable {h : mH} {f g x : Nat → Int32}
theorem mv_f : mv 60 (mPut h 60 f) = mvf f := by funext i; unfold mv mvf; rw [mPut_self]
theorem mv_h : mv 60 h = mvf (h 60) := rfl
theorem p60 : mPut (mPut (mPut h 60 f) 66 x) 60 g = mPut (mPut h 60 g) 66 x := by rw [mPut_comm _ _ _ (by omega), mPut_put]
theorem o60 : mPut (mPut h 60 f) 66 x 60 = f := by rw [q60, mPut_self]
theorem i60 : mPut h 66 x = mPut (mPut h 60 (h 60)) 66 x := by rw [mPut_id]
theorem mS_6066 : mS (mPut (mPut h 60 f) 66 x) = (mvf f, (mS h).2) := by
  rw [mS_66]
  unfold mS
  rw [mv_f, mv_out (by omega)]
  rfl
theorem frR_6066 : frR h (mPut (mPut h 60 f) 66 x) := frR_p (frR_p frR_r (by omega)) (by omega)
def cu2 (σ : Nat → Int32) (K : Nat) (F : Nat → Int32) (t i : Nat) : Int32 := if 9 + 7 * K ≤ i ∧ i < 9 + 7 * K + t then F (i - (9 + 7 * K)) else σ i
theorem cu2_0 (σ : Nat → Int32) (K : Nat) (F : Nat → Int32) : cu2 σ K F 0 = σ := by funext i; unfold cu2; rw [if_neg (by omega)]
theorem cu2_s (σ : Nat → Int32) (K : Nat) (F : Nat → Int32) (t : Nat) : upd (cu2 σ K F t) (9 + 7 * K + t) (F t) = cu2 σ K F (t + 1) := by
  funext i
  simp only [upd_at]
  unfold cu2
  by_cases h1 : i = 9 + 7 * K + t
  · subst h1; rw [if_pos rfl, if_pos (by omega), show 9 + 7 * K + t - (9 + 7 * K) = t by omega]
  · rw [if_neg h1]
    by_cases h3 : 9 + 7 * K ≤ i ∧ i < 9 + 7 * K + t
    · rw [if_pos h3, if_pos (by omega)]
    · rw [if_neg h3, if_neg (by omega)]
theorem cu2_o (σ : Nat → Int32) (K : Nat) (F : Nat → Int32) {t : Nat} : cu2 σ K F t 0 = σ 0 := by unfold cu2; rw [if_neg (by omega)]
theorem cu2_cut (σ : Nat → Int32) (K k m : Nat) : upd (upd (upd (cu2 σ K (cutM σ m (rowF σ k)) 5) (9 + 7 * K + 5) (nI k)) (9 + 7 * K + 6) 0) 0 (nI (K + 1)) = cutS σ K k m := by
  funext i
  simp only [upd_at]
  unfold cutS cu2 cutM cutF rowF
  by_cases h0 : i = 0
  · rw [if_pos h0, if_pos h0]
  · rw [if_neg h0, if_neg h0]
    by_cases h6 : i = 9 + 7 * K + 6
    · rw [if_pos h6, if_neg (by omega), if_pos h6]
    · rw [if_neg h6]
      by_cases h5 : i = 9 + 7 * K + 5
      · rw [if_pos h5, if_pos h5]
      · rw [if_neg h5, if_neg h5, if_neg h6]
theorem e6_cuts {d K M k m : Nat} (hd : 6 ≤ d) (G : gdN (mv 60 h) K M) (hK : K < 10) (hk : k < K) (hm : m < M) (x0 : Nat → Int32) : ∃ f x, mvf f = cutS (mv 60 h) K k m ∧ Cal d eX6_cuts [.ref 59, .int (nI k), .int (nI m)] (mPut h 66 x0) (some (.int (nI K))) (mPut (mPut h 60 f) 66 x) := by
  have m5 := G.m5
  obtain ⟨h', ⟨f, x, e, e2⟩, hc⟩ := Cal_pr (d := 5) (D := d) (E := eX6_cuts) (as := [.ref 59, .int (nI k), .int (nI m)]) (h := mPut h 66 x0) (r := some (.int (nI K))) (P := fun h' => ∃ f x, h' = mPut (mPut h 60 f) 66 x ∧ mvf f = cutS (mv 60 h) K k m) hd rfl (fun Q hq => by
    show WP 5 eX6_cuts Q 0 [.ref 59, .int (nI k), .int (nI m), mU] [] (mPut h 66 x0)
    simp only [bX6_cuts_0, bX6_cuts_5, bX6_cuts_11, t59, k6_takes (show 2 ≤ 5 by omega) (show k < 10 by omega), k6_cutsBy0 (Nat.le_refl 5) (show m < 5 by omega), Option.toList_some, Option.toList_none, List.cons_append, List.nil_append, and_assoc, exists_and_left, exists_eq_left, true_and, and_true, Nat.reduceLeDiff, not_false_eq_true, not_true_eq_false, ↓reduceIte, eq_self, ← Int32.not_lt, ite_not, Classical.not_not]
    have st : ∀ f, mvf f = cu2 (mv 60 h) K (cutM (mv 60 h) m (rowF (mv 60 h) k)) 0 → WP 5 eX6_cuts Q 13 [.ref 59, .int (nI k), .int (nI m), .int (nI 0)] [] (mPut (mPut h 60 f) 66 (pT (cutM (mv 60 h) m (rowF (mv 60 h) k)) x0 5)) := by
      refine wl (fun i => ∀ f, mvf f = cu2 (mv 60 h) K (cutM (mv 60 h) m (rowF (mv 60 h) k)) i → WP 5 eX6_cuts Q 13 [.ref 59, .int (nI k), .int (nI m), .int (nI i)] [] (mPut (mPut h 60 f) 66 (pT (cutM (mv 60 h) m (rowF (mv 60 h) k)) x0 5))) 5 ?_ 5 0 (by omega) ?_
      · intro i hi hw f hf
        have e0 : f 0 = nI K := by rw [mvf_e (f := f) (i := 0) (by omega), hf, cu2_o]; exact G.s0
        rw [bX6_cuts_13]
        simp only [bX6_cuts_18, bX6_cuts_32, bX6_cuts_39, show (5 : Int32) = nI 5 from rfl, nlt (show i ≤ 100000 by omega) (show 5 ≤ 100000 by omega), hi, t59, r590, r599, t60, l60, t66, l66, v0, c0, o60, e0, k6_of (show 1 ≤ 5 by omega), vp_nI hi (show 5 ≤ 100 by omega), nI_cl (show i < 100 by omega), v89 (show 9 + 7 * K + i < 89 by omega), nI_cl (show 9 + 7 * K + i < 100 by omega), p60, mPut_self, pT_lt hi, nI_1, Option.toList_some, Option.toList_none, List.cons_append, List.nil_append, and_assoc, exists_and_left, exists_eq_left, true_and, and_true, Nat.reduceLeDiff, not_false_eq_true, not_true_eq_false, ↓reduceIte, eq_self, ← Int32.not_lt, ite_not, Classical.not_not]
        exact hw _ (by rw [mvf_u (by omega), hf, cu2_s])
      · intro f hf
        have e0 : f 0 = nI K := by rw [mvf_e (f := f) (i := 0) (by omega), hf, cu2_o]; exact G.s0
        have u0 : ∀ (f : Nat → Int32) j v, ¬ j = 0 → upd f j v 0 = f 0 := fun f j v hj => if_neg (fun z => hj z.symm)
        have u00 : ∀ (f : Nat → Int32) v, upd f 0 v 0 = v := fun f v => if_pos rfl
        have em : nI (K + 1) - 1 = nI K := nI_pred K
        simp only [bX6_cuts_13, bX6_cuts_45, bX6_cuts_59, bX6_cuts_61, bX6_cuts_76, bX6_cuts_78, bX6_cuts_88, show (5 : Int32) = nI 5 from rfl, nlt (show 5 ≤ 100000 by omega) (show 5 ≤ 100000 by omega), Nat.lt_irrefl, t59, r590, t60, l60, v0, c0, o60, e0, k6_of (show 1 ≤ 5 by omega), k6_of6 (show 1 ≤ 5 by omega), v89 (show 9 + 7 * K + 5 < 89 by omega), nI_cl (show 9 + 7 * K + 5 < 100 by omega), v89 (show 9 + 7 * K + 6 < 89 by omega), nI_cl (show 9 + 7 * K + 6 < 100 by omega), p60, u0 _ (9 + 7 * K + 5) _ (by omega), u0 _ (9 + 7 * K + 6) _ (by omega), u00, em, nI_1, Option.toList_some, Option.toList_none, List.cons_append, List.nil_append, and_assoc, exists_and_left, exists_eq_left, true_and, and_true, Nat.reduceLeDiff, not_false_eq_true, not_true_eq_false, ↓reduceIte, eq_self, ← Int32.not_lt, ite_not, Classical.not_not]
        refine hq _ ⟨_, _, rfl, ?_⟩
        rw [mvf_u (by omega), mvf_u (by omega), mvf_u (by omega), hf, cu2_cut]
    have := st (h 60) (by rw [cu2_0]; rfl)
    rw [mPut_id] at this
    exact this)
  subst e
  exact ⟨f, x, e2, hc⟩
theorem e6_used {d k : Nat} (hd : 2 ≤ d) (hk : k < 10) (n : Int32) (x0 : Nat → Int32) : ∃ f, mvf f = usd (mv 60 h) k n ∧ Cal d eX6_used [.ref 59, .int (nI k), .int n] (mPut h 66 x0) none (mPut (mPut h 60 f) 66 x0) := by
  obtain ⟨h', ⟨f, e, e2⟩, hc⟩ := Cal_pr (d := 1) (D := d) (E := eX6_used) (as := [.ref 59, .int (nI k), .int n]) (h := mPut h 66 x0) (r := none) (P := fun h' => ∃ f, h' = mPut (mPut h 60 f) 66 x0 ∧ mvf f = usd (mv 60 h) k n) hd rfl (fun Q hq => by
    show WP 1 eX6_used Q 0 [.ref 59, .int (nI k), .int n, mU] [] (mPut h 66 x0)
    simp only [bX6_used_0]
    have st : ∀ f, mvf f = wrT (mv 60 h) k n 0 → WP 1 eX6_used Q 2 [.ref 59, .int (nI k), .int n, .int (nI 0)] [] (mPut (mPut h 60 f) 66 x0) := by
      refine wl (fun i => ∀ f, mvf f = wrT (mv 60 h) k n i → WP 1 eX6_used Q 2 [.ref 59, .int (nI k), .int n, .int (nI i)] [] (mPut (mPut h 60 f) 66 x0)) 5 ?_ 5 0 (by omega) ?_
      · intro i hi hw f hf
        have er : f (9 + 7 * k + i) = mv 60 h (9 + 7 * k + i) := by rw [mvf_e (f := f) (by omega), hf, wrT_r hi]
        have ep : ∀ v, upd f (9 + 7 * k + i) v (4 + i) = mv 60 h (4 + i) := fun v => by rw [upd_at, if_neg (by omega), mvf_e (f := f) (by omega), hf, wrT_p hi]
        rw [bX6_used_2]
        simp only [bX6_used_7, bX6_used_16, bX6_used_26, bX6_used_35, bX6_used_36, bX6_used_60, bX6_used_61, show (5 : Int32) = nI 5 from rfl, nlt (show i ≤ 100000 by omega) (show 5 ≤ 100000 by omega), hi, t59, r590, t60, l60, o60, k6_of (Nat.le_refl 1), k6_most (Nat.le_refl 1), v89 (show 9 + 7 * k + i < 89 by omega), nI_cl (show 9 + 7 * k + i < 100 by omega), show (4 : Int32) = nI 4 from rfl, nI_plus, v89 (show 4 + i < 89 by omega), nI_cl (show 4 + i < 100 by omega), er, ep, p60, nI_1, Option.toList_some, Option.toList_none, List.cons_append, List.nil_append, and_assoc, exists_and_left, exists_eq_left, true_and, and_true, Nat.reduceLeDiff, not_false_eq_true, not_true_eq_false, ↓reduceIte, eq_self, ← Int32.not_lt, ite_not, Classical.not_not]
        exact hw _ (by rw [mvf_u (by omega), mvf_u (by omega), hf, wrT_s hi])
      · intro f hf
        have e2 : f 2 = mv 60 h 2 := by rw [mvf_e (f := f) (by omega), hf]; unfold wrT; rw [if_neg (by omega), if_neg (by omega)]
        simp only [bX6_used_2, bX6_used_67, bX6_used_77, show (5 : Int32) = nI 5 from rfl, nlt (show 5 ≤ 100000 by omega) (show 5 ≤ 100000 by omega), Nat.lt_irrefl, t59, r590, t60, l60, v0, c2, o60, p60, e2, Option.toList_some, Option.toList_none, List.cons_append, List.nil_append, and_assoc, exists_and_left, exists_eq_left, true_and, and_true, Nat.reduceLeDiff, not_false_eq_true, not_true_eq_false, ↓reduceIte, eq_self, ← Int32.not_lt, ite_not, Classical.not_not]
        refine hq _ ⟨_, rfl, ?_⟩
        rw [mvf_u (by omega), hf]
        rfl
    have := st (h 60) (by rw [wrT_0]; rfl)
    rw [mPut_id] at this
    exact this)
  subst e
  exact ⟨f, e2, hc⟩
end R3
theorem r_cut (x y : Int32) : KR eX6_cut [.int x, .int y] (f_cut x y) := by
  refine KR_of66 rfl (fun h K M GS G Q hq x0 => ?_)
  show WP 10 eX6_cut Q 0 [.ref 59, .int x, .int y] [] (mPut h 66 x0)
  have g0 : mv 60 h 0 = nI K := G.s0
  have g1 : mv 60 h 1 = nI M := G.s1
  have e0 : ∀ x, mPut h 66 x 60 0 = nI K := fun x => by rw [q60]; exact G.s0
  have e1 : ∀ x, mPut h 66 x 60 1 = nI M := fun x => by rw [q60]; exact G.s1
  have k10 := G.k10
  have m5 := G.m5
  have gk := gdkN G
  have gm := gdmN G
  unfold f_cut at hq
  simp only [mS_1, mS_if, mS_im, mS_ln, mS_l, mS_rn, mS_r, mS_q, g0, g1, bno, gk, gm] at hq
  simp only [bX6_cut_0, bX6_cut_5, bX6_cut_8, bX6_cut_13, bX6_cut_16, bX6_cut_21, t59, r590, r594, r595, r596, r599, t60, l60, v0, c0, c1, c2, c3, k6_isKey (show 2 ≤ 10 by omega) (e0 _) k10, k6_isMachine (show 2 ≤ 10 by omega) (e1 _) m5, k6_no (show 1 ≤ 10 by omega) rc1, k6_no (show 1 ≤ 10 by omega) rc2, k6_no (show 1 ≤ 10 by omega) rc3, k6_no (show 1 ≤ 10 by omega) rc4, k6_no (show 1 ≤ 10 by omega) rc6, k6_isTooth (show 2 ≤ 10 by omega), k6_isIn (show 1 ≤ 10 by omega), k6_wrong (show 1 ≤ 10 by omega), isin_01, bz0, ite_bz, e0, e1, Option.toList_some, Option.toList_none, List.cons_append, List.nil_append, and_assoc, exists_and_left, exists_eq_left, true_and, and_true, Nat.reduceLeDiff, not_false_eq_true, not_true_eq_false, ↓reduceIte, eq_self, ← Int32.not_lt, ite_not, Classical.not_not]
  cases c : ik x (nI K) with
  | false => simp only [c, decide_true, decide_false, not_false_eq_true, not_true_eq_false, ↓reduceIte, Bool.false_eq_true, Bool.and_true, Bool.true_and, Bool.false_and, Bool.and_false, true_and, false_and, and_true, and_false] at hq ⊢; exact hq _ (mS_rf _) (frR_rf _)
  | true =>
    obtain ⟨k, hk, rfl⟩ := ikt (by omega) c
    have hk10 : k < 10 := by omega
    simp only [c, decide_true, decide_false, not_false_eq_true, not_true_eq_false, ↓reduceIte, Bool.false_eq_true, Bool.and_true, Bool.true_and, Bool.false_and, Bool.and_false, true_and, false_and, and_true, and_false, xN_n (show k < 100000 by omega)] at hq ⊢
    cases c2 : ik y (nI M) with
    | false => simp only [c2, decide_true, decide_false, not_false_eq_true, not_true_eq_false, ↓reduceIte, Bool.false_eq_true, Bool.and_true, Bool.true_and, Bool.false_and, Bool.and_false, true_and, false_and, and_true, and_false] at hq ⊢; exact hq _ (mS_rf _) (frR_rf _)
    | true =>
      obtain ⟨m, hm, rfl⟩ := ikt (by omega) c2
      have o1 : (nI K < 10) = (K < 10) := nlt (b := 10) (by omega) (by omega)
      have o2 : (nI K = 10) = (K = 10) := neq (b := 10) (by omega) (by omega)
      simp only [c2, decide_true, decide_false, not_false_eq_true, not_true_eq_false, ↓reduceIte, Bool.false_eq_true, Bool.and_true, Bool.true_and, Bool.false_and, Bool.and_false, true_and, false_and, and_true, and_false, xN_n (show m < 100000 by omega), o1] at hq ⊢
      simp only [bX6_cut_22, bX6_cut_27, bX6_cut_30, bX6_cut_36, bX6_cut_37, bX6_cut_48, bX6_cut_54, k6_isSnapped (show 2 ≤ 10 by omega) (G66 G _) hk10, mv66, o2, t59, r590, r594, r595, r596, r599, t60, l60, v0, c0, c1, c2, c3, k6_isKey (show 2 ≤ 10 by omega) (e0 _) k10, k6_isMachine (show 2 ≤ 10 by omega) (e1 _) m5, k6_no (show 1 ≤ 10 by omega) rc1, k6_no (show 1 ≤ 10 by omega) rc2, k6_no (show 1 ≤ 10 by omega) rc3, k6_no (show 1 ≤ 10 by omega) rc4, k6_no (show 1 ≤ 10 by omega) rc6, k6_isTooth (show 2 ≤ 10 by omega), k6_isIn (show 1 ≤ 10 by omega), k6_wrong (show 1 ≤ 10 by omega), isin_01, bz0, ite_bz, e0, e1, Option.toList_some, Option.toList_none, List.cons_append, List.nil_append, and_assoc, exists_and_left, exists_eq_left, true_and, and_true, Nat.reduceLeDiff, not_false_eq_true, not_true_eq_false, ↓reduceIte, eq_self, ← Int32.not_lt, ite_not, Classical.not_not]
      cases z : snb (mv 60 h) k with
      | true => simp only [z, decide_true, decide_false, not_false_eq_true, not_true_eq_false, ↓reduceIte, Bool.false_eq_true, Bool.and_true, Bool.true_and, Bool.false_and, Bool.and_false, true_and, false_and, and_true, and_false] at hq ⊢; exact hq _ (mS_rf _) (frR_rf _)
      | false =>
        by_cases k9 : K < 10
        · obtain ⟨f, y, e, hc⟩ := e6_cuts (show 6 ≤ 10 by omega) G k9 hk hm x0
          simp only [z, k9, show ¬ K = 10 by omega, decide_true, decide_false, not_false_eq_true, not_true_eq_false, ↓reduceIte, Bool.false_eq_true, Bool.and_true, Bool.true_and, Bool.false_and, Bool.and_false, true_and, false_and, and_true, and_false] at hq ⊢
          simp only [bX6_cut_55, bX6_cut_61, Cal_iff hc, t59, r590, r594, r595, r596, r599, t60, l60, v0, c0, c1, c2, c3, k6_isKey (show 2 ≤ 10 by omega) (e0 _) k10, k6_isMachine (show 2 ≤ 10 by omega) (e1 _) m5, k6_no (show 1 ≤ 10 by omega) rc1, k6_no (show 1 ≤ 10 by omega) rc2, k6_no (show 1 ≤ 10 by omega) rc3, k6_no (show 1 ≤ 10 by omega) rc4, k6_no (show 1 ≤ 10 by omega) rc6, k6_isTooth (show 2 ≤ 10 by omega), k6_isIn (show 1 ≤ 10 by omega), k6_wrong (show 1 ≤ 10 by omega), isin_01, bz0, ite_bz, e0, e1, Option.toList_some, Option.toList_none, List.cons_append, List.nil_append, and_assoc, exists_and_left, exists_eq_left, true_and, and_true, Nat.reduceLeDiff, not_false_eq_true, not_true_eq_false, ↓reduceIte, eq_self, ← Int32.not_lt, ite_not, Classical.not_not]
          exact hq _ (by rw [mS_6066, e]) frR_6066
        · simp only [z, k9, show K = 10 by omega, decide_true, decide_false, not_false_eq_true, not_true_eq_false, ↓reduceIte, Bool.false_eq_true, Bool.and_true, Bool.true_and, Bool.false_and, Bool.and_false, true_and, false_and, and_true, and_false] at hq ⊢; exact hq _ (mS_rf _) (frR_rf _)
theorem r_uses (x n : Int32) : KR eX6_uses [.int x, .int n] (f_uses x n) := by
  refine KR_of66 rfl (fun h K M GS G Q hq x0 => ?_)
  show WP 10 eX6_uses Q 0 [.ref 59, .int x, .int n] [] (mPut h 66 x0)
  have g0 : mv 60 h 0 = nI K := G.s0
  have g1 : mv 60 h 1 = nI M := G.s1
  have e0 : ∀ x, mPut h 66 x 60 0 = nI K := fun x => by rw [q60]; exact G.s0
  have e1 : ∀ x, mPut h 66 x 60 1 = nI M := fun x => by rw [q60]; exact G.s1
  have k10 := G.k10
  have m5 := G.m5
  have gk := gdkN G
  have gm := gdmN G
  unfold f_uses at hq
  simp only [mS_1, mS_if, mS_im, mS_ln, mS_l, mS_rn, mS_r, mS_q, g0, g1, bno, gk, gm] at hq
  simp only [bX6_uses_0, bX6_uses_5, bX6_uses_8, bX6_uses_13, bX6_uses_14, bX6_uses_19, bX6_uses_25, bX6_uses_26, bX6_uses_32, bX6_uses_46, bX6_uses_52, q60, mvE (c := 60) (h := h) (show 2 < 89 by omega), t59, r590, r594, r595, r596, r599, t60, l60, v0, c0, c1, c2, c3, k6_isKey (show 2 ≤ 10 by omega) (e0 _) k10, k6_isMachine (show 2 ≤ 10 by omega) (e1 _) m5, k6_no (show 1 ≤ 10 by omega) rc1, k6_no (show 1 ≤ 10 by omega) rc2, k6_no (show 1 ≤ 10 by omega) rc3, k6_no (show 1 ≤ 10 by omega) rc4, k6_no (show 1 ≤ 10 by omega) rc6, k6_isTooth (show 2 ≤ 10 by omega), k6_isIn (show 1 ≤ 10 by omega), k6_wrong (show 1 ≤ 10 by omega), isin_01, bz0, ite_bz, e0, e1, Option.toList_some, Option.toList_none, List.cons_append, List.nil_append, and_assoc, exists_and_left, exists_eq_left, true_and, and_true, Nat.reduceLeDiff, not_false_eq_true, not_true_eq_false, ↓reduceIte, eq_self, ← Int32.not_lt, ite_not, Classical.not_not]
  cases c : ik x (nI K) with
  | false => simp only [c, decide_true, decide_false, not_false_eq_true, not_true_eq_false, ↓reduceIte, Bool.false_eq_true, Bool.and_true, Bool.true_and, Bool.false_and, Bool.and_false, true_and, false_and, and_true, and_false] at hq ⊢; exact hq _ (mS_rf _) (frR_rf _)
  | true =>
    obtain ⟨k, hk, rfl⟩ := ikt (by omega) c
    have hk10 : k < 10 := by omega
    simp only [c, decide_true, decide_false, not_false_eq_true, not_true_eq_false, ↓reduceIte, Bool.false_eq_true, Bool.and_true, Bool.true_and, Bool.false_and, Bool.and_false, true_and, false_and, and_true, and_false, xN_n (show k < 100000 by omega)] at hq ⊢
    by_cases n1 : n < 1
    · simp only [n1, decide_true, decide_false, not_false_eq_true, not_true_eq_false, ↓reduceIte, Bool.false_eq_true, Bool.and_true, Bool.true_and, Bool.false_and, Bool.and_false, true_and, false_and, and_true, and_false] at hq ⊢; exact hq _ (mS_rf _) (frR_rf _)
    by_cases n9 : 99 < n
    · simp only [n1, n9, decide_true, decide_false, not_false_eq_true, not_true_eq_false, ↓reduceIte, Bool.false_eq_true, Bool.and_true, Bool.true_and, Bool.false_and, Bool.and_false, true_and, false_and, and_true, and_false] at hq ⊢; exact hq _ (mS_rf _) (frR_rf _)
    by_cases u9 : 9999 < mv 60 h 2 + n
    · simp only [n1, n9, u9, decide_true, decide_false, not_false_eq_true, not_true_eq_false, ↓reduceIte, Bool.false_eq_true, Bool.and_true, Bool.true_and, Bool.false_and, Bool.and_false, true_and, false_and, and_true, and_false] at hq ⊢; exact hq _ (mS_rf _) (frR_rf _)
    simp only [n1, n9, u9, decide_true, decide_false, not_false_eq_true, not_true_eq_false, ↓reduceIte, Bool.false_eq_true, Bool.and_true, Bool.true_and, Bool.false_and, Bool.and_false, true_and, false_and, and_true, and_false] at hq ⊢
    simp only [bX6_uses_53, bX6_uses_58, bX6_uses_61, bX6_uses_67, k6_isSnapped (show 2 ≤ 10 by omega) (G66 G _) hk10, mv66, t59, r590, r594, r595, r596, r599, t60, l60, v0, c0, c1, c2, c3, k6_isKey (show 2 ≤ 10 by omega) (e0 _) k10, k6_isMachine (show 2 ≤ 10 by omega) (e1 _) m5, k6_no (show 1 ≤ 10 by omega) rc1, k6_no (show 1 ≤ 10 by omega) rc2, k6_no (show 1 ≤ 10 by omega) rc3, k6_no (show 1 ≤ 10 by omega) rc4, k6_no (show 1 ≤ 10 by omega) rc6, k6_isTooth (show 2 ≤ 10 by omega), k6_isIn (show 1 ≤ 10 by omega), k6_wrong (show 1 ≤ 10 by omega), isin_01, bz0, ite_bz, e0, e1, Option.toList_some, Option.toList_none, List.cons_append, List.nil_append, and_assoc, exists_and_left, exists_eq_left, true_and, and_true, Nat.reduceLeDiff, not_false_eq_true, not_true_eq_false, ↓reduceIte, eq_self, ← Int32.not_lt, ite_not, Classical.not_not]
    cases z : snb (mv 60 h) k with
    | true => simp only [z, decide_true, decide_false, not_false_eq_true, not_true_eq_false, ↓reduceIte, Bool.false_eq_true, Bool.and_true, Bool.true_and, Bool.false_and, Bool.and_false, true_and, false_and, and_true, and_false] at hq ⊢; exact hq _ (mS_rf _) (frR_rf _)
    | false =>
      obtain ⟨f, e, hc⟩ := e6_used (show 2 ≤ 10 by omega) (h := h) hk10 n x0
      obtain ⟨nn, n2, n3, rfl⟩ : ∃ nn, 1 ≤ nn ∧ nn ≤ 99 ∧ n = nI nn := oub_in (a := 1) (b := 99) (by omega) (by omega) (by unfold oub; rw [if_neg (show ¬ n < nI 1 from n1), if_neg (show ¬ nI 99 < n from n9)])
      have G2 : gdN (mv 60 (mPut h 60 f)) K M := by rw [mv_f, e]; exact usd_gd G hk10 (by omega) u9
      simp only [z, decide_true, decide_false, not_false_eq_true, not_true_eq_false, ↓reduceIte, Bool.false_eq_true, Bool.and_true, Bool.true_and, Bool.false_and, Bool.and_false, true_and, false_and, and_true, and_false] at hq ⊢
      simp only [bX6_uses_68, bX6_uses_74, bX6_uses_79, bX6_uses_82, bX6_uses_86, bX6_uses_87, t59, Cal_iff hc, k6_opens (show 4 ≤ 10 by omega) G2 hk10, mv_f, e, bz0, ite_bz, Option.toList_some, Option.toList_none, List.cons_append, List.nil_append, and_assoc, exists_and_left, exists_eq_left, true_and, and_true, Nat.reduceLeDiff, not_false_eq_true, not_true_eq_false, ↓reduceIte, eq_self, ← Int32.not_lt, ite_not, Classical.not_not]
      have hh := fun y => hq (mPut (mPut h 60 f) 66 y) (by rw [mS_6066, e]) frR_6066
      cases o : opb (usd (mv 60 h) k (nI nn)) k <;> simp only [o, decide_true, decide_false, not_false_eq_true, not_true_eq_false, ↓reduceIte, Bool.false_eq_true, Bool.and_true, Bool.true_and, Bool.false_and, Bool.and_false, true_and, false_and, and_true, and_false, bzt, bzf] at hh ⊢ <;> exact hh _
theorem r_snaps (x : Int32) : KR eX6_snaps [.int x] (f_snaps x) := by
  refine KR_of66 rfl (fun h K M GS G Q hq x0 => ?_)
  show WP 10 eX6_snaps Q 0 [.ref 59, .int x, mU, mU] [] (mPut h 66 x0)
  have g0 : mv 60 h 0 = nI K := G.s0
  have g1 : mv 60 h 1 = nI M := G.s1
  have e0 : ∀ x, mPut h 66 x 60 0 = nI K := fun x => by rw [q60]; exact G.s0
  have e1 : ∀ x, mPut h 66 x 60 1 = nI M := fun x => by rw [q60]; exact G.s1
  have k10 := G.k10
  have m5 := G.m5
  have gk := gdkN G
  have gm := gdmN G
  unfold f_snaps at hq
  simp only [mS_1, mS_if, mS_im, mS_ln, mS_l, mS_rn, mS_r, mS_q, g0, g1, bno, gk, gm] at hq
  simp only [bX6_snaps_0, bX6_snaps_5, bX6_snaps_8, bX6_snaps_13, t59, r590, r594, r595, r596, r599, t60, l60, v0, c0, c1, c2, c3, k6_isKey (show 2 ≤ 10 by omega) (e0 _) k10, k6_isMachine (show 2 ≤ 10 by omega) (e1 _) m5, k6_no (show 1 ≤ 10 by omega) rc1, k6_no (show 1 ≤ 10 by omega) rc2, k6_no (show 1 ≤ 10 by omega) rc3, k6_no (show 1 ≤ 10 by omega) rc4, k6_no (show 1 ≤ 10 by omega) rc6, k6_isTooth (show 2 ≤ 10 by omega), k6_isIn (show 1 ≤ 10 by omega), k6_wrong (show 1 ≤ 10 by omega), isin_01, bz0, ite_bz, e0, e1, Option.toList_some, Option.toList_none, List.cons_append, List.nil_append, and_assoc, exists_and_left, exists_eq_left, true_and, and_true, Nat.reduceLeDiff, not_false_eq_true, not_true_eq_false, ↓reduceIte, eq_self, ← Int32.not_lt, ite_not, Classical.not_not]
  cases c : ik x (nI K) with
  | false => simp only [c, decide_true, decide_false, not_false_eq_true, not_true_eq_false, ↓reduceIte, Bool.false_eq_true, Bool.and_true, Bool.true_and, Bool.false_and, Bool.and_false, true_and, false_and, and_true, and_false] at hq ⊢; exact hq _ (mS_rf _) (frR_rf _)
  | true =>
    obtain ⟨k, hk, rfl⟩ := ikt (by omega) c
    have hk10 : k < 10 := by omega
    simp only [c, decide_true, decide_false, not_false_eq_true, not_true_eq_false, ↓reduceIte, Bool.false_eq_true, Bool.and_true, Bool.true_and, Bool.false_and, Bool.and_false, true_and, false_and, and_true, and_false, xN_n (show k < 100000 by omega)] at hq ⊢
    simp only [bX6_snaps_14, bX6_snaps_19, bX6_snaps_22, bX6_snaps_28, k6_isSnapped (show 2 ≤ 10 by omega) (G66 G _) hk10, mv66, t59, r590, r594, r595, r596, r599, t60, l60, v0, c0, c1, c2, c3, k6_isKey (show 2 ≤ 10 by omega) (e0 _) k10, k6_isMachine (show 2 ≤ 10 by omega) (e1 _) m5, k6_no (show 1 ≤ 10 by omega) rc1, k6_no (show 1 ≤ 10 by omega) rc2, k6_no (show 1 ≤ 10 by omega) rc3, k6_no (show 1 ≤ 10 by omega) rc4, k6_no (show 1 ≤ 10 by omega) rc6, k6_isTooth (show 2 ≤ 10 by omega), k6_isIn (show 1 ≤ 10 by omega), k6_wrong (show 1 ≤ 10 by omega), isin_01, bz0, ite_bz, e0, e1, Option.toList_some, Option.toList_none, List.cons_append, List.nil_append, and_assoc, exists_and_left, exists_eq_left, true_and, and_true, Nat.reduceLeDiff, not_false_eq_true, not_true_eq_false, ↓reduceIte, eq_self, ← Int32.not_lt, ite_not, Classical.not_not]
    cases z : snb (mv 60 h) k with
    | true => simp only [z, decide_true, decide_false, not_false_eq_true, not_true_eq_false, ↓reduceIte, Bool.false_eq_true, Bool.and_true, Bool.true_and, Bool.false_and, Bool.and_false, true_and, false_and, and_true, and_false] at hq ⊢; exact hq _ (mS_rf _) (frR_rf _)
    | false =>
      simp only [z, decide_true, decide_false, not_false_eq_true, not_true_eq_false, ↓reduceIte, Bool.false_eq_true, Bool.and_true, Bool.true_and, Bool.false_and, Bool.and_false, true_and, false_and, and_true, and_false] at hq ⊢
      have ew : mPut (mPut h 66 x0) 60 (upd (h 60) (9 + 7 * k + 6) 1) = mPut (mPut h 60 (upd (h 60) (9 + 7 * k + 6) 1)) 66 x0 := by rw [mPut_comm _ _ _ (by omega)]
      have em : mvf (upd (h 60) (9 + 7 * k + 6) 1) = upd (mv 60 h) (9 + 7 * k + 6) 1 := mvf_u (by omega) 1
      simp only [bX6_snaps_29, bX6_snaps_39, bX6_snaps_41, k6_of6 (show 1 ≤ 10 by omega), v89 (show 9 + 7 * k + 6 < 89 by omega), nI_cl (show 9 + 7 * k + 6 < 100 by omega), q60, ew, t59, r590, r594, r595, r596, r599, t60, l60, v0, c0, c1, c2, c3, k6_isKey (show 2 ≤ 10 by omega) (e0 _) k10, k6_isMachine (show 2 ≤ 10 by omega) (e1 _) m5, k6_no (show 1 ≤ 10 by omega) rc1, k6_no (show 1 ≤ 10 by omega) rc2, k6_no (show 1 ≤ 10 by omega) rc3, k6_no (show 1 ≤ 10 by omega) rc4, k6_no (show 1 ≤ 10 by omega) rc6, k6_isTooth (show 2 ≤ 10 by omega), k6_isIn (show 1 ≤ 10 by omega), k6_wrong (show 1 ≤ 10 by omega), isin_01, bz0, ite_bz, e0, e1, Option.toList_some, Option.toList_none, List.cons_append, List.nil_append, and_assoc, exists_and_left, exists_eq_left, true_and, and_true, Nat.reduceLeDiff, not_false_eq_true, not_true_eq_false, ↓reduceIte, eq_self, ← Int32.not_lt, ite_not, Classical.not_not]
      have hq := hq (mPut (mPut h 60 (upd (h 60) (9 + 7 * k + 6) 1)) 66 x0) (by rw [mS_6066, em]) frR_6066
      have G2 : gdN (mv 60 (mPut (mPut h 60 (upd (h 60) (9 + 7 * k + 6) 1)) 66 x0)) K M := by rw [mv66, mv_f, em]; exact gd_o G (Or.inr (Or.inr (Or.inl ⟨by omega, by omega, by omega, Or.inr rfl⟩)))
      have eσ : mv 60 (mPut (mPut h 60 (upd (h 60) (9 + 7 * k + 6) 1)) 66 x0) = upd (mv 60 h) (9 + 7 * k + 6) 1 := by rw [mv66, mv_f, em]
      have x00 : mPut (mPut h 60 (upd (h 60) (9 + 7 * k + 6) 1)) 66 x0 60 0 = nI K := G2.s0
      generalize mPut (mPut h 60 (upd (h 60) (9 + 7 * k + 6) 1)) 66 x0 = w at hq G2 eσ x00 ⊢
      refine wl (fun i => WP 10 eX6_snaps Q 45 [.ref 59, .int (nI k), .int (nI (ct (fun i => !snb (upd (mv 60 h) (9 + 7 * k + 6) 1) i) i)), .int (nI i)] [] w) K ?_ K 0 (by omega) ?_
      · intro i hi hw
        rw [ct] at hw
        rw [bX6_snaps_45]
        simp only [bX6_snaps_55, bX6_snaps_61, bX6_snaps_64, bX6_snaps_68, bX6_snaps_69, t59, r590, t60, l60, v0, c0, x00, nlt (show i ≤ 100000 by omega) (show K ≤ 100000 by omega), hi, k6_isSnapped (show 2 ≤ 10 by omega) G2 (show i < 10 by omega), eσ, bz0, ite_bz, nI_1, Option.toList_some, Option.toList_none, List.cons_append, List.nil_append, and_assoc, exists_and_left, exists_eq_left, true_and, and_true, Nat.reduceLeDiff, not_false_eq_true, not_true_eq_false, ↓reduceIte, eq_self, ← Int32.not_lt, ite_not, Classical.not_not]
        cases c : snb (upd (mv 60 h) (9 + 7 * k + 6) 1) i <;> simp only [c, decide_true, decide_false, not_false_eq_true, not_true_eq_false, ↓reduceIte, Bool.false_eq_true, Bool.and_true, Bool.true_and, Bool.false_and, Bool.and_false, true_and, false_and, and_true, and_false, Bool.not_false, Bool.not_true, nI_1, Int32.add_zero, Nat.add_zero] at hw ⊢ <;> exact hw
      · simp only [bX6_snaps_45, bX6_snaps_77, t59, r590, t60, l60, v0, c0, x00, nlt (show K ≤ 100000 by omega) (show K ≤ 100000 by omega), Nat.lt_irrefl, Option.toList_some, Option.toList_none, List.cons_append, List.nil_append, and_assoc, exists_and_left, exists_eq_left, true_and, and_true, Nat.reduceLeDiff, not_false_eq_true, not_true_eq_false, ↓reduceIte, eq_self, ← Int32.not_lt, ite_not, Classical.not_not]
        exact hq
theorem r_opening : KR eX6_opening [] f_opening := by
  refine KR_of66 rfl (fun h K M GS G Q hq x0 => ?_)
  show WP 10 eX6_opening Q 0 [.ref 59, mU, mU] [] (mPut h 66 x0)
  have g0 : mv 60 h 0 = nI K := G.s0
  have g1 : mv 60 h 1 = nI M := G.s1
  have e0 : ∀ x, mPut h 66 x 60 0 = nI K := fun x => by rw [q60]; exact G.s0
  have e1 : ∀ x, mPut h 66 x 60 1 = nI M := fun x => by rw [q60]; exact G.s1
  have k10 := G.k10
  have m5 := G.m5
  have gk := gdkN G
  have gm := gdmN G
  unfold f_opening at hq
  simp only [mS_1, mS_if, mS_im, mS_ln, mS_l, mS_rn, mS_r, mS_q, g0, g1, bno, gk, gm] at hq
  simp only [bX6_opening_0]
  refine wl (fun i => ∀ x, WP 10 eX6_opening Q 4 [.ref 59, .int (nI (nb (opb (mv 60 h)) i)), .int (nI i)] [] (mPut h 66 x)) K ?_ K 0 (by omega) ?_ x0
  · intro i hi hw x
    have e := nb_n (opb (mv 60 h)) (show i < 31 by omega)
    rw [bX6_opening_4]
    simp only [bX6_opening_14, bX6_opening_20, bX6_opening_23, bX6_opening_29, bX6_opening_30, nlt (show i ≤ 100000 by omega) (show K ≤ 100000 by omega), hi, k6_opens (show 4 ≤ 10 by omega) G (show i < 10 by omega), nI_1, t59, r590, r594, r595, r596, r599, t60, l60, v0, c0, c1, c2, c3, k6_isKey (show 2 ≤ 10 by omega) (e0 _) k10, k6_isMachine (show 2 ≤ 10 by omega) (e1 _) m5, k6_no (show 1 ≤ 10 by omega) rc1, k6_no (show 1 ≤ 10 by omega) rc2, k6_no (show 1 ≤ 10 by omega) rc3, k6_no (show 1 ≤ 10 by omega) rc4, k6_no (show 1 ≤ 10 by omega) rc6, k6_isTooth (show 2 ≤ 10 by omega), k6_isIn (show 1 ≤ 10 by omega), k6_wrong (show 1 ≤ 10 by omega), isin_01, bz0, ite_bz, e0, e1, Option.toList_some, Option.toList_none, List.cons_append, List.nil_append, and_assoc, exists_and_left, exists_eq_left, true_and, and_true, Nat.reduceLeDiff, not_false_eq_true, not_true_eq_false, ↓reduceIte, eq_self, ← Int32.not_lt, ite_not, Classical.not_not]
    cases c : opb (mv 60 h) i <;> simp only [c, decide_true, decide_false, not_false_eq_true, not_true_eq_false, ↓reduceIte, Bool.false_eq_true, Bool.and_true, Bool.true_and, Bool.false_and, Bool.and_false, true_and, false_and, and_true, and_false] at e ⊢ <;> rw [e] <;> exact hw _
  · intro x
    simp only [bX6_opening_4, bX6_opening_38, nlt (show K ≤ 100000 by omega) (show K ≤ 100000 by omega), Nat.lt_irrefl, t59, r590, r594, r595, r596, r599, t60, l60, v0, c0, c1, c2, c3, k6_isKey (show 2 ≤ 10 by omega) (e0 _) k10, k6_isMachine (show 2 ≤ 10 by omega) (e1 _) m5, k6_no (show 1 ≤ 10 by omega) rc1, k6_no (show 1 ≤ 10 by omega) rc2, k6_no (show 1 ≤ 10 by omega) rc3, k6_no (show 1 ≤ 10 by omega) rc4, k6_no (show 1 ≤ 10 by omega) rc6, k6_isTooth (show 2 ≤ 10 by omega), k6_isIn (show 1 ≤ 10 by omega), k6_wrong (show 1 ≤ 10 by omega), isin_01, bz0, ite_bz, e0, e1, Option.toList_some, Option.toList_none, List.cons_append, List.nil_append, and_assoc, exists_and_left, exists_eq_left, true_and, and_true, Nat.reduceLeDiff, not_false_eq_true, not_true_eq_false, ↓reduceIte, eq_self, ← Int32.not_lt, ite_not, Classical.not_not]
    exact hq _ mS_66 frR_66
theorem jmx0 {x : Int32} (hx : is99 x) : jmx 0 x = x := by
  obtain ⟨n, hn, rfl⟩ := hx
  unfold jmx
  split
  · rfl
  · rename_i q
    rw [show (0 : Int32) = nI 0 from rfl, nlt (by omega) (by omega)] at q
    rw [show n = 0 by omega, nI_0]
theorem fiA_ft {f p : Nat → Int32} (hf : r99 f) (hp : r99 p) : fiA f p = ftA f p := by
  have st : ∀ t, jmx (ap (f (wst f p t)) (p (wst f p t))) (ap (f (t + 1)) (p (t + 1))) = ap (f (wst f p (t + 1))) (p (wst f p (t + 1))) := fun t => by
    rw [wst]
    unfold jmx
    split <;> rfl
  unfold fiA ftA
  rw [jmx0 (ap_99 (hf 0 (by omega)) (hp 0 (by omega)))]
  rw [show ap (f 0) (p 0) = ap (f (wst f p 0)) (p (wst f p 0)) from rfl, st 0, st 1, st 2, st 3]
theorem r_fit (x : Int32) : KR eX6_fit [.int x] (f_fit x) := by
  refine KR_of66 rfl (fun h K M GS G Q hq x0 => ?_)
  show WP 10 eX6_fit Q 0 [.ref 59, .int x] [] (mPut h 66 x0)
  have g0 : mv 60 h 0 = nI K := G.s0
  have g1 : mv 60 h 1 = nI M := G.s1
  have e0 : ∀ x, mPut h 66 x 60 0 = nI K := fun x => by rw [q60]; exact G.s0
  have e1 : ∀ x, mPut h 66 x 60 1 = nI M := fun x => by rw [q60]; exact G.s1
  have k10 := G.k10
  have m5 := G.m5
  have gk := gdkN G
  have gm := gdmN G
  unfold f_fit at hq
  simp only [mS_1, mS_if, mS_im, mS_ln, mS_l, mS_rn, mS_r, mS_q, g0, g1, bno, gk, gm] at hq
  simp only [bX6_fit_0, bX6_fit_5, bX6_fit_8, bX6_fit_13, t59, r590, r594, r595, r596, r599, t60, l60, v0, c0, c1, c2, c3, k6_isKey (show 2 ≤ 10 by omega) (e0 _) k10, k6_isMachine (show 2 ≤ 10 by omega) (e1 _) m5, k6_no (show 1 ≤ 10 by omega) rc1, k6_no (show 1 ≤ 10 by omega) rc2, k6_no (show 1 ≤ 10 by omega) rc3, k6_no (show 1 ≤ 10 by omega) rc4, k6_no (show 1 ≤ 10 by omega) rc6, k6_isTooth (show 2 ≤ 10 by omega), k6_isIn (show 1 ≤ 10 by omega), k6_wrong (show 1 ≤ 10 by omega), isin_01, bz0, ite_bz, e0, e1, Option.toList_some, Option.toList_none, List.cons_append, List.nil_append, and_assoc, exists_and_left, exists_eq_left, true_and, and_true, Nat.reduceLeDiff, not_false_eq_true, not_true_eq_false, ↓reduceIte, eq_self, ← Int32.not_lt, ite_not, Classical.not_not]
  cases c : ik x (nI K) with
  | false => simp only [c, decide_true, decide_false, not_false_eq_true, not_true_eq_false, ↓reduceIte, Bool.false_eq_true, Bool.and_true, Bool.true_and, Bool.false_and, Bool.and_false, true_and, false_and, and_true, and_false] at hq ⊢; exact hq _ (mS_rf _) (frR_rf _)
  | true =>
    obtain ⟨k, hk, rfl⟩ := ikt (by omega) c
    have hk10 : k < 10 := by omega
    simp only [c, decide_true, decide_false, not_false_eq_true, not_true_eq_false, ↓reduceIte, Bool.false_eq_true, Bool.and_true, Bool.true_and, Bool.false_and, Bool.and_false, true_and, false_and, and_true, and_false, xN_n (show k < 100000 by omega)] at hq ⊢
    simp only [bX6_fit_14, bX6_fit_19, bX6_fit_23, t59, k6_takes (show 2 ≤ 10 by omega) hk10, k6_fitIn (show 2 ≤ 10 by omega), fiA_ft (G.r hk10) G.p, Option.toList_some, Option.toList_none, List.cons_append, List.nil_append, and_assoc, exists_and_left, exists_eq_left, true_and, and_true, Nat.reduceLeDiff, not_false_eq_true, not_true_eq_false, ↓reduceIte, eq_self, ← Int32.not_lt, ite_not, Classical.not_not]
    exact hq _ mS_66 frR_66
theorem r_nearest : KR eX6_nearest [] f_nearest := by
  refine KR_of66 rfl (fun h K M GS G Q hq x0 => ?_)
  show WP 10 eX6_nearest Q 0 [.ref 59, mU, mU] [] (mPut h 66 x0)
  have g0 : mv 60 h 0 = nI K := G.s0
  have g1 : mv 60 h 1 = nI M := G.s1
  have e0 : ∀ x, mPut h 66 x 60 0 = nI K := fun x => by rw [q60]; exact G.s0
  have e1 : ∀ x, mPut h 66 x 60 1 = nI M := fun x => by rw [q60]; exact G.s1
  have k10 := G.k10
  have m5 := G.m5
  have gk := gdkN G
  have gm := gdmN G
  unfold f_nearest at hq
  simp only [mS_1, mS_if, mS_im, mS_ln, mS_l, mS_rn, mS_r, mS_q, g0, g1, bno, gk, gm] at hq
  simp only [bX6_nearest_0]
  refine wl (fun i => ∀ x, WP 10 eX6_nearest Q 5 [.ref 59, .int (on (bst (fun k => !snb (mv 60 h) k) (wgk (mv 60 h)) i)), .int (nI i)] [] (mPut h 66 x)) K ?_ K 0 (by omega) ?_ x0
  · intro i hi hw x
    have i10 : i < 10 := by omega
    have hw := hw
    rw [bst] at hw
    rw [bX6_nearest_5]
    simp only [bX6_nearest_15, bX6_nearest_20, bX6_nearest_23, bX6_nearest_40, bX6_nearest_42, nlt (show i ≤ 100000 by omega) (show K ≤ 100000 by omega), hi, k6_isSnapped (show 2 ≤ 10 by omega) (G66 G _) i10, mv66, nI_1, t59, r590, r594, r595, r596, r599, t60, l60, v0, c0, c1, c2, c3, k6_isKey (show 2 ≤ 10 by omega) (e0 _) k10, k6_isMachine (show 2 ≤ 10 by omega) (e1 _) m5, k6_no (show 1 ≤ 10 by omega) rc1, k6_no (show 1 ≤ 10 by omega) rc2, k6_no (show 1 ≤ 10 by omega) rc3, k6_no (show 1 ≤ 10 by omega) rc4, k6_no (show 1 ≤ 10 by omega) rc6, k6_isTooth (show 2 ≤ 10 by omega), k6_isIn (show 1 ≤ 10 by omega), k6_wrong (show 1 ≤ 10 by omega), isin_01, bz0, ite_bz, e0, e1, Option.toList_some, Option.toList_none, List.cons_append, List.nil_append, and_assoc, exists_and_left, exists_eq_left, true_and, and_true, Nat.reduceLeDiff, not_false_eq_true, not_true_eq_false, ↓reduceIte, eq_self, ← Int32.not_lt, ite_not, Classical.not_not]
    cases c : snb (mv 60 h) i with
    | true => simp only [c, decide_true, decide_false, not_false_eq_true, not_true_eq_false, ↓reduceIte, Bool.false_eq_true, Bool.and_true, Bool.true_and, Bool.false_and, Bool.and_false, true_and, false_and, and_true, and_false, Bool.not_true] at hw ⊢; exact hw _
    | false =>
      simp only [c, decide_true, decide_false, not_false_eq_true, not_true_eq_false, ↓reduceIte, Bool.false_eq_true, Bool.and_true, Bool.true_and, Bool.false_and, Bool.and_false, true_and, false_and, and_true, and_false, Bool.not_false] at hw ⊢
      cases e : bst (fun k => !snb (mv 60 h) k) (wgk (mv 60 h)) i with
      | none => simp only [e, on, show (-9 : Int32) < 0 by decide, decide_true, decide_false, not_false_eq_true, not_true_eq_false, ↓reduceIte, Bool.false_eq_true, Bool.and_true, Bool.true_and, Bool.false_and, Bool.and_false, true_and, false_and, and_true, and_false] at hw ⊢; exact hw _
      | some b =>
        have hb := bst_lt e
        simp only [e, on, nnn (show b ≤ 100000 by omega), decide_true, decide_false, not_false_eq_true, not_true_eq_false, ↓reduceIte, Bool.false_eq_true, Bool.and_true, Bool.true_and, Bool.false_and, Bool.and_false, true_and, false_and, and_true, and_false] at hw ⊢
        simp only [bX6_nearest_27, bX6_nearest_32, bX6_nearest_37, bX6_nearest_40, bX6_nearest_42, t59, k6_wiggleOf (show 3 ≤ 10 by omega) i10, k6_wiggleOf (show 3 ≤ 10 by omega) (show b < 10 by omega), nI_1, Option.toList_some, Option.toList_none, List.cons_append, List.nil_append, and_assoc, exists_and_left, exists_eq_left, true_and, and_true, Nat.reduceLeDiff, not_false_eq_true, not_true_eq_false, ↓reduceIte, eq_self, ← Int32.not_lt, ite_not, Classical.not_not]
        by_cases c2 : wgk (mv 60 h) i < wgk (mv 60 h) b <;> simp only [c2, decide_true, decide_false, not_false_eq_true, not_true_eq_false, ↓reduceIte, Bool.false_eq_true, Bool.and_true, Bool.true_and, Bool.false_and, Bool.and_false, true_and, false_and, and_true, and_false] at hw ⊢ <;> exact hw _
  · intro x
    simp only [bX6_nearest_5, bX6_nearest_48, nlt (show K ≤ 100000 by omega) (show K ≤ 100000 by omega), Nat.lt_irrefl, t59, r590, r594, r595, r596, r599, t60, l60, v0, c0, c1, c2, c3, k6_isKey (show 2 ≤ 10 by omega) (e0 _) k10, k6_isMachine (show 2 ≤ 10 by omega) (e1 _) m5, k6_no (show 1 ≤ 10 by omega) rc1, k6_no (show 1 ≤ 10 by omega) rc2, k6_no (show 1 ≤ 10 by omega) rc3, k6_no (show 1 ≤ 10 by omega) rc4, k6_no (show 1 ≤ 10 by omega) rc6, k6_isTooth (show 2 ≤ 10 by omega), k6_isIn (show 1 ≤ 10 by omega), k6_wrong (show 1 ≤ 10 by omega), isin_01, bz0, ite_bz, e0, e1, Option.toList_some, Option.toList_none, List.cons_append, List.nil_append, and_assoc, exists_and_left, exists_eq_left, true_and, and_true, Nat.reduceLeDiff, not_false_eq_true, not_true_eq_false, ↓reduceIte, eq_self, ← Int32.not_lt, ite_not, Classical.not_not]
    exact hq _ mS_66 frR_66
