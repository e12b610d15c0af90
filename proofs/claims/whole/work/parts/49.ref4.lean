section R4
variable {h : mH} {K M : Nat}
theorem k6_isHeir {d k a : Nat} (hd : 3 ≤ d) (G : gdN (mv 60 h) K M) (hk : k < K) (ha : a < 100) (r : Option Value) (h' : mH) : Cal d eX6_isHeir [.ref 59, .int (nI k), .int (nI a)] h r h' ↔ r = some (.int (bz (heir (mv 60 h) k a))) ∧ h' = h := by
  refine Cal_iff (Cal_le (d := 3) (Cal_of rfl (fun Q hq => ?_)) hd) r h'
  show WP 2 eX6_isHeir Q 0 [.ref 59, .int (nI k), .int (nI a), mU] [] h
  have k10 := G.k10
  have key : ∀ k, k < K → Q (some (.int (bz (heir (mv 60 h) k a)))) h → ∀ u, WP 2 eX6_isHeir Q 2 [.ref 59, u, .int (nI a), .int (nI k)] [] h := by
    intro k
    induction k using Nat.strongRecOn with
    | ind k ih =>
      intro hk hq u
      rw [heir_eq G hk] at hq
      rw [bX6_isHeir_2]
      simp only [bX6_isHeir_6, nnn (show k ≤ 100000 by omega), neq (show k ≤ 100000 by omega) (show a ≤ 100000 by omega), Option.toList_some, Option.toList_none, List.cons_append, List.nil_append, and_assoc, exists_and_left, exists_eq_left, true_and, and_true, Nat.reduceLeDiff, not_false_eq_true, not_true_eq_false, ↓reduceIte, eq_self, ← Int32.not_lt, ite_not, Classical.not_not]
      by_cases c : k = a
      · simp only [c, decide_true, decide_false, not_false_eq_true, not_true_eq_false, ↓reduceIte, Bool.false_eq_true, Bool.and_true, Bool.true_and, Bool.false_and, Bool.and_false, true_and, false_and, and_true, and_false, Bool.true_or] at hq ⊢
        simp only [bX6_isHeir_20, bX6_isHeir_24, bX6_isHeir_29, nnn (show a ≤ 100000 by omega), nb1, Option.toList_some, Option.toList_none, List.cons_append, List.nil_append, and_assoc, exists_and_left, exists_eq_left, true_and, and_true, Nat.reduceLeDiff, not_false_eq_true, not_true_eq_false, ↓reduceIte, eq_self, ← Int32.not_lt, ite_not, Classical.not_not]
        exact hq
      · simp only [c, show ¬ a = k from fun z => c z.symm, decide_true, decide_false, not_false_eq_true, not_true_eq_false, ↓reduceIte, Bool.false_eq_true, Bool.and_true, Bool.true_and, Bool.false_and, Bool.and_false, true_and, false_and, and_true, and_false, Bool.false_or] at hq ⊢
        simp only [bX6_isHeir_11, bX6_isHeir_16, t59, k6_fromOf (Nat.le_refl 2) (show k < 10 by omega), Option.toList_some, Option.toList_none, List.cons_append, List.nil_append, and_assoc, exists_and_left, exists_eq_left, true_and, and_true, Nat.reduceLeDiff, not_false_eq_true, not_true_eq_false, ↓reduceIte, eq_self, ← Int32.not_lt, ite_not, Classical.not_not]
        rcases par_gd G hk with ⟨e1, e⟩ | ⟨j, hj, e1, e⟩
        · rw [e] at hq
          rw [e1]
          simp only [bX6_isHeir_2, bX6_isHeir_20, bX6_isHeir_28, bX6_isHeir_29, show (-9 : Int32) < 0 by decide, nb0, Option.toList_some, Option.toList_none, List.cons_append, List.nil_append, and_assoc, exists_and_left, exists_eq_left, true_and, and_true, Nat.reduceLeDiff, not_false_eq_true, not_true_eq_false, ↓reduceIte, eq_self, ← Int32.not_lt, ite_not, Classical.not_not]
          exact hq
        · rw [e] at hq
          rw [e1]
          exact ih j hj (by omega) hq _
  rw [bX6_isHeir_0]
  exact key k hk hq _
theorem k6_depthOf {d k : Nat} (hd : 3 ≤ d) (G : gdN (mv 60 h) K M) (hk : k < K) (r : Option Value) (h' : mH) : Cal d eX6_depthOf [.ref 59, .int (nI k)] h r h' ↔ r = some (.int (nI (dep (mv 60 h) 9 k))) ∧ h' = h := by
  refine Cal_iff (Cal_le (d := 3) (Cal_of rfl (fun Q hq => ?_)) hd) r h'
  show WP 2 eX6_depthOf Q 0 [.ref 59, .int (nI k), mU, mU] [] h
  have k10 := G.k10
  have key : ∀ (n k c : Nat), k < K → k ≤ n → Q (some (.int (nI (c + dep (mv 60 h) n k)))) h → ∀ u, WP 2 eX6_depthOf Q 8 [.ref 59, u, .int (nI c), .int (mv 60 h (9 + 7 * k + 5))] [] h := by
    intro n
    induction n with
    | zero =>
      intro k c hk hn hq u
      rcases par_gd G hk with ⟨e1, e⟩ | ⟨j, hj, e1, e⟩
      · rw [e1]
        simp only [bX6_depthOf_8, bX6_depthOf_24, show (-9 : Int32) < 0 by decide, Option.toList_some, Option.toList_none, List.cons_append, List.nil_append, and_assoc, exists_and_left, exists_eq_left, true_and, and_true, Nat.reduceLeDiff, not_false_eq_true, not_true_eq_false, ↓reduceIte, eq_self, ← Int32.not_lt, ite_not, Classical.not_not]
        exact hq
      · omega
    | succ n ih =>
      intro k c hk hn hq u
      rw [dep] at hq
      rcases par_gd G hk with ⟨e1, e⟩ | ⟨j, hj, e1, e⟩
      · rw [e] at hq
        rw [e1]
        simp only [bX6_depthOf_8, bX6_depthOf_24, show (-9 : Int32) < 0 by decide, Option.toList_some, Option.toList_none, List.cons_append, List.nil_append, and_assoc, exists_and_left, exists_eq_left, true_and, and_true, Nat.reduceLeDiff, not_false_eq_true, not_true_eq_false, ↓reduceIte, eq_self, ← Int32.not_lt, ite_not, Classical.not_not]
        exact hq
      · rw [e] at hq
        rw [e1, bX6_depthOf_8]
        simp only [bX6_depthOf_12, bX6_depthOf_20, nnn (show j ≤ 100000 by omega), t59, k6_fromOf (Nat.le_refl 2) (show j < 10 by omega), nI_1, Option.toList_some, Option.toList_none, List.cons_append, List.nil_append, and_assoc, exists_and_left, exists_eq_left, true_and, and_true, Nat.reduceLeDiff, not_false_eq_true, not_true_eq_false, ↓reduceIte, eq_self, ← Int32.not_lt, ite_not, Classical.not_not]
        exact ih j (c + 1) (by omega) (by omega) (by rw [Nat.add_assoc]; exact hq) _
  simp only [bX6_depthOf_0, bX6_depthOf_7, t59, k6_fromOf (Nat.le_refl 2) (show k < 10 by omega), Option.toList_some, Option.toList_none, List.cons_append, List.nil_append, and_assoc, exists_and_left, exists_eq_left, true_and, and_true, Nat.reduceLeDiff, not_false_eq_true, not_true_eq_false, ↓reduceIte, eq_self, ← Int32.not_lt, ite_not, Classical.not_not]
  exact key 9 k 0 hk (by omega) (by rw [Nat.zero_add]; exact hq) _
theorem chd_from {σ : Nat → Int32} (G : gdN σ K M) {i k : Nat} (hi : i < K) (hk : k < 100) : chd σ k i = decide (σ (9 + 7 * i + 5) = nI k) := by
  have k10 := G.k10
  unfold chd
  rcases par_gd G hi with ⟨e1, e⟩ | ⟨j, hj, e1, e⟩
  · rw [e, e1]
    have := nm9 (show k ≤ 100000 by omega)
    simp [Ne.symm (show nI k ≠ -9 from this)]
  · rw [e, e1, decide_eq_decide, neq (by omega) (by omega)]
    exact Option.some_inj
theorem k6_heirs {d k : Nat} (hd : 4 ≤ d) (G : gdN (mv 60 h) K M) (hk : k < K) (r : Option Value) (h' : mH) : Cal d eX6_heirs [.ref 59, .int (nI k)] h r h' ↔ r = some (.int (nI (nb (fun a => heir (mv 60 h) a k) K))) ∧ h' = h := by
  refine Cal_iff (Cal_le (d := 4) (Cal_of rfl (fun Q hq => ?_)) hd) r h'
  show WP 3 eX6_heirs Q 0 [.ref 59, .int (nI k), mU, mU] [] h
  have k10 := G.k10
  have e0 : h 60 0 = nI K := G.s0
  simp only [bX6_heirs_0]
  refine wl (fun i => WP 3 eX6_heirs Q 4 [.ref 59, .int (nI k), .int (nI (nb (fun a => heir (mv 60 h) a k) i)), .int (nI i)] [] h) K ?_ K 0 (by omega) ?_
  · intro i hi hw
    have e := nb_n (fun a => heir (mv 60 h) a k) (show i < 31 by omega)
    rw [bX6_heirs_4]
    simp only [bX6_heirs_14, bX6_heirs_21, bX6_heirs_24, bX6_heirs_30, bX6_heirs_31, t59, r590, t60, l60, v0, c0, e0, nlt (show i ≤ 100000 by omega) (show K ≤ 100000 by omega), hi, k6_isHeir (Nat.le_refl 3) G hi (show k < 100 by omega), bz0, ite_bz, nI_1, Option.toList_some, Option.toList_none, List.cons_append, List.nil_append, and_assoc, exists_and_left, exists_eq_left, true_and, and_true, Nat.reduceLeDiff, not_false_eq_true, not_true_eq_false, ↓reduceIte, eq_self, ← Int32.not_lt, ite_not, Classical.not_not]
    cases c : heir (mv 60 h) i k <;> simp only [c, decide_true, decide_false, not_false_eq_true, not_true_eq_false, ↓reduceIte, Bool.false_eq_true, Bool.and_true, Bool.true_and, Bool.false_and, Bool.and_false, true_and, false_and, and_true, and_false] at e ⊢ <;> rw [e] <;> exact hw
  · simp only [bX6_heirs_4, bX6_heirs_39, t59, r590, t60, l60, v0, c0, e0, nlt (show K ≤ 100000 by omega) (show K ≤ 100000 by omega), Nat.lt_irrefl, Option.toList_some, Option.toList_none, List.cons_append, List.nil_append, and_assoc, exists_and_left, exists_eq_left, true_and, and_true, Nat.reduceLeDiff, not_false_eq_true, not_true_eq_false, ↓reduceIte, eq_self, ← Int32.not_lt, ite_not, Classical.not_not]
    exact hq
theorem k6_lineOf {d k : Nat} (hd : 5 ≤ d) (G : gdN (mv 60 h) K M) (hk : k < K) (x0 : Nat → Int32) : ∃ g, Cal d eX6_lineOf [.ref 59, .int (nI k)] (mPut h 66 x0) (some (.int (nI (lin (mv 60 h) K k)))) (mPut h 66 g) := by
  have k10 := G.k10
  have e0 : ∀ x, mPut h 66 x 60 0 = nI K := fun x => by rw [q60]; exact G.s0
  obtain ⟨h', ⟨g, e⟩, hc⟩ := Cal_pr (d := 4) (D := d) (E := eX6_lineOf) (as := [.ref 59, .int (nI k)]) (h := mPut h 66 x0) (r := some (.int (nI (lin (mv 60 h) K k)))) (P := fun h' => ∃ g, h' = mPut h 66 g) hd rfl (fun Q hq => by
    show WP 4 eX6_lineOf Q 0 [.ref 59, .int (nI k), mU, mU] [] (mPut h 66 x0)
    simp only [bX6_lineOf_0]
    refine wl (fun i => ∀ x, WP 4 eX6_lineOf Q 4 [.ref 59, .int (nI k), .int (nI (ct (fun a => heir (mv 60 h) a k && opb (mv 60 h) a) i)), .int (nI i)] [] (mPut h 66 x)) K ?_ K 0 (by omega) ?_ x0
    · intro i hi hw x
      have hw := hw
      rw [ct] at hw
      rw [bX6_lineOf_4]
      simp only [bX6_lineOf_14, bX6_lineOf_21, bX6_lineOf_24, bX6_lineOf_29, bX6_lineOf_32, bX6_lineOf_36, bX6_lineOf_37, t59, r590, t60, l60, v0, c0, e0, nlt (show i ≤ 100000 by omega) (show K ≤ 100000 by omega), hi, k6_isHeir (show 3 ≤ 4 by omega) (G66 G _) hi (show k < 100 by omega), mv66, k6_opens (Nat.le_refl 4) G (show i < 10 by omega), bz0, ite_bz, nI_1, Option.toList_some, Option.toList_none, List.cons_append, List.nil_append, and_assoc, exists_and_left, exists_eq_left, true_and, and_true, Nat.reduceLeDiff, not_false_eq_true, not_true_eq_false, ↓reduceIte, eq_self, ← Int32.not_lt, ite_not, Classical.not_not]
      cases c : heir (mv 60 h) i k
      · simp only [c, decide_true, decide_false, not_false_eq_true, not_true_eq_false, ↓reduceIte, Bool.false_eq_true, Bool.and_true, Bool.true_and, Bool.false_and, Bool.and_false, true_and, false_and, and_true, and_false, Int32.add_zero, Nat.add_zero] at hw ⊢; exact hw _
      · cases c2 : opb (mv 60 h) i <;> simp only [c, c2, decide_true, decide_false, not_false_eq_true, not_true_eq_false, ↓reduceIte, Bool.false_eq_true, Bool.and_true, Bool.true_and, Bool.false_and, Bool.and_false, true_and, false_and, and_true, and_false, nI_1, Int32.add_zero, Nat.add_zero] at hw ⊢ <;> exact hw _
    · intro x
      simp only [bX6_lineOf_4, bX6_lineOf_45, t59, r590, t60, l60, v0, c0, e0, nlt (show K ≤ 100000 by omega) (show K ≤ 100000 by omega), Nat.lt_irrefl, Option.toList_some, Option.toList_none, List.cons_append, List.nil_append, and_assoc, exists_and_left, exists_eq_left, true_and, and_true, Nat.reduceLeDiff, not_false_eq_true, not_true_eq_false, ↓reduceIte, eq_self, ← Int32.not_lt, ite_not, Classical.not_not]
      exact hq _ ⟨x, rfl⟩)
  subst e
  exact ⟨g, hc⟩
end R4
theorem isin_33 (x : Int32) : isin x 0 3 = ik x 4 := isin_ik (n := 4) (by omega)
theorem r_family (x w : Int32) : KR eX6_family [.int x, .int w] (f_family x w) := by
  refine KR_of66 rfl (fun h K M GS G Q hq x0 => ?_)
  show WP 10 eX6_family Q 0 [.ref 59, .int x, .int w, mU, mU, mU] [] (mPut h 66 x0)
  have g0 : mv 60 h 0 = nI K := G.s0
  have g1 : mv 60 h 1 = nI M := G.s1
  have e0 : ∀ x, mPut h 66 x 60 0 = nI K := fun x => by rw [q60]; exact G.s0
  have e1 : ∀ x, mPut h 66 x 60 1 = nI M := fun x => by rw [q60]; exact G.s1
  have k10 := G.k10
  have m5 := G.m5
  have gk := gdkN G
  have gm := gdmN G
  unfold f_family at hq
  simp only [mS_1, mS_if, mS_im, mS_ln, mS_l, mS_rn, mS_r, mS_q, g0, g1, bno, gk, gm] at hq
  simp only [bX6_family_0, bX6_family_5, bX6_family_8, bX6_family_13, bX6_family_14, bX6_family_20, bX6_family_23, bX6_family_29, isin_33, t59, r590, r594, r595, r596, r599, t60, l60, v0, c0, c1, c2, c3, k6_isKey (show 2 ≤ 10 by omega) (e0 _) k10, k6_isMachine (show 2 ≤ 10 by omega) (e1 _) m5, k6_no (show 1 ≤ 10 by omega) rc1, k6_no (show 1 ≤ 10 by omega) rc2, k6_no (show 1 ≤ 10 by omega) rc3, k6_no (show 1 ≤ 10 by omega) rc4, k6_no (show 1 ≤ 10 by omega) rc6, k6_isTooth (show 2 ≤ 10 by omega), k6_isIn (show 1 ≤ 10 by omega), k6_wrong (show 1 ≤ 10 by omega), isin_01, bz0, ite_bz, e0, e1, Option.toList_some, Option.toList_none, List.cons_append, List.nil_append, and_assoc, exists_and_left, exists_eq_left, true_and, and_true, Nat.reduceLeDiff, not_false_eq_true, not_true_eq_false, ↓reduceIte, eq_self, ← Int32.not_lt, ite_not, Classical.not_not]
  cases c : ik x (nI K) with
  | false => simp only [c, decide_true, decide_false, not_false_eq_true, not_true_eq_false, ↓reduceIte, Bool.false_eq_true, Bool.and_true, Bool.true_and, Bool.false_and, Bool.and_false, true_and, false_and, and_true, and_false] at hq ⊢; exact hq _ (mS_rf _) (frR_rf _)
  | true =>
    obtain ⟨k, hk, rfl⟩ := ikt (by omega) c
    simp only [c, decide_true, decide_false, not_false_eq_true, not_true_eq_false, ↓reduceIte, Bool.false_eq_true, Bool.and_true, Bool.true_and, Bool.false_and, Bool.and_false, true_and, false_and, and_true, and_false, xN_n (show k < 100000 by omega)] at hq ⊢
    cases c4 : ik w 4 with
    | false =>
      have w0 : ¬ w = 0 := fun z => by rw [z] at c4; exact absurd c4 (by decide)
      have w1 : ¬ w = 1 := fun z => by rw [z] at c4; exact absurd c4 (by decide)
      have w2 : ¬ w = 2 := fun z => by rw [z] at c4; exact absurd c4 (by decide)
      have w3 : ¬ w = 3 := fun z => by rw [z] at c4; exact absurd c4 (by decide)
      simp only [w0, w1, w2, w3, decide_true, decide_false, not_false_eq_true, not_true_eq_false, ↓reduceIte, Bool.false_eq_true, Bool.and_true, Bool.true_and, Bool.false_and, Bool.and_false, true_and, false_and, and_true, and_false] at hq ⊢; exact hq _ (mS_rf _) (frR_rf _)
    | true =>
      obtain ⟨t, ht, rfl⟩ := ikt (n := 4) (by omega) c4
      simp only [decide_true, decide_false, not_false_eq_true, not_true_eq_false, ↓reduceIte, Bool.false_eq_true, Bool.and_true, Bool.true_and, Bool.false_and, Bool.and_false, true_and, false_and, and_true, and_false]
      simp only [bX6_family_30, bX6_family_40, Option.toList_some, Option.toList_none, List.cons_append, List.nil_append, and_assoc, exists_and_left, exists_eq_left, true_and, and_true, Nat.reduceLeDiff, not_false_eq_true, not_true_eq_false, ↓reduceIte, eq_self, ← Int32.not_lt, ite_not, Classical.not_not]
      have rest : Q (some (.int (if nI t = 1 then nI (rot (mv 60 h) 9 k) else nI (ct (chd (mv 60 h) k) K)))) (mPut h 66 x0) → WP 10 eX6_family Q 51 [.ref 59, .int (nI k), .int (nI t), mU, mU, mU] [] (mPut h 66 x0) := by
        intro hv
        have lp2 : ∀ u, WP 10 eX6_family Q 73 [.ref 59, .int (nI k), .int (nI t), .int (nI (rot (mv 60 h) 9 k)), .int 0, u] [] (mPut h 66 x0) := by
          intro u
          rw [bX6_family_73]
          refine wl (fun i => WP 10 eX6_family Q 76 [.ref 59, .int (nI k), .int (nI t), .int (nI (rot (mv 60 h) 9 k)), .int (nI (ct (chd (mv 60 h) k) i)), .int (nI i)] [] (mPut h 66 x0)) K ?_ K 0 (by omega) ?_
          · intro i hi hw
            rw [ct, chd_from G hi (by omega)] at hw
            rw [bX6_family_76]
            simp only [bX6_family_87, bX6_family_95, bX6_family_99, bX6_family_103, bX6_family_104, nlt (show i ≤ 100000 by omega) (show K ≤ 100000 by omega), hi, k6_fromOf (show 2 ≤ 10 by omega) (show i < 10 by omega), mv66, nI_1, t59, r590, r594, r595, r596, r599, t60, l60, v0, c0, c1, c2, c3, k6_isKey (show 2 ≤ 10 by omega) (e0 _) k10, k6_isMachine (show 2 ≤ 10 by omega) (e1 _) m5, k6_no (show 1 ≤ 10 by omega) rc1, k6_no (show 1 ≤ 10 by omega) rc2, k6_no (show 1 ≤ 10 by omega) rc3, k6_no (show 1 ≤ 10 by omega) rc4, k6_no (show 1 ≤ 10 by omega) rc6, k6_isTooth (show 2 ≤ 10 by omega), k6_isIn (show 1 ≤ 10 by omega), k6_wrong (show 1 ≤ 10 by omega), isin_01, bz0, ite_bz, e0, e1, Option.toList_some, Option.toList_none, List.cons_append, List.nil_append, and_assoc, exists_and_left, exists_eq_left, true_and, and_true, Nat.reduceLeDiff, not_false_eq_true, not_true_eq_false, ↓reduceIte, eq_self, ← Int32.not_lt, ite_not, Classical.not_not]
            by_cases cc : mv 60 h (9 + 7 * i + 5) = nI k <;> simp only [cc, decide_true, decide_false, not_false_eq_true, not_true_eq_false, ↓reduceIte, Bool.false_eq_true, Bool.and_true, Bool.true_and, Bool.false_and, Bool.and_false, true_and, false_and, and_true, and_false, nI_1, Int32.add_zero, Nat.add_zero] at hw ⊢ <;> exact hw
          · simp only [bX6_family_76, bX6_family_113, bX6_family_118, bX6_family_122, bX6_family_124, nlt (show K ≤ 100000 by omega) (show K ≤ 100000 by omega), Nat.lt_irrefl, t59, r590, r594, r595, r596, r599, t60, l60, v0, c0, c1, c2, c3, k6_isKey (show 2 ≤ 10 by omega) (e0 _) k10, k6_isMachine (show 2 ≤ 10 by omega) (e1 _) m5, k6_no (show 1 ≤ 10 by omega) rc1, k6_no (show 1 ≤ 10 by omega) rc2, k6_no (show 1 ≤ 10 by omega) rc3, k6_no (show 1 ≤ 10 by omega) rc4, k6_no (show 1 ≤ 10 by omega) rc6, k6_isTooth (show 2 ≤ 10 by omega), k6_isIn (show 1 ≤ 10 by omega), k6_wrong (show 1 ≤ 10 by omega), isin_01, bz0, ite_bz, e0, e1, Option.toList_some, Option.toList_none, List.cons_append, List.nil_append, and_assoc, exists_and_left, exists_eq_left, true_and, and_true, Nat.reduceLeDiff, not_false_eq_true, not_true_eq_false, ↓reduceIte, eq_self, ← Int32.not_lt, ite_not, Classical.not_not]
            by_cases t1 : nI t = 1 <;> simp only [t1, decide_true, decide_false, not_false_eq_true, not_true_eq_false, ↓reduceIte, Bool.false_eq_true, Bool.and_true, Bool.true_and, Bool.false_and, Bool.and_false, true_and, false_and, and_true, and_false] at hv ⊢ <;> exact hv
        have lp1 : ∀ (n k2 : Nat), k2 < K → k2 ≤ n → rot (mv 60 h) n k2 = rot (mv 60 h) 9 k → ∀ u, WP 10 eX6_family Q 56 [.ref 59, .int (nI k), .int (nI t), .int (nI k2), .int 0, u] [] (mPut h 66 x0) := by
          intro n
          induction n with
          | zero =>
            intro k2 hk2 hn er u
            rcases par_gd G hk2 with ⟨e1, e⟩ | ⟨j, hj, e1, e⟩
            · rw [bX6_family_56]
              simp only [bX6_family_61, t59, k6_fromOf (show 2 ≤ 10 by omega) (show k2 < 10 by omega), mv66, e1, show (-9 : Int32) < 0 by decide, Option.toList_some, Option.toList_none, List.cons_append, List.nil_append, and_assoc, exists_and_left, exists_eq_left, true_and, and_true, Nat.reduceLeDiff, not_false_eq_true, not_true_eq_false, ↓reduceIte, eq_self, ← Int32.not_lt, ite_not, Classical.not_not]
              rw [rot] at er
              rw [er]
              exact lp2 _
            · omega
          | succ n ih =>
            intro k2 hk2 hn er u
            rw [rot] at er
            rcases par_gd G hk2 with ⟨e1, e⟩ | ⟨j, hj, e1, e⟩
            · rw [e] at er
              rw [bX6_family_56]
              simp only [bX6_family_61, t59, k6_fromOf (show 2 ≤ 10 by omega) (show k2 < 10 by omega), mv66, e1, show (-9 : Int32) < 0 by decide, Option.toList_some, Option.toList_none, List.cons_append, List.nil_append, and_assoc, exists_and_left, exists_eq_left, true_and, and_true, Nat.reduceLeDiff, not_false_eq_true, not_true_eq_false, ↓reduceIte, eq_self, ← Int32.not_lt, ite_not, Classical.not_not]
              have er : k2 = rot (mv 60 h) 9 k := er
              rw [er]
              exact lp2 _
            · rw [e] at er
              rw [bX6_family_56]
              simp only [bX6_family_61, bX6_family_64, bX6_family_69, t59, k6_fromOf (show 2 ≤ 10 by omega) (show k2 < 10 by omega), mv66, e1, nnn (show j ≤ 100000 by omega), Option.toList_some, Option.toList_none, List.cons_append, List.nil_append, and_assoc, exists_and_left, exists_eq_left, true_and, and_true, Nat.reduceLeDiff, not_false_eq_true, not_true_eq_false, ↓reduceIte, eq_self, ← Int32.not_lt, ite_not, Classical.not_not]
              exact ih j (by omega) (by omega) er _
        rw [bX6_family_51]
        exact lp1 9 k hk (by omega) rfl _
      rcases (show t = 0 ∨ t = 1 ∨ t = 2 ∨ t = 3 by omega) with q | q | q | q
      · subst q
        simp only [show nI 0 = 0 from rfl, decide_true, decide_false, not_false_eq_true, not_true_eq_false, ↓reduceIte, Bool.false_eq_true, Bool.and_true, Bool.true_and, Bool.false_and, Bool.and_false, true_and, false_and, and_true, and_false] at hq ⊢
        simp only [bX6_family_34, bX6_family_39, t59, k6_depthOf (show 3 ≤ 10 by omega) (G66 G _) hk, mv66, Option.toList_some, Option.toList_none, List.cons_append, List.nil_append, and_assoc, exists_and_left, exists_eq_left, true_and, and_true, Nat.reduceLeDiff, not_false_eq_true, not_true_eq_false, ↓reduceIte, eq_self, ← Int32.not_lt, ite_not, Classical.not_not]
        exact hq _ mS_66 frR_66
      · subst q
        have := hq _ (by simp only [show nI 1 = 1 from rfl, n01, decide_true, decide_false, not_false_eq_true, not_true_eq_false, ↓reduceIte, Bool.false_eq_true, Bool.and_true, Bool.true_and, Bool.false_and, Bool.and_false, true_and, false_and, and_true, and_false]; exact mS_66) (frR_66 (g := x0))
        simp only [show nI 1 = 1 from rfl, n01, decide_true, decide_false, not_false_eq_true, not_true_eq_false, ↓reduceIte, Bool.false_eq_true, Bool.and_true, Bool.true_and, Bool.false_and, Bool.and_false, true_and, false_and, and_true, and_false] at this rest ⊢
        simp only [show ¬ (1 : Int32) = 3 by decide, decide_true, decide_false, not_false_eq_true, not_true_eq_false, ↓reduceIte, Bool.false_eq_true, Bool.and_true, Bool.true_and, Bool.false_and, Bool.and_false, true_and, false_and, and_true, and_false]
        exact rest this
      · subst q
        have := hq _ (by simp only [show nI 2 = 2 from rfl, show ¬ (2 : Int32) = 0 by decide, show ¬ (2 : Int32) = 1 by decide, decide_true, decide_false, not_false_eq_true, not_true_eq_false, ↓reduceIte, Bool.false_eq_true, Bool.and_true, Bool.true_and, Bool.false_and, Bool.and_false, true_and, false_and, and_true, and_false]; exact mS_66) (frR_66 (g := x0))
        simp only [show nI 2 = 2 from rfl, show ¬ (2 : Int32) = 0 by decide, show ¬ (2 : Int32) = 1 by decide, decide_true, decide_false, not_false_eq_true, not_true_eq_false, ↓reduceIte, Bool.false_eq_true, Bool.and_true, Bool.true_and, Bool.false_and, Bool.and_false, true_and, false_and, and_true, and_false] at this rest ⊢
        simp only [show ¬ (2 : Int32) = 3 by decide, decide_true, decide_false, not_false_eq_true, not_true_eq_false, ↓reduceIte, Bool.false_eq_true, Bool.and_true, Bool.true_and, Bool.false_and, Bool.and_false, true_and, false_and, and_true, and_false]
        exact rest this
      · subst q
        simp only [show nI 3 = 3 from rfl, show ¬ (3 : Int32) = 0 by decide, show ¬ (3 : Int32) = 1 by decide, show ¬ (3 : Int32) = 2 by decide, decide_true, decide_false, not_false_eq_true, not_true_eq_false, ↓reduceIte, Bool.false_eq_true, Bool.and_true, Bool.true_and, Bool.false_and, Bool.and_false, true_and, false_and, and_true, and_false] at hq ⊢
        simp only [bX6_family_45, bX6_family_50, t59, k6_heirs (show 4 ≤ 10 by omega) (G66 G _) hk, mv66, Option.toList_some, Option.toList_none, List.cons_append, List.nil_append, and_assoc, exists_and_left, exists_eq_left, true_and, and_true, Nat.reduceLeDiff, not_false_eq_true, not_true_eq_false, ↓reduceIte, eq_self, ← Int32.not_lt, ite_not, Classical.not_not]
        exact hq _ mS_66 frR_66
theorem r_common (x y : Int32) : KR eX6_common [.int x, .int y] (f_common x y) := by
  refine KR_of66 rfl (fun h K M GS G Q hq x0 => ?_)
  show WP 10 eX6_common Q 0 [.ref 59, .int x, .int y, mU] [] (mPut h 66 x0)
  have g0 : mv 60 h 0 = nI K := G.s0
  have g1 : mv 60 h 1 = nI M := G.s1
  have e0 : ∀ x, mPut h 66 x 60 0 = nI K := fun x => by rw [q60]; exact G.s0
  have e1 : ∀ x, mPut h 66 x 60 1 = nI M := fun x => by rw [q60]; exact G.s1
  have k10 := G.k10
  have m5 := G.m5
  have gk := gdkN G
  have gm := gdmN G
  unfold f_common at hq
  simp only [mS_1, mS_if, mS_im, mS_ln, mS_l, mS_rn, mS_r, mS_q, g0, g1, bno, gk, gm] at hq
  simp only [bX6_common_0, bX6_common_5, bX6_common_8, bX6_common_13, bX6_common_16, bX6_common_21, t59, r590, r594, r595, r596, r599, t60, l60, v0, c0, c1, c2, c3, k6_isKey (show 2 ≤ 10 by omega) (e0 _) k10, k6_isMachine (show 2 ≤ 10 by omega) (e1 _) m5, k6_no (show 1 ≤ 10 by omega) rc1, k6_no (show 1 ≤ 10 by omega) rc2, k6_no (show 1 ≤ 10 by omega) rc3, k6_no (show 1 ≤ 10 by omega) rc4, k6_no (show 1 ≤ 10 by omega) rc6, k6_isTooth (show 2 ≤ 10 by omega), k6_isIn (show 1 ≤ 10 by omega), k6_wrong (show 1 ≤ 10 by omega), isin_01, bz0, ite_bz, e0, e1, Option.toList_some, Option.toList_none, List.cons_append, List.nil_append, and_assoc, exists_and_left, exists_eq_left, true_and, and_true, Nat.reduceLeDiff, not_false_eq_true, not_true_eq_false, ↓reduceIte, eq_self, ← Int32.not_lt, ite_not, Classical.not_not]
  cases c : ik x (nI K) with
  | false => simp only [c, decide_true, decide_false, not_false_eq_true, not_true_eq_false, ↓reduceIte, Bool.false_eq_true, Bool.and_true, Bool.true_and, Bool.false_and, Bool.and_false, true_and, false_and, and_true, and_false] at hq ⊢; exact hq _ (mS_rf _) (frR_rf _)
  | true =>
    obtain ⟨k, hk, rfl⟩ := ikt (by omega) c
    simp only [c, decide_true, decide_false, not_false_eq_true, not_true_eq_false, ↓reduceIte, Bool.false_eq_true, Bool.and_true, Bool.true_and, Bool.false_and, Bool.and_false, true_and, false_and, and_true, and_false, xN_n (show k < 100000 by omega)] at hq ⊢
    cases c2 : ik y (nI K) with
    | false => simp only [c2, decide_true, decide_false, not_false_eq_true, not_true_eq_false, ↓reduceIte, Bool.false_eq_true, Bool.and_true, Bool.true_and, Bool.false_and, Bool.and_false, true_and, false_and, and_true, and_false] at hq ⊢; exact hq _ (mS_rf _) (frR_rf _)
    | true =>
      obtain ⟨m, hm, rfl⟩ := ikt (by omega) c2
      simp only [c2, decide_true, decide_false, not_false_eq_true, not_true_eq_false, ↓reduceIte, Bool.false_eq_true, Bool.and_true, Bool.true_and, Bool.false_and, Bool.and_false, true_and, false_and, and_true, and_false, xN_n (show m < 100000 by omega)] at hq ⊢
      have hq := hq _ (mS_66 (g := x0)) frR_66
      have key : ∀ (n k2 : Nat), k2 < K → k2 < n → Q (some (.int (on (cmn (mv 60 h) m n k2)))) (mPut h 66 x0) → ∀ u, WP 10 eX6_common Q 24 [.ref 59, u, .int (nI m), .int (nI k2)] [] (mPut h 66 x0) := by
        intro n
        induction n with
        | zero => intro k2 _ h2; omega
        | succ n ih =>
          intro k2 hk2 hn hq u
          rw [cmn] at hq
          rw [bX6_common_24]
          simp only [bX6_common_28, bX6_common_34, nnn (show k2 ≤ 100000 by omega), t59, k6_isHeir (show 3 ≤ 10 by omega) (G66 G _) hm (show k2 < 100 by omega), mv66, bz0, ite_bz, Option.toList_some, Option.toList_none, List.cons_append, List.nil_append, and_assoc, exists_and_left, exists_eq_left, true_and, and_true, Nat.reduceLeDiff, not_false_eq_true, not_true_eq_false, ↓reduceIte, eq_self, ← Int32.not_lt, ite_not, Classical.not_not]
          cases ch : heir (mv 60 h) m k2 with
          | true =>
            simp only [ch, decide_true, decide_false, not_false_eq_true, not_true_eq_false, ↓reduceIte, Bool.false_eq_true, Bool.and_true, Bool.true_and, Bool.false_and, Bool.and_false, true_and, false_and, and_true, and_false] at hq ⊢
            simp only [bX6_common_46, bX6_common_55, bX6_common_56, nnn (show k2 ≤ 100000 by omega), Option.toList_some, Option.toList_none, List.cons_append, List.nil_append, and_assoc, exists_and_left, exists_eq_left, true_and, and_true, Nat.reduceLeDiff, not_false_eq_true, not_true_eq_false, ↓reduceIte, eq_self, ← Int32.not_lt, ite_not, Classical.not_not]
            exact hq
          | false =>
            simp only [ch, decide_true, decide_false, not_false_eq_true, not_true_eq_false, ↓reduceIte, Bool.false_eq_true, Bool.and_true, Bool.true_and, Bool.false_and, Bool.and_false, true_and, false_and, and_true, and_false] at hq ⊢
            simp only [bX6_common_37, bX6_common_42, t59, k6_fromOf (show 2 ≤ 10 by omega) (show k2 < 10 by omega), mv66, Option.toList_some, Option.toList_none, List.cons_append, List.nil_append, and_assoc, exists_and_left, exists_eq_left, true_and, and_true, Nat.reduceLeDiff, not_false_eq_true, not_true_eq_false, ↓reduceIte, eq_self, ← Int32.not_lt, ite_not, Classical.not_not]
            rcases par_gd G hk2 with ⟨e1, e⟩ | ⟨j, hj, e1, e⟩
            · rw [e] at hq
              rw [e1]
              simp only [bX6_common_24, bX6_common_46, bX6_common_50, bX6_common_56, show (-9 : Int32) < 0 by decide, Option.toList_some, Option.toList_none, List.cons_append, List.nil_append, and_assoc, exists_and_left, exists_eq_left, true_and, and_true, Nat.reduceLeDiff, not_false_eq_true, not_true_eq_false, ↓reduceIte, eq_self, ← Int32.not_lt, ite_not, Classical.not_not]
              exact hq
            · rw [e] at hq
              rw [e1]
              exact ih j (by omega) (by omega) hq _
      rw [bX6_common_22]
      exact key 10 k hk (by omega) hq _
theorem r_line (x : Int32) : KR eX6_line [.int x] (f_line x) := by
  refine KR_of66 rfl (fun h K M GS G Q hq x0 => ?_)
  show WP 10 eX6_line Q 0 [.ref 59, .int x] [] (mPut h 66 x0)
  have g0 : mv 60 h 0 = nI K := G.s0
  have g1 : mv 60 h 1 = nI M := G.s1
  have e0 : ∀ x, mPut h 66 x 60 0 = nI K := fun x => by rw [q60]; exact G.s0
  have e1 : ∀ x, mPut h 66 x 60 1 = nI M := fun x => by rw [q60]; exact G.s1
  have k10 := G.k10
  have m5 := G.m5
  have gk := gdkN G
  have gm := gdmN G
  unfold f_line at hq
  simp only [mS_1, mS_if, mS_im, mS_ln, mS_l, mS_rn, mS_r, mS_q, g0, g1, bno, gk, gm] at hq
  simp only [bX6_line_0, bX6_line_5, bX6_line_16, bX6_line_21, t59, r590, r594, r595, r596, r599, t60, l60, v0, c0, c1, c2, c3, k6_isKey (show 2 ≤ 10 by omega) (e0 _) k10, k6_isMachine (show 2 ≤ 10 by omega) (e1 _) m5, k6_no (show 1 ≤ 10 by omega) rc1, k6_no (show 1 ≤ 10 by omega) rc2, k6_no (show 1 ≤ 10 by omega) rc3, k6_no (show 1 ≤ 10 by omega) rc4, k6_no (show 1 ≤ 10 by omega) rc6, k6_isTooth (show 2 ≤ 10 by omega), k6_isIn (show 1 ≤ 10 by omega), k6_wrong (show 1 ≤ 10 by omega), isin_01, bz0, ite_bz, e0, e1, Option.toList_some, Option.toList_none, List.cons_append, List.nil_append, and_assoc, exists_and_left, exists_eq_left, true_and, and_true, Nat.reduceLeDiff, not_false_eq_true, not_true_eq_false, ↓reduceIte, eq_self, ← Int32.not_lt, ite_not, Classical.not_not]
  cases c : ik x (nI K) with
  | false => simp only [c, decide_true, decide_false, not_false_eq_true, not_true_eq_false, ↓reduceIte, Bool.false_eq_true, Bool.and_true, Bool.true_and, Bool.false_and, Bool.and_false, true_and, false_and, and_true, and_false] at hq ⊢; exact hq _ (mS_rf _) (frR_rf _)
  | true =>
    obtain ⟨k, hk, rfl⟩ := ikt (by omega) c
    simp only [c, decide_true, decide_false, not_false_eq_true, not_true_eq_false, ↓reduceIte, Bool.false_eq_true, Bool.and_true, Bool.true_and, Bool.false_and, Bool.and_false, true_and, false_and, and_true, and_false, xN_n (show k < 100000 by omega)] at hq ⊢
    obtain ⟨g, hc⟩ := k6_lineOf (show 5 ≤ 10 by omega) G hk x0
    simp only [bX6_line_8, bX6_line_13, bX6_line_21, t59, Cal_iff hc, Option.toList_some, Option.toList_none, List.cons_append, List.nil_append, and_assoc, exists_and_left, exists_eq_left, true_and, and_true, Nat.reduceLeDiff, not_false_eq_true, not_true_eq_false, ↓reduceIte, eq_self, ← Int32.not_lt, ite_not, Classical.not_not]
    exact hq _ mS_66 frR_66
theorem r_bestLine : KR eX6_bestLine [] f_bestLine := by
  refine KR_of66 rfl (fun h K M GS G Q hq x0 => ?_)
  show WP 10 eX6_bestLine Q 0 [.ref 59, mU, mU] [] (mPut h 66 x0)
  have g0 : mv 60 h 0 = nI K := G.s0
  have g1 : mv 60 h 1 = nI M := G.s1
  have e0 : ∀ x, mPut h 66 x 60 0 = nI K := fun x => by rw [q60]; exact G.s0
  have e1 : ∀ x, mPut h 66 x 60 1 = nI M := fun x => by rw [q60]; exact G.s1
  have k10 := G.k10
  have m5 := G.m5
  have gk := gdkN G
  have gm := gdmN G
  unfold f_bestLine at hq
  simp only [mS_1, mS_if, mS_im, mS_ln, mS_l, mS_rn, mS_r, mS_q, g0, g1, bno, gk, gm] at hq
  simp only [bX6_bestLine_0]
  refine wl (fun i => ∀ x, WP 10 eX6_bestLine Q 5 [.ref 59, .int (on (bsm (isR (mv 60 h)) (lin (mv 60 h) K) i)), .int (nI i)] [] (mPut h 66 x)) K ?_ K 0 (by omega) ?_ x0
  · intro i hi hw x
    have i10 : i < 10 := by omega
    have hw := hw
    rw [bsm, isR_lt] at hw
    rw [bX6_bestLine_5]
    simp only [bX6_bestLine_15, bX6_bestLine_20, bX6_bestLine_23, bX6_bestLine_40, bX6_bestLine_42, nlt (show i ≤ 100000 by omega) (show K ≤ 100000 by omega), hi, k6_fromOf (show 2 ≤ 10 by omega) i10, mv66, nI_1, t59, r590, r594, r595, r596, r599, t60, l60, v0, c0, c1, c2, c3, k6_isKey (show 2 ≤ 10 by omega) (e0 _) k10, k6_isMachine (show 2 ≤ 10 by omega) (e1 _) m5, k6_no (show 1 ≤ 10 by omega) rc1, k6_no (show 1 ≤ 10 by omega) rc2, k6_no (show 1 ≤ 10 by omega) rc3, k6_no (show 1 ≤ 10 by omega) rc4, k6_no (show 1 ≤ 10 by omega) rc6, k6_isTooth (show 2 ≤ 10 by omega), k6_isIn (show 1 ≤ 10 by omega), k6_wrong (show 1 ≤ 10 by omega), isin_01, bz0, ite_bz, e0, e1, Option.toList_some, Option.toList_none, List.cons_append, List.nil_append, and_assoc, exists_and_left, exists_eq_left, true_and, and_true, Nat.reduceLeDiff, not_false_eq_true, not_true_eq_false, ↓reduceIte, eq_self, ← Int32.not_lt, ite_not, Classical.not_not]
    by_cases c : mv 60 h (9 + 7 * i + 5) < 0
    · simp only [c, decide_true, decide_false, not_false_eq_true, not_true_eq_false, ↓reduceIte, Bool.false_eq_true, Bool.and_true, Bool.true_and, Bool.false_and, Bool.and_false, true_and, false_and, and_true, and_false] at hw ⊢
      cases e : bsm (isR (mv 60 h)) (lin (mv 60 h) K) i with
      | none => simp only [e, on, show (-9 : Int32) < 0 by decide, decide_true, decide_false, not_false_eq_true, not_true_eq_false, ↓reduceIte, Bool.false_eq_true, Bool.and_true, Bool.true_and, Bool.false_and, Bool.and_false, true_and, false_and, and_true, and_false] at hw ⊢; exact hw _
      | some b =>
        have hb := bsm_lt e
        have l1 := ct_le (fun a => heir (mv 60 h) a b && opb (mv 60 h) a) K
        have l2 := ct_le (fun a => heir (mv 60 h) a i && opb (mv 60 h) a) K
        obtain ⟨g1', hc1⟩ := k6_lineOf (show 5 ≤ 10 by omega) G hi x
        obtain ⟨g2', hc2⟩ := k6_lineOf (show 5 ≤ 10 by omega) G (show b < K by omega) g1'
        have el : (nI (lin (mv 60 h) K b) < nI (lin (mv 60 h) K i)) = (lin (mv 60 h) K b < lin (mv 60 h) K i) := nlt (by unfold lin; omega) (by unfold lin; omega)
        simp only [e, on, nnn (show b ≤ 100000 by omega), decide_true, decide_false, not_false_eq_true, not_true_eq_false, ↓reduceIte, Bool.false_eq_true, Bool.and_true, Bool.true_and, Bool.false_and, Bool.and_false, true_and, false_and, and_true, and_false] at hw ⊢
        simp only [bX6_bestLine_27, bX6_bestLine_32, bX6_bestLine_37, bX6_bestLine_40, bX6_bestLine_42, t59, Cal_iff hc1, Cal_iff hc2, el, nI_1, Option.toList_some, Option.toList_none, List.cons_append, List.nil_append, and_assoc, exists_and_left, exists_eq_left, true_and, and_true, Nat.reduceLeDiff, not_false_eq_true, not_true_eq_false, ↓reduceIte, eq_self, ← Int32.not_lt, ite_not, Classical.not_not]
        by_cases c2 : lin (mv 60 h) K b < lin (mv 60 h) K i <;> simp only [c2, decide_true, decide_false, not_false_eq_true, not_true_eq_false, ↓reduceIte, Bool.false_eq_true, Bool.and_true, Bool.true_and, Bool.false_and, Bool.and_false, true_and, false_and, and_true, and_false] at hw ⊢ <;> exact hw _
    · simp only [c, decide_true, decide_false, not_false_eq_true, not_true_eq_false, ↓reduceIte, Bool.false_eq_true, Bool.and_true, Bool.true_and, Bool.false_and, Bool.and_false, true_and, false_and, and_true, and_false] at hw ⊢; exact hw _
  · intro x
    simp only [bX6_bestLine_5, bX6_bestLine_48, nlt (show K ≤ 100000 by omega) (show K ≤ 100000 by omega), Nat.lt_irrefl, t59, r590, r594, r595, r596, r599, t60, l60, v0, c0, c1, c2, c3, k6_isKey (show 2 ≤ 10 by omega) (e0 _) k10, k6_isMachine (show 2 ≤ 10 by omega) (e1 _) m5, k6_no (show 1 ≤ 10 by omega) rc1, k6_no (show 1 ≤ 10 by omega) rc2, k6_no (show 1 ≤ 10 by omega) rc3, k6_no (show 1 ≤ 10 by omega) rc4, k6_no (show 1 ≤ 10 by omega) rc6, k6_isTooth (show 2 ≤ 10 by omega), k6_isIn (show 1 ≤ 10 by omega), k6_wrong (show 1 ≤ 10 by omega), isin_01, bz0, ite_bz, e0, e1, Option.toList_some, Option.toList_none, List.cons_append, List.nil_append, and_assoc, exists_and_left, exists_eq_left, true_and, and_true, Nat.reduceLeDiff, not_false_eq_true, not_true_eq_false, ↓reduceIte, eq_self, ← Int32.not_lt, ite_not, Classical.not_not]
    exact hq _ mS_66 frR_66
theorem r_ask (x : Int32) : KR eX6_ask [.int x] (f_ask x) := by
  refine KR_of66 rfl (fun h K M GS G Q hq x0 => ?_)
  show WP 10 eX6_ask Q 0 [.ref 59, .int x, mU, mU, mU, mU] [] (mPut h 66 x0)
  have g0 : mv 60 h 0 = nI K := G.s0
  have g1 : mv 60 h 1 = nI M := G.s1
  have e0 : ∀ x, mPut h 66 x 60 0 = nI K := fun x => by rw [q60]; exact G.s0
  have e1 : ∀ x, mPut h 66 x 60 1 = nI M := fun x => by rw [q60]; exact G.s1
  have k10 := G.k10
  have m5 := G.m5
  have gk := gdkN G
  have gm := gdmN G
  unfold f_ask at hq
  simp only [mS_1, mS_if, mS_im, mS_ln, mS_l, mS_rn, mS_r, mS_q, g0, g1, bno, gk, gm] at hq
  simp only [bX6_ask_0, bX6_ask_5, bX6_ask_8, bX6_ask_13, t59, r590, r594, r595, r596, r599, t60, l60, v0, c0, c1, c2, c3, k6_isKey (show 2 ≤ 10 by omega) (e0 _) k10, k6_isMachine (show 2 ≤ 10 by omega) (e1 _) m5, k6_no (show 1 ≤ 10 by omega) rc1, k6_no (show 1 ≤ 10 by omega) rc2, k6_no (show 1 ≤ 10 by omega) rc3, k6_no (show 1 ≤ 10 by omega) rc4, k6_no (show 1 ≤ 10 by omega) rc6, k6_isTooth (show 2 ≤ 10 by omega), k6_isIn (show 1 ≤ 10 by omega), k6_wrong (show 1 ≤ 10 by omega), isin_01, bz0, ite_bz, e0, e1, Option.toList_some, Option.toList_none, List.cons_append, List.nil_append, and_assoc, exists_and_left, exists_eq_left, true_and, and_true, Nat.reduceLeDiff, not_false_eq_true, not_true_eq_false, ↓reduceIte, eq_self, ← Int32.not_lt, ite_not, Classical.not_not]
  cases c : ik x (nI K) with
  | false => simp only [c, decide_true, decide_false, not_false_eq_true, not_true_eq_false, ↓reduceIte, Bool.false_eq_true, Bool.and_true, Bool.true_and, Bool.false_and, Bool.and_false, true_and, false_and, and_true, and_false] at hq ⊢; exact hq _ (mS_rf _) (frR_rf _)
  | true =>
    obtain ⟨k, hk, rfl⟩ := ikt (by omega) c
    simp only [c, decide_true, decide_false, not_false_eq_true, not_true_eq_false, ↓reduceIte, Bool.false_eq_true, Bool.and_true, Bool.true_and, Bool.false_and, Bool.and_false, true_and, false_and, and_true, and_false, xN_n (show k < 100000 by omega)] at hq ⊢
    simp only [bX6_ask_14, bX6_ask_22, t59, k6_fromOf (show 2 ≤ 10 by omega) (show k < 10 by omega), mv66, Option.toList_some, Option.toList_none, List.cons_append, List.nil_append, and_assoc, exists_and_left, exists_eq_left, true_and, and_true, Nat.reduceLeDiff, not_false_eq_true, not_true_eq_false, ↓reduceIte, eq_self, ← Int32.not_lt, ite_not, Classical.not_not]
    refine wl (fun i => ∀ x u, WP 10 eX6_ask Q 26 [.ref 59, .int (nI k), .int (on (bst (nea (mv 60 h) k) (wgk (mv 60 h)) i)), .int (mv 60 h (9 + 7 * k + 5)), .int (nI i), u] [] (mPut h 66 x)) K ?_ K 0 (by omega) ?_ x0 _
    · intro i hi hw x u
      have i10 : i < 10 := by omega
      have hw := hw
      rw [bst] at hw
      have st : WP 10 eX6_ask Q 37 [.ref 59, .int (nI k), .int (on (bst (nea (mv 60 h) k) (wgk (mv 60 h)) i)), .int (mv 60 h (9 + 7 * k + 5)), .int (nI i), u] [] (mPut h 66 x) = WP 10 eX6_ask Q 72 [.ref 59, .int (nI k), .int (on (bst (nea (mv 60 h) k) (wgk (mv 60 h)) i)), .int (mv 60 h (9 + 7 * k + 5)), .int (nI i), u] [.int (bz (chd (mv 60 h) k i || (match par (mv 60 h) k with
        | none => false
        | some j => decide (i = j) || chd (mv 60 h) j i)))] (mPut h 66 x) := by
        rw [chd_from G hi (by omega)]
        rcases par_gd G hk with ⟨e1, e⟩ | ⟨j, hj, e1, e⟩
        · rw [e, e1]
          simp only [bX6_ask_37, bX6_ask_43, bX6_ask_49, bX6_ask_53, bX6_ask_67, bX6_ask_71, nm9 (show i ≤ 100000 by omega), t59, k6_fromOf (show 2 ≤ 10 by omega) i10, mv66, show (-9 : Int32) < 0 by decide, Bool.or_false, Option.toList_some, Option.toList_none, List.cons_append, List.nil_append, and_assoc, exists_and_left, exists_eq_left, true_and, and_true, Nat.reduceLeDiff, not_false_eq_true, not_true_eq_false, ↓reduceIte, eq_self, ← Int32.not_lt, ite_not, Classical.not_not]
          by_cases cc : mv 60 h (9 + 7 * i + 5) = nI k <;> simp only [cc, decide_true, decide_false, not_false_eq_true, not_true_eq_false, ↓reduceIte, Bool.false_eq_true, Bool.and_true, Bool.true_and, Bool.false_and, Bool.and_false, true_and, false_and, and_true, and_false, bzt, bzf]
        · rw [e, e1]
          simp only [chd_from G hi (show j < 100 by omega)]
          simp only [bX6_ask_37, bX6_ask_43, bX6_ask_49, bX6_ask_53, bX6_ask_57, bX6_ask_63, bX6_ask_67, bX6_ask_71, neq (show i ≤ 100000 by omega) (show j ≤ 100000 by omega), t59, k6_fromOf (show 2 ≤ 10 by omega) i10, mv66, nnn (show j ≤ 100000 by omega), Option.toList_some, Option.toList_none, List.cons_append, List.nil_append, and_assoc, exists_and_left, exists_eq_left, true_and, and_true, Nat.reduceLeDiff, not_false_eq_true, not_true_eq_false, ↓reduceIte, eq_self, ← Int32.not_lt, ite_not, Classical.not_not]
          by_cases c1 : i = j
          · simp only [c1, decide_true, decide_false, not_false_eq_true, not_true_eq_false, ↓reduceIte, Bool.false_eq_true, Bool.and_true, Bool.true_and, Bool.false_and, Bool.and_false, true_and, false_and, and_true, and_false, Bool.true_or, Bool.or_true, bzt]
          · by_cases c2 : mv 60 h (9 + 7 * i + 5) = nI k
            · simp only [c1, c2, decide_true, decide_false, not_false_eq_true, not_true_eq_false, ↓reduceIte, Bool.false_eq_true, Bool.and_true, Bool.true_and, Bool.false_and, Bool.and_false, true_and, false_and, and_true, and_false, Bool.true_or, bzt]
            · simp only [c1, c2, decide_true, decide_false, not_false_eq_true, not_true_eq_false, ↓reduceIte, Bool.false_eq_true, Bool.and_true, Bool.true_and, Bool.false_and, Bool.and_false, true_and, false_and, and_true, and_false, Bool.false_or]
              by_cases c3 : mv 60 h (9 + 7 * i + 5) = nI j <;> simp only [c3, decide_true, decide_false, not_false_eq_true, not_true_eq_false, ↓reduceIte, Bool.false_eq_true, Bool.and_true, Bool.true_and, Bool.false_and, Bool.and_false, true_and, false_and, and_true, and_false, bzt, bzf]
      rw [show nea (mv 60 h) k i = (!decide (i = k) && (chd (mv 60 h) k i || (match par (mv 60 h) k with
        | none => false
        | some j => decide (i = j) || chd (mv 60 h) j i)) && opb (mv 60 h) i) from rfl] at hw
      rw [bX6_ask_26]
      simp only [nlt (show i ≤ 100000 by omega) (show K ≤ 100000 by omega), hi, t59, r590, r594, r595, r596, r599, t60, l60, v0, c0, c1, c2, c3, k6_isKey (show 2 ≤ 10 by omega) (e0 _) k10, k6_isMachine (show 2 ≤ 10 by omega) (e1 _) m5, k6_no (show 1 ≤ 10 by omega) rc1, k6_no (show 1 ≤ 10 by omega) rc2, k6_no (show 1 ≤ 10 by omega) rc3, k6_no (show 1 ≤ 10 by omega) rc4, k6_no (show 1 ≤ 10 by omega) rc6, k6_isTooth (show 2 ≤ 10 by omega), k6_isIn (show 1 ≤ 10 by omega), k6_wrong (show 1 ≤ 10 by omega), isin_01, bz0, ite_bz, e0, e1, Option.toList_some, Option.toList_none, List.cons_append, List.nil_append, and_assoc, exists_and_left, exists_eq_left, true_and, and_true, Nat.reduceLeDiff, not_false_eq_true, not_true_eq_false, ↓reduceIte, eq_self, ← Int32.not_lt, ite_not, Classical.not_not]
      rw [st]
      generalize (chd (mv 60 h) k i || (match par (mv 60 h) k with
        | none => false
        | some j => decide (i = j) || chd (mv 60 h) j i)) = nr0 at hw ⊢
      simp only [bX6_ask_72, bX6_ask_80, bX6_ask_85, bX6_ask_91, bX6_ask_94, bX6_ask_97, bX6_ask_115, bX6_ask_118, neq (show i ≤ 100000 by omega) (show k ≤ 100000 by omega), t59, k6_opens (show 4 ≤ 10 by omega) G i10, bz0, ite_bz, nI_1, Option.toList_some, Option.toList_none, List.cons_append, List.nil_append, and_assoc, exists_and_left, exists_eq_left, true_and, and_true, Nat.reduceLeDiff, not_false_eq_true, not_true_eq_false, ↓reduceIte, eq_self, ← Int32.not_lt, ite_not, Classical.not_not]
      by_cases ck : i = k
      · simp only [ck, decide_true, decide_false, not_false_eq_true, not_true_eq_false, ↓reduceIte, Bool.false_eq_true, Bool.and_true, Bool.true_and, Bool.false_and, Bool.and_false, true_and, false_and, and_true, and_false, Bool.not_true] at hw ⊢; exact hw _ _
      · cases nr0 with
        | false => simp only [ck, decide_true, decide_false, not_false_eq_true, not_true_eq_false, ↓reduceIte, Bool.false_eq_true, Bool.and_true, Bool.true_and, Bool.false_and, Bool.and_false, true_and, false_and, and_true, and_false, Bool.not_false] at hw ⊢; exact hw _ _
        | true =>
          cases co : opb (mv 60 h) i with
          | false => simp only [ck, co, decide_true, decide_false, not_false_eq_true, not_true_eq_false, ↓reduceIte, Bool.false_eq_true, Bool.and_true, Bool.true_and, Bool.false_and, Bool.and_false, true_and, false_and, and_true, and_false, Bool.not_false] at hw ⊢; exact hw _ _
          | true =>
            simp only [ck, co, decide_true, decide_false, not_false_eq_true, not_true_eq_false, ↓reduceIte, Bool.false_eq_true, Bool.and_true, Bool.true_and, Bool.false_and, Bool.and_false, true_and, false_and, and_true, and_false, Bool.not_false] at hw ⊢
            cases e : bst (nea (mv 60 h) k) (wgk (mv 60 h)) i with
            | none => simp only [e, on, show (-9 : Int32) < 0 by decide, decide_true, decide_false, not_false_eq_true, not_true_eq_false, ↓reduceIte, Bool.false_eq_true, Bool.and_true, Bool.true_and, Bool.false_and, Bool.and_false, true_and, false_and, and_true, and_false] at hw ⊢; exact hw _ _
            | some b =>
              have hb := bst_lt e
              simp only [e, on, nnn (show b ≤ 100000 by omega), decide_true, decide_false, not_false_eq_true, not_true_eq_false, ↓reduceIte, Bool.false_eq_true, Bool.and_true, Bool.true_and, Bool.false_and, Bool.and_false, true_and, false_and, and_true, and_false] at hw ⊢
              simp only [bX6_ask_101, bX6_ask_107, bX6_ask_112, bX6_ask_115, bX6_ask_118, t59, k6_wiggleOf (show 3 ≤ 10 by omega) i10, k6_wiggleOf (show 3 ≤ 10 by omega) (show b < 10 by omega), nI_1, Option.toList_some, Option.toList_none, List.cons_append, List.nil_append, and_assoc, exists_and_left, exists_eq_left, true_and, and_true, Nat.reduceLeDiff, not_false_eq_true, not_true_eq_false, ↓reduceIte, eq_self, ← Int32.not_lt, ite_not, Classical.not_not]
              by_cases c2 : wgk (mv 60 h) i < wgk (mv 60 h) b <;> simp only [c2, decide_true, decide_false, not_false_eq_true, not_true_eq_false, ↓reduceIte, Bool.false_eq_true, Bool.and_true, Bool.true_and, Bool.false_and, Bool.and_false, true_and, false_and, and_true, and_false] at hw ⊢ <;> exact hw _ _
    · intro x u
      simp only [bX6_ask_26, bX6_ask_124, nlt (show K ≤ 100000 by omega) (show K ≤ 100000 by omega), Nat.lt_irrefl, t59, r590, r594, r595, r596, r599, t60, l60, v0, c0, c1, c2, c3, k6_isKey (show 2 ≤ 10 by omega) (e0 _) k10, k6_isMachine (show 2 ≤ 10 by omega) (e1 _) m5, k6_no (show 1 ≤ 10 by omega) rc1, k6_no (show 1 ≤ 10 by omega) rc2, k6_no (show 1 ≤ 10 by omega) rc3, k6_no (show 1 ≤ 10 by omega) rc4, k6_no (show 1 ≤ 10 by omega) rc6, k6_isTooth (show 2 ≤ 10 by omega), k6_isIn (show 1 ≤ 10 by omega), k6_wrong (show 1 ≤ 10 by omega), isin_01, bz0, ite_bz, e0, e1, Option.toList_some, Option.toList_none, List.cons_append, List.nil_append, and_assoc, exists_and_left, exists_eq_left, true_and, and_true, Nat.reduceLeDiff, not_false_eq_true, not_true_eq_false, ↓reduceIte, eq_self, ← Int32.not_lt, ite_not, Classical.not_not]
      exact hq _ mS_66 frR_66
