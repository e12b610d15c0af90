theorem bz_and (a b : Bool) : bz a &&& bz b = bz (a && b) := by cases a <;> cases b <;> rfl
theorem bz1 : (1 : Int32) = bz true := rfl
theorem alb_fit {f p : Nat → Int32} {sl : Int32} : alb (fun t => decide (¬ sl < ap (f t) (p t))) 5 = fitb f p sl := by
  unfold alb alb alb alb alb alb fitb ltf
  by_cases c0 : sl < ap (f 0) (p 0)
  all_goals by_cases c1 : sl < ap (f 1) (p 1)
  all_goals by_cases c2 : sl < ap (f 2) (p 2)
  all_goals by_cases c3 : sl < ap (f 3) (p 3)
  all_goals by_cases c4 : sl < ap (f 4) (p 4)
  all_goals simp only [c0, c1, c2, c3, c4, decide_true, decide_false, not_false_eq_true, not_true_eq_false, ↓reduceIte, Bool.false_eq_true, Bool.and_true, Bool.true_and, Bool.false_and, Bool.and_false, true_and, false_and, and_true, and_false]
  all_goals decide
theorem wig_lt {f p : Nat → Int32} (hf : r99 f) (hp : r99 p) : wig f p < 1000000000 := by
  obtain ⟨n0, h0, e0⟩ := ap_99 (hf 0 (by omega)) (hp 0 (by omega))
  obtain ⟨n1, h1, e1⟩ := ap_99 (hf 1 (by omega)) (hp 1 (by omega))
  obtain ⟨n2, h2, e2⟩ := ap_99 (hf 2 (by omega)) (hp 2 (by omega))
  obtain ⟨n3, h3, e3⟩ := ap_99 (hf 3 (by omega)) (hp 3 (by omega))
  obtain ⟨n4, h4, e4⟩ := ap_99 (hf 4 (by omega)) (hp 4 (by omega))
  unfold wig
  rw [e0, e1, e2, e3, e4, show (0 : Int32) = nI 0 from rfl, nI_plus, nI_plus, nI_plus, nI_plus, nI_plus]
  exact (nI_ltI (b := 1000000000) (by omega) (by omega)).mpr (by omega)
def onF (w : Nat → Int32) : Option Nat → Int32
  | none => 1000000000
  | some b => w b
theorem r_next (w : Int32) : KR eX6_next [.int w] (f_next w) := by
  refine KR_of66 rfl (fun h K M GS G Q hq x0 => ?_)
  show WP 10 eX6_next Q 0 [.ref 59, .int w, mU, mU, mU, mU] [] (mPut h 66 x0)
  have g0 : mv 60 h 0 = nI K := G.s0
  have g1 : mv 60 h 1 = nI M := G.s1
  have e0 : ∀ x, mPut h 66 x 60 0 = nI K := fun x => by rw [q60]; exact G.s0
  have e1 : ∀ x, mPut h 66 x 60 1 = nI M := fun x => by rw [q60]; exact G.s1
  have k10 := G.k10
  have m5 := G.m5
  have gk := gdkN G
  have gm := gdmN G
  unfold f_next at hq
  simp only [mS_1, mS_if, mS_im, mS_ln, mS_l, mS_rn, mS_r, mS_q, g0, g1, bno, gk, gm] at hq
  simp only [bX6_next_0, bX6_next_6, bX6_next_9, bX6_next_15, t59, r590, r594, r595, r596, r599, t60, l60, v0, c0, c1, c2, c3, k6_isKey (show 2 ≤ 10 by omega) (e0 _) k10, k6_isMachine (show 2 ≤ 10 by omega) (e1 _) m5, k6_no (show 1 ≤ 10 by omega) rc1, k6_no (show 1 ≤ 10 by omega) rc2, k6_no (show 1 ≤ 10 by omega) rc3, k6_no (show 1 ≤ 10 by omega) rc4, k6_no (show 1 ≤ 10 by omega) rc6, k6_isTooth (show 2 ≤ 10 by omega), k6_isIn (show 1 ≤ 10 by omega), k6_wrong (show 1 ≤ 10 by omega), isin_01, bz0, ite_bz, e0, e1, Option.toList_some, Option.toList_none, List.cons_append, List.nil_append, and_assoc, exists_and_left, exists_eq_left, true_and, and_true, Nat.reduceLeDiff, not_false_eq_true, not_true_eq_false, ↓reduceIte, eq_self, ← Int32.not_lt, ite_not, Classical.not_not]
  cases c : i01 w with
  | false => simp only [c, decide_true, decide_false, not_false_eq_true, not_true_eq_false, ↓reduceIte, Bool.false_eq_true, Bool.and_true, Bool.true_and, Bool.false_and, Bool.and_false, true_and, false_and, and_true, and_false] at hq ⊢; exact hq _ (mS_rf _) (frR_rf _)
  | true =>
    simp only [c, decide_true, decide_false, not_false_eq_true, not_true_eq_false, ↓reduceIte, Bool.false_eq_true, Bool.and_true, Bool.true_and, Bool.false_and, Bool.and_false, true_and, false_and, and_true, and_false] at hq ⊢
    rw [bX6_next_16]
    refine wl (fun k => ∀ v x, WP 10 eX6_next Q 25 [.ref 59, .int w, .int (on (bst (nxP (mv 60 h) M) (nxW (mv 60 h)) (10 * k))), .int (onF (nxW (mv 60 h)) (bst (nxP (mv 60 h) M) (nxW (mv 60 h)) (10 * k))), .int (nI k), v] [] (mPut h 66 x)) K ?_ K 0 (by omega) ?_ _ x0
    · intro k hk hw v x
      have k10' : k < 10 := by omega
      have esn : ∀ a, a < 10 → nxP (mv 60 h) M (10 * k + a) = (decide (a < M) && !snb (mv 60 h) k) := fun a ha => by
        unfold nxP; rw [show (10 * k + a) % 10 = a by omega, show (10 * k + a) / 10 = k by omega]
      rw [bX6_next_25]
      simp only [bX6_next_36, nlt (show k ≤ 100000 by omega) (show K ≤ 100000 by omega), hk, t59, r590, r594, r595, r596, r599, t60, l60, v0, c0, c1, c2, c3, k6_isKey (show 2 ≤ 10 by omega) (e0 _) k10, k6_isMachine (show 2 ≤ 10 by omega) (e1 _) m5, k6_no (show 1 ≤ 10 by omega) rc1, k6_no (show 1 ≤ 10 by omega) rc2, k6_no (show 1 ≤ 10 by omega) rc3, k6_no (show 1 ≤ 10 by omega) rc4, k6_no (show 1 ≤ 10 by omega) rc6, k6_isTooth (show 2 ≤ 10 by omega), k6_isIn (show 1 ≤ 10 by omega), k6_wrong (show 1 ≤ 10 by omega), isin_01, bz0, ite_bz, e0, e1, Option.toList_some, Option.toList_none, List.cons_append, List.nil_append, and_assoc, exists_and_left, exists_eq_left, true_and, and_true, Nat.reduceLeDiff, not_false_eq_true, not_true_eq_false, ↓reduceIte, eq_self, ← Int32.not_lt, ite_not, Classical.not_not]
      have key := wl (fun m => ∀ x, WP 10 eX6_next Q 39 [.ref 59, .int w, .int (on (bst (nxP (mv 60 h) M) (nxW (mv 60 h)) (10 * k + m))), .int (onF (nxW (mv 60 h)) (bst (nxP (mv 60 h) M) (nxW (mv 60 h)) (10 * k + m))), .int (nI k), .int (nI m)] [] (mPut h 66 x)) M ?_ M 0 (by omega) ?_ x
      · exact key
      · intro m hm hw x
        have m5' : m < 5 := by omega
        have ep := esn m (by omega)
        have hw := hw
        rw [← Nat.add_assoc, bst, ep] at hw
        have ew : wig (cutM (mv 60 h) m (rowF (mv 60 h) k)) (pinF (mv 60 h)) = nxW (mv 60 h) (10 * k + m) := by unfold nxW; rw [show (10 * k + m) % 10 = m by omega, show (10 * k + m) / 10 = k by omega]
        have lw : nxW (mv 60 h) (10 * k + m) < 1000000000 := by rw [← ew]; exact wig_lt (cutM_99 (G.r k10')) G.p
        rw [bX6_next_39]
        simp only [bX6_next_50, bX6_next_56, bX6_next_63, bX6_next_69, bX6_next_72, bX6_next_76, bX6_next_80, bX6_next_83, bX6_next_96, bX6_next_97, nlt (show m ≤ 100000 by omega) (show M ≤ 100000 by omega), hm, k6_takes (show 2 ≤ 10 by omega) k10', k6_cutsBy0 (show 5 ≤ 10 by omega) m5', k6_isSnapped (show 2 ≤ 10 by omega) (G66 G _) k10', mv66, k6_wiggle (show 2 ≤ 10 by omega), ew, show (10 : Int32) = nI 10 from rfl, nI_mul, nI_plus, nI_1, t59, r590, r594, r595, r596, r599, t60, l60, v0, c0, c1, c2, c3, k6_isKey (show 2 ≤ 10 by omega) (e0 _) k10, k6_isMachine (show 2 ≤ 10 by omega) (e1 _) m5, k6_no (show 1 ≤ 10 by omega) rc1, k6_no (show 1 ≤ 10 by omega) rc2, k6_no (show 1 ≤ 10 by omega) rc3, k6_no (show 1 ≤ 10 by omega) rc4, k6_no (show 1 ≤ 10 by omega) rc6, k6_isTooth (show 2 ≤ 10 by omega), k6_isIn (show 1 ≤ 10 by omega), k6_wrong (show 1 ≤ 10 by omega), isin_01, bz0, ite_bz, e0, e1, Option.toList_some, Option.toList_none, List.cons_append, List.nil_append, and_assoc, exists_and_left, exists_eq_left, true_and, and_true, Nat.reduceLeDiff, not_false_eq_true, not_true_eq_false, ↓reduceIte, eq_self, ← Int32.not_lt, ite_not, Classical.not_not]
        cases cs : snb (mv 60 h) k with
        | true => simp only [cs, decide_true, decide_false, not_false_eq_true, not_true_eq_false, ↓reduceIte, Bool.false_eq_true, Bool.and_true, Bool.true_and, Bool.false_and, Bool.and_false, true_and, false_and, and_true, and_false, Bool.not_true] at hw ⊢; exact hw _
        | false =>
          simp only [cs, hm, decide_true, decide_false, not_false_eq_true, not_true_eq_false, ↓reduceIte, Bool.false_eq_true, Bool.and_true, Bool.true_and, Bool.false_and, Bool.and_false, true_and, false_and, and_true, and_false, Bool.not_false] at hw ⊢
          cases e : bst (nxP (mv 60 h) M) (nxW (mv 60 h)) (10 * k + m) with
          | none => simp only [e, on, onF, lw, decide_true, decide_false, not_false_eq_true, not_true_eq_false, ↓reduceIte, Bool.false_eq_true, Bool.and_true, Bool.true_and, Bool.false_and, Bool.and_false, true_and, false_and, and_true, and_false] at hw ⊢; exact hw _
          | some b =>
            simp only [e, on, onF, decide_true, decide_false, not_false_eq_true, not_true_eq_false, ↓reduceIte, Bool.false_eq_true, Bool.and_true, Bool.true_and, Bool.false_and, Bool.and_false, true_and, false_and, and_true, and_false] at hw ⊢
            by_cases c2 : nxW (mv 60 h) (10 * k + m) < nxW (mv 60 h) b <;> simp only [c2, decide_true, decide_false, not_false_eq_true, not_true_eq_false, ↓reduceIte, Bool.false_eq_true, Bool.and_true, Bool.true_and, Bool.false_and, Bool.and_false, true_and, false_and, and_true, and_false] at hw ⊢ <;> exact hw _
      · intro x
        simp only [bX6_next_39, bX6_next_103, nlt (show M ≤ 100000 by omega) (show M ≤ 100000 by omega), Nat.lt_irrefl, nI_1, t59, r590, r594, r595, r596, r599, t60, l60, v0, c0, c1, c2, c3, k6_isKey (show 2 ≤ 10 by omega) (e0 _) k10, k6_isMachine (show 2 ≤ 10 by omega) (e1 _) m5, k6_no (show 1 ≤ 10 by omega) rc1, k6_no (show 1 ≤ 10 by omega) rc2, k6_no (show 1 ≤ 10 by omega) rc3, k6_no (show 1 ≤ 10 by omega) rc4, k6_no (show 1 ≤ 10 by omega) rc6, k6_isTooth (show 2 ≤ 10 by omega), k6_isIn (show 1 ≤ 10 by omega), k6_wrong (show 1 ≤ 10 by omega), isin_01, bz0, ite_bz, e0, e1, Option.toList_some, Option.toList_none, List.cons_append, List.nil_append, and_assoc, exists_and_left, exists_eq_left, true_and, and_true, Nat.reduceLeDiff, not_false_eq_true, not_true_eq_false, ↓reduceIte, eq_self, ← Int32.not_lt, ite_not, Classical.not_not]
        have hw := hw
        rw [bst_skip (i := 10 * k + M) (j := 10 * (k + 1)) (by omega) (fun a h1 h2 => by rw [show a = 10 * k + (a - 10 * k) by omega, esn _ (by omega), decide_eq_false (by omega)]; rfl)] at hw
        exact hw _ _
    · intro v x
      simp only [bX6_next_25, bX6_next_109, bX6_next_113, bX6_next_117, bX6_next_121, bX6_next_122, nlt (show K ≤ 100000 by omega) (show K ≤ 100000 by omega), Nat.lt_irrefl, t59, r590, r594, r595, r596, r599, t60, l60, v0, c0, c1, c2, c3, k6_isKey (show 2 ≤ 10 by omega) (e0 _) k10, k6_isMachine (show 2 ≤ 10 by omega) (e1 _) m5, k6_no (show 1 ≤ 10 by omega) rc1, k6_no (show 1 ≤ 10 by omega) rc2, k6_no (show 1 ≤ 10 by omega) rc3, k6_no (show 1 ≤ 10 by omega) rc4, k6_no (show 1 ≤ 10 by omega) rc6, k6_isTooth (show 2 ≤ 10 by omega), k6_isIn (show 1 ≤ 10 by omega), k6_wrong (show 1 ≤ 10 by omega), isin_01, bz0, ite_bz, e0, e1, Option.toList_some, Option.toList_none, List.cons_append, List.nil_append, and_assoc, exists_and_left, exists_eq_left, true_and, and_true, Nat.reduceLeDiff, not_false_eq_true, not_true_eq_false, ↓reduceIte, eq_self, ← Int32.not_lt, ite_not, Classical.not_not]
      have hh := hq (mPut h 66 x) mS_66 frR_66
      unfold nxA at hh
      cases e : bst (nxP (mv 60 h) M) (nxW (mv 60 h)) (10 * K) with
      | none =>
        simp only [e, on, onw9, show (-9 : Int32) < 0 by decide, ite_self, decide_true, decide_false, not_false_eq_true, not_true_eq_false, ↓reduceIte, Bool.false_eq_true, Bool.and_true, Bool.true_and, Bool.false_and, Bool.and_false, true_and, false_and, and_true, and_false] at hh ⊢
        exact hh
      | some b =>
        have hb := bst_lt e
        rcases i01t c with rfl | rfl
        · simp only [e, on, onw9, onF, nnn (show b ≤ 100000 by omega), show ¬ (0 : Int32) = 1 by decide, decide_true, decide_false, not_false_eq_true, not_true_eq_false, ↓reduceIte, Bool.false_eq_true, Bool.and_true, Bool.true_and, Bool.false_and, Bool.and_false, true_and, false_and, and_true, and_false] at hh ⊢
          exact hh
        · simp only [e, on, onw9, onF, nnn (show b ≤ 100000 by omega), n01, decide_true, decide_false, not_false_eq_true, not_true_eq_false, ↓reduceIte, Bool.false_eq_true, Bool.and_true, Bool.true_and, Bool.false_and, Bool.and_false, true_and, false_and, and_true, and_false] at hh ⊢
          exact hh
theorem r_inRow (x y w : Int32) : KR eX6_inRow [.int x, .int y, .int w] (f_inRow x y w) := by
  refine KR_of66 rfl (fun h K M GS G Q hq x0 => ?_)
  show WP 10 eX6_inRow Q 0 [.ref 59, .int x, .int y, .int w, mU, mU] [] (mPut h 66 x0)
  have g0 : mv 60 h 0 = nI K := G.s0
  have g1 : mv 60 h 1 = nI M := G.s1
  have e0 : ∀ x, mPut h 66 x 60 0 = nI K := fun x => by rw [q60]; exact G.s0
  have e1 : ∀ x, mPut h 66 x 60 1 = nI M := fun x => by rw [q60]; exact G.s1
  have k10 := G.k10
  have m5 := G.m5
  have gk := gdkN G
  have gm := gdmN G
  unfold f_inRow at hq
  simp only [mS_1, mS_if, mS_im, mS_ln, mS_l, mS_rn, mS_r, mS_q, g0, g1, bno, gk, gm] at hq
  simp only [bX6_inRow_0, bX6_inRow_5, bX6_inRow_8, bX6_inRow_13, bX6_inRow_16, bX6_inRow_21, bX6_inRow_22, bX6_inRow_28, bX6_inRow_31, bX6_inRow_37, t59, r590, r594, r595, r596, r599, t60, l60, v0, c0, c1, c2, c3, k6_isKey (show 2 ≤ 10 by omega) (e0 _) k10, k6_isMachine (show 2 ≤ 10 by omega) (e1 _) m5, k6_no (show 1 ≤ 10 by omega) rc1, k6_no (show 1 ≤ 10 by omega) rc2, k6_no (show 1 ≤ 10 by omega) rc3, k6_no (show 1 ≤ 10 by omega) rc4, k6_no (show 1 ≤ 10 by omega) rc6, k6_isTooth (show 2 ≤ 10 by omega), k6_isIn (show 1 ≤ 10 by omega), k6_wrong (show 1 ≤ 10 by omega), isin_01, bz0, ite_bz, e0, e1, Option.toList_some, Option.toList_none, List.cons_append, List.nil_append, and_assoc, exists_and_left, exists_eq_left, true_and, and_true, Nat.reduceLeDiff, not_false_eq_true, not_true_eq_false, ↓reduceIte, eq_self, ← Int32.not_lt, ite_not, Classical.not_not]
  cases c : ik x (nI K) with
  | false => simp only [c, decide_true, decide_false, not_false_eq_true, not_true_eq_false, ↓reduceIte, Bool.false_eq_true, Bool.and_true, Bool.true_and, Bool.false_and, Bool.and_false, true_and, false_and, and_true, and_false] at hq ⊢; exact hq _ (mS_rf _) (frR_rf _)
  | true =>
    obtain ⟨k, hk, rfl⟩ := ikt (by omega) c
    have hk10 : k < 10 := by omega
    simp only [c, decide_true, decide_false, not_false_eq_true, not_true_eq_false, ↓reduceIte, Bool.false_eq_true, Bool.and_true, Bool.true_and, Bool.false_and, Bool.and_false, true_and, false_and, and_true, and_false, xN_n (show k < 100000 by omega)] at hq ⊢
    cases c2 : ik y (nI M) with
    | false => simp only [c2, decide_true, decide_false, not_false_eq_true, not_true_eq_false, ↓reduceIte, Bool.false_eq_true, Bool.and_true, Bool.true_and, Bool.false_and, Bool.and_false, true_and, false_and, and_true, and_false] at hq ⊢; exact hq _ (mS_rf _) (frR_rf _)
    | true =>
      obtain ⟨m, hm, rfl⟩ := ikt (by omega) c2
      simp only [c2, decide_true, decide_false, not_false_eq_true, not_true_eq_false, ↓reduceIte, Bool.false_eq_true, Bool.and_true, Bool.true_and, Bool.false_and, Bool.and_false, true_and, false_and, and_true, and_false, xN_n (show m < 100000 by omega)] at hq ⊢
      cases c3 : i01 w with
      | false => simp only [c3, decide_true, decide_false, not_false_eq_true, not_true_eq_false, ↓reduceIte, Bool.false_eq_true, Bool.and_true, Bool.true_and, Bool.false_and, Bool.and_false, true_and, false_and, and_true, and_false] at hq ⊢; exact hq _ (mS_rf _) (frR_rf _)
      | true =>
        simp only [c3, decide_true, decide_false, not_false_eq_true, not_true_eq_false, ↓reduceIte, Bool.false_eq_true, Bool.and_true, Bool.true_and, Bool.false_and, Bool.and_false, true_and, false_and, and_true, and_false] at hq ⊢
        simp only [bX6_inRow_38, bX6_inRow_43, t59, k6_takes (show 2 ≤ 10 by omega) hk10, Option.toList_some, Option.toList_none, List.cons_append, List.nil_append, and_assoc, exists_and_left, exists_eq_left, true_and, and_true, Nat.reduceLeDiff, not_false_eq_true, not_true_eq_false, ↓reduceIte, eq_self, ← Int32.not_lt, ite_not, Classical.not_not]
        have hq : ∀ g, Q (some (.int (if w = 0 then ond 30 (fst (rwP (mv 60 h) k m) 0 30) else rwT (mv 60 h) k m (fst (rwP (mv 60 h) k m) 0 30)))) (mPut h 66 g) := by
          intro g
          by_cases w0 : w = 0
          · simp only [w0, decide_true, decide_false, not_false_eq_true, not_true_eq_false, ↓reduceIte, Bool.false_eq_true, Bool.and_true, Bool.true_and, Bool.false_and, Bool.and_false, true_and, false_and, and_true, and_false] at hq ⊢; exact hq _ mS_66 frR_66
          · simp only [w0, decide_true, decide_false, not_false_eq_true, not_true_eq_false, ↓reduceIte, Bool.false_eq_true, Bool.and_true, Bool.true_and, Bool.false_and, Bool.and_false, true_and, false_and, and_true, and_false] at hq ⊢; exact hq _ mS_66 frR_66
        have inner : ∀ (n : Nat) (F g : Nat → Int32) u, (ltf F (pinF (mv 60 h)) (mv 60 h 3) = -9 → WP 10 eX6_inRow Q 114 [.ref 59, .int (nI k), .int (nI m), .int w, .int (nI n), .int 5] [] (mPut h 66 (pT F g 5))) → (¬ ltf F (pinF (mv 60 h)) (mv 60 h 3) = -9 → Q (some (.int (if w = 0 then nI n else ltf F (pinF (mv 60 h)) (mv 60 h 3)))) (mPut h 66 (pT F g 5))) → WP 10 eX6_inRow Q 59 [.ref 59, .int (nI k), .int (nI m), .int w, .int (nI n), u] [] (mPut h 66 (pT F g 5)) := by
          intro n F g u h1 h2
          rw [bX6_inRow_59]
          have e3 : ∀ x, mPut h 66 x 60 3 = mv 60 h 3 := fun x => by rw [q60]; exact mvE (by omega)
          have st : ∀ t, t < 5 → WP 10 eX6_inRow Q 62 [.ref 59, .int (nI k), .int (nI m), .int w, .int (nI n), .int (nI t)] [] (mPut h 66 (pT F g 5)) = (if mv 60 h 3 < ap (F t) (pinF (mv 60 h) t) then Q (some (.int (if w = 0 then nI n else nI t))) (mPut h 66 (pT F g 5)) else WP 10 eX6_inRow Q 62 [.ref 59, .int (nI k), .int (nI m), .int w, .int (nI n), .int (nI (t + 1))] [] (mPut h 66 (pT F g 5))) := by
            intro t ht
            conv => lhs; rw [bX6_inRow_62]
            simp only [bX6_inRow_68, bX6_inRow_87, bX6_inRow_96, bX6_inRow_100, bX6_inRow_105, bX6_inRow_107, bX6_inRow_108, show (5 : Int32) = nI 5 from rfl, nlt (show t ≤ 100000 by omega) (show 5 ≤ 100000 by omega), ht, t59, r590, r599, t60, l60, t66, l66, v0, c3, Nat.reduceEqDiff, vp_nI ht (show 5 ≤ 100 by omega), nI_cl (show t < 100 by omega), show (4 : Int32) = nI 4 from rfl, nI_plus, v89 (show 4 + t < 89 by omega), nI_cl (show 4 + t < 100 by omega), mPut_self, pT_lt ht, q60, mvE (c := 60) (h := h) (show 4 + t < 89 by omega), k6_apart (show 1 ≤ 10 by omega), show Int32.toNatClampNeg 3 = 3 from rfl, mvE (c := 60) (h := h) (show 3 < 89 by omega), nI_1, Option.toList_some, Option.toList_none, List.cons_append, List.nil_append, and_assoc, exists_and_left, exists_eq_left, true_and, and_true, Nat.reduceLeDiff, not_false_eq_true, not_true_eq_false, ↓reduceIte, eq_self, ← Int32.not_lt, ite_not, Classical.not_not]
            rw [show mv 60 h (4 + t) = pinF (mv 60 h) t from rfl]
            by_cases cc : mv 60 h 3 < ap (F t) (pinF (mv 60 h) t)
            · by_cases w0 : w = 0 <;> simp only [cc, w0, decide_true, decide_false, not_false_eq_true, not_true_eq_false, ↓reduceIte, Bool.false_eq_true, Bool.and_true, Bool.true_and, Bool.false_and, Bool.and_false, true_and, false_and, and_true, and_false]
            · simp only [cc, decide_true, decide_false, not_false_eq_true, not_true_eq_false, ↓reduceIte, Bool.false_eq_true, Bool.and_true, Bool.true_and, Bool.false_and, Bool.and_false, true_and, false_and, and_true, and_false]
          have e5 : WP 10 eX6_inRow Q 62 [.ref 59, .int (nI k), .int (nI m), .int w, .int (nI n), .int (nI 5)] [] (mPut h 66 (pT F g 5)) = WP 10 eX6_inRow Q 114 [.ref 59, .int (nI k), .int (nI m), .int w, .int (nI n), .int (nI 5)] [] (mPut h 66 (pT F g 5)) := by
            simp only [bX6_inRow_62, show (5 : Int32) = nI 5 from rfl, nlt (show 5 ≤ 100000 by omega) (show 5 ≤ 100000 by omega), Nat.lt_irrefl, Option.toList_some, Option.toList_none, List.cons_append, List.nil_append, and_assoc, exists_and_left, exists_eq_left, true_and, and_true, Nat.reduceLeDiff, not_false_eq_true, not_true_eq_false, ↓reduceIte, eq_self, ← Int32.not_lt, ite_not, Classical.not_not]
          show WP 10 eX6_inRow Q 62 [.ref 59, .int (nI k), .int (nI m), .int w, .int (nI n), .int (nI 0)] [] (mPut h 66 (pT F g 5))
          rw [st 0 (by omega), st 1 (by omega), st 2 (by omega), st 3 (by omega), st 4 (by omega), e5]
          unfold ltf at h1 h2
          by_cases c0 : mv 60 h 3 < ap (F 0) (pinF (mv 60 h) 0)
          · simp only [c0, decide_true, decide_false, not_false_eq_true, not_true_eq_false, ↓reduceIte, Bool.false_eq_true, Bool.and_true, Bool.true_and, Bool.false_and, Bool.and_false, true_and, false_and, and_true, and_false] at h2 ⊢; exact h2 (by decide)
          by_cases c1 : mv 60 h 3 < ap (F 1) (pinF (mv 60 h) 1)
          · simp only [c0, c1, decide_true, decide_false, not_false_eq_true, not_true_eq_false, ↓reduceIte, Bool.false_eq_true, Bool.and_true, Bool.true_and, Bool.false_and, Bool.and_false, true_and, false_and, and_true, and_false] at h2 ⊢; exact h2 (by decide)
          by_cases c2 : mv 60 h 3 < ap (F 2) (pinF (mv 60 h) 2)
          · simp only [c0, c1, c2, decide_true, decide_false, not_false_eq_true, not_true_eq_false, ↓reduceIte, Bool.false_eq_true, Bool.and_true, Bool.true_and, Bool.false_and, Bool.and_false, true_and, false_and, and_true, and_false] at h2 ⊢; exact h2 (by decide)
          by_cases c3 : mv 60 h 3 < ap (F 3) (pinF (mv 60 h) 3)
          · simp only [c0, c1, c2, c3, decide_true, decide_false, not_false_eq_true, not_true_eq_false, ↓reduceIte, Bool.false_eq_true, Bool.and_true, Bool.true_and, Bool.false_and, Bool.and_false, true_and, false_and, and_true, and_false] at h2 ⊢; exact h2 (by decide)
          by_cases c4 : mv 60 h 3 < ap (F 4) (pinF (mv 60 h) 4)
          · simp only [c0, c1, c2, c3, c4, decide_true, decide_false, not_false_eq_true, not_true_eq_false, ↓reduceIte, Bool.false_eq_true, Bool.and_true, Bool.true_and, Bool.false_and, Bool.and_false, true_and, false_and, and_true, and_false] at h2 ⊢; exact h2 (by decide)
          · simp only [c0, c1, c2, c3, c4, decide_true, decide_false, not_false_eq_true, not_true_eq_false, ↓reduceIte, Bool.false_eq_true, Bool.and_true, Bool.true_and, Bool.false_and, Bool.and_false, true_and, false_and, and_true, and_false] at h1 ⊢; exact h1 trivial
        have key : ∀ (n i : Nat), i + n = 30 → (∀ g, Q (some (.int (if w = 0 then ond 30 (fst (rwP (mv 60 h) k m) i n) else rwT (mv 60 h) k m (fst (rwP (mv 60 h) k m) i n)))) (mPut h 66 g)) → ∀ u, WP 10 eX6_inRow Q 46 [.ref 59, .int (nI k), .int (nI m), .int w, .int (nI i), u] [] (mPut h 66 (pT (cutN (mv 60 h) m (rowF (mv 60 h) k) i) x0 5)) := by
          intro n
          induction n with
          | zero =>
            intro i hi hq u
            have hq := hq (pT (cutN (mv 60 h) m (rowF (mv 60 h) k) i) x0 5)
            have : i = 30 := by omega
            subst this
            simp only [bX6_inRow_46, bX6_inRow_120, bX6_inRow_124, bX6_inRow_129, bX6_inRow_131, show (30 : Int32) = nI 30 from rfl, nlt (show 30 ≤ 100000 by omega) (show 30 ≤ 100000 by omega), Nat.lt_irrefl, Option.toList_some, Option.toList_none, List.cons_append, List.nil_append, and_assoc, exists_and_left, exists_eq_left, true_and, and_true, Nat.reduceLeDiff, not_false_eq_true, not_true_eq_false, ↓reduceIte, eq_self, ← Int32.not_lt, ite_not, Classical.not_not]
            by_cases w0 : w = 0 <;> simp only [w0, decide_true, decide_false, not_false_eq_true, not_true_eq_false, ↓reduceIte, Bool.false_eq_true, Bool.and_true, Bool.true_and, Bool.false_and, Bool.and_false, true_and, false_and, and_true, and_false] at hq ⊢ <;> exact hq
          | succ n ih =>
            intro i hi hq u
            rw [bX6_inRow_46]
            simp only [bX6_inRow_53, show (30 : Int32) = nI 30 from rfl, nlt (show i ≤ 100000 by omega) (show 30 ≤ 100000 by omega), show i < 30 by omega, t59, k6_cutsBy0 (show 5 ≤ 10 by omega) (show m < 5 by omega), Option.toList_some, Option.toList_none, List.cons_append, List.nil_append, and_assoc, exists_and_left, exists_eq_left, true_and, and_true, Nat.reduceLeDiff, not_false_eq_true, not_true_eq_false, ↓reduceIte, eq_self, ← Int32.not_lt, ite_not, Classical.not_not]
            have er : rwP (mv 60 h) k m i = !decide (ltf (cutM (mv 60 h) m (cutN (mv 60 h) m (rowF (mv 60 h) k) i)) (pinF (mv 60 h)) (mv 60 h 3) = -9) := rfl
            refine inner i _ _ _ (fun hz => ?_) (fun hz => ?_)
            · rw [bX6_inRow_114, nI_1]
              refine ih (i + 1) (by omega) ?_ _
              rw [fst, er] at hq
              simp only [hz, decide_true, decide_false, not_false_eq_true, not_true_eq_false, ↓reduceIte, Bool.false_eq_true, Bool.and_true, Bool.true_and, Bool.false_and, Bool.and_false, true_and, false_and, and_true, and_false, Bool.not_true] at hq
              exact hq
            · rw [fst, er] at hq
              simp only [hz, decide_true, decide_false, not_false_eq_true, not_true_eq_false, ↓reduceIte, Bool.false_eq_true, Bool.and_true, Bool.true_and, Bool.false_and, Bool.and_false, true_and, false_and, and_true, and_false, Bool.not_false] at hq
              exact hq _
        exact key 30 0 (by omega) hq _
theorem r_lasts (x : Int32) : KR eX6_lasts [.int x] (f_lasts x) := by
  refine KR_of66 rfl (fun h K M GS G Q hq x0 => ?_)
  show WP 10 eX6_lasts Q 0 [.ref 59, .int x, mU, mU, mU] [] (mPut h 66 x0)
  have g0 : mv 60 h 0 = nI K := G.s0
  have g1 : mv 60 h 1 = nI M := G.s1
  have e0 : ∀ x, mPut h 66 x 60 0 = nI K := fun x => by rw [q60]; exact G.s0
  have e1 : ∀ x, mPut h 66 x 60 1 = nI M := fun x => by rw [q60]; exact G.s1
  have k10 := G.k10
  have m5 := G.m5
  have gk := gdkN G
  have gm := gdmN G
  unfold f_lasts at hq
  simp only [mS_1, mS_if, mS_im, mS_ln, mS_l, mS_rn, mS_r, mS_q, g0, g1, bno, gk, gm] at hq
  simp only [bX6_lasts_0, bX6_lasts_5, bX6_lasts_8, bX6_lasts_13, t59, r590, r594, r595, r596, r599, t60, l60, v0, c0, c1, c2, c3, k6_isKey (show 2 ≤ 10 by omega) (e0 _) k10, k6_isMachine (show 2 ≤ 10 by omega) (e1 _) m5, k6_no (show 1 ≤ 10 by omega) rc1, k6_no (show 1 ≤ 10 by omega) rc2, k6_no (show 1 ≤ 10 by omega) rc3, k6_no (show 1 ≤ 10 by omega) rc4, k6_no (show 1 ≤ 10 by omega) rc6, k6_isTooth (show 2 ≤ 10 by omega), k6_isIn (show 1 ≤ 10 by omega), k6_wrong (show 1 ≤ 10 by omega), isin_01, bz0, ite_bz, e0, e1, Option.toList_some, Option.toList_none, List.cons_append, List.nil_append, and_assoc, exists_and_left, exists_eq_left, true_and, and_true, Nat.reduceLeDiff, not_false_eq_true, not_true_eq_false, ↓reduceIte, eq_self, ← Int32.not_lt, ite_not, Classical.not_not]
  cases c : ik x (nI K) with
  | false => simp only [c, decide_true, decide_false, not_false_eq_true, not_true_eq_false, ↓reduceIte, Bool.false_eq_true, Bool.and_true, Bool.true_and, Bool.false_and, Bool.and_false, true_and, false_and, and_true, and_false] at hq ⊢; exact hq _ (mS_rf _) (frR_rf _)
  | true =>
    obtain ⟨k, hk, rfl⟩ := ikt (by omega) c
    have hk10 : k < 10 := by omega
    simp only [c, decide_true, decide_false, not_false_eq_true, not_true_eq_false, ↓reduceIte, Bool.false_eq_true, Bool.and_true, Bool.true_and, Bool.false_and, Bool.and_false, true_and, false_and, and_true, and_false, xN_n (show k < 100000 by omega)] at hq ⊢
    have hq := hq (mPut h 66 x0) mS_66 frR_66
    rw [bX6_lasts_14]
    have key : ∀ (n i : Nat), i + n = 1000 → Q (some (.int (on (fst (ltP (mv 60 h) k) i n)))) (mPut h 66 x0) → ∀ u v, WP 10 eX6_lasts Q 16 [.ref 59, .int (nI k), .int (nI i), u, v] [] (mPut h 66 x0) := by
      intro n
      induction n with
      | zero =>
        intro i hi hq2 u v
        have : i = 1000 := by omega
        subst this
        simp only [bX6_lasts_16, bX6_lasts_122, show (999 : Int32) = nI 999 from rfl, nlt (show 999 ≤ 100000 by omega) (show 1000 ≤ 100000 by omega), show 999 < 1000 by omega, Option.toList_some, Option.toList_none, List.cons_append, List.nil_append, and_assoc, exists_and_left, exists_eq_left, true_and, and_true, Nat.reduceLeDiff, not_false_eq_true, not_true_eq_false, ↓reduceIte, eq_self, ← Int32.not_lt, ite_not, Classical.not_not]
        exact hq2
      | succ n ih =>
        intro i hi hq2 u v
        rw [bX6_lasts_16]
        have s0 : WP 10 eX6_lasts Q 36 [.ref 59, .int (nI k), .int (nI i), u, v] [.int (bz (!snb (mv 60 h) k))] (mPut h 66 x0) := by
          rw [bX6_lasts_36]
          have lp := wl (fun t => WP 10 eX6_lasts Q 40 [.ref 59, .int (nI k), .int (nI i), .int (bz (!snb (mv 60 h) k && alb (fun t => decide (¬ mv 60 h 3 < ap (woH (rowF (mv 60 h) k) i t) (woP (pinF (mv 60 h)) i t))) t)), .int (nI t)] [] (mPut h 66 x0)) 5 ?_ 5 0 (by omega) ?_
          · rw [show alb (fun t => decide (¬ mv 60 h 3 < ap (woH (rowF (mv 60 h) k) i t) (woP (pinF (mv 60 h)) i t))) 0 = true from rfl, Bool.and_true] at lp
            exact lp
          · intro t ht hw
            rw [alb, ← Bool.and_assoc, ← bz_and] at hw
            rw [bX6_lasts_40]
            simp only [bX6_lasts_46, bX6_lasts_58, bX6_lasts_67, bX6_lasts_85, bX6_lasts_88, bX6_lasts_97, bX6_lasts_101, bX6_lasts_102, show (5 : Int32) = nI 5 from rfl, nlt (show t ≤ 100000 by omega) (show 5 ≤ 100000 by omega), ht, k6_of (show 1 ≤ 10 by omega), v89 (show 9 + 7 * k + t < 89 by omega), nI_cl (show 9 + 7 * k + t < 100 by omega), k6_most (show 1 ≤ 10 by omega), show (4 : Int32) = nI 4 from rfl, nI_plus, v89 (show 4 + t < 89 by omega), nI_cl (show 4 + t < 100 by omega), q60, mvE (c := 60) (h := h) (show 9 + 7 * k + t < 89 by omega), mvE (c := 60) (h := h) (show 4 + t < 89 by omega), mvE (c := 60) (h := h) (show 3 < 89 by omega), k6_apart (show 1 ≤ 10 by omega), nI_1, t59, r590, r594, r595, r596, r599, t60, l60, v0, c0, c1, c2, c3, k6_isKey (show 2 ≤ 10 by omega) (e0 _) k10, k6_isMachine (show 2 ≤ 10 by omega) (e1 _) m5, k6_no (show 1 ≤ 10 by omega) rc1, k6_no (show 1 ≤ 10 by omega) rc2, k6_no (show 1 ≤ 10 by omega) rc3, k6_no (show 1 ≤ 10 by omega) rc4, k6_no (show 1 ≤ 10 by omega) rc6, k6_isTooth (show 2 ≤ 10 by omega), k6_isIn (show 1 ≤ 10 by omega), k6_wrong (show 1 ≤ 10 by omega), isin_01, bz0, ite_bz, e0, e1, Option.toList_some, Option.toList_none, List.cons_append, List.nil_append, and_assoc, exists_and_left, exists_eq_left, true_and, and_true, Nat.reduceLeDiff, not_false_eq_true, not_true_eq_false, ↓reduceIte, eq_self, ← Int32.not_lt, ite_not, Classical.not_not]
            rw [show jmx 0 (mv 60 h (9 + 7 * k + t) - nI i / 10) = woH (rowF (mv 60 h) k) i t from rfl, show jmx 0 (mv 60 h (4 + t) - nI i / 20) = woP (pinF (mv 60 h)) i t from rfl]
            by_cases cc : mv 60 h 3 < ap (woH (rowF (mv 60 h) k) i t) (woP (pinF (mv 60 h)) i t) <;> simp only [cc, decide_true, decide_false, not_false_eq_true, not_true_eq_false, ↓reduceIte, Bool.false_eq_true, Bool.and_true, Bool.true_and, Bool.false_and, Bool.and_false, true_and, false_and, and_true, and_false, bzt, bzf] at hw ⊢ <;> exact hw
          · rw [alb_fit, show fitb (fun t => woH (rowF (mv 60 h) k) i t) (fun t => woP (pinF (mv 60 h)) i t) (mv 60 h 3) = wop (mv 60 h) k i from rfl]
            rw [fst, show ltP (mv 60 h) k i = (snb (mv 60 h) k || !wop (mv 60 h) k i) from rfl] at hq2
            simp only [bX6_lasts_40, bX6_lasts_110, bX6_lasts_114, bX6_lasts_116, show (5 : Int32) = nI 5 from rfl, nlt (show 5 ≤ 100000 by omega) (show 5 ≤ 100000 by omega), Nat.lt_irrefl, bz0, ite_bz, nI_1, Option.toList_some, Option.toList_none, List.cons_append, List.nil_append, and_assoc, exists_and_left, exists_eq_left, true_and, and_true, Nat.reduceLeDiff, not_false_eq_true, not_true_eq_false, ↓reduceIte, eq_self, ← Int32.not_lt, ite_not, Classical.not_not]
            cases a : snb (mv 60 h) k with
            | true => simp only [a, decide_true, decide_false, not_false_eq_true, not_true_eq_false, ↓reduceIte, Bool.false_eq_true, Bool.and_true, Bool.true_and, Bool.false_and, Bool.and_false, true_and, false_and, and_true, and_false, Bool.true_or, Bool.not_true] at hq2 ⊢; exact hq2
            | false =>
              cases b : wop (mv 60 h) k i with
              | true => simp only [a, b, decide_true, decide_false, not_false_eq_true, not_true_eq_false, ↓reduceIte, Bool.false_eq_true, Bool.and_true, Bool.true_and, Bool.false_and, Bool.and_false, true_and, false_and, and_true, and_false, Bool.false_or, Bool.not_true, Bool.not_false] at hq2 ⊢; exact ih (i + 1) (by omega) hq2 _ _
              | false => simp only [a, b, decide_true, decide_false, not_false_eq_true, not_true_eq_false, ↓reduceIte, Bool.false_eq_true, Bool.and_true, Bool.true_and, Bool.false_and, Bool.and_false, true_and, false_and, and_true, and_false, Bool.false_or, Bool.not_false] at hq2 ⊢; exact hq2
        simp only [bX6_lasts_23, bX6_lasts_28, bX6_lasts_31, bX6_lasts_35, show (999 : Int32) = nI 999 from rfl, nlt (show 999 ≤ 100000 by omega) (show i ≤ 100000 by omega), show ¬ 999 < i by omega, k6_isSnapped (show 2 ≤ 10 by omega) (G66 G _) hk10, mv66, t59, r590, r594, r595, r596, r599, t60, l60, v0, c0, c1, c2, c3, k6_isKey (show 2 ≤ 10 by omega) (e0 _) k10, k6_isMachine (show 2 ≤ 10 by omega) (e1 _) m5, k6_no (show 1 ≤ 10 by omega) rc1, k6_no (show 1 ≤ 10 by omega) rc2, k6_no (show 1 ≤ 10 by omega) rc3, k6_no (show 1 ≤ 10 by omega) rc4, k6_no (show 1 ≤ 10 by omega) rc6, k6_isTooth (show 2 ≤ 10 by omega), k6_isIn (show 1 ≤ 10 by omega), k6_wrong (show 1 ≤ 10 by omega), isin_01, bz0, ite_bz, e0, e1, Option.toList_some, Option.toList_none, List.cons_append, List.nil_append, and_assoc, exists_and_left, exists_eq_left, true_and, and_true, Nat.reduceLeDiff, not_false_eq_true, not_true_eq_false, ↓reduceIte, eq_self, ← Int32.not_lt, ite_not, Classical.not_not]
        cases a : snb (mv 60 h) k <;> simp only [a, decide_true, decide_false, not_false_eq_true, not_true_eq_false, ↓reduceIte, Bool.false_eq_true, Bool.and_true, Bool.true_and, Bool.false_and, Bool.and_false, true_and, false_and, and_true, and_false, Bool.not_true, Bool.not_false, bzt, bzf] at s0 ⊢ <;> exact s0
    exact key 1000 0 (by omega) hq _ _
