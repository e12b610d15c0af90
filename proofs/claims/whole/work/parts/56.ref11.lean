section DN
variable {h : mH} {n p : Nat} {lc : Nat → Nat}
def pinP (σ F : Nat → Int32) (t i : Nat) : Int32 := if 4 ≤ i ∧ i < 4 + t then F (i - 4) else σ i
theorem pinP_0 (σ F : Nat → Int32) : pinP σ F 0 = σ := by funext i; unfold pinP; rw [if_neg (by omega)]
theorem pinP_s (σ F : Nat → Int32) (t : Nat) : upd (pinP σ F t) (4 + t) (F t) = pinP σ F (t + 1) := by
  funext i
  simp only [upd_at]
  unfold pinP
  by_cases h1 : i = 4 + t
  · subst h1; rw [if_pos rfl, if_pos (by omega), show 4 + t - 4 = t by omega]
  · rw [if_neg h1]
    by_cases h3 : 4 ≤ i ∧ i < 4 + t
    · rw [if_pos h3, if_pos (by omega)]
    · rw [if_neg h3, if_neg (by omega)]
theorem cu2_key (σ : Nat → Int32) (K q : Nat) (lc : Nat → Nat) : upd (upd (upd (cu2 σ K (fun s => nI (d2 lc (q + 2 * s))) 5) (9 + 7 * K + 5) (-9)) (9 + 7 * K + 6) 0) 0 (nI (K + 1)) = keyS lc q K σ := by
  funext i
  unfold keyS addK
  simp only [upd_at]
  unfold cu2
  by_cases h0 : i = 0
  · rw [if_pos h0, if_neg (by omega), if_pos h0]
  · rw [if_neg h0, if_neg h0]
    by_cases h3 : 9 + 7 * K ≤ i ∧ i < 9 + 7 * K + 5
    · rw [if_neg (by omega), if_neg (by omega), if_pos h3, if_pos h3]
    · rw [if_neg h3, if_neg h3]
def dnT : List Nat := [294, 390, 390, 390, 390, 390, 390, 390, 137, 104, 234, 390, 390, 390, 390, 390, 381, 390, 341]
theorem dn108 : swT (nI 108) 99 [294, 390, 390, 390, 390, 390, 390, 390, 137, 104, 234, 390, 390, 390, 390, 390, 381, 390, 341] 390 = 104 := by decide +kernel
theorem dn107 : swT (nI 107) 99 [294, 390, 390, 390, 390, 390, 390, 390, 137, 104, 234, 390, 390, 390, 390, 390, 381, 390, 341] 390 = 137 := by decide +kernel
theorem dn109 : swT (nI 109) 99 [294, 390, 390, 390, 390, 390, 390, 390, 137, 104, 234, 390, 390, 390, 390, 390, 381, 390, 341] 390 = 234 := by decide +kernel
theorem dn99 : swT (nI 99) 99 [294, 390, 390, 390, 390, 390, 390, 390, 137, 104, 234, 390, 390, 390, 390, 390, 381, 390, 341] 390 = 294 := by decide +kernel
theorem dn117 : swT (nI 117) 99 [294, 390, 390, 390, 390, 390, 390, 390, 137, 104, 234, 390, 390, 390, 390, 390, 381, 390, 341] 390 = 341 := by decide +kernel
theorem dn115 : swT (nI 115) 99 [294, 390, 390, 390, 390, 390, 390, 390, 137, 104, 234, 390, 390, 390, 390, 390, 381, 390, 341] 390 = 381 := by decide +kernel
theorem dn120 : swT (nI 120) 99 [294, 390, 390, 390, 390, 390, 390, 390, 137, 104, 234, 390, 390, 390, 390, 390, 381, 390, 341] 390 = 390 := by decide +kernel
theorem q67 {x : Nat → Int32} : mPut h 66 x 67 = h 67 := mPut_ne h x (by omega)
theorem q6067 {f x : Nat → Int32} : mPut (mPut h 60 f) 66 x 67 = h 67 := by rw [q67, mPut_ne _ _ (by omega)]
theorem e6_isDone {D K M : Nat} (hD : 8 ≤ D) (G : gdN (mv 60 h) K M) (hw : wsh lc n p) (hN : nms lc p (h 67)) (x0 : Nat → Int32) : ∃ w', ((∀ σ', stm lc p (mv 60 h) = some σ' → mv 60 w' = σ') ∧ ∀ c, ¬ c = 60 → ¬ c = 66 → w' c = h c) ∧ Cal D eX6_isDone [.ref 59, .int (nI (lc p))] (mPut h 66 x0) (some (.int (bz (stm lc p (mv 60 h)).isSome))) w' := by
  refine Cal_pr (d := 7) hD rfl (fun Q hq => ?_)
  show WP 7 eX6_isDone Q 0 [.ref 59, .int (nI (lc p)), mU, mU, mU] [] (mPut h 66 x0)
  have k10 := G.k10
  have m5 := G.m5
  have e0 : ∀ x, mPut h 66 x 60 0 = nI K := fun x => by rw [q60]; exact G.s0
  have e1 : ∀ x, mPut h 66 x 60 1 = nI M := fun x => by rw [q60]; exact G.s1
  have D := fun q => wsh_d hw (q := q)
  have F := hw.2.2
  have fr0 : ∀ x c, ¬ c = 60 → ¬ c = 66 → mPut h 66 x c = h c := fun x c _ hc => mPut_ne _ _ hc
  have fr1 : ∀ f x c, ¬ c = 60 → ¬ c = 66 → mPut (mPut h 60 f) 66 x c = h c := fun f x c h1 h2 => by rw [mPut_ne _ _ h2, mPut_ne _ _ h1]
  have w0 : ∀ f, mPut (mPut h 66 x0) 60 f = mPut (mPut h 60 f) 66 x0 := fun f => mPut_comm _ _ _ (by omega)
  obtain ⟨s0, s1, s2, s3, s4⟩ := sln_c
  have v5 : vp_in 0 5 ∧ vp_in 1 5 := ⟨v05.1, v05.2.1⟩
  unfold stm at hq
  rw [gdkN G, gdmN G] at hq
  have hq0 : ∀ x, (∀ σ' : Nat → Int32, (none : Option (Nat → Int32)) = some σ' → mv 60 (mPut h 66 x) = σ') ∧ ∀ c, ¬ c = 60 → ¬ c = 66 → mPut h 66 x c = h c := fun x => ⟨fun σ' z => (by cases z), fr0 x⟩
  simp only [bX6_isDone_0, t59, r5911, t67, l67, v5, c0, c1, q67, swP_T, Option.toList_some, Option.toList_none, List.cons_append, List.nil_append, and_assoc, exists_and_left, exists_eq_left, true_and, and_true, Nat.reduceLeDiff, not_false_eq_true, not_true_eq_false, ↓reduceIte, eq_self, ← Int32.not_lt, ite_not, Classical.not_not]
  rcases sj_n5 hw.2.1 with ⟨e, ej⟩ | ⟨e, ej⟩ | ⟨e, ej⟩ | ⟨e, ej⟩ | ⟨e, ej⟩ | ⟨e, ej⟩ | ⟨e, ej⟩
  · have hN := hN.1 ej
    rw [if_pos e] at hq
    simp only [e, dn108, bX6_isDone_104]
    have st : ∀ f, mvf f = pinP (mv 60 h) (fun s => nI (d2 lc (p + 1 + 2 * s))) 0 → WP 7 eX6_isDone Q 107 [.ref 59, .int (nI 108), .int (h 67 0), .int (h 67 1), .int (nI 0)] [] (mPut (mPut h 60 f) 66 x0) := by
      refine wl (fun i => ∀ f, mvf f = pinP (mv 60 h) (fun s => nI (d2 lc (p + 1 + 2 * s))) i → WP 7 eX6_isDone Q 107 [.ref 59, .int (nI 108), .int (h 67 0), .int (h 67 1), .int (nI i)] [] (mPut (mPut h 60 f) 66 x0)) 5 ?_ 5 0 (by omega) ?_
      · intro i hi hw f hf
        rw [bX6_isDone_107]
        simp only [bX6_isDone_113, bX6_isDone_129, show (5 : Int32) = nI 5 from rfl, nlt (show i ≤ 100000 by omega) (show 5 ≤ 100000 by omega), hi, t59, r590, r5911, t60, l60, t67, l67, vp_nI hi (show 5 ≤ 100 by omega), nI_cl (show i < 100 by omega), show (4 : Int32) = nI 4 from rfl, nI_plus, v89 (show 4 + i < 89 by omega), nI_cl (show 4 + i < 100 by omega), q6067, hN i hi, o60, p60, nI_1, Option.toList_some, Option.toList_none, List.cons_append, List.nil_append, and_assoc, exists_and_left, exists_eq_left, true_and, and_true, Nat.reduceLeDiff, not_false_eq_true, not_true_eq_false, ↓reduceIte, eq_self, ← Int32.not_lt, ite_not, Classical.not_not]
        exact hw _ (by rw [mvf_u (by omega), hf]; exact pinP_s _ _ _)
      · intro f hf
        simp only [bX6_isDone_107, bX6_isDone_135, show (5 : Int32) = nI 5 from rfl, nlt (show 5 ≤ 100000 by omega) (show 5 ≤ 100000 by omega), Nat.lt_irrefl, nb1, Option.toList_some, Option.toList_none, List.cons_append, List.nil_append, and_assoc, exists_and_left, exists_eq_left, true_and, and_true, Nat.reduceLeDiff, not_false_eq_true, not_true_eq_false, ↓reduceIte, eq_self, ← Int32.not_lt, ite_not, Classical.not_not]
        refine hq _ ⟨fun σ' z => ?_, fr1 f x0⟩
        cases z
        rw [mv66, mv_f, hf]
        rfl
    have := st (h 60) (by rw [pinP_0]; rfl)
    rw [mPut_id] at this
    exact this
  · have hN := hN.1 ej
    have e10 : (nI K = 10) = (K = 10) := neq (b := 10) (by omega) (by omega)
    rw [if_neg (by omega), if_pos e] at hq
    simp only [e, dn107, bX6_isDone_137, bX6_isDone_148, t59, r590, t60, l60, v0, c0, e0, e10, nb0, Option.toList_some, Option.toList_none, List.cons_append, List.nil_append, and_assoc, exists_and_left, exists_eq_left, true_and, and_true, Nat.reduceLeDiff, not_false_eq_true, not_true_eq_false, ↓reduceIte, eq_self, ← Int32.not_lt, ite_not, Classical.not_not]
    by_cases c : K = 10
    · simp only [c, decide_true, decide_false, not_false_eq_true, not_true_eq_false, ↓reduceIte, Bool.false_eq_true, Bool.and_true, Bool.true_and, Bool.false_and, Bool.and_false, true_and, false_and, and_true, and_false, is_n, bzf] at hq ⊢; exact hq _ (hq0 _)
    · simp only [c, decide_true, decide_false, not_false_eq_true, not_true_eq_false, ↓reduceIte, Bool.false_eq_true, Bool.and_true, Bool.true_and, Bool.false_and, Bool.and_false, true_and, false_and, and_true, and_false, is_s, bzt] at hq ⊢
      rw [bX6_isDone_150]
      have st : ∀ f, mvf f = cu2 (mv 60 h) K (fun s => nI (d2 lc (p + 1 + 2 * s))) 0 → WP 7 eX6_isDone Q 153 [.ref 59, .int (nI 107), .int (h 67 0), .int (h 67 1), .int (nI 0)] [] (mPut (mPut h 60 f) 66 x0) := by
        refine wl (fun i => ∀ f, mvf f = cu2 (mv 60 h) K (fun s => nI (d2 lc (p + 1 + 2 * s))) i → WP 7 eX6_isDone Q 153 [.ref 59, .int (nI 107), .int (h 67 0), .int (h 67 1), .int (nI i)] [] (mPut (mPut h 60 f) 66 x0)) 5 ?_ 5 0 (by omega) ?_
        · intro i hi hw f hf
          have f0 : f 0 = nI K := by rw [mvf_e (f := f) (i := 0) (by omega), hf, cu2_o]; exact G.s0
          rw [bX6_isDone_153]
          simp only [bX6_isDone_159, bX6_isDone_174, bX6_isDone_182, show (5 : Int32) = nI 5 from rfl, nlt (show i ≤ 100000 by omega) (show 5 ≤ 100000 by omega), hi, t59, r590, r5911, t60, l60, t67, l67, v0, c0, o60, f0, k6_of (show 1 ≤ 7 by omega), vp_nI hi (show 5 ≤ 100 by omega), nI_cl (show i < 100 by omega), v89 (show 9 + 7 * K + i < 89 by omega), nI_cl (show 9 + 7 * K + i < 100 by omega), q6067, hN i hi, p60, nI_1, Option.toList_some, Option.toList_none, List.cons_append, List.nil_append, and_assoc, exists_and_left, exists_eq_left, true_and, and_true, Nat.reduceLeDiff, not_false_eq_true, not_true_eq_false, ↓reduceIte, eq_self, ← Int32.not_lt, ite_not, Classical.not_not]
          exact hw _ (by rw [mvf_u (by omega), hf]; exact cu2_s _ _ _ _)
        · intro f hf
          have f0 : f 0 = nI K := by rw [mvf_e (f := f) (i := 0) (by omega), hf, cu2_o]; exact G.s0
          have u0 : ∀ (f : Nat → Int32) j v, ¬ j = 0 → upd f j v 0 = f 0 := fun f j v hj => if_neg (fun z => hj z.symm)
          simp only [bX6_isDone_153, bX6_isDone_188, bX6_isDone_202, bX6_isDone_205, bX6_isDone_220, bX6_isDone_222, bX6_isDone_232, show (5 : Int32) = nI 5 from rfl, nlt (show 5 ≤ 100000 by omega) (show 5 ≤ 100000 by omega), Nat.lt_irrefl, t59, r590, t60, l60, v0, c0, o60, f0, k6_of (show 1 ≤ 7 by omega), k6_of6 (show 1 ≤ 7 by omega), v89 (show 9 + 7 * K + 5 < 89 by omega), nI_cl (show 9 + 7 * K + 5 < 100 by omega), v89 (show 9 + 7 * K + 6 < 89 by omega), nI_cl (show 9 + 7 * K + 6 < 100 by omega), p60, u0 _ (9 + 7 * K + 5) _ (by omega), u0 _ (9 + 7 * K + 6) _ (by omega), nI_1, nb1, Option.toList_some, Option.toList_none, List.cons_append, List.nil_append, and_assoc, exists_and_left, exists_eq_left, true_and, and_true, Nat.reduceLeDiff, not_false_eq_true, not_true_eq_false, ↓reduceIte, eq_self, ← Int32.not_lt, ite_not, Classical.not_not]
          refine hq _ ⟨fun σ' z => ?_, fr1 _ x0⟩
          cases z
          rw [mv66, mv_f, mvf_u (by omega), mvf_u (by omega), mvf_u (by omega), hf, cu2_key]
      have := st (h 60) (by rw [cu2_0]; rfl)
      rw [mPut_id] at this
      exact this
  · obtain ⟨a1, a2⟩ := hN.2.1 ej
    have e5 : (nI M = 5) = (M = 5) := neq (b := 5) (by omega) (by omega)
    rw [if_neg (by omega), if_neg (by omega), if_pos e] at hq
    simp only [e, dn109, bX6_isDone_234, bX6_isDone_244, t59, r590, t60, l60, v0, c1, e1, e5, a1, a2, nb0, Option.toList_some, Option.toList_none, List.cons_append, List.nil_append, and_assoc, exists_and_left, exists_eq_left, true_and, and_true, Nat.reduceLeDiff, not_false_eq_true, not_true_eq_false, ↓reduceIte, eq_self, ← Int32.not_lt, ite_not, Classical.not_not]
    by_cases c : M = 5
    · simp only [c, decide_true, decide_false, not_false_eq_true, not_true_eq_false, ↓reduceIte, Bool.false_eq_true, Bool.and_true, Bool.true_and, Bool.false_and, Bool.and_false, true_and, false_and, and_true, and_false, is_n, bzf] at hq ⊢; exact hq _ (hq0 _)
    · have u1 : ∀ (f : Nat → Int32) j v, ¬ j = 1 → upd f j v 1 = f 1 := fun f j v hj => if_neg (fun z => hj z.symm)
      have h1 : h 60 1 = nI M := G.s1
      simp only [c, decide_true, decide_false, not_false_eq_true, not_true_eq_false, ↓reduceIte, Bool.false_eq_true, Bool.and_true, Bool.true_and, Bool.false_and, Bool.and_false, true_and, false_and, and_true, and_false, is_s, bzt] at hq ⊢
      simp only [bX6_isDone_246, bX6_isDone_263, bX6_isDone_282, bX6_isDone_292, t59, r590, t60, l60, v0, c1, e1, q60, h1, show (79 : Int32) = nI 79 from rfl, show (2 : Int32) = nI 2 from rfl, nI_mul, nI_plus, nI_1, v89 (show 79 + 2 * M < 89 by omega), nI_cl (show 79 + 2 * M < 100 by omega), v89 (show 79 + 2 * M + 1 < 89 by omega), nI_cl (show 79 + 2 * M + 1 < 100 by omega), w0, o60, p60, mPut_self, u1 _ (79 + 2 * M) _ (by omega), u1 _ (79 + 2 * M + 1) _ (by omega), nb1, Option.toList_some, Option.toList_none, List.cons_append, List.nil_append, and_assoc, exists_and_left, exists_eq_left, true_and, and_true, Nat.reduceLeDiff, not_false_eq_true, not_true_eq_false, ↓reduceIte, eq_self, ← Int32.not_lt, ite_not, Classical.not_not]
      refine hq _ ⟨fun σ' z => ?_, fr1 _ x0⟩
      cases z
      rw [mv66, mv_f, mvf_u (by omega), mvf_u (by omega), mvf_u (by omega)]
      rfl
  · rw [ej, s2] at D
    have D0 : isD lc n (p + 1) := D 0 (by omega) (by omega)
    have D1 : isD lc n (p + 2) := D 1 (by omega) (by omega)
    have a9 := D0.d9
    have b9 := D1.d9
    obtain ⟨a1, a2⟩ := hN.2.2.1 ej
    have e10 : (nI K = 10) = (K = 10) := neq (b := 10) (by omega) (by omega)
    rw [if_neg (by omega), if_neg (by omega), if_neg (by omega), if_pos e] at hq
    simp only [e, dn99, bX6_isDone_294, bX6_isDone_299, bX6_isDone_329, t59, a1, a2, k6_isKey (show 2 ≤ 7 by omega) (e0 _) k10, ikk (show dg lc (p + 1) < 2 ^ 31 by omega) (show K ≤ 1000 by omega), bz0, ite_bz, nb0, Option.toList_some, Option.toList_none, List.cons_append, List.nil_append, and_assoc, exists_and_left, exists_eq_left, true_and, and_true, Nat.reduceLeDiff, not_false_eq_true, not_true_eq_false, ↓reduceIte, eq_self, ← Int32.not_lt, ite_not, Classical.not_not]
    by_cases ck : dg lc (p + 1) < K
    · simp only [ck, decide_true, decide_false, not_false_eq_true, not_true_eq_false, ↓reduceIte, Bool.false_eq_true, Bool.and_true, Bool.true_and, Bool.false_and, Bool.and_false, true_and, false_and, and_true, and_false]
      simp only [bX6_isDone_302, bX6_isDone_307, bX6_isDone_310, bX6_isDone_315, bX6_isDone_318, bX6_isDone_329, t59, r590, t60, l60, v0, c0, e0, e10, k6_isSnapped (show 2 ≤ 7 by omega) (G66 G _) (show dg lc (p + 1) < 10 by omega), mv66, k6_isMachine (show 2 ≤ 7 by omega) (e1 _) m5, ikk (show dg lc (p + 2) < 2 ^ 31 by omega) (show M ≤ 1000 by omega), bz0, ite_bz, nb0, Option.toList_some, Option.toList_none, List.cons_append, List.nil_append, and_assoc, exists_and_left, exists_eq_left, true_and, and_true, Nat.reduceLeDiff, not_false_eq_true, not_true_eq_false, ↓reduceIte, eq_self, ← Int32.not_lt, ite_not, Classical.not_not]
      cases cs : snb (mv 60 h) (dg lc (p + 1)) with
      | true =>
        have cw : ¬ whl (mv 60 h) K (dg lc (p + 1)) = true := by unfold whl; rw [cs]; simp
        simp only [cw, decide_true, decide_false, not_false_eq_true, not_true_eq_false, ↓reduceIte, Bool.false_eq_true, Bool.and_true, Bool.true_and, Bool.false_and, Bool.and_false, true_and, false_and, and_true, and_false, is_n, bzf] at hq ⊢; exact hq _ (hq0 _)
      | false =>
        have cw : whl (mv 60 h) K (dg lc (p + 1)) = true := by unfold whl; rw [cs, decide_eq_true ck]; rfl
        by_cases cm : dg lc (p + 2) < M
        · by_cases c10 : K = 10
          · simp only [cw, cm, c10, decide_true, decide_false, not_false_eq_true, not_true_eq_false, ↓reduceIte, Bool.false_eq_true, Bool.and_true, Bool.true_and, Bool.false_and, Bool.and_false, true_and, false_and, and_true, and_false, is_n, bzf] at hq ⊢
            exact hq _ (hq0 _)
          · obtain ⟨f, y, ef, hc⟩ := e6_cuts (show 6 ≤ 7 by omega) G (show K < 10 by omega) ck cm x0
            simp only [cw, cm, c10, decide_true, decide_false, not_false_eq_true, not_true_eq_false, ↓reduceIte, Bool.false_eq_true, Bool.and_true, Bool.true_and, Bool.false_and, Bool.and_false, true_and, false_and, and_true, and_false, is_s, bzt] at hq ⊢
            simp only [bX6_isDone_331, bX6_isDone_337, t59, Cal_iff hc, nb1, Option.toList_some, Option.toList_none, List.cons_append, List.nil_append, and_assoc, exists_and_left, exists_eq_left, true_and, and_true, Nat.reduceLeDiff, not_false_eq_true, not_true_eq_false, ↓reduceIte, eq_self, ← Int32.not_lt, ite_not, Classical.not_not]
            refine hq _ ⟨fun σ' z => ?_, fr1 f y⟩
            cases z
            rw [mv66, mv_f, ef]
        · simp only [cw, cm, decide_true, decide_false, not_false_eq_true, not_true_eq_false, ↓reduceIte, Bool.false_eq_true, Bool.and_true, Bool.true_and, Bool.false_and, Bool.and_false, true_and, false_and, and_true, and_false, is_n, bzf] at hq ⊢; exact hq _ (hq0 _)
    · have cw : ¬ whl (mv 60 h) K (dg lc (p + 1)) = true := fun z => ck (whl_lt z)
      simp only [ck, cw, decide_true, decide_false, not_false_eq_true, not_true_eq_false, ↓reduceIte, Bool.false_eq_true, Bool.and_true, Bool.true_and, Bool.false_and, Bool.and_false, true_and, false_and, and_true, and_false, is_n, bzf] at hq ⊢; exact hq _ (hq0 _)
  · rw [ej, s3] at D
    have D0 : isD lc n (p + 1) := D 0 (by omega) (by omega)
    have a9 := D0.d9
    obtain ⟨a1, a2⟩ := hN.2.2.2.1 ej
    rw [if_neg (by omega), if_neg (by omega), if_neg (by omega), if_neg (by omega), if_pos e] at hq
    simp only [e, dn117, bX6_isDone_341, bX6_isDone_346, bX6_isDone_371, t59, a1, a2, k6_isKey (show 2 ≤ 7 by omega) (e0 _) k10, ikk (show dg lc (p + 1) < 2 ^ 31 by omega) (show K ≤ 1000 by omega), bz0, ite_bz, nb0, Option.toList_some, Option.toList_none, List.cons_append, List.nil_append, and_assoc, exists_and_left, exists_eq_left, true_and, and_true, Nat.reduceLeDiff, not_false_eq_true, not_true_eq_false, ↓reduceIte, eq_self, ← Int32.not_lt, ite_not, Classical.not_not]
    by_cases ck : dg lc (p + 1) < K
    · simp only [ck, decide_true, decide_false, not_false_eq_true, not_true_eq_false, ↓reduceIte, Bool.false_eq_true, Bool.and_true, Bool.true_and, Bool.false_and, Bool.and_false, true_and, false_and, and_true, and_false]
      simp only [bX6_isDone_349, bX6_isDone_354, bX6_isDone_357, bX6_isDone_371, t59, r590, t60, l60, v0, c2, q60, mvE (c := 60) (h := h) (show 2 < 89 by omega), k6_isSnapped (show 2 ≤ 7 by omega) (G66 G _) (show dg lc (p + 1) < 10 by omega), mv66, bz0, ite_bz, nb0, Option.toList_some, Option.toList_none, List.cons_append, List.nil_append, and_assoc, exists_and_left, exists_eq_left, true_and, and_true, Nat.reduceLeDiff, not_false_eq_true, not_true_eq_false, ↓reduceIte, eq_self, ← Int32.not_lt, ite_not, Classical.not_not]
      cases cs : snb (mv 60 h) (dg lc (p + 1)) with
      | true =>
        have cw : ¬ whl (mv 60 h) K (dg lc (p + 1)) = true := by unfold whl; rw [cs]; simp
        simp only [cw, decide_true, decide_false, not_false_eq_true, not_true_eq_false, ↓reduceIte, Bool.false_eq_true, Bool.and_true, Bool.true_and, Bool.false_and, Bool.and_false, true_and, false_and, and_true, and_false, is_n, bzf] at hq ⊢; exact hq _ (hq0 _)
      | false =>
        have cw : whl (mv 60 h) K (dg lc (p + 1)) = true := by unfold whl; rw [cs, decide_eq_true ck]; rfl
        by_cases u9 : 9999 < mv 60 h 2 + nI (d2 lc (p + 2))
        · simp only [cw, u9, decide_true, decide_false, not_false_eq_true, not_true_eq_false, ↓reduceIte, Bool.false_eq_true, Bool.and_true, Bool.true_and, Bool.false_and, Bool.and_false, true_and, false_and, and_true, and_false, is_n, bzf] at hq ⊢; exact hq _ (hq0 _)
        · obtain ⟨f, ef, hc⟩ := e6_used (show 2 ≤ 7 by omega) (h := h) (show dg lc (p + 1) < 10 by omega) (nI (d2 lc (p + 2))) x0
          simp only [cw, u9, decide_true, decide_false, not_false_eq_true, not_true_eq_false, ↓reduceIte, Bool.false_eq_true, Bool.and_true, Bool.true_and, Bool.false_and, Bool.and_false, true_and, false_and, and_true, and_false, is_s, bzt] at hq ⊢
          simp only [bX6_isDone_373, bX6_isDone_379, t59, Cal_iff hc, nb1, Option.toList_some, Option.toList_none, List.cons_append, List.nil_append, and_assoc, exists_and_left, exists_eq_left, true_and, and_true, Nat.reduceLeDiff, not_false_eq_true, not_true_eq_false, ↓reduceIte, eq_self, ← Int32.not_lt, ite_not, Classical.not_not]
          refine hq _ ⟨fun σ' z => ?_, fr1 f x0⟩
          cases z
          rw [mv66, mv_f, ef]
    · have cw : ¬ whl (mv 60 h) K (dg lc (p + 1)) = true := fun z => ck (whl_lt z)
      simp only [ck, cw, decide_true, decide_false, not_false_eq_true, not_true_eq_false, ↓reduceIte, Bool.false_eq_true, Bool.and_true, Bool.true_and, Bool.false_and, Bool.and_false, true_and, false_and, and_true, and_false, is_n, bzf] at hq ⊢; exact hq _ (hq0 _)
  · have a1 := hN.2.2.2.2 ej
    rw [if_neg (by omega), if_neg (by omega), if_neg (by omega), if_neg (by omega), if_neg (by omega), if_pos e] at hq
    simp only [e, dn115, bX6_isDone_381, bX6_isDone_388, t59, r590, t60, l60, v0, c3, a1, q60, w0, nb1, is_s, bzt, Option.toList_some, Option.toList_none, List.cons_append, List.nil_append, and_assoc, exists_and_left, exists_eq_left, true_and, and_true, Nat.reduceLeDiff, not_false_eq_true, not_true_eq_false, ↓reduceIte, eq_self, ← Int32.not_lt, ite_not, Classical.not_not] at hq ⊢
    refine hq _ ⟨fun σ' z => ?_, fr1 _ x0⟩
    cases z
    rw [mv66, mv_f, mvf_u (by omega)]
    rfl
  · rw [ej, s4] at D
    have D0 : isD lc n (p + 1) := D 0 (by omega) (by omega)
    have a9 := D0.d9
    have a1 := hN.2.2.2.2 ej
    rw [if_neg (by omega), if_neg (by omega), if_neg (by omega), if_neg (by omega), if_neg (by omega), if_neg (by omega)] at hq
    simp only [e, dn120, bX6_isDone_390, bX6_isDone_395, bX6_isDone_406, t59, a1, k6_isKey (show 2 ≤ 7 by omega) (e0 _) k10, ikk (show dg lc (p + 1) < 2 ^ 31 by omega) (show K ≤ 1000 by omega), bz0, ite_bz, nb0, Option.toList_some, Option.toList_none, List.cons_append, List.nil_append, and_assoc, exists_and_left, exists_eq_left, true_and, and_true, Nat.reduceLeDiff, not_false_eq_true, not_true_eq_false, ↓reduceIte, eq_self, ← Int32.not_lt, ite_not, Classical.not_not]
    by_cases ck : dg lc (p + 1) < K
    · simp only [ck, decide_true, decide_false, not_false_eq_true, not_true_eq_false, ↓reduceIte, Bool.false_eq_true, Bool.and_true, Bool.true_and, Bool.false_and, Bool.and_false, true_and, false_and, and_true, and_false]
      simp only [bX6_isDone_398, bX6_isDone_403, bX6_isDone_406, t59, k6_isSnapped (show 2 ≤ 7 by omega) (G66 G _) (show dg lc (p + 1) < 10 by omega), mv66, bz0, ite_bz, nb0, Option.toList_some, Option.toList_none, List.cons_append, List.nil_append, and_assoc, exists_and_left, exists_eq_left, true_and, and_true, Nat.reduceLeDiff, not_false_eq_true, not_true_eq_false, ↓reduceIte, eq_self, ← Int32.not_lt, ite_not, Classical.not_not]
      cases cs : snb (mv 60 h) (dg lc (p + 1)) with
      | true =>
        have cw : ¬ whl (mv 60 h) K (dg lc (p + 1)) = true := by unfold whl; rw [cs]; simp
        simp only [cw, decide_true, decide_false, not_false_eq_true, not_true_eq_false, ↓reduceIte, Bool.false_eq_true, Bool.and_true, Bool.true_and, Bool.false_and, Bool.and_false, true_and, false_and, and_true, and_false, is_n, bzf] at hq ⊢; exact hq _ (hq0 _)
      | false =>
        have cw : whl (mv 60 h) K (dg lc (p + 1)) = true := by unfold whl; rw [cs, decide_eq_true ck]; rfl
        simp only [cw, decide_true, decide_false, not_false_eq_true, not_true_eq_false, ↓reduceIte, Bool.false_eq_true, Bool.and_true, Bool.true_and, Bool.false_and, Bool.and_false, true_and, false_and, and_true, and_false, is_s, bzt] at hq ⊢
        simp only [bX6_isDone_408, bX6_isDone_418, bX6_isDone_420, t59, r590, t60, l60, k6_of6 (show 1 ≤ 7 by omega), v89 (show 9 + 7 * dg lc (p + 1) + 6 < 89 by omega), nI_cl (show 9 + 7 * dg lc (p + 1) + 6 < 100 by omega), q60, w0, nb1, Option.toList_some, Option.toList_none, List.cons_append, List.nil_append, and_assoc, exists_and_left, exists_eq_left, true_and, and_true, Nat.reduceLeDiff, not_false_eq_true, not_true_eq_false, ↓reduceIte, eq_self, ← Int32.not_lt, ite_not, Classical.not_not]
        refine hq _ ⟨fun σ' z => ?_, fr1 _ x0⟩
        cases z
        rw [mv66, mv_f, mvf_u (by omega)]
        rfl
    · have cw : ¬ whl (mv 60 h) K (dg lc (p + 1)) = true := fun z => ck (whl_lt z)
      simp only [ck, cw, decide_true, decide_false, not_false_eq_true, not_true_eq_false, ↓reduceIte, Bool.false_eq_true, Bool.and_true, Bool.true_and, Bool.false_and, Bool.and_false, true_and, false_and, and_true, and_false, is_n, bzf] at hq ⊢; exact hq _ (hq0 _)
end DN
