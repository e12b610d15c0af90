section M3
variable {s K M : Nat} {h : mH}
theorem G53 (hs : isS s) (G : gdN (cv s h) K M) (x : Nat → Int32) : gdN (cv s (mPut h 53 x)) K M := by rw [cv53 hs]; exact G
/-- how many open when all pins are set anew -/
def oaw (σ : Nat → Int32) (K : Nat) : Nat := ct (fun k => !snb σ k && fitb (rowF σ k) (fun t => nI (anw σ K t)) (σ 3)) K
theorem e_openAnew {d : Nat} (hd : 3 ≤ d) (hs : isS s) (G : gdN (cv s h) K M) : ∃ g, Cal d eX2_openAnew [.ref 52, .ref s] h (some (.int (nI (oaw (cv s h) K)))) (mPut h 53 g) := by
  have hK := G.k10
  have e0 : h s 2 = nI K := G.s0
  have kp : ∀ x {t}, t < 5 → ∀ r h', Cal 2 eX2_pinAnew [.ref 52, .ref s, .int (nI t)] (mPut h 53 x) r h' ↔ r = some (.int (nI (anw (cv s h) K t))) ∧ h' = mPut h 53 x := fun x t ht r h' => by
    rw [k_pinAnew (Nat.le_refl 2) hs (G53 hs G x) ht, cv53 hs]
  have a99 : r99 (fun t => nI (anw (cv s h) K t)) := fun t ht => ⟨_, anw_99 _ _ _, rfl⟩
  have kt : ∀ x {k}, k < 10 → ∀ r h', Cal 2 eX2_teethWithin [.ref 52, .ref s, .int (nI k), .ref 53] (mPut h 53 (pT (fun t => nI (anw (cv s h) K t)) x 5)) r h' ↔ r = some (.int (nI (nrb (rowF (cv s h) k) (fun t => nI (anw (cv s h) K t)) (cv s h 3)))) ∧ h' = mPut h 53 (pT (fun t => nI (anw (cv s h) K t)) x 5) := fun x k hk r h' => by
    rw [k_teethWithin (show 1 ≤ 2 by omega) hs (G53 hs G _) hk t53 l53 (by rw [mPut_self]; exact pT_99 a99), cv53 hs, mPut_self, nrb_cg (fun _ _ => rfl) (fun t ht => pT_lt ht)]
  refine Cal_53 (d := 2) hd rfl (fun Q hq x0 => ?_)
  show WP 2 eX2_openAnew Q 0 [.ref 52, .ref s, mU, mU] [] (mPut h 53 x0)
  simp only [bX2_openAnew_0]
  have key := wl (fun i => WP 2 eX2_openAnew Q 2 [.ref 52, .ref s, .int (nI i), mU] [] (mPut h 53 (pT (fun t => nI (anw (cv s h) K t)) x0 i))) 5 ?_ 5 0 (by omega) ?_
  · rw [pT_0] at key
    exact key
  · intro i hi hw
    rw [bX2_openAnew_2]
    simp only [bX2_openAnew_7, bX2_openAnew_18, bX2_openAnew_19, show (5 : Int32) = nI 5 from rfl, nlt (show i ≤ 100000 by omega) (show 5 ≤ 100000 by omega), hi, t52, r520, t53, l53, kp _ hi, vp_nI hi (show 5 ≤ 100 by omega), nI_cl (show i < 100 by omega), mPut_self, mPut_put, nI_1, Option.toList_some, Option.toList_none, List.cons_append, List.nil_append, and_assoc, exists_and_left, exists_eq_left, true_and, and_true, Nat.reduceLeDiff, not_false_eq_true, not_true_eq_false, ↓reduceIte, eq_self, ← Int32.not_lt, ite_not, Classical.not_not]
    have e := pT_succ (fun t => nI (anw (cv s h) K t)) x0 i
    rw [e]
    exact hw
  · simp only [bX2_openAnew_2, bX2_openAnew_25, show (5 : Int32) = nI 5 from rfl, nlt (show 5 ≤ 100000 by omega) (show 5 ≤ 100000 by omega), Nat.lt_irrefl, Option.toList_some, Option.toList_none, List.cons_append, List.nil_append, and_assoc, exists_and_left, exists_eq_left, true_and, and_true, Nat.reduceLeDiff, not_false_eq_true, not_true_eq_false, ↓reduceIte, eq_self, ← Int32.not_lt, ite_not, Classical.not_not]
    refine wl (fun i => WP 2 eX2_openAnew Q 29 [.ref 52, .ref s, .int (nI (ct (fun k => !snb (cv s h) k && fitb (rowF (cv s h) k) (fun t => nI (anw (cv s h) K t)) (cv s h 3)) i)), .int (nI i)] [] (mPut h 53 (pT (fun t => nI (anw (cv s h) K t)) x0 5))) K ?_ K 0 (by omega) ?_
    · intro i hi hw
      have i10 : i < 10 := by omega
      have hl := nrb_lt (rowF (cv s h) i) (fun t => nI (anw (cv s h) K t)) (cv s h 3)
      rw [bX2_openAnew_29]
      rw [ct, fitb_nrb] at hw
      unfold snb at hw
      simp only [bX2_openAnew_37, bX2_openAnew_43, bX2_openAnew_46, bX2_openAnew_56, bX2_openAnew_61, bX2_openAnew_64, tgS hs, p0 hs, p14 hs, e0, nlt (show i ≤ 100000 by omega) (show K ≤ 100000 by omega), hi, rfS5 hs, tgZ hs, lnZ hs, v10K i10, nI_cl (show i < 100 by omega), ← cvZ (s := s) (h := h) i10, t52, r520, kt _ i10, show (31 : Int32) = nI 31 from rfl, neq (show nrb (rowF (cv s h) i) (fun t => nI (anw (cv s h) K t)) (cv s h 3) ≤ 100000 by omega) (show 31 ≤ 100000 by omega), nI_1, Option.toList_some, Option.toList_none, List.cons_append, List.nil_append, and_assoc, exists_and_left, exists_eq_left, true_and, and_true, Nat.reduceLeDiff, not_false_eq_true, not_true_eq_false, ↓reduceIte, eq_self, ← Int32.not_lt, ite_not, Classical.not_not]
      by_cases c : cv s h (9 + 7 * i + 6) = 0
      · by_cases c2 : nrb (rowF (cv s h) i) (fun t => nI (anw (cv s h) K t)) (cv s h 3) = 31 <;> simp only [c, c2, decide_true, decide_false, not_false_eq_true, not_true_eq_false, ↓reduceIte, Bool.false_eq_true, Bool.and_true, Bool.true_and, Bool.false_and, Bool.and_false, true_and, false_and, and_true, and_false, Bool.not_true, Bool.not_false] at hw ⊢ <;> exact hw
      · simp only [c, decide_true, decide_false, not_false_eq_true, not_true_eq_false, ↓reduceIte, Bool.false_eq_true, Bool.and_true, Bool.true_and, Bool.false_and, Bool.and_false, true_and, false_and, and_true, and_false, Bool.not_true] at hw ⊢; exact hw
    · simp only [bX2_openAnew_29, bX2_openAnew_70, tgS hs, p0 hs, e0, nlt (show K ≤ 100000 by omega) (show K ≤ 100000 by omega), Nat.lt_irrefl, Option.toList_some, Option.toList_none, List.cons_append, List.nil_append, and_assoc, exists_and_left, exists_eq_left, true_and, and_true, Nat.reduceLeDiff, not_false_eq_true, not_true_eq_false, ↓reduceIte, eq_self, ← Int32.not_lt, ite_not, Classical.not_not]
      exact hq _
/-! the middle -/
def mdC (σ : Nat → Int32) (n t v : Nat) (k : Nat) : Bool := n.testBit k && decide (¬ nI v < σ (9 + 7 * k + t))
def mdP (σ : Nat → Int32) (K n t v : Nat) : Bool := decide (¬ 2 * ct (mdC σ n t v) K < ct n.testBit 10)
def mid (σ : Nat → Int32) (K n t : Nat) : Int32 := ond 99 (fst (mdP σ K n t) 0 99)
theorem k_middleHeight {d : Nat} (hd : 2 ≤ d) (hs : isS s) (G : gdN (cv s h) K M) {n t : Nat} (hn : n < 1024) (ht : t < 5) (r : Option Value) (h' : mH) : Cal d eX2_middleHeight [.ref 52, .ref s, .int (nI n), .int (nI t)] h r h' ↔ r = some (.int (mid (cv s h) K n t)) ∧ h' = h := by
  refine Cal_iff (Cal_le (d := 2) (Cal_of rfl (fun Q hq => ?_)) hd) r h'
  show WP 1 eX2_middleHeight Q 0 [.ref 52, .ref s, .int (nI n), .int (nI t), mU, mU, mU] [] h
  have hK := G.k10
  have e0 : h s 2 = nI K := G.s0
  simp only [bX2_middleHeight_0]
  have key : ∀ (j v : Nat), v + j = 99 → Q (some (.int (ond 99 (fst (mdP (cv s h) K n t) v j)))) h → ∀ a b, WP 1 eX2_middleHeight Q 3 [.ref 52, .ref s, .int (nI n), .int (nI t), .int (nI v), a, b] [] h := by
    intro j
    induction j with
    | zero =>
      intro v hv hq a b
      have : v = 99 := by omega
      subst this
      simp only [bX2_middleHeight_3, bX2_middleHeight_77, show (99 : Int32) = nI 99 from rfl, nlt (show 99 ≤ 100000 by omega) (show 99 ≤ 100000 by omega), Nat.lt_irrefl, Option.toList_some, Option.toList_none, List.cons_append, List.nil_append, and_assoc, exists_and_left, exists_eq_left, true_and, and_true, Nat.reduceLeDiff, not_false_eq_true, not_true_eq_false, ↓reduceIte, eq_self, ← Int32.not_lt, ite_not, Classical.not_not]
      exact hq
    | succ j ih =>
      intro v hv hq a b
      simp only [bX2_middleHeight_3, bX2_middleHeight_10, show (99 : Int32) = nI 99 from rfl, nlt (show v ≤ 100000 by omega) (show 99 ≤ 100000 by omega), show v < 99 by omega, Option.toList_some, Option.toList_none, List.cons_append, List.nil_append, and_assoc, exists_and_left, exists_eq_left, true_and, and_true, Nat.reduceLeDiff, not_false_eq_true, not_true_eq_false, ↓reduceIte, eq_self, ← Int32.not_lt, ite_not, Classical.not_not]
      refine wl (fun i => WP 1 eX2_middleHeight Q 16 [.ref 52, .ref s, .int (nI n), .int (nI t), .int (nI v), .int (nI (ct (mdC (cv s h) n t v) i)), .int (nI i)] [] h) K ?_ K 0 (by omega) ?_
      · intro i hi hw
        have i10 : i < 10 := by omega
        rw [ct] at hw
        rw [show mdC (cv s h) n t v i = (n.testBit i && decide (¬ nI v < cv s h (9 + 7 * i + t))) from rfl] at hw
        rw [bX2_middleHeight_16]
        simp only [bX2_middleHeight_25, bX2_middleHeight_31, bX2_middleHeight_34, bX2_middleHeight_48, bX2_middleHeight_51, tgS hs, e0, nlt (show i ≤ 100000 by omega) (show K ≤ 100000 by omega), hi, k_holds (Nat.le_refl 1) (show n < 2 ^ 31 by omega) (show i < 31 by omega), bz0, ite_bz, rfS3 hs, tgH hs, lnH hs, v10K i10, nI_cl (show i < 100 by omega), vp_nI ht (show 5 ≤ 100 by omega), nI_cl (show t < 100 by omega), rfH hs i10, tgR hs i10, lnR hs i10, ← cvR (s := s) (h := h) i10 ht, nI_1, Option.toList_some, Option.toList_none, List.cons_append, List.nil_append, and_assoc, exists_and_left, exists_eq_left, true_and, and_true, Nat.reduceLeDiff, not_false_eq_true, not_true_eq_false, ↓reduceIte, eq_self, ← Int32.not_lt, ite_not, Classical.not_not]
        cases c : n.testBit i with
        | false => simp only [c, decide_true, decide_false, not_false_eq_true, not_true_eq_false, ↓reduceIte, Bool.false_eq_true, Bool.and_true, Bool.true_and, Bool.false_and, Bool.and_false, true_and, false_and, and_true, and_false] at hw ⊢; exact hw
        | true => by_cases c2 : nI v < cv s h (9 + 7 * i + t) <;> simp only [c, c2, decide_true, decide_false, not_false_eq_true, not_true_eq_false, ↓reduceIte, Bool.false_eq_true, Bool.and_true, Bool.true_and, Bool.false_and, Bool.and_false, true_and, false_and, and_true, and_false] at hw ⊢ <;> exact hw
      · have l1 := ct_le (mdC (cv s h) n t v) K
        have l2 := ct_le n.testBit 10
        simp only [bX2_middleHeight_16, bX2_middleHeight_57, bX2_middleHeight_65, bX2_middleHeight_68, bX2_middleHeight_71, tgS hs, e0, nlt (show K ≤ 100000 by omega) (show K ≤ 100000 by omega), Nat.lt_irrefl, k_bitCount (Nat.le_refl 1) hn, show (2 : Int32) = nI 2 from rfl, nI_mul, nlt (show 2 * ct (mdC (cv s h) n t v) K ≤ 100000 by omega) (show ct n.testBit 10 ≤ 100000 by omega), nI_1, Option.toList_some, Option.toList_none, List.cons_append, List.nil_append, and_assoc, exists_and_left, exists_eq_left, true_and, and_true, Nat.reduceLeDiff, not_false_eq_true, not_true_eq_false, ↓reduceIte, eq_self, ← Int32.not_lt, ite_not, Classical.not_not]
        rw [fst] at hq
        rw [show mdP (cv s h) K n t v = decide (¬ 2 * ct (mdC (cv s h) n t v) K < ct n.testBit 10) from rfl] at hq
        by_cases c : 2 * ct (mdC (cv s h) n t v) K < ct n.testBit 10
        · simp only [c, decide_true, decide_false, not_false_eq_true, not_true_eq_false, ↓reduceIte, Bool.false_eq_true, Bool.and_true, Bool.true_and, Bool.false_and, Bool.and_false, true_and, false_and, and_true, and_false] at hq ⊢
          exact ih (v + 1) (by omega) hq _ _
        · simp only [c, decide_true, decide_false, not_false_eq_true, not_true_eq_false, ↓reduceIte, Bool.false_eq_true, Bool.and_true, Bool.true_and, Bool.false_and, Bool.and_false, true_and, false_and, and_true, and_false] at hq ⊢
          exact hq
  exact key 99 0 (by omega) hq _ _
theorem k_codeOfSet {d : Nat} (hd : 3 ≤ d) (hs : isS s) (G : gdN (cv s h) K M) {n t : Nat} (hn : n < 1024) (ht : t < 5) (r : Option Value) (h' : mH) : Cal d eX2_codeOfSet [.ref 52, .ref s, .int (nI n), .int (nI t)] h r h' ↔ r = some (.int (jcode (mid (cv s h) K n t))) ∧ h' = h := by
  refine Cal_iff (Cal_le (d := 3) (Cal_of rfl (fun Q hq => ?_)) hd) r h'
  show WP 2 eX2_codeOfSet Q 0 [.ref 52, .ref s, .int (nI n), .int (nI t)] [] h
  simp only [bX2_codeOfSet_0, bX2_codeOfSet_7, bX2_codeOfSet_10, t52, k_middleHeight (Nat.le_refl 2) hs G hn ht, k_codeOf (Nat.le_refl 2), Option.toList_some, Option.toList_none, List.cons_append, List.nil_append, and_assoc, exists_and_left, exists_eq_left, true_and, and_true, Nat.reduceLeDiff, not_false_eq_true, not_true_eq_false, ↓reduceIte, eq_self, ← Int32.not_lt, ite_not, Classical.not_not]
  exact hq
def ulk (σ : Nat → Int32) (K n k t : Nat) : Bool := decide (¬ jcode (mid σ K n t) = jcode (σ (9 + 7 * k + t)))
theorem k_unlikeTeeth {d : Nat} (hd : 4 ≤ d) (hs : isS s) (G : gdN (cv s h) K M) {n k : Nat} (hn : n < 1024) (hk : k < 10) (r : Option Value) (h' : mH) : Cal d eX2_unlikeTeeth [.ref 52, .ref s, .int (nI n), .int (nI k)] h r h' ↔ r = some (.int (nI (ct (ulk (cv s h) K n k) 5))) ∧ h' = h := by
  refine Cal_iff (Cal_le (d := 4) (Cal_of rfl (fun Q hq => ?_)) hd) r h'
  show WP 3 eX2_unlikeTeeth Q 0 [.ref 52, .ref s, .int (nI n), .int (nI k), mU, mU] [] h
  simp only [bX2_unlikeTeeth_0]
  refine wl (fun i => WP 3 eX2_unlikeTeeth Q 6 [.ref 52, .ref s, .int (nI n), .int (nI k), .int (nI (ct (ulk (cv s h) K n k) i)), .int (nI i)] [] h) 5 ?_ 5 0 (by omega) ?_
  · intro i hi hw
    rw [ct] at hw
    unfold ulk at hw ⊢
    rw [bX2_unlikeTeeth_6]
    simp only [bX2_unlikeTeeth_0, bX2_unlikeTeeth_12, bX2_unlikeTeeth_20, bX2_unlikeTeeth_32, bX2_unlikeTeeth_35, bX2_unlikeTeeth_38, bX2_unlikeTeeth_44, show (5 : Int32) = nI 5 from rfl, nlt (show i ≤ 100000 by omega) (show 5 ≤ 100000 by omega), hi, t52, k_codeOfSet (Nat.le_refl 3) hs G hn hi, tgS hs, rfS3 hs, tgH hs, lnH hs, v10K hk, nI_cl (show k < 100 by omega), rfH hs hk, tgR hs hk, lnR hs hk, vp_nI hi (show 5 ≤ 100 by omega), nI_cl (show i < 100 by omega), ← cvR (s := s) (h := h) hk hi, k_codeOf (show 2 ≤ 3 by omega), nI_1, Option.toList_some, Option.toList_none, List.cons_append, List.nil_append, and_assoc, exists_and_left, exists_eq_left, true_and, and_true, Nat.reduceLeDiff, not_false_eq_true, not_true_eq_false, ↓reduceIte, eq_self, ← Int32.not_lt, ite_not, Classical.not_not]
    by_cases c : jcode (mid (cv s h) K n i) = jcode (cv s h (9 + 7 * k + i)) <;> simp only [c, decide_true, decide_false, not_false_eq_true, not_true_eq_false, ↓reduceIte, Bool.false_eq_true, Bool.and_true, Bool.true_and, Bool.false_and, Bool.and_false, true_and, false_and, and_true, and_false] at hw ⊢ <;> exact hw
  · simp only [bX2_unlikeTeeth_6, bX2_unlikeTeeth_0, bX2_unlikeTeeth_12, bX2_unlikeTeeth_20, bX2_unlikeTeeth_32, bX2_unlikeTeeth_35, bX2_unlikeTeeth_38, bX2_unlikeTeeth_44, show (5 : Int32) = nI 5 from rfl, nlt (show 5 ≤ 100000 by omega) (show 5 ≤ 100000 by omega), Nat.lt_irrefl, Option.toList_some, Option.toList_none, List.cons_append, List.nil_append, and_assoc, exists_and_left, exists_eq_left, true_and, and_true, Nat.reduceLeDiff, not_false_eq_true, not_true_eq_false, ↓reduceIte, eq_self, ← Int32.not_lt, ite_not, Classical.not_not]
    exact hq
/-- a row mended -/
def cdF (f : Nat → Int32) (t : Nat) : Int32 := jcode (f t)
theorem code_99 : ∀ n, n ≤ 99 → ∃ m, m ≤ 99 ∧ jcode (nI n) = nI m := by decide +kernel
theorem cdF_99 {f : Nat → Int32} (hf : r99 f) : r99 (cdF f) := fun t ht => by
  obtain ⟨n, hn, e⟩ := hf t ht
  unfold cdF
  rw [e]
  exact code_99 n hn
def mnd (σ : Nat → Int32) (k : Nat) : Int32 := wgk σ k - wig (cdF (rowF σ k)) (pinF σ)
theorem e_lessByMending {d : Nat} (hd : 3 ≤ d) (hs : isS s) (G : gdN (cv s h) K M) {k : Nat} (hk : k < 10) : ∃ g, Cal d eX2_lessByMending [.ref 52, .ref s, .int (nI k)] h (some (.int (mnd (cv s h) k))) (mPut h 53 g) := by
  have kw : ∀ x r h', Cal 2 eX3_wiggleOf [.ref s, .ref (s + 3 + k)] (mPut h 53 x) r h' ↔ r = some (.int (wgk (cv s h) k)) ∧ h' = mPut h 53 x := fun x r h' => by
    rw [k_wiggleKey (show 1 ≤ 2 by omega) hs (G53 hs G x) hk, cv53 hs]
  refine Cal_53 (d := 2) hd rfl (fun Q hq x0 => ?_)
  show WP 2 eX2_lessByMending Q 0 [.ref 52, .ref s, .int (nI k), mU] [] (mPut h 53 x0)
  simp only [bX2_lessByMending_0]
  have key := wl (fun i => WP 2 eX2_lessByMending Q 2 [.ref 52, .ref s, .int (nI k), .int (nI i)] [] (mPut h 53 (pT (cdF (rowF (cv s h) k)) x0 i))) 5 ?_ 5 0 (by omega) ?_
  · rw [pT_0] at key
    exact key
  · intro i hi hw
    rw [bX2_lessByMending_2]
    simp only [bX2_lessByMending_7, bX2_lessByMending_23, bX2_lessByMending_24, show (5 : Int32) = nI 5 from rfl, nlt (show i ≤ 100000 by omega) (show 5 ≤ 100000 by omega), hi, t52, r520, t53, l53, tgS hs, rfS3 hs, tgH hs, lnH hs, v10K hk, nI_cl (show k < 100 by omega), rfH hs hk, tgR hs hk, lnR hs hk, vp_nI hi (show 5 ≤ 100 by omega), nI_cl (show i < 100 by omega), pR hs hk, ← cvR (s := s) (h := h) hk hi, k_codeOf (Nat.le_refl 2), mPut_self, mPut_put, nI_1, Option.toList_some, Option.toList_none, List.cons_append, List.nil_append, and_assoc, exists_and_left, exists_eq_left, true_and, and_true, Nat.reduceLeDiff, not_false_eq_true, not_true_eq_false, ↓reduceIte, eq_self, ← Int32.not_lt, ite_not, Classical.not_not]
    have e := pT_succ (cdF (rowF (cv s h) k)) x0 i
    rw [show cdF (rowF (cv s h) k) i = jcode (cv s h (9 + 7 * k + i)) from rfl] at e
    rw [e]
    exact hw
  · simp only [bX2_lessByMending_2, bX2_lessByMending_30, bX2_lessByMending_40, bX2_lessByMending_48, show (5 : Int32) = nI 5 from rfl, nlt (show 5 ≤ 100000 by omega) (show 5 ≤ 100000 by omega), Nat.lt_irrefl, t52, r520, tgS hs, rfS3 hs, tgH hs, lnH hs, v10K hk, nI_cl (show k < 100 by omega), rfH hs hk, kw, k_wigC (show 1 ≤ 2 by omega) hs G (cdF_99 (G.r hk)), Option.toList_some, Option.toList_none, List.cons_append, List.nil_append, and_assoc, exists_and_left, exists_eq_left, true_and, and_true, Nat.reduceLeDiff, not_false_eq_true, not_true_eq_false, ↓reduceIte, eq_self, ← Int32.not_lt, ite_not, Classical.not_not]
    exact hq _
end M3
