/-! a copy in mind -/
theorem t52 : tg 52 = 2 := rfl
theorem r520 : rf 52 0 = 53 := rfl
theorem r521 : rf 52 1 = 54 := rfl
theorem t53 : tg 53 = 100 := rfl
theorem l53 : ln 53 = 5 := rfl
theorem t54 : tg 54 = 100 := rfl
theorem l54 : ln 54 = 10 := rfl
theorem isS.lt {s : Nat} (hs : isS s) : s + 17 ≤ 52 := by rcases hs with rfl | rfl | rfl <;> omega
def cutF (k f : Int32) (v : Nat → Int32) : Nat → Int32 := fun t => jcut k f (v t) (nI t)
def cutM (σ : Nat → Int32) (m : Nat) (v : Nat → Int32) : Nat → Int32 := cutF (σ (79 + 2 * m)) (σ (79 + 2 * m + 1)) v
theorem cutF_99 {k f : Int32} {v : Nat → Int32} (h : r99 v) : r99 (cutF k f v) := fun t ht => cut_99 k f (nI t) (h t ht)
theorem cutM_99 {σ : Nat → Int32} {m : Nat} {v : Nat → Int32} (h : r99 v) : r99 (cutM σ m v) := cutF_99 h
theorem pT_cg {F G g : Nat → Int32} {n : Nat} (h : ∀ t, t < n → F t = G t) : pT F g n = pT G g n := by
  funext i
  by_cases c : i < n
  · rw [pT_lt c, pT_lt c, h i c]
  · rw [pT_ge (by omega), pT_ge (by omega)]
theorem pT_pT {F G g : Nat → Int32} {n : Nat} : pT F (pT G g n) n = pT F g n := by
  funext i
  by_cases c : i < n
  · rw [pT_lt c, pT_lt c]
  · rw [pT_ge (by omega), pT_ge (by omega), pT_ge (by omega)]
theorem pT_99 {F g : Nat → Int32} (h : r99 F) : r99 (pT F g 5) := fun t ht => by rw [pT_lt ht]; exact h t ht
section P53
variable {s : Nat} {h : mH} {x : Nat → Int32}
theorem p0 (hs : isS s) : mPut h 53 x s = h s := mPut_ne h x (by have := hs.lt; omega)
theorem p1 (hs : isS s) : mPut h 53 x (s + 1) = h (s + 1) := mPut_ne h x (by have := hs.lt; omega)
theorem p13 (hs : isS s) : mPut h 53 x (s + 13) = h (s + 13) := mPut_ne h x (by have := hs.lt; omega)
theorem p14 (hs : isS s) : mPut h 53 x (s + 14) = h (s + 14) := mPut_ne h x (by have := hs.lt; omega)
theorem p15 (hs : isS s) : mPut h 53 x (s + 15) = h (s + 15) := mPut_ne h x (by have := hs.lt; omega)
theorem p16 (hs : isS s) : mPut h 53 x (s + 16) = h (s + 16) := mPut_ne h x (by have := hs.lt; omega)
theorem pR (hs : isS s) {k : Nat} (hk : k < 10) : mPut h 53 x (s + 3 + k) = h (s + 3 + k) := mPut_ne h x (by have := hs.lt; omega)
theorem p52 : mPut h 53 x 52 = h 52 := mPut_ne h x (by omega)
theorem p54 : mPut h 53 x 54 = h 54 := mPut_ne h x (by omega)
theorem cv53 (hs : isS s) : cv s (mPut h 53 x) = cv s h := cv_out (by have := hs.lt; omega)
end P53
theorem k_takeKey {d : Nat} (hd : 1 ≤ d) {s k : Nat} (hs : isS s) (hk : k < 10) (h : mH) (g : Nat → Int32) (r : Option Value) (h' : mH) : Cal d eX2_takeKey [.ref 52, .ref s, .int (nI k)] (mPut h 53 g) r h' ↔ r = none ∧ h' = mPut h 53 (pT (rowF (cv s h) k) g 5) := by
  refine Cal_iff (Cal_le (d := 1) (Cal_of rfl (fun Q hq => ?_)) hd) r h'
  show WP 0 eX2_takeKey Q 0 [.ref 52, .ref s, .int (nI k)] [] (mPut h 53 g)
  have nc : Int32.toNatClampNeg 0 + Int32.toNatClampNeg 5 ≤ 5 := by decide
  rw [← pT_cg (rowE hk)] at hq
  simp only [bX2_takeKey_0, bX2_takeKey_16, tgS hs, rfS3 hs, tgH hs, lnH hs, v10K hk, nI_cl (show k < 100 by omega), rfH hs hk, tgR hs hk, lnR hs hk, t52, r520, t53, l53, nc, c05, pR hs hk, mPut_self, mPut_put, Option.toList_some, Option.toList_none, List.cons_append, List.nil_append, and_assoc, exists_and_left, exists_eq_left, true_and, and_true, Nat.reduceLeDiff, not_false_eq_true, not_true_eq_false, ↓reduceIte, eq_self, ← Int32.not_lt, ite_not, Classical.not_not]
  exact hq
theorem k_cutCopy {d : Nat} (hd : 3 ≤ d) (q f : Int32) (h : mH) (F g : Nat → Int32) (r : Option Value) (h' : mH) : Cal d eX2_cutCopy [.ref 52, .int q, .int f] (mPut h 53 (pT F g 5)) r h' ↔ r = none ∧ h' = mPut h 53 (pT (cutF q f F) g 5) := by
  refine Cal_iff (Cal_le (d := 3) (Cal_of rfl (fun Q hq => ?_)) hd) r h'
  show WP 2 eX2_cutCopy Q 0 [.ref 52, .int q, .int f, mU] [] (mPut h 53 (pT F g 5))
  simp only [bX2_cutCopy_0]
  have key := wl (fun i => WP 2 eX2_cutCopy Q 2 [.ref 52, .int q, .int f, .int (nI i)] [] (mPut h 53 (pT (cutF q f F) (pT F g 5) i))) 5 ?_ 5 0 (by omega) ?_
  · rw [pT_0] at key
    exact key
  · intro i hi hw
    rw [bX2_cutCopy_2]
    simp only [bX2_cutCopy_0, bX2_cutCopy_7, bX2_cutCopy_24, bX2_cutCopy_25, bX2_cutCopy_31, show (5 : Int32) = nI 5 from rfl, nlt (show i ≤ 100000 by omega) (show 5 ≤ 100000 by omega), hi, t52, r520, t53, l53, vp_nI hi (show 5 ≤ 100 by omega), nI_cl (show i < 100 by omega), k_cutHeight (Nat.le_refl 2), mPut_self, mPut_put, nI_1, Option.toList_some, Option.toList_none, List.cons_append, List.nil_append, and_assoc, exists_and_left, exists_eq_left, true_and, and_true, Nat.reduceLeDiff, not_false_eq_true, not_true_eq_false, ↓reduceIte, eq_self, ← Int32.not_lt, ite_not, Classical.not_not]
    rw [pT_ge (Nat.le_refl i), pT_lt hi]
    have e := pT_succ (cutF q f F) (pT F g 5) i
    rw [show cutF q f F i = jcut q f (F i) (nI i) from rfl] at e
    rw [e]
    exact hw
  · simp only [bX2_cutCopy_2, bX2_cutCopy_0, bX2_cutCopy_7, bX2_cutCopy_24, bX2_cutCopy_25, bX2_cutCopy_31, show (5 : Int32) = nI 5 from rfl, nlt (show 5 ≤ 100000 by omega) (show 5 ≤ 100000 by omega), Nat.lt_irrefl, Option.toList_some, Option.toList_none, List.cons_append, List.nil_append, and_assoc, exists_and_left, exists_eq_left, true_and, and_true, Nat.reduceLeDiff, not_false_eq_true, not_true_eq_false, ↓reduceIte, eq_self, ← Int32.not_lt, ite_not, Classical.not_not]
    rw [pT_pT]
    exact hq
theorem k_cutCopyBy {d : Nat} (hd : 4 ≤ d) {s m : Nat} (hs : isS s) (hm : m < 5) (h : mH) (F g : Nat → Int32) (r : Option Value) (h' : mH) : Cal d eX2_cutCopyBy [.ref 52, .ref s, .int (nI m)] (mPut h 53 (pT F g 5)) r h' ↔ r = none ∧ h' = mPut h 53 (pT (cutM (cv s h) m F) g 5) := by
  refine Cal_iff (Cal_le (d := 4) (Cal_of rfl (fun Q hq => ?_)) hd) r h'
  show WP 3 eX2_cutCopyBy Q 0 [.ref 52, .ref s, .int (nI m)] [] (mPut h 53 (pT F g 5))
  unfold cutM at hq
  rw [cvD hm, cvG hm] at hq
  simp only [bX2_cutCopyBy_0, bX2_cutCopyBy_16, tgS hs, rfS7 hs, rfS8 hs, tgD hs, tgG hs, lnD hs, lnG hs, vp_nI hm (show 5 ≤ 100 by omega), nI_cl (show m < 100 by omega), t52, p15 hs, p16 hs, k_cutCopy (Nat.le_refl 3), Option.toList_some, Option.toList_none, List.cons_append, List.nil_append, and_assoc, exists_and_left, exists_eq_left, true_and, and_true, Nat.reduceLeDiff, not_false_eq_true, not_true_eq_false, ↓reduceIte, eq_self, ← Int32.not_lt, ite_not, Classical.not_not]
  exact hq
section C53
variable {s K M : Nat} {h : mH} {F g : Nat → Int32}
theorem k_wigC {d : Nat} (hd : 1 ≤ d) (hs : isS s) (G : gdN (cv s h) K M) (hF : r99 F) (r : Option Value) (h' : mH) : Cal d eX3_wiggleOf [.ref s, .ref 53] (mPut h 53 (pT F g 5)) r h' ↔ r = some (.int (wig F (pinF (cv s h)))) ∧ h' = mPut h 53 (pT F g 5) := by
  rw [k_wiggleOf hd hs t53 l53 (by rw [mPut_self]; exact pT_99 hF) (by rw [p1 hs]; exact G.pc), mPut_self, p1 hs, wig_cg (g := F) (q := pinF (cv s h)) (fun t ht => pT_lt ht) pinE]
theorem k_fitC {d : Nat} (hd : 2 ≤ d) (hs : isS s) (G : gdN (cv s h) K M) (hF : r99 F) (r : Option Value) (h' : mH) : Cal d eX3_fits [.ref s, .ref 53] (mPut h 53 (pT F g 5)) r h' ↔ r = some (.int (bz (fitb F (pinF (cv s h)) (cv s h 3)))) ∧ h' = mPut h 53 (pT F g 5) := by
  rw [k_fits hd hs t53 l53 (by rw [mPut_self]; exact pT_99 hF) (by rw [p1 hs]; exact G.pc), mPut_self, p1 hs, p0 hs, fitb_cg (g := F) (q := pinF (cv s h)) (fun t ht => pT_lt ht) pinE, cv3]
theorem k_ltfC {d : Nat} (hd : 1 ≤ d) (hs : isS s) (G : gdN (cv s h) K M) (hF : r99 F) (r : Option Value) (h' : mH) : Cal d eX3_leastTooFar [.ref s, .ref 53] (mPut h 53 (pT F g 5)) r h' ↔ r = some (.int (ltf F (pinF (cv s h)) (cv s h 3))) ∧ h' = mPut h 53 (pT F g 5) := by
  rw [k_leastTooFar hd hs t53 l53 (by rw [mPut_self]; exact pT_99 hF) (by rw [p1 hs]; exact G.pc), mPut_self, p1 hs, p0 hs, ltf_cg (g := F) (q := pinF (cv s h)) (fun t ht => pT_lt ht) pinE, cv3]
end C53
