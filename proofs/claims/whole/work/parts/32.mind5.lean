/-! the fewest that are enough -/
section M5
variable {s K M : Nat} {h : mH}
def ik5 (σ : Nat → Int32) (k : Nat) : Nat := nrb (rowF σ k) (pinF σ) (σ 3)
def enN (σ : Nat → Int32) (n : Nat) : Nat → Nat
  | 0 => 0
  | k + 1 => enN σ n k ||| (if n.testBit k then ik5 σ k else 0)
theorem enN_lt (σ : Nat → Int32) (n : Nat) : ∀ k, enN σ n k < 32
  | 0 => by rw [enN]; omega
  | k + 1 => by
    rw [enN]
    refine Nat.or_lt_two_pow (n := 5) (enN_lt σ n k) ?_
    split
    · exact nrb_lt _ _ _
    · omega
theorem k_isEnough {d : Nat} (hd : 2 ≤ d) (hs : isS s) (G : gdN (cv s h) K M) {n : Nat} (hn : n < 1024) {g : Nat → Int32} (hg : ∀ k, k < K → g k = nI (ik5 (cv s h) k)) (r : Option Value) (h' : mH) : Cal d eX2_isEnough [.ref 52, .ref s, .int (nI n)] (mPut h 54 g) r h' ↔ r = some (.int (bz (decide (enN (cv s h) n K = 31)))) ∧ h' = mPut h 54 g := by
  refine Cal_iff (Cal_le (d := 2) (Cal_of rfl (fun Q hq => ?_)) hd) r h'
  show WP 1 eX2_isEnough Q 0 [.ref 52, .ref s, .int (nI n), mU, mU] [] (mPut h 54 g)
  have hK := G.k10
  have e0 : mPut h 54 g s 2 = nI K := by rw [mPut_ne h g (by have := hs.lt; omega)]; exact G.s0
  simp only [bX2_isEnough_0]
  refine wl (fun i => WP 1 eX2_isEnough Q 5 [.ref 52, .ref s, .int (nI n), .int (nI (enN (cv s h) n i)), .int (nI i)] [] (mPut h 54 g)) K ?_ K 0 (by omega) ?_
  · intro i hi hw
    have i10 : i < 10 := by omega
    have eg := hg i hi
    rw [enN] at hw
    rw [bX2_isEnough_5]
    simp only [bX2_isEnough_14, bX2_isEnough_21, bX2_isEnough_24, bX2_isEnough_34, bX2_isEnough_35, tgS hs, e0, nlt (show i ≤ 100000 by omega) (show K ≤ 100000 by omega), hi, k_holds (Nat.le_refl 1) (show n < 2 ^ 31 by omega) (show i < 31 by omega), bz0, ite_bz, t52, r521, t54, l54, v10K i10, nI_cl (show i < 100 by omega), mPut_self, eg, show (0 : Int32) = nI 0 from rfl, nI_or, nI_1, Option.toList_some, Option.toList_none, List.cons_append, List.nil_append, and_assoc, exists_and_left, exists_eq_left, true_and, and_true, Nat.reduceLeDiff, not_false_eq_true, not_true_eq_false, ↓reduceIte, eq_self, ← Int32.not_lt, ite_not, Classical.not_not]
    cases c : n.testBit i <;> simp only [c, decide_true, decide_false, not_false_eq_true, not_true_eq_false, ↓reduceIte, Bool.false_eq_true, Bool.and_true, Bool.true_and, Bool.false_and, Bool.and_false, true_and, false_and, and_true, and_false] at hw ⊢ <;> exact hw
  · have hl := enN_lt (cv s h) n K
    simp only [bX2_isEnough_5, bX2_isEnough_43, bX2_isEnough_49, bX2_isEnough_53, bX2_isEnough_54, tgS hs, e0, nlt (show K ≤ 100000 by omega) (show K ≤ 100000 by omega), Nat.lt_irrefl, show (31 : Int32) = nI 31 from rfl, neq (show enN (cv s h) n K ≤ 100000 by omega) (show 31 ≤ 100000 by omega), nb0, nb1, Option.toList_some, Option.toList_none, List.cons_append, List.nil_append, and_assoc, exists_and_left, exists_eq_left, true_and, and_true, Nat.reduceLeDiff, not_false_eq_true, not_true_eq_false, ↓reduceIte, eq_self, ← Int32.not_lt, ite_not, Classical.not_not]
    by_cases c : enN (cv s h) n K = 31 <;> simp only [c, decide_true, decide_false, not_false_eq_true, not_true_eq_false, ↓reduceIte, Bool.false_eq_true, Bool.and_true, Bool.true_and, Bool.false_and, Bool.and_false, true_and, false_and, and_true, and_false, bzt, bzf] at hq ⊢ <;> exact hq
def spN (σ : Nat → Int32) (K n : Nat) : Bool := decide (n &&& nb (snb σ) K = 0) && decide (enN σ n K = 31)
def spW (n : Nat) : Int32 := nI (ct n.testBit 10)
def spA (σ : Nat → Int32) (K : Nat) : Int32 := on (bst (spN σ K) spW (2 ^ K))
theorem enN_0 (σ : Nat → Int32) : ∀ k, enN σ 0 k = 0
  | 0 => rfl
  | k + 1 => by rw [enN, enN_0 σ k]; simp
theorem spN_0 (σ : Nat → Int32) (K : Nat) : spN σ K 0 = false := by unfold spN; rw [enN_0]; simp
theorem e_fewestEnough {d : Nat} (hd : 3 ≤ d) (hs : isS s) (G : gdN (cv s h) K M) : ∃ g, Cal d eX2_fewestEnough [.ref 52, .ref s] h (some (.int (spA (cv s h) K))) (mPut h 54 g) := by
  have hK := G.k10
  have lt54 := hs.lt
  have cv54 : ∀ x, cv s (mPut h 54 x) = cv s h := fun x => cv_out (by omega)
  have G54 : ∀ x, gdN (cv s (mPut h 54 x)) K M := fun x => by rw [cv54]; exact G
  have e0 : ∀ x, mPut h 54 x s 2 = nI K := fun x => by rw [mPut_ne h x (by omega)]; exact G.s0
  have kt : ∀ x {k}, k < 10 → ∀ r h', Cal 2 eX2_teethWithin [.ref 52, .ref s, .int (nI k), .ref (s + 1)] (mPut h 54 x) r h' ↔ r = some (.int (nI (ik5 (cv s h) k))) ∧ h' = mPut h 54 x := fun x k hk r h' => by
    rw [k_teethWithin (show 1 ≤ 2 by omega) hs (G54 x) hk (tgP hs) (lnP hs) (by rw [mPut_ne h x (by omega)]; exact G.pc), cv54, mPut_ne h x (by omega), nrb_cg (fun _ _ => rfl) pinE]
    rfl
  obtain ⟨h', ⟨g, e⟩, hc⟩ := Cal_pr (d := 2) (D := d) (E := eX2_fewestEnough) (as := [.ref 52, .ref s]) (h := h) (r := some (.int (spA (cv s h) K))) (P := fun h' => ∃ g, h' = mPut h 54 g) hd rfl (fun Q hq => by
    show WP 2 eX2_fewestEnough Q 0 [.ref 52, .ref s, mU, mU, mU, mU] [] h
    rw [← mPut_id h 54]
    simp only [bX2_fewestEnough_0]
    refine wl (fun i => ∀ x, (∀ k, k < i → x k = nI (ik5 (cv s h) k)) → WP 2 eX2_fewestEnough Q 2 [.ref 52, .ref s, .int (nI i), mU, mU, mU] [] (mPut h 54 x)) K ?_ K 0 (by omega) ?_ _ (fun k hk => by omega)
    · intro i hi hw x hx
      have i10 : i < 10 := by omega
      rw [bX2_fewestEnough_2]
      simp only [bX2_fewestEnough_10, bX2_fewestEnough_25, bX2_fewestEnough_26, tgS hs, e0, nlt (show i ≤ 100000 by omega) (show K ≤ 100000 by omega), hi, t52, r521, t54, l54, rfS0 hs, kt _ i10, v10K i10, nI_cl (show i < 100 by omega), mPut_self, mPut_put, nI_1, Option.toList_some, Option.toList_none, List.cons_append, List.nil_append, and_assoc, exists_and_left, exists_eq_left, true_and, and_true, Nat.reduceLeDiff, not_false_eq_true, not_true_eq_false, ↓reduceIte, eq_self, ← Int32.not_lt, ite_not, Classical.not_not]
      refine hw _ (fun k hk => ?_)
      rw [upd_at]
      by_cases c : k = i
      · rw [if_pos c, c]
      · rw [if_neg c]; exact hx k (by omega)
    · intro x hx
      have hp : 2 ^ K ≤ 1024 := Nat.pow_le_pow_right (n := 2) (j := 10) (by omega) hK
      have hp0 : 0 < 2 ^ K := Nat.two_pow_pos K
      simp only [bX2_fewestEnough_2, bX2_fewestEnough_32, bX2_fewestEnough_36, tgS hs, e0, nlt (show K ≤ 100000 by omega) (show K ≤ 100000 by omega), Nat.lt_irrefl, k_snappedBits (show 1 ≤ 2 by omega) hs (G54 x), cv54, Option.toList_some, Option.toList_none, List.cons_append, List.nil_append, and_assoc, exists_and_left, exists_eq_left, true_and, and_true, Nat.reduceLeDiff, not_false_eq_true, not_true_eq_false, ↓reduceIte, eq_self, ← Int32.not_lt, ite_not, Classical.not_not]
      have st : WP 2 eX2_fewestEnough Q 43 [.ref 52, .ref s, .int (nI (nb (snb (cv s h)) K)), .int (on (bst (spN (cv s h) K) spW (1 + 0))), .int (nI (1 + 0)), mU] [] (mPut h 54 x) := by
        refine wl (fun i => ∀ u, WP 2 eX2_fewestEnough Q 43 [.ref 52, .ref s, .int (nI (nb (snb (cv s h)) K)), .int (on (bst (spN (cv s h) K) spW (1 + i))), .int (nI (1 + i)), u] [] (mPut h 54 x)) (2 ^ K - 1) ?_ (2 ^ K - 1) 0 (by omega) ?_ _
        · intro i hi hw u
          have l1 := ct_le (1 + i).testBit 10
          have hw := hw
          rw [← Nat.add_assoc, bst, show spN (cv s h) K (1 + i) = (decide ((1 + i) &&& nb (snb (cv s h)) K = 0) && decide (enN (cv s h) (1 + i) K = 31)) from rfl] at hw
          have la : (1 + i) &&& nb (snb (cv s h)) K ≤ 100000 := Nat.le_trans Nat.and_le_left (by omega)
          rw [bX2_fewestEnough_43]
          simp only [bX2_fewestEnough_49, bX2_fewestEnough_52, bX2_fewestEnough_58, bX2_fewestEnough_63, bX2_fewestEnough_70, bX2_fewestEnough_74, bX2_fewestEnough_75, bX2_fewestEnough_82, bX2_fewestEnough_89, bX2_fewestEnough_96, bX2_fewestEnough_99, bX2_fewestEnough_102, tgS hs, t52, k_allKeysBits (show 1 ≤ 2 by omega) hs (G54 x), nlt (show 2 ^ K - 1 ≤ 100000 by omega) (show 1 + i ≤ 100000 by omega), show ¬ 2 ^ K - 1 < 1 + i by omega, k_bitCount (show 1 ≤ 2 by omega) (show 1 + i < 1024 by omega), nI_and, show (0 : Int32) = nI 0 from rfl, neq la (show 0 ≤ 100000 by omega), k_isEnough (Nat.le_refl 2) hs G (show 1 + i < 1024 by omega) hx, nI_1, Option.toList_some, Option.toList_none, List.cons_append, List.nil_append, and_assoc, exists_and_left, exists_eq_left, true_and, and_true, Nat.reduceLeDiff, not_false_eq_true, not_true_eq_false, ↓reduceIte, eq_self, ← Int32.not_lt, ite_not, Classical.not_not]
          have b0 : ∀ c : Bool, (bz c = nI 0) = (c = false) := bz0
          have z1 : (1 : Int32) = nI 0 ↔ False := by decide
          cases e : bst (spN (cv s h) K) spW (1 + i) with
          | none =>
            simp only [e, on, z1, b0, ite_bz, decide_true, decide_false, not_false_eq_true, not_true_eq_false, ↓reduceIte, Bool.false_eq_true, Bool.and_true, Bool.true_and, Bool.false_and, Bool.and_false, true_and, false_and, and_true, and_false] at hw ⊢
            by_cases c1 : (1 + i) &&& nb (snb (cv s h)) K = 0
            · by_cases c2 : enN (cv s h) (1 + i) K = 31 <;> simp only [c1, c2, decide_true, decide_false, not_false_eq_true, not_true_eq_false, ↓reduceIte, Bool.false_eq_true, Bool.and_true, Bool.true_and, Bool.false_and, Bool.and_false, true_and, false_and, and_true, and_false] at hw ⊢ <;> exact hw _
            · simp only [c1, decide_true, decide_false, not_false_eq_true, not_true_eq_false, ↓reduceIte, Bool.false_eq_true, Bool.and_true, Bool.true_and, Bool.false_and, Bool.and_false, true_and, false_and, and_true, and_false] at hw ⊢; exact hw _
          | some b =>
            have hb := bst_lt e
            have l2 := ct_le b.testBit 10
            simp only [bX2_fewestEnough_67, bX2_fewestEnough_70, bX2_fewestEnough_74, bX2_fewestEnough_75, bX2_fewestEnough_82, bX2_fewestEnough_89, bX2_fewestEnough_96, bX2_fewestEnough_99, bX2_fewestEnough_102, t52, nI_and, show (0 : Int32) = nI 0 from rfl, neq la (show 0 ≤ 100000 by omega), k_isEnough (Nat.le_refl 2) hs G (show 1 + i < 1024 by omega) hx, nI_1, e, on, z1, b0, ite_bz, nm9 (show b ≤ 100000 by omega), k_bitCount (show 1 ≤ 2 by omega) (show b < 1024 by omega), nlt (show ct (1 + i).testBit 10 ≤ 100000 by omega) (show ct b.testBit 10 ≤ 100000 by omega), spW, Option.toList_some, Option.toList_none, List.cons_append, List.nil_append, and_assoc, exists_and_left, exists_eq_left, true_and, and_true, Nat.reduceLeDiff, not_false_eq_true, not_true_eq_false, ↓reduceIte, eq_self, ← Int32.not_lt, ite_not, Classical.not_not, decide_true, decide_false, not_false_eq_true, not_true_eq_false, ↓reduceIte, Bool.false_eq_true, Bool.and_true, Bool.true_and, Bool.false_and, Bool.and_false, true_and, false_and, and_true, and_false] at hw ⊢
            by_cases c0 : ct (1 + i).testBit 10 < ct b.testBit 10
            · simp only [c0, z1, decide_true, decide_false, not_false_eq_true, not_true_eq_false, ↓reduceIte, Bool.false_eq_true, Bool.and_true, Bool.true_and, Bool.false_and, Bool.and_false, true_and, false_and, and_true, and_false] at hw ⊢
              by_cases c1 : (1 + i) &&& nb (snb (cv s h)) K = 0
              · by_cases c2 : enN (cv s h) (1 + i) K = 31 <;> simp only [c1, c2, decide_true, decide_false, not_false_eq_true, not_true_eq_false, ↓reduceIte, Bool.false_eq_true, Bool.and_true, Bool.true_and, Bool.false_and, Bool.and_false, true_and, false_and, and_true, and_false] at hw ⊢ <;> exact hw _
              · simp only [c1, decide_true, decide_false, not_false_eq_true, not_true_eq_false, ↓reduceIte, Bool.false_eq_true, Bool.and_true, Bool.true_and, Bool.false_and, Bool.and_false, true_and, false_and, and_true, and_false] at hw ⊢; exact hw _
            · simp only [c0, decide_true, decide_false, not_false_eq_true, not_true_eq_false, ↓reduceIte, Bool.false_eq_true, Bool.and_true, Bool.true_and, Bool.false_and, Bool.and_false, true_and, false_and, and_true, and_false, ite_self] at hw ⊢; exact hw _
        · intro u
          simp only [bX2_fewestEnough_43, bX2_fewestEnough_49, bX2_fewestEnough_108, tgS hs, k_allKeysBits (show 1 ≤ 2 by omega) hs (G54 x), nlt (show 2 ^ K - 1 ≤ 100000 by omega) (show 1 + (2 ^ K - 1) ≤ 100000 by omega), show 2 ^ K - 1 < 1 + (2 ^ K - 1) by omega, Option.toList_some, Option.toList_none, List.cons_append, List.nil_append, and_assoc, exists_and_left, exists_eq_left, true_and, and_true, Nat.reduceLeDiff, not_false_eq_true, not_true_eq_false, ↓reduceIte, eq_self, ← Int32.not_lt, ite_not, Classical.not_not]
          rw [show 1 + (2 ^ K - 1) = 2 ^ K by omega]
          exact hq _ ⟨x, rfl⟩
      rw [show bst (spN (cv s h) K) spW (1 + 0) = none from by show bst _ _ 1 = none; rw [bst, spN_0]; rfl] at st
      exact st)
  subst e
  exact ⟨g, hc⟩
/-! a copy by chance -/
def cuS (σ : Nat → Int32) (m : Nat) (v : Nat → Int32) (n : Nat) : Nat → Nat → Int32
  | 0 => v
  | i + 1 => cutF (σ (79 + 2 * m)) (σ (79 + 2 * m + 1) + nI (n / 2 ^ i % 2)) (cuS σ m v n i)
theorem cuS_99 {σ : Nat → Int32} {m : Nat} {v : Nat → Int32} {n : Nat} (h : r99 v) : ∀ i, r99 (cuS σ m v n i)
  | 0 => h
  | i + 1 => cutF_99 (cuS_99 h i)
def slF (σ : Nat → Int32) (k m n q : Nat) : Bool := fitb (cuS σ m (rowF σ k) q n) (pinF σ) (σ 3)
theorem e_lastCopyFits {d : Nat} (hd : 4 ≤ d) (hs : isS s) (G : gdN (cv s h) K M) {k m n q : Nat} (hk : k < 10) (hm : m < 5) (hn : n ≤ 6) (hq6 : q < 1024) (x0 : Nat → Int32) : ∃ g, Cal d eX2_lastCopyFits [.ref 52, .ref s, .int (nI k), .int (nI m), .int (nI n), .int (nI q)] (mPut h 53 x0) (some (.int (bz (slF (cv s h) k m n q)))) (mPut h 53 g) := by
  obtain ⟨h', ⟨g, e⟩, hc⟩ := Cal_pr (d := 3) (D := d) (E := eX2_lastCopyFits) (as := [.ref 52, .ref s, .int (nI k), .int (nI m), .int (nI n), .int (nI q)]) (h := mPut h 53 x0) (r := some (.int (bz (slF (cv s h) k m n q)))) (P := fun h' => ∃ g, h' = mPut h 53 g) hd rfl (fun Q hq => by
    show WP 3 eX2_lastCopyFits Q 0 [.ref 52, .ref s, .int (nI k), .int (nI m), .int (nI n), .int (nI q), mU] [] (mPut h 53 x0)
    simp only [bX2_lastCopyFits_0, bX2_lastCopyFits_6, t52, k_takeKey (show 1 ≤ 3 by omega) hs hk, Option.toList_some, Option.toList_none, List.cons_append, List.nil_append, and_assoc, exists_and_left, exists_eq_left, true_and, and_true, Nat.reduceLeDiff, not_false_eq_true, not_true_eq_false, ↓reduceIte, eq_self, ← Int32.not_lt, ite_not, Classical.not_not]
    refine wl (fun i => WP 3 eX2_lastCopyFits Q 9 [.ref 52, .ref s, .int (nI k), .int (nI m), .int (nI n), .int (nI q), .int (nI i)] [] (mPut h 53 (pT (cuS (cv s h) m (rowF (cv s h) k) q i) x0 5))) n ?_ n 0 (by omega) ?_
    · intro i hi hw
      rw [bX2_lastCopyFits_9]
      rw [cuS, cvD hm, cvG hm] at hw
      simp only [bX2_lastCopyFits_16, bX2_lastCopyFits_40, nlt (show i ≤ 100000 by omega) (show n ≤ 100000 by omega), hi, tgS hs, rfS7 hs, rfS8 hs, tgD hs, tgG hs, lnD hs, lnG hs, vp_nI hm (show 5 ≤ 100 by omega), nI_cl (show m < 100 by omega), t52, p15 hs, p16 hs, tbit (show q < 2 ^ 31 by omega) (show i < 31 by omega), k_cutCopy (Nat.le_refl 3), nI_1, Option.toList_some, Option.toList_none, List.cons_append, List.nil_append, and_assoc, exists_and_left, exists_eq_left, true_and, and_true, Nat.reduceLeDiff, not_false_eq_true, not_true_eq_false, ↓reduceIte, eq_self, ← Int32.not_lt, ite_not, Classical.not_not]
      exact hw
    · simp only [bX2_lastCopyFits_9, bX2_lastCopyFits_46, bX2_lastCopyFits_54, nlt (show n ≤ 100000 by omega) (show n ≤ 100000 by omega), Nat.lt_irrefl, t52, r520, tgS hs, k_fitC (show 2 ≤ 3 by omega) hs G (cuS_99 (G.r hk) n), nbz, Option.toList_some, Option.toList_none, List.cons_append, List.nil_append, and_assoc, exists_and_left, exists_eq_left, true_and, and_true, Nat.reduceLeDiff, not_false_eq_true, not_true_eq_false, ↓reduceIte, eq_self, ← Int32.not_lt, ite_not, Classical.not_not]
      exact hq _ ⟨_, rfl⟩)
  subst e
  exact ⟨g, hc⟩
theorem k_power {d : Nat} (hd : 1 ≤ d) {b n : Nat} (hn : n ≤ 100) (h : mH) (r : Option Value) (h' : mH) : Cal d eX5_power [.long (lN b), .int (nI n)] h r h' ↔ r = some (.long (lN (b ^ n))) ∧ h' = h := by
  refine Cal_iff (Cal_le (d := 1) (Cal_of rfl (fun Q hq => ?_)) hd) r h'
  show WP 0 eX5_power Q 0 [.long (lN b), mU, .int (nI n), mU, mU, mU] [] h
  simp only [bX5_power_0]
  refine wl (fun i => WP 0 eX5_power Q 5 [.long (lN b), mU, .int (nI n), .long (lN (b ^ i)), mU, .int (nI i)] [] h) n ?_ n 0 (by omega) ?_
  · intro i hi hw
    rw [bX5_power_5]
    rw [Nat.pow_succ] at hw
    simp only [bX5_power_11, nlt (show i ≤ 100000 by omega) (show n ≤ 100000 by omega), hi, lN_mul, nI_1, Option.toList_some, Option.toList_none, List.cons_append, List.nil_append, and_assoc, exists_and_left, exists_eq_left, true_and, and_true, Nat.reduceLeDiff, not_false_eq_true, not_true_eq_false, ↓reduceIte, eq_self, ← Int32.not_lt, ite_not, Classical.not_not]
    exact hw
  · simp only [bX5_power_5, bX5_power_21, nlt (show n ≤ 100000 by omega) (show n ≤ 100000 by omega), Nat.lt_irrefl, Option.toList_some, Option.toList_none, List.cons_append, List.nil_append, and_assoc, exists_and_left, exists_eq_left, true_and, and_true, Nat.reduceLeDiff, not_false_eq_true, not_true_eq_false, ↓reduceIte, eq_self, ← Int32.not_lt, ite_not, Classical.not_not]
    exact hq
/-- how many of the first i ways open -/
def slW (σ : Nat → Int32) (k m n t : Nat) : Nat → Nat
  | 0 => 0
  | i + 1 => slW σ k m n t i + (if slF σ k m n i then (t - 1) ^ (n - ct i.testBit 10) else 0)
def slN (σ : Nat → Int32) (k m n t : Nat) : Nat := if n = 0 then (if opb σ k then 1 else 0) else slW σ k m n t (2 ^ n)
theorem ct6 {n i : Nat} (hn : n ≤ 6) (hi : i < 2 ^ n) : ct i.testBit 10 = ct i.testBit n :=
  ct_ext (by omega) (fun j h1 _ => Nat.testBit_lt_two_pow (Nat.lt_of_lt_of_le hi (Nat.pow_le_pow_right (by omega) h1)))
theorem e_waysToOpen {d : Nat} (hd : 5 ≤ d) (hs : isS s) (G : gdN (cv s h) K M) {k m n t : Nat} (hk : k < 10) (hm : m < 5) (hn : n ≤ 6) (ht : 1 ≤ t) (ht2 : t ≤ 20) : ∃ g, Cal d eX2_waysToOpen [.ref 52, .ref s, .int (nI k), .int (nI m), .int (nI n), .int (nI t)] h (some (.long (lN (slN (cv s h) k m n t)))) (mPut h 53 g) := by
  refine Cal_53 (d := 4) hd rfl (fun Q hq x0 => ?_)
  show WP 4 eX2_waysToOpen Q 0 [.ref 52, .ref s, .int (nI k), .int (nI m), .int (nI n), .int (nI t), mU, mU, mU] [] (mPut h 53 x0)
  unfold slN at hq
  by_cases c0 : n = 0
  · subst c0
    simp only [bX2_waysToOpen_0, bX2_waysToOpen_5, bX2_waysToOpen_10, bX2_waysToOpen_13, bX2_waysToOpen_17, bX2_waysToOpen_18, nI_0, tgS hs, k_opens (show 3 ≤ 4 by omega) hs (G53 hs G x0) hk, cv53 hs, bz0, ite_bz, Option.toList_some, Option.toList_none, List.cons_append, List.nil_append, and_assoc, exists_and_left, exists_eq_left, true_and, and_true, Nat.reduceLeDiff, not_false_eq_true, not_true_eq_false, ↓reduceIte, eq_self, ← Int32.not_lt, ite_not, Classical.not_not]
    cases c : opb (cv s h) k <;> simp only [c, decide_true, decide_false, not_false_eq_true, not_true_eq_false, ↓reduceIte, Bool.false_eq_true, Bool.and_true, Bool.true_and, Bool.false_and, Bool.and_false, true_and, false_and, and_true, and_false] at hq ⊢ <;> exact hq _
  · simp only [c0, decide_true, decide_false, not_false_eq_true, not_true_eq_false, ↓reduceIte, Bool.false_eq_true, Bool.and_true, Bool.true_and, Bool.false_and, Bool.and_false, true_and, false_and, and_true, and_false] at hq
    have hp : 2 ^ n ≤ 64 := Nat.pow_le_pow_right (n := 2) (j := 6) (by omega) hn
    have et : (nI t - 1).toInt64 = lN (t - 1) := by rw [show (1 : Int32) = nI 1 from rfl, pk_sub ht, nI_l (by omega)]
    have z0 : ¬ nI n = 0 := by rw [show (0 : Int32) = nI 0 from rfl, neq (by omega) (by omega)]; exact c0
    simp only [bX2_waysToOpen_0, bX2_waysToOpen_19, z0, Option.toList_some, Option.toList_none, List.cons_append, List.nil_append, and_assoc, exists_and_left, exists_eq_left, true_and, and_true, Nat.reduceLeDiff, not_false_eq_true, not_true_eq_false, ↓reduceIte, eq_self, ← Int32.not_lt, ite_not, Classical.not_not]
    refine wl (fun i => ∀ x, WP 4 eX2_waysToOpen Q 25 [.ref 52, .ref s, .int (nI k), .int (nI m), .int (nI n), .int (nI t), .long (lN (slW (cv s h) k m n t i)), mU, .int (nI i)] [] (mPut h 53 x)) (2 ^ n) ?_ (2 ^ n) 0 (by omega) ?_ x0
    · intro i hi hw x
      have hw := hw
      rw [slW] at hw
      obtain ⟨g, hc⟩ := e_lastCopyFits (Nat.le_refl 4) hs G hk hm hn (show i < 1024 by omega) x
      have l1 := ct_le i.testBit n
      rw [bX2_waysToOpen_25]
      simp only [bX2_waysToOpen_34, bX2_waysToOpen_45, bX2_waysToOpen_48, bX2_waysToOpen_62, bX2_waysToOpen_66, bX2_waysToOpen_69, sh1 (show n < 31 by omega), nlt (show i ≤ 100000 by omega) (show 2 ^ n ≤ 100000 by omega), hi, t52, Cal_iff hc, bz0, ite_bz, k_bitCount (show 1 ≤ 4 by omega) (show i < 1024 by omega), et, ct6 hn hi, pk_sub l1, k_power (show 1 ≤ 4 by omega) (show n - ct i.testBit n ≤ 100 by omega), lN_add, nI_1, Option.toList_some, Option.toList_none, List.cons_append, List.nil_append, and_assoc, exists_and_left, exists_eq_left, true_and, and_true, Nat.reduceLeDiff, not_false_eq_true, not_true_eq_false, ↓reduceIte, eq_self, ← Int32.not_lt, ite_not, Classical.not_not] at hw ⊢
      cases c : slF (cv s h) k m n i <;> simp only [c, decide_true, decide_false, not_false_eq_true, not_true_eq_false, ↓reduceIte, Bool.false_eq_true, Bool.and_true, Bool.true_and, Bool.false_and, Bool.and_false, true_and, false_and, and_true, and_false] at hw ⊢ <;> exact hw _
    · intro x
      simp only [bX2_waysToOpen_25, bX2_waysToOpen_75, sh1 (show n < 31 by omega), nlt (show 2 ^ n ≤ 100000 by omega) (show 2 ^ n ≤ 100000 by omega), Nat.lt_irrefl, Option.toList_some, Option.toList_none, List.cons_append, List.nil_append, and_assoc, exists_and_left, exists_eq_left, true_and, and_true, Nat.reduceLeDiff, not_false_eq_true, not_true_eq_false, ↓reduceIte, eq_self, ← Int32.not_lt, ite_not, Classical.not_not]
      exact hq _
end M5
