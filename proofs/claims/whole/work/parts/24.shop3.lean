/-! loops over the keys -/
theorem nlt {a b : Nat} (ha : a ≤ 100000) (hb : b ≤ 100000) : (nI a < nI b) = (a < b) := propext (nI_ltI (by omega) (by omega))
theorem neq {a b : Nat} (ha : a ≤ 100000) (hb : b ≤ 100000) : (nI a = nI b) = (a = b) := propext (nI_eq (by omega) (by omega))
theorem nnn {a : Nat} (ha : a ≤ 100000) : ¬ nI a < 0 := nI_pos (by omega)
theorem nm9 {a : Nat} (ha : a ≤ 100000) : ¬ nI a = -9 := by
  intro e
  have h := nnn ha
  rw [e] at h
  exact h (by decide)
theorem k_openingBits {d : Nat} (hd : 4 ≤ d) {s K M : Nat} (hs : isS s) {h : mH} (G : gdN (cv s h) K M) (r : Option Value) (h' : mH) : Cal d eX3_openingBits [.ref s] h r h' ↔ r = some (.int (nI (nb (opb (cv s h)) K))) ∧ h' = h := by
  refine Cal_iff (Cal_le (d := 4) (Cal_of rfl (fun Q hq => ?_)) hd) r h'
  show WP 3 eX3_openingBits Q 0 [.ref s, mU, mU] [] h
  have hk10 := G.k10
  have e0 : h s 2 = nI K := G.s0
  simp only [bX3_openingBits_0]
  refine wl (fun i => WP 3 eX3_openingBits Q 4 [.ref s, .int (nI (nb (opb (cv s h)) i)), .int (nI i)] [] h) K ?_ K 0 (by omega) ?_
  · intro i hi hw
    rw [bX3_openingBits_4]
    simp only [bX3_openingBits_0, bX3_openingBits_12, bX3_openingBits_18, bX3_openingBits_21, bX3_openingBits_27, bX3_openingBits_28, bX3_openingBits_36, tgS hs, e0, nlt (show i ≤ 100000 by omega) (show K ≤ 100000 by omega), hi, k_opens (Nat.le_refl 3) hs G (show i < 10 by omega), bz0, ite_bz, nI_1, Option.toList_some, Option.toList_none, List.cons_append, List.nil_append, and_assoc, exists_and_left, exists_eq_left, true_and, and_true, Nat.reduceLeDiff, not_false_eq_true, not_true_eq_false, ↓reduceIte, eq_self, ← Int32.not_lt, ite_not, Classical.not_not]
    have e := nb_n (opb (cv s h)) (show i < 31 by omega)
    cases c : opb (cv s h) i <;> simp only [c, decide_true, decide_false, not_false_eq_true, not_true_eq_false, ↓reduceIte, Bool.false_eq_true, Bool.and_true, Bool.true_and, Bool.false_and, Bool.and_false, true_and, false_and, and_true, and_false] at e ⊢ <;> rw [e] <;> exact hw
  · simp only [bX3_openingBits_4, bX3_openingBits_36, tgS hs, e0, nlt (show K ≤ 100000 by omega) (show K ≤ 100000 by omega), Nat.lt_irrefl, Option.toList_some, Option.toList_none, List.cons_append, List.nil_append, and_assoc, exists_and_left, exists_eq_left, true_and, and_true, Nat.reduceLeDiff, not_false_eq_true, not_true_eq_false, ↓reduceIte, eq_self, ← Int32.not_lt, ite_not, Classical.not_not]
    exact hq
/-- whether key k is snapped -/
def snb (σ : Nat → Int32) (k : Nat) : Bool := decide (¬ σ (9 + 7 * k + 6) = 0)
theorem k_snappedBits {d : Nat} (hd : 1 ≤ d) {s K M : Nat} (hs : isS s) {h : mH} (G : gdN (cv s h) K M) (r : Option Value) (h' : mH) : Cal d eX3_snappedBits [.ref s] h r h' ↔ r = some (.int (nI (nb (snb (cv s h)) K))) ∧ h' = h := by
  refine Cal_iff (Cal_le (d := 1) (Cal_of rfl (fun Q hq => ?_)) hd) r h'
  show WP 0 eX3_snappedBits Q 0 [.ref s, mU, mU] [] h
  have hk10 := G.k10
  have e0 : h s 2 = nI K := G.s0
  simp only [bX3_snappedBits_0]
  refine wl (fun i => WP 0 eX3_snappedBits Q 4 [.ref s, .int (nI (nb (snb (cv s h)) i)), .int (nI i)] [] h) K ?_ K 0 (by omega) ?_
  · intro i hi hw
    rw [bX3_snappedBits_4]
    have hi10 : i < 10 := by omega
    simp only [bX3_snappedBits_0, bX3_snappedBits_12, bX3_snappedBits_19, bX3_snappedBits_22, bX3_snappedBits_28, bX3_snappedBits_29, bX3_snappedBits_37, tgS hs, rfS5 hs, tgZ hs, lnZ hs, e0, nlt (show i ≤ 100000 by omega) (show K ≤ 100000 by omega), hi, vp_nI hi10 (show 10 ≤ 100 by omega), nI_cl (show i < 100 by omega), nI_1, Option.toList_some, Option.toList_none, List.cons_append, List.nil_append, and_assoc, exists_and_left, exists_eq_left, true_and, and_true, Nat.reduceLeDiff, not_false_eq_true, not_true_eq_false, ↓reduceIte, eq_self, ← Int32.not_lt, ite_not, Classical.not_not]
    have e := nb_n (snb (cv s h)) (show i < 31 by omega)
    have e2 : snb (cv s h) i = decide (¬ h (s + 14) i = 0) := by unfold snb; rw [cvZ hi10]
    by_cases c : h (s + 14) i = 0 <;> simp only [e2, c, decide_true, decide_false, not_false_eq_true, not_true_eq_false, ↓reduceIte, Bool.false_eq_true, Bool.and_true, Bool.true_and, Bool.false_and, Bool.and_false, true_and, false_and, and_true, and_false] at e ⊢ <;> rw [e] <;> exact hw
  · simp only [bX3_snappedBits_4, bX3_snappedBits_37, tgS hs, e0, nlt (show K ≤ 100000 by omega) (show K ≤ 100000 by omega), Nat.lt_irrefl, Option.toList_some, Option.toList_none, List.cons_append, List.nil_append, and_assoc, exists_and_left, exists_eq_left, true_and, and_true, Nat.reduceLeDiff, not_false_eq_true, not_true_eq_false, ↓reduceIte, eq_self, ← Int32.not_lt, ite_not, Classical.not_not]
    exact hq
theorem k_allKeysBits {d : Nat} (hd : 1 ≤ d) {s K M : Nat} (hs : isS s) {h : mH} (G : gdN (cv s h) K M) (r : Option Value) (h' : mH) : Cal d eX3_allKeysBits [.ref s] h r h' ↔ r = some (.int (nI (2 ^ K - 1))) ∧ h' = h := by
  refine Cal_iff (Cal_le (d := 1) (Cal_of rfl (fun Q hq => ?_)) hd) r h'
  show WP 0 eX3_allKeysBits Q 0 [.ref s] [] h
  have hk10 := G.k10
  have e0 : h s 2 = nI K := G.s0
  have e1 : nI (2 ^ K) - 1 = nI (2 ^ K - 1) := pk_sub (b := 1) (Nat.two_pow_pos K)
  simp only [bX3_allKeysBits_0, tgS hs, e0, sh1 (show K < 31 by omega), e1, Option.toList_some, Option.toList_none, List.cons_append, List.nil_append, and_assoc, exists_and_left, exists_eq_left, true_and, and_true, Nat.reduceLeDiff, not_false_eq_true, not_true_eq_false, ↓reduceIte, eq_self, ← Int32.not_lt, ite_not, Classical.not_not]
  exact hq
/-- of those that p tells the one with the least w, of several the least -/
def bst (p : Nat → Bool) (w : Nat → Int32) : Nat → Option Nat
  | 0 => none
  | i + 1 => if p i then (match bst p w i with
    | none => some i
    | some b => if w i < w b then some i else some b) else bst p w i
def on : Option Nat → Int32
  | none => -9
  | some b => nI b
def onw (w : Nat → Int32) : Option Nat → Int32
  | none => 0
  | some b => w b
theorem bst_lt {p : Nat → Bool} {w : Nat → Int32} : ∀ {i b : Nat}, bst p w i = some b → b < i
  | 0, b, h => by cases h
  | i + 1, b, h => by
    rw [bst] at h
    split at h
    · split at h
      · cases h; omega
      · rename_i c e
        have := bst_lt e
        split at h
        · cases h; omega
        · cases h; omega
    · have := bst_lt h; omega
/-- how much key k must be wiggled -/
def wgk (σ : Nat → Int32) (k : Nat) : Int32 := wig (rowF σ k) (pinF σ)
theorem k_wiggleKey {d : Nat} (hd : 1 ≤ d) {s k K M : Nat} (hs : isS s) {h : mH} (G : gdN (cv s h) K M) (hk : k < 10) (r : Option Value) (h' : mH) : Cal d eX3_wiggleOf [.ref s, .ref (s + 3 + k)] h r h' ↔ r = some (.int (wgk (cv s h) k)) ∧ h' = h := by
  rw [k_wiggleOf hd hs (tgR hs hk) (lnR hs hk) (G.rc hk) G.pc]
  unfold wgk
  rw [wig_cg (rowE hk) pinE]
theorem k_leastWiggleOf {d : Nat} (hd : 2 ≤ d) {s K M n : Nat} (hs : isS s) {h : mH} (G : gdN (cv s h) K M) (hn : n < 2 ^ 31) (r : Option Value) (h' : mH) : Cal d eX3_leastWiggleOf [.ref s, .int (nI n)] h r h' ↔ r = some (.int (on (bst n.testBit (wgk (cv s h)) K))) ∧ h' = h := by
  refine Cal_iff (Cal_le (d := 2) (Cal_of rfl (fun Q hq => ?_)) hd) r h'
  show WP 1 eX3_leastWiggleOf Q 0 [.ref s, .int (nI n), mU, mU, mU, mU] [] h
  have hk10 := G.k10
  have e0 : h s 2 = nI K := G.s0
  simp only [bX3_leastWiggleOf_0]
  refine wl (fun i => ∀ u, WP 1 eX3_leastWiggleOf Q 8 [.ref s, .int (nI n), .int (on (bst n.testBit (wgk (cv s h)) i)), .int (onw (wgk (cv s h)) (bst n.testBit (wgk (cv s h)) i)), .int (nI i), u] [] h) K ?_ K 0 (by omega) ?_ _
  · intro i hi hw u
    rw [bX3_leastWiggleOf_8]
    have hi10 : i < 10 := by omega
    simp only [bX3_leastWiggleOf_0, bX3_leastWiggleOf_17, bX3_leastWiggleOf_23, bX3_leastWiggleOf_26, bX3_leastWiggleOf_29, bX3_leastWiggleOf_40, bX3_leastWiggleOf_48, bX3_leastWiggleOf_54, bX3_leastWiggleOf_60, bX3_leastWiggleOf_66, tgS hs, rfS3 hs, tgH hs, lnH hs, e0, nlt (show i ≤ 100000 by omega) (show K ≤ 100000 by omega), hi, k_holds (Nat.le_refl 1) hn (show i < 31 by omega), bz0, ite_bz, vp_nI hi10 (show 10 ≤ 100 by omega), nI_cl (show i < 100 by omega), rfH hs hi10, k_wiggleKey (Nat.le_refl 1) hs G hi10, nI_1, Option.toList_some, Option.toList_none, List.cons_append, List.nil_append, and_assoc, exists_and_left, exists_eq_left, true_and, and_true, Nat.reduceLeDiff, not_false_eq_true, not_true_eq_false, ↓reduceIte, eq_self, ← Int32.not_lt, ite_not, Classical.not_not]
    have hw := hw
    rw [bst] at hw
    cases c : n.testBit i with
    | false => simp only [c, decide_true, decide_false, not_false_eq_true, not_true_eq_false, ↓reduceIte, Bool.false_eq_true, Bool.and_true, Bool.true_and, Bool.false_and, Bool.and_false, true_and, false_and, and_true, and_false] at hw ⊢; exact hw _
    | true =>
      simp only [c, decide_true, decide_false, not_false_eq_true, not_true_eq_false, ↓reduceIte, Bool.false_eq_true, Bool.and_true, Bool.true_and, Bool.false_and, Bool.and_false, true_and, false_and, and_true, and_false] at hw ⊢
      cases e : bst n.testBit (wgk (cv s h)) i with
      | none => simp only [e, on, decide_true, decide_false, not_false_eq_true, not_true_eq_false, ↓reduceIte, Bool.false_eq_true, Bool.and_true, Bool.true_and, Bool.false_and, Bool.and_false, true_and, false_and, and_true, and_false] at hw ⊢; exact hw _
      | some b =>
        have hb := bst_lt e
        simp only [e, on, onw, nm9 (show b ≤ 100000 by omega), decide_true, decide_false, not_false_eq_true, not_true_eq_false, ↓reduceIte, Bool.false_eq_true, Bool.and_true, Bool.true_and, Bool.false_and, Bool.and_false, true_and, false_and, and_true, and_false] at hw ⊢
        by_cases c2 : wgk (cv s h) i < wgk (cv s h) b <;> simp only [c2, decide_true, decide_false, not_false_eq_true, not_true_eq_false, ↓reduceIte, Bool.false_eq_true, Bool.and_true, Bool.true_and, Bool.false_and, Bool.and_false, true_and, false_and, and_true, and_false] at hw ⊢ <;> exact hw _
  · intro u
    simp only [bX3_leastWiggleOf_8, bX3_leastWiggleOf_66, tgS hs, e0, nlt (show K ≤ 100000 by omega) (show K ≤ 100000 by omega), Nat.lt_irrefl, Option.toList_some, Option.toList_none, List.cons_append, List.nil_append, and_assoc, exists_and_left, exists_eq_left, true_and, and_true, Nat.reduceLeDiff, not_false_eq_true, not_true_eq_false, ↓reduceIte, eq_self, ← Int32.not_lt, ite_not, Classical.not_not]
    exact hq
theorem bst_cg {p q : Nat → Bool} {w : Nat → Int32} : ∀ {n : Nat}, (∀ i, i < n → p i = q i) → bst p w n = bst q w n
  | 0, _ => rfl
  | n + 1, h => by rw [bst, bst, h n (by omega), bst_cg (fun i hi => h i (by omega))]
theorem k_nearestKey {d : Nat} (hd : 3 ≤ d) {s K M : Nat} (hs : isS s) {h : mH} (G : gdN (cv s h) K M) (r : Option Value) (h' : mH) : Cal d eX3_nearestKey [.ref s] h r h' ↔ r = some (.int (on (bst (fun k => !snb (cv s h) k) (wgk (cv s h)) K))) ∧ h' = h := by
  refine Cal_iff (Cal_le (d := 3) (Cal_of rfl (fun Q hq => ?_)) hd) r h'
  show WP 2 eX3_nearestKey Q 0 [.ref s] [] h
  have hk10 := G.k10
  have hb := nb_lt (snb (cv s h)) K
  have hp : 2 ^ K ≤ 1024 := Nat.pow_le_pow_right (n := 2) (by omega) hk10
  -- the keys that are not snapped, as bits
  have e : nI (2 ^ K - 1) &&& (nI (nb (snb (cv s h)) K) ^^^ -1) = nI ((2 ^ K - 1) &&& ((nb (snb (cv s h)) K) ^^^ (2 ^ 32 - 1))) := by
    apply Int32.toBitVec_inj.mp
    rw [Int32.toBitVec_and, Int32.toBitVec_xor]
    show BitVec.ofNat 32 _ &&& (BitVec.ofNat 32 _ ^^^ BitVec.ofNat 32 (2 ^ 32 - 1)) = BitVec.ofNat 32 _
    rw [BitVec.ofNat_and, BitVec.ofNat_xor]
  have hlt : ((2 ^ K - 1) &&& ((nb (snb (cv s h)) K) ^^^ (2 ^ 32 - 1))) < 2 ^ 31 := by
    refine Nat.lt_of_le_of_lt (Nat.and_le_left) (by omega)
  simp only [bX3_nearestKey_0, bX3_nearestKey_5, bX3_nearestKey_9, bX3_nearestKey_15, tgS hs, k_allKeysBits (show 1 ≤ 2 by omega) hs G, k_snappedBits (show 1 ≤ 2 by omega) hs G, e, k_leastWiggleOf (Nat.le_refl 2) hs G hlt, Option.toList_some, Option.toList_none, List.cons_append, List.nil_append, and_assoc, exists_and_left, exists_eq_left, true_and, and_true, Nat.reduceLeDiff, not_false_eq_true, not_true_eq_false, ↓reduceIte, eq_self, ← Int32.not_lt, ite_not, Classical.not_not]
  rw [bst_cg (q := ((2 ^ K - 1) &&& ((nb (snb (cv s h)) K) ^^^ (2 ^ 32 - 1))).testBit)] at hq
  · exact hq
  · intro i hi
    rw [Nat.testBit_and, Nat.testBit_xor, nb_bit, Nat.testBit_two_pow_sub_one, Nat.testBit_two_pow_sub_one]
    simp [hi, show i < 32 by omega]
