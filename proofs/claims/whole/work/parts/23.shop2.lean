def rowF (σ : Nat → Int32) (k : Nat) : Nat → Int32 := fun t => σ (9 + 7 * k + t)
def pinF (σ : Nat → Int32) : Nat → Int32 := fun t => σ (4 + t)
/-- a row that a lock may have: K keys, M machines -/
def gdN (σ : Nat → Int32) (K M : Nat) : Prop := K ≤ 10 ∧ σ 0 = nI K ∧ M ≤ 5 ∧ σ 1 = nI M ∧ (∃ U, U ≤ 9999 ∧ σ 2 = nI U) ∧ (∃ L, L ≤ 9 ∧ σ 3 = nI L) ∧ (∀ t, t < 5 → is99 (σ (4 + t))) ∧ (∀ k t, k < 10 → t < 5 → is99 (σ (9 + 7 * k + t))) ∧ (∀ k, k < K → σ (9 + 7 * k + 5) = -9 ∨ ∃ j, j < k ∧ σ (9 + 7 * k + 5) = nI j) ∧ (∀ k, k < 10 → σ (9 + 7 * k + 6) = 0 ∨ σ (9 + 7 * k + 6) = 1) ∧ (∀ m, m < 5 → ∃ q, q < 6 ∧ σ (79 + 2 * m) = nI q) ∧ (∀ m, m < 5 → ∃ q, q ≤ 9 ∧ σ (79 + 2 * m + 1) = nI q) ∧ ∀ i, 89 ≤ i → σ i = 0
section GD
variable {σ : Nat → Int32} {K M : Nat}
theorem gdN.k10 (G : gdN σ K M) : K ≤ 10 := G.1
theorem gdN.s0 (G : gdN σ K M) : σ 0 = nI K := G.2.1
theorem gdN.m5 (G : gdN σ K M) : M ≤ 5 := G.2.2.1
theorem gdN.s1 (G : gdN σ K M) : σ 1 = nI M := G.2.2.2.1
theorem gdN.s2 (G : gdN σ K M) : ∃ U, U ≤ 9999 ∧ σ 2 = nI U := G.2.2.2.2.1
theorem gdN.s3 (G : gdN σ K M) : ∃ L, L ≤ 9 ∧ σ 3 = nI L := G.2.2.2.2.2.1
theorem gdN.p (G : gdN σ K M) : r99 (pinF σ) := fun t ht => G.2.2.2.2.2.2.1 t ht
theorem gdN.r (G : gdN σ K M) {k : Nat} (hk : k < 10) : r99 (rowF σ k) := fun t ht => G.2.2.2.2.2.2.2.1 k t hk ht
theorem gdN.f (G : gdN σ K M) {k : Nat} (hk : k < K) : σ (9 + 7 * k + 5) = -9 ∨ ∃ j, j < k ∧ σ (9 + 7 * k + 5) = nI j := G.2.2.2.2.2.2.2.2.1 k hk
theorem gdN.z (G : gdN σ K M) {k : Nat} (hk : k < 10) : σ (9 + 7 * k + 6) = 0 ∨ σ (9 + 7 * k + 6) = 1 := G.2.2.2.2.2.2.2.2.2.1 k hk
theorem gdN.d (G : gdN σ K M) {m : Nat} (hm : m < 5) : ∃ q, q < 6 ∧ σ (79 + 2 * m) = nI q := G.2.2.2.2.2.2.2.2.2.2.1 m hm
theorem gdN.g (G : gdN σ K M) {m : Nat} (hm : m < 5) : ∃ q, q ≤ 9 ∧ σ (79 + 2 * m + 1) = nI q := G.2.2.2.2.2.2.2.2.2.2.2.1 m hm
theorem gdN.o (G : gdN σ K M) : ∀ i, 89 ≤ i → σ i = 0 := G.2.2.2.2.2.2.2.2.2.2.2.2
end GD
theorem r99_cg {f g : Nat → Int32} (h : ∀ t, t < 5 → f t = g t) (hf : r99 f) : r99 g := fun t ht => by rw [← h t ht]; exact hf t ht
section CG
variable {f g p q : Nat → Int32} (hf : ∀ t, t < 5 → f t = g t) (hp : ∀ t, t < 5 → p t = q t)
theorem wig_cg (hf : ∀ t, t < 5 → f t = g t) (hp : ∀ t, t < 5 → p t = q t) : wig f p = wig g q := by
  unfold wig; rw [hf 0 (by omega), hf 1 (by omega), hf 2 (by omega), hf 3 (by omega), hf 4 (by omega), hp 0 (by omega), hp 1 (by omega), hp 2 (by omega), hp 3 (by omega), hp 4 (by omega)]
theorem ltf_cg (hf : ∀ t, t < 5 → f t = g t) (hp : ∀ t, t < 5 → p t = q t) (sl : Int32) : ltf f p sl = ltf g q sl := by
  unfold ltf; rw [hf 0 (by omega), hf 1 (by omega), hf 2 (by omega), hf 3 (by omega), hf 4 (by omega), hp 0 (by omega), hp 1 (by omega), hp 2 (by omega), hp 3 (by omega), hp 4 (by omega)]
theorem fitb_cg (hf : ∀ t, t < 5 → f t = g t) (hp : ∀ t, t < 5 → p t = q t) (sl : Int32) : fitb f p sl = fitb g q sl := by
  unfold fitb; rw [ltf_cg hf hp]
end CG
section SC
variable {s : Nat} {h : mH}
theorem rowE {k : Nat} (hk : k < 10) : ∀ t, t < 5 → h (s + 3 + k) t = rowF (cv s h) k t := fun t ht => (cvR hk ht).symm
theorem pinE : ∀ t, t < 5 → h (s + 1) t = pinF (cv s h) t := fun t ht => (cvP ht).symm
theorem gdN.rc {K M : Nat} (G : gdN (cv s h) K M) {k : Nat} (hk : k < 10) : r99 (h (s + 3 + k)) := r99_cg (fun t ht => (rowE hk t ht).symm) (G.r hk)
theorem gdN.pc {K M : Nat} (G : gdN (cv s h) K M) : r99 (h (s + 1)) := r99_cg (fun t ht => (pinE t ht).symm) G.p
end SC
/-- whether key k opens -/
def opb (σ : Nat → Int32) (k : Nat) : Bool := decide (σ (9 + 7 * k + 6) = 0) && fitb (rowF σ k) (pinF σ) (σ 3)
theorem k_opens {d : Nat} (hd : 3 ≤ d) {s k K M : Nat} (hs : isS s) {h : mH} (G : gdN (cv s h) K M) (hk : k < 10) (r : Option Value) (h' : mH) : Cal d eX3_opens [.ref s, .int (nI k)] h r h' ↔ r = some (.int (bz (opb (cv s h) k))) ∧ h' = h := by
  refine Cal_iff (Cal_le (d := 3) (Cal_of rfl (fun Q hq => ?_)) hd) r h'
  show WP 2 eX3_opens Q 0 [.ref s, .int (nI k)] [] h
  unfold opb at hq
  rw [cvZ hk, ← fitb_cg (rowE hk) pinE, cv3] at hq
  simp only [bX3_opens_0, bX3_opens_6, bX3_opens_9, bX3_opens_19, bX3_opens_22, bX3_opens_26, bX3_opens_27, tgS hs, rfS5 hs, tgZ hs, lnZ hs, rfS3 hs, tgH hs, lnH hs, vp_nI hk (show 10 ≤ 100 by omega), nI_cl (show k < 100 by omega), rfH hs hk, k_fits (Nat.le_refl 2) hs (tgR hs hk) (lnR hs hk) (G.rc hk) G.pc, bz0, nb0, nb1, Option.toList_some, Option.toList_none, List.cons_append, List.nil_append, and_assoc, exists_and_left, exists_eq_left, true_and, and_true, Nat.reduceLeDiff, not_false_eq_true, not_true_eq_false, ↓reduceIte, eq_self, ← Int32.not_lt, ite_not, Classical.not_not]
  by_cases c : h (s + 14) k = 0
  · cases e : fitb (h (s + 3 + k)) (h (s + 1)) (h s 1) <;> simp only [c, e, decide_true, decide_false, not_false_eq_true, not_true_eq_false, ↓reduceIte, Bool.false_eq_true, Bool.and_true, Bool.true_and, Bool.false_and, Bool.and_false, true_and, false_and, and_true, and_false, bzt, bzf] at hq ⊢ <;> exact hq
  · simp only [c, decide_true, decide_false, not_false_eq_true, not_true_eq_false, ↓reduceIte, Bool.false_eq_true, Bool.and_true, Bool.true_and, Bool.false_and, Bool.and_false, true_and, false_and, and_true, and_false, bzf] at hq ⊢; exact hq
theorem ikt {x : Int32} {n : Nat} (hn : n ≤ 1000) (hi : ik x (nI n) = true) : ∃ k, k < n ∧ x = nI k := by
  unfold ik at hi
  simp only [Bool.and_eq_true, decide_eq_true_eq] at hi
  obtain ⟨j, hj, rfl⟩ := nI_of hi.1
  exact ⟨j, (nI_ltI hj (by omega)).mp hi.2, rfl⟩
theorem ikk {k n : Nat} (hk : k < 2 ^ 31) (hn : n ≤ 1000) : ik (nI k) (nI n) = decide (k < n) := by
  unfold ik
  rw [decide_eq_true (nI_pos hk), Bool.true_and]
  by_cases c : k < n
  · rw [decide_eq_true c, decide_eq_true ((nI_ltI hk (by omega)).mpr c)]
  · rw [decide_eq_false c, decide_eq_false (fun z => c ((nI_ltI hk (by omega)).mp z))]
theorem k_hasWholeKey {d : Nat} (hd : 2 ≤ d) {s K M : Nat} (hs : isS s) {h : mH} (G : gdN (cv s h) K M) (x : Int32) (r : Option Value) (h' : mH) : Cal d eX3_hasWholeKey [.ref s, .int x] h r h' ↔ r = some (.int (bz (ik x (nI K) && decide (h (s + 14) x.toNatClampNeg = 0)))) ∧ h' = h := by
  refine Cal_iff (Cal_le (d := 2) (Cal_of rfl (fun Q hq => ?_)) hd) r h'
  show WP 1 eX3_hasWholeKey Q 0 [.ref s, .int x] [] h
  have e0 : h s 2 = nI K := G.s0
  simp only [bX3_hasWholeKey_0, bX3_hasWholeKey_5, bX3_hasWholeKey_8, bX3_hasWholeKey_14, bX3_hasWholeKey_17, bX3_hasWholeKey_21, bX3_hasWholeKey_22, tgS hs, rfS5 hs, tgZ hs, lnZ hs, k_hasKey (Nat.le_refl 1) hs, e0, bz0, nb0, nb1, Option.toList_some, Option.toList_none, List.cons_append, List.nil_append, and_assoc, exists_and_left, exists_eq_left, true_and, and_true, Nat.reduceLeDiff, not_false_eq_true, not_true_eq_false, ↓reduceIte, eq_self, ← Int32.not_lt, ite_not, Classical.not_not]
  cases e : ik x (nI K) with
  | false => simp only [e, decide_true, decide_false, not_false_eq_true, not_true_eq_false, ↓reduceIte, Bool.false_eq_true, Bool.and_true, Bool.true_and, Bool.false_and, Bool.and_false, true_and, false_and, and_true, and_false, bzf] at hq ⊢; exact hq
  | true =>
    obtain ⟨k, hk, rfl⟩ := ikt (by have := G.k10; omega) e
    have hk10 : k < 10 := by have := G.k10; omega
    simp only [e, vp_nI hk10 (show 10 ≤ 100 by omega), nI_cl (show k < 100 by omega), decide_true, decide_false, not_false_eq_true, not_true_eq_false, ↓reduceIte, Bool.false_eq_true, Bool.and_true, Bool.true_and, Bool.false_and, Bool.and_false, true_and, false_and, and_true, and_false] at hq ⊢
    by_cases c : h (s + 14) k = 0 <;> simp only [c, decide_true, decide_false, not_false_eq_true, not_true_eq_false, ↓reduceIte, Bool.false_eq_true, Bool.and_true, Bool.true_and, Bool.false_and, Bool.and_false, true_and, false_and, and_true, and_false, bzt, bzf] at hq ⊢ <;> exact hq
/-! sets as bits -/
theorem s31 : ∀ n, n < 32 → ((nI n &&& 31).toBitVec.smod 32).toNat = n := by decide +kernel
theorem sh1 {n : Nat} (hn : n < 31) : (1 : Int32) <<< (nI n &&& 31) = nI (2 ^ n) := by
  have := pk_shlN (n := 1) (nI n &&& 31) n (s31 n (by omega)) (by rw [Nat.one_mul]; exact Nat.pow_lt_pow_right (by omega) (by omega))
  rw [Nat.one_mul] at this
  exact this
theorem tbit {n i : Nat} (hn : n < 2 ^ 31) (hi : i < 31) : (nI n >>> (nI i &&& 31)) &&& 1 = nI (n / 2 ^ i % 2) := by
  rw [pk_shrN hn (nI i &&& 31) i (s31 i (by omega))]
  have h1 : n / 2 ^ i < 2 ^ 32 := Nat.lt_of_le_of_lt (Nat.div_le_self _ _) (by omega)
  exact pk_andN h1 1 (by decide)
theorem k_holds {d : Nat} (hd : 1 ≤ d) {n i : Nat} (hn : n < 2 ^ 31) (hi : i < 31) (h : mH) (r : Option Value) (h' : mH) : Cal d eX5_holds [.int (nI n), .int (nI i)] h r h' ↔ r = some (.int (bz (n.testBit i))) ∧ h' = h := by
  refine Cal_iff (Cal_le (d := 1) (Cal_of rfl (fun Q hq => ?_)) hd) r h'
  show WP 0 eX5_holds Q 0 [.int (nI n), .int (nI i)] [] h
  have e : n.testBit i = decide (n / 2 ^ i % 2 = 1) := Nat.testBit_eq_decide_div_mod_eq
  simp only [bX5_holds_0, bX5_holds_9, bX5_holds_13, bX5_holds_14, tbit hn hi, nb0, nb1, Option.toList_some, Option.toList_none, List.cons_append, List.nil_append, and_assoc, exists_and_left, exists_eq_left, true_and, and_true, Nat.reduceLeDiff, not_false_eq_true, not_true_eq_false, ↓reduceIte, eq_self, ← Int32.not_lt, ite_not, Classical.not_not]
  rw [e] at hq
  rcases (show n / 2 ^ i % 2 = 0 ∨ n / 2 ^ i % 2 = 1 by omega) with q | q
  · rw [q] at hq ⊢
    exact hq
  · rw [q] at hq ⊢
    exact hq
/-- the bits of those below K that p tells -/
def nb (p : Nat → Bool) : Nat → Nat
  | 0 => 0
  | k + 1 => nb p k ||| (if p k then 2 ^ k else 0)
theorem nb_lt (p : Nat → Bool) : ∀ k, nb p k < 2 ^ k
  | 0 => by simp [nb]
  | k + 1 => by
    have := nb_lt p k
    refine Nat.or_lt_two_pow (Nat.lt_of_lt_of_le this (Nat.pow_le_pow_right (by omega) (by omega))) ?_
    split
    · exact Nat.pow_lt_pow_right (by omega) (by omega)
    · exact Nat.two_pow_pos _
theorem nb_bit (p : Nat → Bool) : ∀ k j, (nb p k).testBit j = (decide (j < k) && p j)
  | 0, j => by simp [nb]
  | k + 1, j => by
    rw [nb, Nat.testBit_or, nb_bit p k j]
    by_cases c : j = k
    · subst c
      cases p j <;> simp
    · have e : (if p k = true then 2 ^ k else 0).testBit j = false := by
        split
        · rw [Nat.testBit_two_pow]; simp; omega
        · simp
      rw [e, Bool.or_false]
      congr 1
      simp only [decide_eq_decide]; omega
theorem nb_n (p : Nat → Bool) {k : Nat} (hk : k < 31) : (nI (nb p k) ||| (if p k then (1 : Int32) <<< (nI k &&& 31) else 0)) = nI (nb p (k + 1)) := by
  rw [nb]
  split
  · rw [sh1 hk]
    apply Int32.toBitVec_inj.mp
    simp [nI, Int32.toBitVec_or, BitVec.ofNat_or]
  · simp
