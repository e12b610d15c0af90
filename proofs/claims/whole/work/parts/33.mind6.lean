/-! Euclid; lots -/
def eF : Nat → Nat → Nat → Prop
  | 0, _, b => b = 0
  | n + 1, a, b => b = 0 ∨ eF n b (a % b)
theorem eF_0 : ∀ {n a : Nat}, eF n a 0
  | 0, _ => rfl
  | _ + 1, _ => Or.inl rfl
theorem eF_pow : ∀ {j a b : Nat}, b < 2 ^ j → eF (2 * j) a b
  | 0, a, b, h => by
    have : b = 0 := by rw [Nat.pow_zero] at h; omega
    subst this; exact eF_0
  | j + 1, a, b, h => by
    show eF (2 * j + 1 + 1) a b
    by_cases c : b = 0
    · exact Or.inl c
    · refine Or.inr ?_
      by_cases c2 : a % b = 0
      · rw [c2]; exact eF_0
      · refine Or.inr (eF_pow ?_)
        have h1 : a % b < b := Nat.mod_lt _ (by omega)
        have h2 : b % (a % b) < a % b := Nat.mod_lt _ (by omega)
        have h3 : b % (a % b) + (a % b) * (b / (a % b)) = b := Nat.mod_add_div _ _
        have h4 : 1 ≤ b / (a % b) := Nat.div_pos (by omega) (by omega)
        have h5 : (a % b) * 1 ≤ (a % b) * (b / (a % b)) := Nat.mul_le_mul_left _ h4
        rw [Nat.pow_succ] at h
        omega
theorem gcd_st (a b : Nat) : Nat.gcd a b = Nat.gcd b (a % b) := by rw [Nat.gcd_comm a b, Nat.gcd_rec b a, Nat.gcd_comm]
theorem lgc0 {b : Nat} (hb : b < 2 ^ 63) : (lg_cmp (lN b) 0 = 0) = (b = 0) := by
  rw [propext (lg_cmp_eq _ _)]
  exact propext (pk_lEQ (b := 0) hb (by omega))
theorem lN0 {b : Nat} (hb : b < 2 ^ 63) : (lN b = 0) = (b = 0) := propext (pk_lEQ (b := 0) hb (by omega))
theorem jrl_n {a b : Nat} (ha : a < 2 ^ 63) (h0 : 0 < b) (hb : b < 2 ^ 63) : jrl (lN a) (lN b) = lN (a % b) := pk_lRem ha h0 hb
theorem k_greatestDivisor {d : Nat} (hd : 1 ≤ d) {a b : Nat} (ha : a < 2 ^ 62) (hb : b < 2 ^ 40) (h : mH) (r : Option Value) (h' : mH) : Cal d eX5_greatestDivisor [.long (lN a), .long (lN b)] h r h' ↔ r = some (.long (lN (Nat.gcd a b))) ∧ h' = h := by
  refine Cal_iff (Cal_le (d := 1) (Cal_of rfl (fun Q hq => ?_)) hd) r h'
  show WP 0 eX5_greatestDivisor Q 0 [.long (lN a), mU, .long (lN b), mU, mU, mU, mU, mU, mU, mU, mU] [] h
  simp only [bX5_greatestDivisor_0]
  have key : ∀ (n i a' b' : Nat), i + n ≤ 100 → a' < 2 ^ 62 → b' < 2 ^ 62 → eF n a' b' → Q (some (.long (lN (Nat.gcd a' b')))) h → ∀ u v, WP 0 eX5_greatestDivisor Q 9 [.long (lN a), mU, .long (lN b), mU, .long (lN a'), mU, .long (lN b'), mU, .int (nI i), u, v] [] h := by
    intro n
    induction n with
    | zero =>
      intro i a' b' hi ha hb he hq u v
      have : b' = 0 := he
      subst this
      rw [Nat.gcd_zero_right] at hq
      simp only [bX5_greatestDivisor_9, bX5_greatestDivisor_16, bX5_greatestDivisor_44, lgc0 (show 0 < 2 ^ 63 by omega), ite_self, Option.toList_some, Option.toList_none, List.cons_append, List.nil_append, and_assoc, exists_and_left, exists_eq_left, true_and, and_true, Nat.reduceLeDiff, not_false_eq_true, not_true_eq_false, ↓reduceIte, eq_self, ← Int32.not_lt, ite_not, Classical.not_not]
      exact hq
    | succ n ih =>
      intro i a' b' hi ha hb he hq u v
      rw [bX5_greatestDivisor_9]
      by_cases c : b' = 0
      · subst c
        rw [Nat.gcd_zero_right] at hq
        simp only [bX5_greatestDivisor_16, bX5_greatestDivisor_44, lgc0 (show 0 < 2 ^ 63 by omega), ite_self, Option.toList_some, Option.toList_none, List.cons_append, List.nil_append, and_assoc, exists_and_left, exists_eq_left, true_and, and_true, Nat.reduceLeDiff, not_false_eq_true, not_true_eq_false, ↓reduceIte, eq_self, ← Int32.not_lt, ite_not, Classical.not_not]
        exact hq
      · have he : eF n b' (a' % b') := he.resolve_left c
        have hm : a' % b' < b' := Nat.mod_lt _ (by omega)
        simp only [bX5_greatestDivisor_16, bX5_greatestDivisor_23, show (100 : Int32) = nI 100 from rfl, nlt (show i ≤ 100000 by omega) (show 100 ≤ 100000 by omega), show i < 100 by omega, lgc0 (show b' < 2 ^ 63 by omega), lN0 (show b' < 2 ^ 63 by omega), c, jrl_n (show a' < 2 ^ 63 by omega) (show 0 < b' by omega) (show b' < 2 ^ 63 by omega), nI_1, Option.toList_some, Option.toList_none, List.cons_append, List.nil_append, and_assoc, exists_and_left, exists_eq_left, true_and, and_true, Nat.reduceLeDiff, not_false_eq_true, not_true_eq_false, ↓reduceIte, eq_self, ← Int32.not_lt, ite_not, Classical.not_not]
        rw [gcd_st] at hq
        exact ih (i + 1) b' (a' % b') (by omega) hb (by omega) he hq _ _
  exact key 80 0 a b (by omega) ha (by omega) (eF_pow (j := 40) hb) hq _ _
/-! draws -/
def dw (z : Int32) : Int32 := z * 1664525 + 1013904223
def sd (z : Int32) : Nat → Int32
  | 0 => z
  | n + 1 => dw (sd z n)
def dN (m : Nat) (z : Int32) : Nat := (z &&& 2147483647).toNatClampNeg / 256 % m
theorem dN_lt {m : Nat} (h : 0 < m) (z : Int32) : dN m z < m := Nat.mod_lt _ h
theorem dN_eq {m : Nat} (h0 : 0 < m) (h1 : m ≤ 1000) (z : Int32) : jrm ((z &&& 2147483647) / 256) (nI m) = nI (dN m z) := by
  obtain ⟨j, hj, e⟩ := pk_andE z (m := 2147483647) 31 (by decide)
  unfold dN jrm
  have h2 : j / 256 < 2 ^ 31 := Nat.lt_of_le_of_lt (Nat.div_le_self _ _) hj
  rw [e, nI_clamp hj, show (256 : Int32) = nI 256 from rfl, pk_div hj (by omega) (by omega), pk_rem h2 h0 (by omega)]
section M6
variable {s K M : Nat} {h : mH}
def w52 (h : mH) (a x : Nat → Int32) : mH := mPut (mPut h 52 a) 53 x
theorem w52_eq (a x : Nat → Int32) : mPut (mPut h 52 a) 53 x = w52 h a x := rfl
theorem k_drawBelow {d : Nat} (hd : 1 ≤ d) {m : Nat} (h0 : 0 < m) (h1 : m ≤ 1000) (a x : Nat → Int32) (r : Option Value) (h' : mH) : Cal d eX2_drawBelow [.ref 52, .int (nI m)] (w52 h a x) r h' ↔ r = some (.int (nI (dN m (dw (a 2))))) ∧ h' = w52 h (upd a 2 (dw (a 2))) x := by
  refine Cal_iff (Cal_le (d := 1) (Cal_of rfl (fun Q hq => ?_)) hd) r h'
  show WP 0 eX2_drawBelow Q 0 [.ref 52, .int (nI m)] [] (w52 h a x)
  have c1 : nI m < 1 ↔ False := by
    rw [show (1 : Int32) = nI 1 from rfl, nlt (by omega) (by omega)]
    exact ⟨fun z => by omega, False.elim⟩
  have e1 : w52 h a x 52 = a := rfl
  have e2 : ∀ b, mPut (w52 h a x) 52 b = w52 h b x := fun b => by
    unfold w52
    rw [mPut_comm _ _ _ (by omega), mPut_put]
  have z0 : ¬ nI m = 0 := by rw [show (0 : Int32) = nI 0 from rfl, neq (by omega) (by omega)]; omega
  have e3 : upd a 2 (a 2 * 1664525 + 1013904223) 2 = dw (a 2) := rfl
  have e4 : w52 h (upd a 2 (a 2 * 1664525 + 1013904223)) x 52 = upd a 2 (a 2 * 1664525 + 1013904223) := rfl
  simp only [bX2_drawBelow_0, bX2_drawBelow_14, bX2_drawBelow_19, bX2_drawBelow_23, bX2_drawBelow_36, t52, e1, e2, e3, e4, c1, z0, dN_eq h0 h1, Option.toList_some, Option.toList_none, List.cons_append, List.nil_append, and_assoc, exists_and_left, exists_eq_left, true_and, and_true, Nat.reduceLeDiff, not_false_eq_true, not_true_eq_false, ↓reduceIte, eq_self, ← Int32.not_lt, ite_not, Classical.not_not]
  exact hq
def ltR (σ : Nat → Int32) (K M : Nat) (z : Int32) (i : Nat) : Nat → Int32 := cutM σ (dN M (sd z (3 * i + 3))) (cutM σ (dN M (sd z (3 * i + 2))) (rowF σ (dN K (sd z (3 * i + 1)))))
def sm (f : Nat → Int32) : Nat → Int32
  | 0 => 0
  | i + 1 => sm f i + f i
def ltO (σ : Nat → Int32) (K M : Nat) (z : Int32) (i : Nat) : Int32 := bz (fitb (ltR σ K M z i) (pinF σ) (σ 3))
def ltW (σ : Nat → Int32) (K M : Nat) (z : Int32) (i : Nat) : Int32 := wig (ltR σ K M z i) (pinF σ)
def ltA (σ : Nat → Int32) (K M n : Nat) (z : Int32) (tw : Bool) : Int32 := if tw then sm (ltW σ K M z) n else sm (ltO σ K M z) n
theorem e_drawLots {d : Nat} (hd : 5 ≤ d) (hs : isS s) (G : gdN (cv s h) K M) (hK : 0 < K) (hM : 0 < M) {n : Nat} (hn : n ≤ 20) (z : Int32) (tw : Bool) : ∃ a x, Cal d eX2_drawLots [.ref 52, .ref s, .int (nI n), .int z, .int (bz tw)] h (some (.int (ltA (cv s h) K M n z tw))) (w52 h a x) := by
  have k10 := G.k10
  have m5 := G.m5
  have lt := hs.lt
  have cvw : ∀ a, cv s (mPut h 52 a) = cv s h := fun a => cv_out (by omega)
  have Gw : ∀ a, gdN (cv s (mPut h 52 a)) K M := fun a => by rw [cvw]; exact G
  have e0 : ∀ a x, w52 h a x s 2 = nI K := fun a x => by unfold w52; rw [mPut_ne _ _ (by omega), mPut_ne _ _ (by omega)]; exact G.s0
  have e1 : ∀ a x, w52 h a x s 6 = nI M := fun a x => by unfold w52; rw [mPut_ne _ _ (by omega), mPut_ne _ _ (by omega)]; exact G.s1
  have kt : ∀ {k}, k < 10 → ∀ a g r h', Cal 4 eX2_takeKey [.ref 52, .ref s, .int (nI k)] (w52 h a g) r h' ↔ r = none ∧ h' = w52 h a (pT (rowF (cv s h) k) g 5) := fun hk a g r h' => by
    unfold w52; rw [k_takeKey (show 1 ≤ 4 by omega) hs hk, cvw]
  have kc : ∀ {m}, m < 5 → ∀ a F g r h', Cal 4 eX2_cutCopyBy [.ref 52, .ref s, .int (nI m)] (w52 h a (pT F g 5)) r h' ↔ r = none ∧ h' = w52 h a (pT (cutM (cv s h) m F) g 5) := fun hm a F g r h' => by
    unfold w52; rw [k_cutCopyBy (Nat.le_refl 4) hs hm, cvw]
  have kf : ∀ {F}, r99 F → ∀ a g r h', Cal 4 eX3_fits [.ref s, .ref 53] (w52 h a (pT F g 5)) r h' ↔ r = some (.int (bz (fitb F (pinF (cv s h)) (cv s h 3)))) ∧ h' = w52 h a (pT F g 5) := fun hF a g r h' => by
    unfold w52; rw [k_fitC (show 2 ≤ 4 by omega) hs (Gw a) hF, cvw]
  have kw : ∀ {F}, r99 F → ∀ a g r h', Cal 4 eX3_wiggleOf [.ref s, .ref 53] (w52 h a (pT F g 5)) r h' ↔ r = some (.int (wig F (pinF (cv s h)))) ∧ h' = w52 h a (pT F g 5) := fun hF a g r h' => by
    unfold w52; rw [k_wigC (show 1 ≤ 4 by omega) hs (Gw a) hF, cvw]
  obtain ⟨h', ⟨a, x, e⟩, hc⟩ := Cal_pr (d := 4) (D := d) (E := eX2_drawLots) (as := [.ref 52, .ref s, .int (nI n), .int z, .int (bz tw)]) (h := h) (r := some (.int (ltA (cv s h) K M n z tw))) (P := fun h' => ∃ a x, h' = w52 h a x) hd rfl (fun Q hq => by
    show WP 4 eX2_drawLots Q 0 [.ref 52, .ref s, .int (nI n), .int z, .int (bz tw), mU, mU, mU] [] h
    simp only [bX2_drawLots_0, bX2_drawLots_5, t52, Option.toList_some, Option.toList_none, List.cons_append, List.nil_append, and_assoc, exists_and_left, exists_eq_left, true_and, and_true, Nat.reduceLeDiff, not_false_eq_true, not_true_eq_false, ↓reduceIte, eq_self, ← Int32.not_lt, ite_not, Classical.not_not]
    have st : ∀ a x, a 2 = sd z (3 * 0) → WP 4 eX2_drawLots Q 14 [.ref 52, .ref s, .int (nI n), .int z, .int (bz tw), .int (sm (ltO (cv s h) K M z) 0), .int (sm (ltW (cv s h) K M z) 0), .int (nI 0)] [] (w52 h a x) := by
      refine wl (fun i => ∀ a x, a 2 = sd z (3 * i) → WP 4 eX2_drawLots Q 14 [.ref 52, .ref s, .int (nI n), .int z, .int (bz tw), .int (sm (ltO (cv s h) K M z) i), .int (sm (ltW (cv s h) K M z) i), .int (nI i)] [] (w52 h a x)) n ?_ n 0 (by omega) ?_
      · intro i hi hw a x ha
        have hw := hw
        rw [sm, sm] at hw
        have d1 := dN_lt hK (dw (sd z (3 * i)))
        have d2 := dN_lt hM (dw (dw (sd z (3 * i))))
        have d3 := dN_lt hM (dw (dw (dw (sd z (3 * i)))))
        have r1 : r99 (cutM (cv s h) (dN M (dw (dw (dw (sd z (3 * i)))))) (cutM (cv s h) (dN M (dw (dw (sd z (3 * i))))) (rowF (cv s h) (dN K (dw (sd z (3 * i))))))) := cutM_99 (cutM_99 (G.r (by omega)))
        have u1 : ∀ (a : Nat → Int32) v, upd a 2 v 2 = v := fun a v => if_pos rfl
        have u2 : ∀ (a : Nat → Int32) v w, upd (upd a 2 v) 2 w = upd a 2 w := fun a v w => by funext j; simp only [upd_at]; split <;> rfl
        rw [bX2_drawLots_14]
        simp only [bX2_drawLots_20, bX2_drawLots_30, bX2_drawLots_33, bX2_drawLots_43, bX2_drawLots_46, bX2_drawLots_56, bX2_drawLots_59, bX2_drawLots_69, bX2_drawLots_72, bX2_drawLots_76, bX2_drawLots_77, bX2_drawLots_90, nlt (show i ≤ 100000 by omega) (show n ≤ 100000 by omega), hi, tgS hs, t52, r520, e0, e1, k_drawBelow (show 1 ≤ 4 by omega) hK (show K ≤ 1000 by omega), k_drawBelow (show 1 ≤ 4 by omega) hM (show M ≤ 1000 by omega), u1, u2, ha, kt (show dN K (dw (sd z (3 * i))) < 10 by omega), kc (show dN M (dw (dw (sd z (3 * i)))) < 5 by omega), kc (show dN M (dw (dw (dw (sd z (3 * i))))) < 5 by omega), kf r1, kw r1, bz0, ite_bz, nI_1, Option.toList_some, Option.toList_none, List.cons_append, List.nil_append, and_assoc, exists_and_left, exists_eq_left, true_and, and_true, Nat.reduceLeDiff, not_false_eq_true, not_true_eq_false, ↓reduceIte, eq_self, ← Int32.not_lt, ite_not, Classical.not_not]
        rw [show ltO (cv s h) K M z i = bz (fitb (cutM (cv s h) (dN M (dw (dw (dw (sd z (3 * i)))))) (cutM (cv s h) (dN M (dw (dw (sd z (3 * i))))) (rowF (cv s h) (dN K (dw (sd z (3 * i))))))) (pinF (cv s h)) (cv s h 3)) from rfl, show ltW (cv s h) K M z i = wig (cutM (cv s h) (dN M (dw (dw (dw (sd z (3 * i)))))) (cutM (cv s h) (dN M (dw (dw (sd z (3 * i))))) (rowF (cv s h) (dN K (dw (sd z (3 * i))))))) (pinF (cv s h)) from rfl] at hw
        cases c : fitb (cutM (cv s h) (dN M (dw (dw (dw (sd z (3 * i)))))) (cutM (cv s h) (dN M (dw (dw (sd z (3 * i))))) (rowF (cv s h) (dN K (dw (sd z (3 * i))))))) (pinF (cv s h)) (cv s h 3) <;> simp only [c, decide_true, decide_false, not_false_eq_true, not_true_eq_false, ↓reduceIte, Bool.false_eq_true, Bool.and_true, Bool.true_and, Bool.false_and, Bool.and_false, true_and, false_and, and_true, and_false, bzt, bzf] at hw ⊢ <;> exact hw _ _ rfl
      · intro a x ha
        simp only [bX2_drawLots_14, bX2_drawLots_99, bX2_drawLots_104, bX2_drawLots_109, bX2_drawLots_111, nlt (show n ≤ 100000 by omega) (show n ≤ 100000 by omega), Nat.lt_irrefl, bz0, ite_bz, Option.toList_some, Option.toList_none, List.cons_append, List.nil_append, and_assoc, exists_and_left, exists_eq_left, true_and, and_true, Nat.reduceLeDiff, not_false_eq_true, not_true_eq_false, ↓reduceIte, eq_self, ← Int32.not_lt, ite_not, Classical.not_not]
        unfold ltA at hq
        cases tw <;> simp only [decide_true, decide_false, not_false_eq_true, not_true_eq_false, ↓reduceIte, Bool.false_eq_true, Bool.and_true, Bool.true_and, Bool.false_and, Bool.and_false, true_and, false_and, and_true, and_false] at hq ⊢ <;> exact hq _ ⟨_, _, rfl⟩
    have := st (upd (h 52) 2 z) (h 53) rfl
    rw [← mPut_id (mPut h 52 (upd (h 52) 2 z)) 53]
    exact this)
  subst e
  exact ⟨a, x, hc⟩
end M6
