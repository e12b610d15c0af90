def alb (p : Nat → Bool) : Nat → Bool
  | 0 => true
  | n + 1 => alb p n && p n
theorem alb_t {p : Nat → Bool} : ∀ {n : Nat}, (∀ i, i < n → p i = true) → alb p n = true
  | 0, _ => rfl
  | n + 1, h => by rw [alb, h n (by omega), alb_t (fun i hi => h i (by omega))]; rfl
theorem alb_f {p : Nat → Bool} {i : Nat} (hp : p i = false) : ∀ {n : Nat}, i < n → alb p n = false
  | 0, h => by omega
  | n + 1, h => by
    rw [alb]
    by_cases e : i = n
    · rw [← e, hp]; simp
    · rw [alb_f hp (by omega)]; rfl
theorem wla (W : Nat → Prop) (p : Nat → Bool) (n : Nat) (hs : ∀ i, i < n → (p i = true → W (i + 1)) → (p i = false → alb p n = false) → W i) (he : alb p n = true → W n) : ∀ k i, i + k = n → (∀ j, j < i → p j = true) → W i
  | 0, i, hk, hI => by
    have e : i = n := by omega
    subst e
    exact he (alb_t hI)
  | k + 1, i, hk, hI => hs i (by omega) (fun hp => wla W p n hs he k (i + 1) (by omega) (fun j hj => by
      by_cases e : j = i
      · rw [e]; exact hp
      · exact hI j (by omega))) (fun hp => alb_f hp (by omega))
section M4
variable {s K M : Nat} {h : mH}
/-! two machines -/
def tw (σ : Nat → Int32) (v : Int32) (t a b : Nat) : Int32 := jcut (σ (79 + 2 * b)) (σ (79 + 2 * b + 1)) (jcut (σ (79 + 2 * a)) (σ (79 + 2 * a + 1)) v (nI t)) (nI t)
theorem k_cutTwice {d : Nat} (hd : 4 ≤ d) (hs : isS s) {t a b : Nat} (ha : a < 5) (hb : b < 5) (v : Int32) (r : Option Value) (h' : mH) : Cal d eX2_cutTwice [.ref 52, .ref s, .int v, .int (nI t), .int (nI a), .int (nI b)] h r h' ↔ r = some (.int (tw (cv s h) v t a b)) ∧ h' = h := by
  refine Cal_iff (Cal_le (d := 4) (Cal_of rfl (fun Q hq => ?_)) hd) r h'
  show WP 3 eX2_cutTwice Q 0 [.ref 52, .ref s, .int v, .int (nI t), .int (nI a), .int (nI b)] [] h
  unfold tw at hq
  rw [cvD ha, cvG ha, cvD hb, cvG hb] at hq
  simp only [bX2_cutTwice_0, bX2_cutTwice_11, bX2_cutTwice_15, tgS hs, k_cutBy (Nat.le_refl 3) hs ha, k_cutBy (Nat.le_refl 3) hs hb, Option.toList_some, Option.toList_none, List.cons_append, List.nil_append, and_assoc, exists_and_left, exists_eq_left, true_and, and_true, Nat.reduceLeDiff, not_false_eq_true, not_true_eq_false, ↓reduceIte, eq_self, ← Int32.not_lt, ite_not, Classical.not_not]
  exact hq
def stO (σ : Nat → Int32) (v : Int32) (t a b m : Nat) : Bool := decide (¬ tw σ v t a b < tw σ v t m b) && decide (¬ tw σ v t a m < tw σ v t a b)
def std (σ : Nat → Int32) (M : Nat) (v : Int32) (t a b : Nat) : Bool := alb (stO σ v t a b) M
theorem k_isSteady {d : Nat} (hd : 5 ≤ d) (hs : isS s) (G : gdN (cv s h) K M) {t a b : Nat} (ha : a < 5) (hb : b < 5) (v : Int32) (r : Option Value) (h' : mH) : Cal d eX2_isSteady [.ref 52, .ref s, .int v, .int (nI t), .int (nI a), .int (nI b)] h r h' ↔ r = some (.int (bz (std (cv s h) M v t a b))) ∧ h' = h := by
  refine Cal_iff (Cal_le (d := 5) (Cal_of rfl (fun Q hq => ?_)) hd) r h'
  show WP 4 eX2_isSteady Q 0 [.ref 52, .ref s, .int v, .int (nI t), .int (nI a), .int (nI b), mU, mU, mU, mU] [] h
  have e1 : h s 6 = nI M := G.s1
  have m5 := G.m5
  unfold std at hq
  simp only [bX2_isSteady_0, bX2_isSteady_11, t52, k_cutTwice (Nat.le_refl 4) hs ha hb, Option.toList_some, Option.toList_none, List.cons_append, List.nil_append, and_assoc, exists_and_left, exists_eq_left, true_and, and_true, Nat.reduceLeDiff, not_false_eq_true, not_true_eq_false, ↓reduceIte, eq_self, ← Int32.not_lt, ite_not, Classical.not_not]
  refine wla (fun i => ∀ x y, WP 4 eX2_isSteady Q 16 [.ref 52, .ref s, .int v, .int (nI t), .int (nI a), .int (nI b), .int (tw (cv s h) v t a b), .int (nI i), x, y] [] h) (stO (cv s h) v t a b) M ?_ ?_ M 0 (by omega) (fun j hj => by omega) _ _
  · intro i hi hw hf x y
    have i5 : i < 5 := by omega
    have hw := hw
    unfold stO at hw hf
    rw [bX2_isSteady_16]
    simp only [bX2_isSteady_0, bX2_isSteady_11, bX2_isSteady_25, bX2_isSteady_36, bX2_isSteady_41, bX2_isSteady_45, bX2_isSteady_46, bX2_isSteady_59, bX2_isSteady_64, bX2_isSteady_68, bX2_isSteady_69, bX2_isSteady_76, bX2_isSteady_81, bX2_isSteady_83, bX2_isSteady_89, tgS hs, e1, nlt (show i ≤ 100000 by omega) (show M ≤ 100000 by omega), hi, t52, k_cutTwice (Nat.le_refl 4) hs i5 hb, k_cutTwice (Nat.le_refl 4) hs ha i5, nb0, nI_1, Option.toList_some, Option.toList_none, List.cons_append, List.nil_append, and_assoc, exists_and_left, exists_eq_left, true_and, and_true, Nat.reduceLeDiff, not_false_eq_true, not_true_eq_false, ↓reduceIte, eq_self, ← Int32.not_lt, ite_not, Classical.not_not]
    by_cases c1 : tw (cv s h) v t a b < tw (cv s h) v t i b
    · have := hf (by simp only [c1, decide_true, decide_false, not_false_eq_true, not_true_eq_false, ↓reduceIte, Bool.false_eq_true, Bool.and_true, Bool.true_and, Bool.false_and, Bool.and_false, true_and, false_and, and_true, and_false])
      change alb (stO (cv s h) v t a b) M = false at this
      rw [this] at hq
      by_cases c2 : tw (cv s h) v t a i < tw (cv s h) v t a b <;> simp only [c1, c2, decide_true, decide_false, not_false_eq_true, not_true_eq_false, ↓reduceIte, Bool.false_eq_true, Bool.and_true, Bool.true_and, Bool.false_and, Bool.and_false, true_and, false_and, and_true, and_false, show ¬ (1 : Int32) = 0 by decide] <;> exact hq
    · by_cases c2 : tw (cv s h) v t a i < tw (cv s h) v t a b
      · have := hf (by simp only [c1, c2, decide_true, decide_false, not_false_eq_true, not_true_eq_false, ↓reduceIte, Bool.false_eq_true, Bool.and_true, Bool.true_and, Bool.false_and, Bool.and_false, true_and, false_and, and_true, and_false])
        change alb (stO (cv s h) v t a b) M = false at this
        rw [this] at hq
        simp only [c1, c2, decide_true, decide_false, not_false_eq_true, not_true_eq_false, ↓reduceIte, Bool.false_eq_true, Bool.and_true, Bool.true_and, Bool.false_and, Bool.and_false, true_and, false_and, and_true, and_false, show ¬ (1 : Int32) = 0 by decide]; exact hq
      · have := hw (by simp only [c1, c2, decide_true, decide_false, not_false_eq_true, not_true_eq_false, ↓reduceIte, Bool.false_eq_true, Bool.and_true, Bool.true_and, Bool.false_and, Bool.and_false, true_and, false_and, and_true, and_false])
        simp only [c1, c2, decide_true, decide_false, not_false_eq_true, not_true_eq_false, ↓reduceIte, Bool.false_eq_true, Bool.and_true, Bool.true_and, Bool.false_and, Bool.and_false, true_and, false_and, and_true, and_false]
        exact this _ _
  · intro ht x y
    rw [ht] at hq
    simp only [bX2_isSteady_16, bX2_isSteady_89, tgS hs, e1, nlt (show M ≤ 100000 by omega) (show M ≤ 100000 by omega), Nat.lt_irrefl, nb1, Option.toList_some, Option.toList_none, List.cons_append, List.nil_append, and_assoc, exists_and_left, exists_eq_left, true_and, and_true, Nat.reduceLeDiff, not_false_eq_true, not_true_eq_false, ↓reduceIte, eq_self, ← Int32.not_lt, ite_not, Classical.not_not]
    exact hq
theorem fst_skip {p : Nat → Bool} : ∀ {m i n : Nat}, (∀ j, i ≤ j → j < i + m → p j = false) → fst p i (m + n) = fst p (i + m) n
  | 0, i, n, _ => by rw [Nat.zero_add, Nat.add_zero]
  | m + 1, i, n, h => by
    have e := fst_skip (p := p) (m := m) (i := i + 1) (n := n) (fun j h1 h2 => h j (by omega) (by omega))
    rw [show m + 1 + n = (m + n) + 1 by omega, fst, h i (by omega) (by omega), show i + (m + 1) = i + 1 + m by omega, ← e]
    rfl
def spP (σ : Nat → Int32) (M : Nat) (v : Int32) (t i : Nat) : Bool := decide (i % 10 < M) && std σ M v t (i / 10) (i % 10)
theorem k_steadyPair {d : Nat} (hd : 6 ≤ d) (hs : isS s) (G : gdN (cv s h) K M) {t : Nat} (v : Int32) (r : Option Value) (h' : mH) : Cal d eX2_steadyPair [.ref 52, .ref s, .int v, .int (nI t)] h r h' ↔ r = some (.int (on (fst (spP (cv s h) M v t) 0 (10 * M)))) ∧ h' = h := by
  refine Cal_iff (Cal_le (d := 6) (Cal_of rfl (fun Q hq => ?_)) hd) r h'
  show WP 5 eX2_steadyPair Q 0 [.ref 52, .ref s, .int v, .int (nI t), mU, mU] [] h
  have e1 : h s 6 = nI M := G.s1
  have m5 := G.m5
  simp only [bX2_steadyPair_0]
  have sp : ∀ a b, b < 10 → spP (cv s h) M v t (10 * a + b) = (decide (b < M) && std (cv s h) M v t a b) := fun a b hb => by
    unfold spP; rw [show (10 * a + b) % 10 = b by omega, show (10 * a + b) / 10 = a by omega]
  have key : ∀ (j a : Nat), a + j = M → Q (some (.int (on (fst (spP (cv s h) M v t) (10 * a) (10 * j))))) h → ∀ u, WP 5 eX2_steadyPair Q 3 [.ref 52, .ref s, .int v, .int (nI t), .int (nI a), u] [] h := by
    intro j
    induction j with
    | zero =>
      intro a ha hq u
      have : a = M := by omega
      subst this
      simp only [bX2_steadyPair_3, bX2_steadyPair_59, tgS hs, e1, nlt (show a ≤ 100000 by omega) (show a ≤ 100000 by omega), Nat.lt_irrefl, Option.toList_some, Option.toList_none, List.cons_append, List.nil_append, and_assoc, exists_and_left, exists_eq_left, true_and, and_true, Nat.reduceLeDiff, not_false_eq_true, not_true_eq_false, ↓reduceIte, eq_self, ← Int32.not_lt, ite_not, Classical.not_not]
      exact hq
    | succ j ih =>
      intro a ha hq u
      simp only [bX2_steadyPair_3, bX2_steadyPair_12, tgS hs, e1, nlt (show a ≤ 100000 by omega) (show M ≤ 100000 by omega), show a < M by omega, Option.toList_some, Option.toList_none, List.cons_append, List.nil_append, and_assoc, exists_and_left, exists_eq_left, true_and, and_true, Nat.reduceLeDiff, not_false_eq_true, not_true_eq_false, ↓reduceIte, eq_self, ← Int32.not_lt, ite_not, Classical.not_not]
      have inner : ∀ (i b : Nat), b + i = M → Q (some (.int (on (fst (spP (cv s h) M v t) (10 * a + b) (i + (10 - M) + 10 * j))))) h → WP 5 eX2_steadyPair Q 15 [.ref 52, .ref s, .int v, .int (nI t), .int (nI a), .int (nI b)] [] h := by
        intro i
        induction i with
        | zero =>
          intro b hb hq
          have : b = M := by omega
          subst this
          simp only [bX2_steadyPair_15, bX2_steadyPair_53, tgS hs, e1, nlt (show b ≤ 100000 by omega) (show b ≤ 100000 by omega), Nat.lt_irrefl, nI_1, Option.toList_some, Option.toList_none, List.cons_append, List.nil_append, and_assoc, exists_and_left, exists_eq_left, true_and, and_true, Nat.reduceLeDiff, not_false_eq_true, not_true_eq_false, ↓reduceIte, eq_self, ← Int32.not_lt, ite_not, Classical.not_not]
          refine ih (a + 1) (by omega) ?_ _
          rw [Nat.zero_add, fst_skip (fun q h1 h2 => by rw [show q = 10 * a + (q - 10 * a) by omega, sp _ _ (by omega), decide_eq_false (by omega)]; rfl), show 10 * a + b + (10 - b) = 10 * (a + 1) by omega] at hq
          exact hq
        | succ i ihi =>
          intro b hb hq
          rw [show i + 1 + (10 - M) + 10 * j = (i + (10 - M) + 10 * j) + 1 by omega, fst, sp a b (by omega), decide_eq_true (show b < M by omega)] at hq
          rw [bX2_steadyPair_15]
          simp only [bX2_steadyPair_24, bX2_steadyPair_35, bX2_steadyPair_38, bX2_steadyPair_47, tgS hs, e1, nlt (show b ≤ 100000 by omega) (show M ≤ 100000 by omega), show b < M by omega, t52, k_isSteady (Nat.le_refl 5) hs G (show a < 5 by omega) (show b < 5 by omega), bz0, ite_bz, show (10 : Int32) = nI 10 from rfl, nI_mul, nI_plus, nI_1, Option.toList_some, Option.toList_none, List.cons_append, List.nil_append, and_assoc, exists_and_left, exists_eq_left, true_and, and_true, Nat.reduceLeDiff, not_false_eq_true, not_true_eq_false, ↓reduceIte, eq_self, ← Int32.not_lt, ite_not, Classical.not_not]
          cases c : std (cv s h) M v t a b with
          | true => simp only [c, decide_true, decide_false, not_false_eq_true, not_true_eq_false, ↓reduceIte, Bool.false_eq_true, Bool.and_true, Bool.true_and, Bool.false_and, Bool.and_false, true_and, false_and, and_true, and_false] at hq ⊢; exact hq
          | false => simp only [c, decide_true, decide_false, not_false_eq_true, not_true_eq_false, ↓reduceIte, Bool.false_eq_true, Bool.and_true, Bool.true_and, Bool.false_and, Bool.and_false, true_and, false_and, and_true, and_false] at hq ⊢; exact ihi (b + 1) (by omega) hq
      refine inner M 0 (by omega) ?_
      rw [show M + (10 - M) + 10 * j = 10 * (j + 1) by omega]
      exact hq
  exact key M 0 (by omega) hq _
/-! the row that is told -/
theorem t57 : tg 57 = 100 := rfl
theorem l57 : ln 57 = 12 := rfl
theorem p57 {x : Nat → Int32} : mPut h 53 x 57 = h 57 := mPut_ne h x (by omega)
def eqr (f g : Nat → Int32) : Bool := alb (fun t => decide (f t = g t)) 5
theorem k_cutsSo {d : Nat} (hd : 4 ≤ d) (hs : isS s) {k : Nat} (hk : k < 10) (q f : Int32) (x : Nat → Int32) (r : Option Value) (h' : mH) : Cal d eX2_cutsSo [.ref 52, .ref s, .int (nI k), .int q, .int f, .ref 57] (mPut h 53 x) r h' ↔ r = some (.int (bz (eqr (cutF q f (rowF (cv s h) k)) (h 57)))) ∧ h' = mPut h 53 (pT (cutF q f (rowF (cv s h) k)) x 5) := by
  refine Cal_iff (Cal_le (d := 4) (Cal_of rfl (fun Q hq => ?_)) hd) r h'
  show WP 3 eX2_cutsSo Q 0 [.ref 52, .ref s, .int (nI k), .int q, .int f, .ref 57, mU] [] (mPut h 53 x)
  unfold eqr at hq
  simp only [bX2_cutsSo_0, bX2_cutsSo_6, bX2_cutsSo_13, t52, k_takeKey (show 1 ≤ 3 by omega) hs hk, k_cutCopy (Nat.le_refl 3), Option.toList_some, Option.toList_none, List.cons_append, List.nil_append, and_assoc, exists_and_left, exists_eq_left, true_and, and_true, Nat.reduceLeDiff, not_false_eq_true, not_true_eq_false, ↓reduceIte, eq_self, ← Int32.not_lt, ite_not, Classical.not_not]
  refine wla (fun i => WP 3 eX2_cutsSo Q 16 [.ref 52, .ref s, .int (nI k), .int q, .int f, .ref 57, .int (nI i)] [] (mPut h 53 (pT (cutF q f (rowF (cv s h) k)) x 5))) (fun t => decide (cutF q f (rowF (cv s h) k) t = h 57 t)) 5 ?_ ?_ 5 0 (by omega) (fun j hj => by omega)
  · intro i hi hw hf
    have ec : pT (cutF q f (rowF (cv s h) k)) x 5 i = cutF q f (rowF (cv s h) k) i := pT_lt hi
    rw [bX2_cutsSo_16]
    simp only [bX2_cutsSo_22, bX2_cutsSo_37, bX2_cutsSo_39, show (5 : Int32) = nI 5 from rfl, nlt (show i ≤ 100000 by omega) (show 5 ≤ 100000 by omega), hi, t52, r520, t53, l53, t57, l57, vp_nI hi (show 5 ≤ 100 by omega), vp_nI (show i < 12 by omega) (show 12 ≤ 100 by omega), nI_cl (show i < 100 by omega), mPut_self, p57, ec, nb0, nI_1, Option.toList_some, Option.toList_none, List.cons_append, List.nil_append, and_assoc, exists_and_left, exists_eq_left, true_and, and_true, Nat.reduceLeDiff, not_false_eq_true, not_true_eq_false, ↓reduceIte, eq_self, ← Int32.not_lt, ite_not, Classical.not_not]
    by_cases c : cutF q f (rowF (cv s h) k) i = h 57 i
    · simp only [c, decide_true, decide_false, not_false_eq_true, not_true_eq_false, ↓reduceIte, Bool.false_eq_true, Bool.and_true, Bool.true_and, Bool.false_and, Bool.and_false, true_and, false_and, and_true, and_false]
      exact hw (by simp only [c, decide_true, decide_false, not_false_eq_true, not_true_eq_false, ↓reduceIte, Bool.false_eq_true, Bool.and_true, Bool.true_and, Bool.false_and, Bool.and_false, true_and, false_and, and_true, and_false])
    · rw [hf (by simp only [c, decide_true, decide_false, not_false_eq_true, not_true_eq_false, ↓reduceIte, Bool.false_eq_true, Bool.and_true, Bool.true_and, Bool.false_and, Bool.and_false, true_and, false_and, and_true, and_false])] at hq
      simp only [c, decide_true, decide_false, not_false_eq_true, not_true_eq_false, ↓reduceIte, Bool.false_eq_true, Bool.and_true, Bool.true_and, Bool.false_and, Bool.and_false, true_and, false_and, and_true, and_false]
      exact hq
  · intro ht
    rw [ht] at hq
    simp only [bX2_cutsSo_16, bX2_cutsSo_45, show (5 : Int32) = nI 5 from rfl, nlt (show 5 ≤ 100000 by omega) (show 5 ≤ 100000 by omega), Nat.lt_irrefl, nb1, Option.toList_some, Option.toList_none, List.cons_append, List.nil_append, and_assoc, exists_and_left, exists_eq_left, true_and, and_true, Nat.reduceLeDiff, not_false_eq_true, not_true_eq_false, ↓reduceIte, eq_self, ← Int32.not_lt, ite_not, Classical.not_not]
    exact hq
def mtc (σ : Nat → Int32) (k : Nat) (g : Nat → Int32) (m : Nat) : Bool := eqr (cutM σ m (rowF σ k)) g
theorem e_machinesThatCut {d : Nat} (hd : 5 ≤ d) (hs : isS s) (G : gdN (cv s h) K M) {k : Nat} (hk : k < 10) : ∃ g, Cal d eX2_machinesThatCut [.ref 52, .ref s, .int (nI k), .ref 57] h (some (.int (nI (nb (mtc (cv s h) k (h 57)) M)))) (mPut h 53 g) := by
  have e1 : h s 6 = nI M := G.s1
  have m5 := G.m5
  refine Cal_53 (d := 4) hd rfl (fun Q hq x0 => ?_)
  show WP 4 eX2_machinesThatCut Q 0 [.ref 52, .ref s, .int (nI k), .ref 57, mU, mU] [] (mPut h 53 x0)
  simp only [bX2_machinesThatCut_0]
  refine wl (fun i => ∀ x, WP 4 eX2_machinesThatCut Q 6 [.ref 52, .ref s, .int (nI k), .ref 57, .int (nI (nb (mtc (cv s h) k (h 57)) i)), .int (nI i)] [] (mPut h 53 x)) M ?_ M 0 (by omega) ?_ x0
  · intro i hi hw x
    have i5 : i < 5 := by omega
    have e := nb_n (mtc (cv s h) k (h 57)) (show i < 31 by omega)
    have hw := hw
    rw [← e] at hw
    unfold mtc cutM at hw
    rw [cvD i5, cvG i5] at hw
    rw [bX2_machinesThatCut_6]
    simp only [bX2_machinesThatCut_15, bX2_machinesThatCut_38, bX2_machinesThatCut_41, bX2_machinesThatCut_48, bX2_machinesThatCut_49, tgS hs, p0 hs, p15 hs, p16 hs, e1, nlt (show i ≤ 100000 by omega) (show M ≤ 100000 by omega), hi, rfS7 hs, rfS8 hs, tgD hs, tgG hs, lnD hs, lnG hs, vp_nI i5 (show 5 ≤ 100 by omega), nI_cl (show i < 100 by omega), t52, k_cutsSo (Nat.le_refl 4) hs hk, bz0, ite_bz, nI_1, Option.toList_some, Option.toList_none, List.cons_append, List.nil_append, and_assoc, exists_and_left, exists_eq_left, true_and, and_true, Nat.reduceLeDiff, not_false_eq_true, not_true_eq_false, ↓reduceIte, eq_self, ← Int32.not_lt, ite_not, Classical.not_not]
    cases c : eqr (cutF (h (s + 15) i) (h (s + 16) i) (rowF (cv s h) k)) (h 57) <;> simp only [c, decide_true, decide_false, not_false_eq_true, not_true_eq_false, ↓reduceIte, Bool.false_eq_true, Bool.and_true, Bool.true_and, Bool.false_and, Bool.and_false, true_and, false_and, and_true, and_false] at hw ⊢ <;> exact hw _
  · intro x
    simp only [bX2_machinesThatCut_6, bX2_machinesThatCut_58, tgS hs, p0 hs, e1, nlt (show M ≤ 100000 by omega) (show M ≤ 100000 by omega), Nat.lt_irrefl, Option.toList_some, Option.toList_none, List.cons_append, List.nil_append, and_assoc, exists_and_left, exists_eq_left, true_and, and_true, Nat.reduceLeDiff, not_false_eq_true, not_true_eq_false, ↓reduceIte, eq_self, ← Int32.not_lt, ite_not, Classical.not_not]
    exact hq _
def ktc (σ : Nat → Int32) (k : Nat) (f : Int32) (g : Nat → Int32) (q : Nat) : Bool := eqr (cutF (nI q) f (rowF σ k)) g
theorem e_kindsThatCut {d : Nat} (hd : 5 ≤ d) (hs : isS s) {k : Nat} (hk : k < 10) (f : Int32) : ∃ g, Cal d eX2_kindsThatCut [.ref 52, .ref s, .int (nI k), .int f, .ref 57] h (some (.int (nI (nb (ktc (cv s h) k f (h 57)) 6)))) (mPut h 53 g) := by
  refine Cal_53 (d := 4) hd rfl (fun Q hq x0 => ?_)
  show WP 4 eX2_kindsThatCut Q 0 [.ref 52, .ref s, .int (nI k), .int f, .ref 57, mU, mU] [] (mPut h 53 x0)
  simp only [bX2_kindsThatCut_0]
  refine wl (fun i => ∀ x, WP 4 eX2_kindsThatCut Q 6 [.ref 52, .ref s, .int (nI k), .int f, .ref 57, .int (nI (nb (ktc (cv s h) k f (h 57)) i)), .int (nI i)] [] (mPut h 53 x)) 6 ?_ 6 0 (by omega) ?_ x0
  · intro i hi hw x
    have e := nb_n (ktc (cv s h) k f (h 57)) (show i < 31 by omega)
    have hw := hw
    rw [← e] at hw
    unfold ktc at hw
    rw [bX2_kindsThatCut_6]
    simp only [bX2_kindsThatCut_13, bX2_kindsThatCut_26, bX2_kindsThatCut_29, bX2_kindsThatCut_36, bX2_kindsThatCut_37, show (6 : Int32) = nI 6 from rfl, nlt (show i ≤ 100000 by omega) (show 6 ≤ 100000 by omega), hi, t52, k_cutsSo (Nat.le_refl 4) hs hk, bz0, ite_bz, nI_1, Option.toList_some, Option.toList_none, List.cons_append, List.nil_append, and_assoc, exists_and_left, exists_eq_left, true_and, and_true, Nat.reduceLeDiff, not_false_eq_true, not_true_eq_false, ↓reduceIte, eq_self, ← Int32.not_lt, ite_not, Classical.not_not]
    cases c : eqr (cutF (nI i) f (rowF (cv s h) k)) (h 57) <;> simp only [c, decide_true, decide_false, not_false_eq_true, not_true_eq_false, ↓reduceIte, Bool.false_eq_true, Bool.and_true, Bool.true_and, Bool.false_and, Bool.and_false, true_and, false_and, and_true, and_false] at hw ⊢ <;> exact hw _
  · intro x
    simp only [bX2_kindsThatCut_6, bX2_kindsThatCut_46, show (6 : Int32) = nI 6 from rfl, nlt (show 6 ≤ 100000 by omega) (show 6 ≤ 100000 by omega), Nat.lt_irrefl, Option.toList_some, Option.toList_none, List.cons_append, List.nil_append, and_assoc, exists_and_left, exists_eq_left, true_and, and_true, Nat.reduceLeDiff, not_false_eq_true, not_true_eq_false, ↓reduceIte, eq_self, ← Int32.not_lt, ite_not, Classical.not_not]
    exact hq _
end M4
