theorem bst_skip {p : Nat → Bool} {w : Nat → Int32} {i : Nat} : ∀ {j : Nat}, i ≤ j → (∀ a, i ≤ a → a < j → p a = false) → bst p w j = bst p w i
  | 0, h1, _ => by rw [show i = 0 by omega]
  | j + 1, h1, h2 => by
    by_cases e : i = j + 1
    · rw [e]
    · rw [bst, h2 j (by omega) (by omega), bst_skip (by omega) (fun a b c => h2 a b (by omega))]; simp
def onw9 (w : Nat → Int32) : Option Nat → Int32
  | none => -9
  | some b => w b
/-- copy 10 * k + m: its wiggle, whether it counts -/
def nxW (σ : Nat → Int32) (i : Nat) : Int32 := wig (cutM σ (i % 10) (rowF σ (i / 10))) (pinF σ)
def nxP (σ : Nat → Int32) (M i : Nat) : Bool := decide (i % 10 < M) && !snb σ (i / 10)
theorem nI_mul (a b : Nat) : nI a * nI b = nI (a * b) := by
  apply Int32.toBitVec_inj.mp
  simp [nI, Int32.toBitVec_mul, BitVec.ofNat_mul]
theorem nI_plus (a b : Nat) : nI a + nI b = nI (a + b) := by
  apply Int32.toBitVec_inj.mp
  simp [nI, Int32.toBitVec_add, BitVec.ofNat_add]
def nxA (σ : Nat → Int32) (K M : Nat) (tw : Bool) : Int32 := if tw then onw9 (nxW σ) (bst (nxP σ M) (nxW σ) (10 * K)) else on (bst (nxP σ M) (nxW σ) (10 * K))
/-- an end that a property tells -/
theorem Cal_pr {d D : Nat} {E : mE} {as : List Value} {h : mH} {r : Option Value} {P : mH → Prop} (hd : d + 1 ≤ D) (ho : eOk E as = true) (hw : ∀ Q : Option Value → mH → Prop, (∀ h', P h' → Q r h') → WP d E Q 0 (ent E as) [] h) : ∃ h', P h' ∧ Cal D E as h r h' := by
  obtain ⟨r', h', ⟨e, a⟩, hc⟩ := Cal_ex (Q := fun r' h' => r' = r ∧ P h') ho (hw _ (fun h' a => ⟨rfl, a⟩))
  subst e
  exact ⟨h', a, Cal_le hc hd⟩
theorem Cal_53 {d D : Nat} {E : mE} {as : List Value} {h : mH} {r : Option Value} (hd : d + 1 ≤ D) (ho : eOk E as = true) (hw : ∀ Q : Option Value → mH → Prop, (∀ g, Q r (mPut h 53 g)) → ∀ x, WP d E Q 0 (ent E as) [] (mPut h 53 x)) : ∃ g, Cal D E as h r (mPut h 53 g) := by
  obtain ⟨h', ⟨g, e⟩, hc⟩ := Cal_pr (P := fun h' => ∃ g, h' = mPut h 53 g) hd ho (fun Q hq => by
    have := hw Q (fun g => hq _ ⟨g, rfl⟩) (h 53)
    rw [mPut_id] at this
    exact this)
  subst e
  exact ⟨g, hc⟩
theorem e_bestNext {d : Nat} (hd : 5 ≤ d) {s K M : Nat} (hs : isS s) {h : mH} (G : gdN (cv s h) K M) (tw : Bool) : ∃ g, Cal d eX2_bestNext [.ref 52, .ref s, .int (bz tw)] h (some (.int (nxA (cv s h) K M tw))) (mPut h 53 g) := by
  have hk10 := G.k10
  have hm5 := G.m5
  have e0 : h s 2 = nI K := G.s0
  have e1 : h s 6 = nI M := G.s1
  refine Cal_53 (d := 4) hd rfl (fun Q hq x0 => ?_)
  show WP 4 eX2_bestNext Q 0 [.ref 52, .ref s, .int (bz tw), mU, mU, mU, mU, mU] [] (mPut h 53 x0)
  simp only [bX2_bestNext_0]
  refine wl (fun k => ∀ u v x, WP 4 eX2_bestNext Q 10 [.ref 52, .ref s, .int (bz tw), .int (on (bst (nxP (cv s h) M) (nxW (cv s h)) (10 * k))), .int (onw9 (nxW (cv s h)) (bst (nxP (cv s h) M) (nxW (cv s h)) (10 * k))), .int (nI k), u, v] [] (mPut h 53 x)) K ?_ K 0 (by omega) ?_ _ _ x0
  · intro k hk hw u v x
    have k10 : k < 10 := by omega
    have ez : h (s + 14) k = cv s h (9 + 7 * k + 6) := (cvZ k10).symm
    have esn : ∀ a, a < 10 → nxP (cv s h) M (10 * k + a) = (decide (a < M) && !snb (cv s h) k) := fun a ha => by
      unfold nxP; rw [show (10 * k + a) % 10 = a by omega, show (10 * k + a) / 10 = k by omega]
    rw [bX2_bestNext_10]
    simp only [bX2_bestNext_19, tgS hs, p0 hs, e0, nlt (show k ≤ 100000 by omega) (show K ≤ 100000 by omega), hk, Option.toList_some, Option.toList_none, List.cons_append, List.nil_append, and_assoc, exists_and_left, exists_eq_left, true_and, and_true, Nat.reduceLeDiff, not_false_eq_true, not_true_eq_false, ↓reduceIte, eq_self, ← Int32.not_lt, ite_not, Classical.not_not]
    by_cases c : cv s h (9 + 7 * k + 6) = 0
    · have sn : snb (cv s h) k = false := by unfold snb; simp [c]
      have key := wl (fun m => ∀ v x, WP 4 eX2_bestNext Q 22 [.ref 52, .ref s, .int (bz tw), .int (on (bst (nxP (cv s h) M) (nxW (cv s h)) (10 * k + m))), .int (onw9 (nxW (cv s h)) (bst (nxP (cv s h) M) (nxW (cv s h)) (10 * k + m))), .int (nI k), .int (nI m), v] [] (mPut h 53 x)) M ?_ M 0 (by omega) ?_ v x
      · exact key
      · intro m hm hw v x
        have m5 : m < 5 := by omega
        have ep := esn m (by omega)
        rw [sn] at ep
        have hw := hw
        rw [← Nat.add_assoc, bst, ep] at hw
        have ew : nxW (cv s h) (10 * k + m) = wig (cutM (cv s h) m (rowF (cv s h) k)) (pinF (cv s h)) := by unfold nxW; rw [show (10 * k + m) % 10 = m by omega, show (10 * k + m) / 10 = k by omega]
        rw [bX2_bestNext_22]
        simp only [bX2_bestNext_0, bX2_bestNext_19, bX2_bestNext_31, bX2_bestNext_38, bX2_bestNext_41, bX2_bestNext_48, bX2_bestNext_55, bX2_bestNext_63, bX2_bestNext_71, bX2_bestNext_78, bX2_bestNext_91, bX2_bestNext_97, bX2_bestNext_103, bX2_bestNext_107, bX2_bestNext_112, bX2_bestNext_113, tgS hs, p0 hs, p14 hs, e1, nlt (show m ≤ 100000 by omega) (show M ≤ 100000 by omega), hm, rfS5 hs, tgZ hs, lnZ hs, v10K k10, nI_cl (show k < 100 by omega), ez, c, t52, r520, k_takeKey (show 1 ≤ 4 by omega) hs k10, k_cutCopyBy (Nat.le_refl 4) hs m5, k_wigC (show 1 ≤ 4 by omega) hs G (cutM_99 (G.r k10)), ← ew, show (10 : Int32) = nI 10 from rfl, nI_mul, nI_plus, nI_1, Option.toList_some, Option.toList_none, List.cons_append, List.nil_append, and_assoc, exists_and_left, exists_eq_left, true_and, and_true, Nat.reduceLeDiff, not_false_eq_true, not_true_eq_false, ↓reduceIte, eq_self, ← Int32.not_lt, ite_not, Classical.not_not]
        simp only [hm, decide_true, decide_false, not_false_eq_true, not_true_eq_false, ↓reduceIte, Bool.false_eq_true, Bool.and_true, Bool.true_and, Bool.false_and, Bool.and_false, true_and, false_and, and_true, and_false, Bool.not_false] at hw
        cases e : bst (nxP (cv s h) M) (nxW (cv s h)) (10 * k + m) with
        | none => simp only [e, on, onw9, decide_true, decide_false, not_false_eq_true, not_true_eq_false, ↓reduceIte, Bool.false_eq_true, Bool.and_true, Bool.true_and, Bool.false_and, Bool.and_false, true_and, false_and, and_true, and_false] at hw ⊢; exact hw _ _
        | some b =>
          have hb := bst_lt e
          simp only [e, on, onw9, nm9 (show b ≤ 100000 by omega), decide_true, decide_false, not_false_eq_true, not_true_eq_false, ↓reduceIte, Bool.false_eq_true, Bool.and_true, Bool.true_and, Bool.false_and, Bool.and_false, true_and, false_and, and_true, and_false] at hw ⊢
          by_cases c2 : nxW (cv s h) (10 * k + m) < nxW (cv s h) b <;> simp only [c2, decide_true, decide_false, not_false_eq_true, not_true_eq_false, ↓reduceIte, Bool.false_eq_true, Bool.and_true, Bool.true_and, Bool.false_and, Bool.and_false, true_and, false_and, and_true, and_false] at hw ⊢ <;> exact hw _ _
      · intro v x
        simp only [bX2_bestNext_22, bX2_bestNext_97, tgS hs, p0 hs, e1, nlt (show M ≤ 100000 by omega) (show M ≤ 100000 by omega), Nat.lt_irrefl, nI_1, Option.toList_some, Option.toList_none, List.cons_append, List.nil_append, and_assoc, exists_and_left, exists_eq_left, true_and, and_true, Nat.reduceLeDiff, not_false_eq_true, not_true_eq_false, ↓reduceIte, eq_self, ← Int32.not_lt, ite_not, Classical.not_not]
        have hw := hw
        rw [bst_skip (i := 10 * k + M) (j := 10 * (k + 1)) (by omega) (fun a h1 h2 => by rw [show a = 10 * k + (a - 10 * k) by omega, esn _ (by omega), decide_eq_false (by omega)]; rfl)] at hw
        exact hw _ _ _
    · have sn : snb (cv s h) k = true := by unfold snb; simp [c]
      have hw := hw
      rw [bst_skip (i := 10 * k) (j := 10 * (k + 1)) (by omega) (fun a h1 h2 => by rw [show a = 10 * k + (a - 10 * k) by omega, esn _ (by omega), sn]; simp)] at hw
      simp only [bX2_bestNext_22, bX2_bestNext_0, bX2_bestNext_19, bX2_bestNext_31, bX2_bestNext_38, bX2_bestNext_41, bX2_bestNext_48, bX2_bestNext_55, bX2_bestNext_63, bX2_bestNext_71, bX2_bestNext_78, bX2_bestNext_91, bX2_bestNext_97, bX2_bestNext_103, bX2_bestNext_107, bX2_bestNext_112, bX2_bestNext_113, tgS hs, p0 hs, p14 hs, e1, rfS5 hs, tgZ hs, lnZ hs, v10K k10, nI_cl (show k < 100 by omega), ez, c, nI_1, Option.toList_some, Option.toList_none, List.cons_append, List.nil_append, and_assoc, exists_and_left, exists_eq_left, true_and, and_true, Nat.reduceLeDiff, not_false_eq_true, not_true_eq_false, ↓reduceIte, eq_self, ← Int32.not_lt, ite_not, Classical.not_not]
      by_cases c3 : (0 : Int32) < nI M <;> simp only [c3, decide_true, decide_false, not_false_eq_true, not_true_eq_false, ↓reduceIte, Bool.false_eq_true, Bool.and_true, Bool.true_and, Bool.false_and, Bool.and_false, true_and, false_and, and_true, and_false] <;> exact hw _ _ _
  · intro u v x
    simp only [bX2_bestNext_10, bX2_bestNext_0, bX2_bestNext_19, bX2_bestNext_31, bX2_bestNext_38, bX2_bestNext_41, bX2_bestNext_48, bX2_bestNext_55, bX2_bestNext_63, bX2_bestNext_71, bX2_bestNext_78, bX2_bestNext_91, bX2_bestNext_97, bX2_bestNext_103, bX2_bestNext_107, bX2_bestNext_112, bX2_bestNext_113, tgS hs, p0 hs, e0, nlt (show K ≤ 100000 by omega) (show K ≤ 100000 by omega), Nat.lt_irrefl, bz0, Option.toList_some, Option.toList_none, List.cons_append, List.nil_append, and_assoc, exists_and_left, exists_eq_left, true_and, and_true, Nat.reduceLeDiff, not_false_eq_true, not_true_eq_false, ↓reduceIte, eq_self, ← Int32.not_lt, ite_not, Classical.not_not]
    unfold nxA at hq
    cases tw <;> simp only [decide_true, decide_false, not_false_eq_true, not_true_eq_false, ↓reduceIte, Bool.false_eq_true, Bool.and_true, Bool.true_and, Bool.false_and, Bool.and_false, true_and, false_and, and_true, and_false] at hq ⊢ <;> exact hq x
/-- the first i from there on that p tells -/
def fst (p : Nat → Bool) : Nat → Nat → Option Nat
  | _, 0 => none
  | i, n + 1 => if p i then some i else fst p (i + 1) n
/-- n cuts by machine m -/
def cutN (σ : Nat → Int32) (m : Nat) (v : Nat → Int32) : Nat → Nat → Int32
  | 0 => v
  | n + 1 => cutM σ m (cutN σ m v n)
theorem cutN_99 {σ : Nat → Int32} {m : Nat} {v : Nat → Int32} (h : r99 v) : ∀ n, r99 (cutN σ m v n)
  | 0 => h
  | n + 1 => cutM_99 (cutN_99 h n)
/-- the copy after n + 1 cuts does not open -/
def rwP (σ : Nat → Int32) (k m n : Nat) : Bool := !fitb (cutN σ m (rowF σ k) (n + 1)) (pinF σ) (σ 3)
def ond (x : Int32) : Option Nat → Int32
  | none => x
  | some b => nI b
theorem e_copiesThatOpen {d : Nat} (hd : 5 ≤ d) {s K M k m : Nat} (hs : isS s) {h : mH} (G : gdN (cv s h) K M) (hk : k < 10) (hm : m < 5) : ∃ g, Cal d eX2_copiesThatOpen [.ref 52, .ref s, .int (nI k), .int (nI m)] h (some (.int (ond 30 (fst (rwP (cv s h) k m) 0 30)))) (mPut h 53 g) := by
  refine Cal_53 (d := 4) hd rfl (fun Q hq x0 => ?_)
  show WP 4 eX2_copiesThatOpen Q 0 [.ref 52, .ref s, .int (nI k), .int (nI m), mU] [] (mPut h 53 x0)
  simp only [bX2_copiesThatOpen_0, bX2_copiesThatOpen_6, t52, k_takeKey (show 1 ≤ 4 by omega) hs hk, Option.toList_some, Option.toList_none, List.cons_append, List.nil_append, and_assoc, exists_and_left, exists_eq_left, true_and, and_true, Nat.reduceLeDiff, not_false_eq_true, not_true_eq_false, ↓reduceIte, eq_self, ← Int32.not_lt, ite_not, Classical.not_not]
  have key : ∀ (n i : Nat), i + n = 30 → (∀ g, Q (some (.int (ond 30 (fst (rwP (cv s h) k m) i n)))) (mPut h 53 g)) → WP 4 eX2_copiesThatOpen Q 9 [.ref 52, .ref s, .int (nI k), .int (nI m), .int (nI i)] [] (mPut h 53 (pT (cutN (cv s h) m (rowF (cv s h) k) i) x0 5)) := by
    intro n
    induction n with
    | zero =>
      intro i hi hq
      have : i = 30 := by omega
      subst this
      simp only [bX2_copiesThatOpen_9, bX2_copiesThatOpen_42, show (30 : Int32) = nI 30 from rfl, nlt (show 30 ≤ 100000 by omega) (show 30 ≤ 100000 by omega), Nat.lt_irrefl, Option.toList_some, Option.toList_none, List.cons_append, List.nil_append, and_assoc, exists_and_left, exists_eq_left, true_and, and_true, Nat.reduceLeDiff, not_false_eq_true, not_true_eq_false, ↓reduceIte, eq_self, ← Int32.not_lt, ite_not, Classical.not_not]
      exact hq _
    | succ n ih =>
      intro i hi hq
      rw [bX2_copiesThatOpen_9]
      simp only [bX2_copiesThatOpen_0, bX2_copiesThatOpen_6, bX2_copiesThatOpen_16, bX2_copiesThatOpen_22, bX2_copiesThatOpen_30, bX2_copiesThatOpen_33, bX2_copiesThatOpen_36, bX2_copiesThatOpen_42, show (30 : Int32) = nI 30 from rfl, nlt (show i ≤ 100000 by omega) (show 30 ≤ 100000 by omega), show i < 30 by omega, t52, r520, tgS hs, k_cutCopyBy (Nat.le_refl 4) hs hm, k_fitC (show 2 ≤ 4 by omega) hs G (cutM_99 (cutN_99 (G.r hk) i)), bz0, ite_bz, nI_1, Option.toList_some, Option.toList_none, List.cons_append, List.nil_append, and_assoc, exists_and_left, exists_eq_left, true_and, and_true, Nat.reduceLeDiff, not_false_eq_true, not_true_eq_false, ↓reduceIte, eq_self, ← Int32.not_lt, ite_not, Classical.not_not]
      rw [fst] at hq
      have er : rwP (cv s h) k m i = !fitb (cutM (cv s h) m (cutN (cv s h) m (rowF (cv s h) k) i)) (pinF (cv s h)) (cv s h 3) := rfl
      cases c : fitb (cutM (cv s h) m (cutN (cv s h) m (rowF (cv s h) k) i)) (pinF (cv s h)) (cv s h 3) with
      | true =>
        rw [c] at er
        rw [er] at hq
        simp only [decide_true, decide_false, not_false_eq_true, not_true_eq_false, ↓reduceIte, Bool.false_eq_true, Bool.and_true, Bool.true_and, Bool.false_and, Bool.and_false, true_and, false_and, and_true, and_false, Bool.not_true] at hq ⊢
        exact ih (i + 1) (by omega) hq
      | false =>
        rw [c] at er
        rw [er] at hq
        simp only [decide_true, decide_false, not_false_eq_true, not_true_eq_false, ↓reduceIte, Bool.false_eq_true, Bool.and_true, Bool.true_and, Bool.false_and, Bool.and_false, true_and, false_and, and_true, and_false, Bool.not_false] at hq ⊢
        exact hq _
  exact key 30 0 (by omega) hq
/-- the tooth that goes first -/
def rwT (σ : Nat → Int32) (k m : Nat) : Option Nat → Int32
  | none => -9
  | some n => ltf (cutN σ m (rowF σ k) (n + 1)) (pinF σ) (σ 3)
theorem e_toothThatGoesFirst {d : Nat} (hd : 5 ≤ d) {s K M k m : Nat} (hs : isS s) {h : mH} (G : gdN (cv s h) K M) (hk : k < 10) (hm : m < 5) : ∃ g, Cal d eX2_toothThatGoesFirst [.ref 52, .ref s, .int (nI k), .int (nI m)] h (some (.int (rwT (cv s h) k m (fst (rwP (cv s h) k m) 0 30)))) (mPut h 53 g) := by
  refine Cal_53 (d := 4) hd rfl (fun Q hq x0 => ?_)
  show WP 4 eX2_toothThatGoesFirst Q 0 [.ref 52, .ref s, .int (nI k), .int (nI m), mU, mU] [] (mPut h 53 x0)
  simp only [bX2_toothThatGoesFirst_0, bX2_toothThatGoesFirst_6, t52, k_takeKey (show 1 ≤ 4 by omega) hs hk, Option.toList_some, Option.toList_none, List.cons_append, List.nil_append, and_assoc, exists_and_left, exists_eq_left, true_and, and_true, Nat.reduceLeDiff, not_false_eq_true, not_true_eq_false, ↓reduceIte, eq_self, ← Int32.not_lt, ite_not, Classical.not_not]
  have key : ∀ (n i : Nat), i + n = 30 → (∀ g, Q (some (.int (rwT (cv s h) k m (fst (rwP (cv s h) k m) i n)))) (mPut h 53 g)) → ∀ u, WP 4 eX2_toothThatGoesFirst Q 9 [.ref 52, .ref s, .int (nI k), .int (nI m), .int (nI i), u] [] (mPut h 53 (pT (cutN (cv s h) m (rowF (cv s h) k) i) x0 5)) := by
    intro n
    induction n with
    | zero =>
      intro i hi hq u
      have : i = 30 := by omega
      subst this
      simp only [bX2_toothThatGoesFirst_9, bX2_toothThatGoesFirst_48, show (30 : Int32) = nI 30 from rfl, nlt (show 30 ≤ 100000 by omega) (show 30 ≤ 100000 by omega), Nat.lt_irrefl, Option.toList_some, Option.toList_none, List.cons_append, List.nil_append, and_assoc, exists_and_left, exists_eq_left, true_and, and_true, Nat.reduceLeDiff, not_false_eq_true, not_true_eq_false, ↓reduceIte, eq_self, ← Int32.not_lt, ite_not, Classical.not_not]
      exact hq _
    | succ n ih =>
      intro i hi hq u
      rw [bX2_toothThatGoesFirst_9]
      simp only [bX2_toothThatGoesFirst_0, bX2_toothThatGoesFirst_6, bX2_toothThatGoesFirst_16, bX2_toothThatGoesFirst_22, bX2_toothThatGoesFirst_30, bX2_toothThatGoesFirst_39, bX2_toothThatGoesFirst_42, bX2_toothThatGoesFirst_48, show (30 : Int32) = nI 30 from rfl, nlt (show i ≤ 100000 by omega) (show 30 ≤ 100000 by omega), show i < 30 by omega, t52, r520, tgS hs, k_cutCopyBy (Nat.le_refl 4) hs hm, k_ltfC (show 1 ≤ 4 by omega) hs G (cutM_99 (cutN_99 (G.r hk) i)), nI_1, Option.toList_some, Option.toList_none, List.cons_append, List.nil_append, and_assoc, exists_and_left, exists_eq_left, true_and, and_true, Nat.reduceLeDiff, not_false_eq_true, not_true_eq_false, ↓reduceIte, eq_self, ← Int32.not_lt, ite_not, Classical.not_not]
      rw [fst] at hq
      have er : rwP (cv s h) k m i = !decide (ltf (cutM (cv s h) m (cutN (cv s h) m (rowF (cv s h) k) i)) (pinF (cv s h)) (cv s h 3) = -9) := rfl
      rw [er] at hq
      by_cases c : ltf (cutM (cv s h) m (cutN (cv s h) m (rowF (cv s h) k) i)) (pinF (cv s h)) (cv s h 3) = -9
      · simp only [c, decide_true, decide_false, not_false_eq_true, not_true_eq_false, ↓reduceIte, Bool.false_eq_true, Bool.and_true, Bool.true_and, Bool.false_and, Bool.and_false, true_and, false_and, and_true, and_false, Bool.not_true] at hq ⊢
        exact ih (i + 1) (by omega) hq _
      · simp only [c, decide_true, decide_false, not_false_eq_true, not_true_eq_false, ↓reduceIte, Bool.false_eq_true, Bool.and_true, Bool.true_and, Bool.false_and, Bool.and_false, true_and, false_and, and_true, and_false, Bool.not_false] at hq ⊢
        exact hq _
  exact key 30 0 (by omega) hq _
/-- worn heights -/
def woH (f : Nat → Int32) (n t : Nat) : Int32 := jmx 0 (f t - nI n / 10)
def woP (f : Nat → Int32) (n t : Nat) : Int32 := jmx 0 (f t - nI n / 20)
/-- key k opens after n uses more -/
def wop (σ : Nat → Int32) (k n : Nat) : Bool := fitb (woH (rowF σ k) n) (woP (pinF σ) n) (σ 3)
theorem jmx_n {a b : Nat} (ha : a ≤ 100000) (hb : b ≤ 100000) : jmx 0 (nI a - nI b) = nI (a - b) := by
  unfold jmx
  rcases Nat.lt_or_ge a b with c | c
  · have h1 : nI a - nI b < 0 := pk_sneg (by omega) c
    rw [if_neg (fun z => Int32.lt_irrefl (Int32.lt_trans h1 z)), show a - b = 0 by omega, nI_0]
  · rw [pk_sub c]
    split
    · rfl
    · rename_i q
      rw [show (0 : Int32) = nI 0 from rfl, nlt (by omega) (by omega)] at q
      rw [show a - b = 0 by omega, nI_0]
theorem wo_99 {x : Int32} {n c : Nat} (hx : is99 x) (hn : n ≤ 100000) (h0 : 0 < c) (hc : c ≤ 1000) : is99 (jmx 0 (x - nI n / nI c)) := by
  obtain ⟨a, ha, e⟩ := hx
  have : n / c ≤ n := Nat.div_le_self _ _
  rw [e, pk_div (by omega) h0 (by omega), jmx_n (by omega) (by omega)]
  exact ⟨a - n / c, Nat.le_trans (Nat.sub_le _ _) ha, rfl⟩
theorem woH_99 {f : Nat → Int32} {n : Nat} (hf : r99 f) (hn : n ≤ 1000) : r99 (woH f n) := fun t ht => wo_99 (c := 10) (hf t ht) (by omega) (by omega) (by omega)
theorem woP_99 {f : Nat → Int32} {n : Nat} (hf : r99 f) (hn : n ≤ 1000) : r99 (woP f n) := fun t ht => wo_99 (c := 20) (hf t ht) (by omega) (by omega) (by omega)
theorem k_opensWorn {d : Nat} (hd : 2 ≤ d) {s K M k n : Nat} (hs : isS s) {h : mH} (G : gdN (cv s h) K M) (hk : k < 10) (hn : n ≤ 1000) (r : Option Value) (h' : mH) : Cal d eX2_opensWorn [.ref 52, .ref s, .int (nI k), .int (nI n)] h r h' ↔ r = some (.int (bz (wop (cv s h) k n))) ∧ h' = h := by
  refine Cal_iff (Cal_le (d := 2) (Cal_of rfl (fun Q hq => ?_)) hd) r h'
  show WP 1 eX2_opensWorn Q 0 [.ref 52, .ref s, .int (nI k), .int (nI n), mU, mU, mU] [] h
  have e : ∀ t, t < 5 → jab (jmx 0 (h (s + 3 + k) t - nI n / 10) - jmx 0 (h (s + 1) t - nI n / 20)) = ap (woH (rowF (cv s h) k) n t) (woP (pinF (cv s h)) n t) := fun t ht => by
    rw [rowE (s := s) (h := h) hk t ht, pinE (s := s) (h := h) t ht]
    exact jab_ap (woH_99 (G.r hk) hn t ht) (woP_99 G.p hn t ht)
  have e0 := e 0 (by omega)
  have e1 := e 1 (by omega)
  have e2 := e 2 (by omega)
  have e3 := e 3 (by omega)
  have e4 := e 4 (by omega)
  simp only [bX2_opensWorn_0, bX2_opensWorn_3, bX2_opensWorn_9, bX2_opensWorn_22, bX2_opensWorn_35, bX2_opensWorn_52, bX2_opensWorn_54, bX2_opensWorn_60, tgS hs, rfS0 hs, tgP hs, lnP hs, rfS3 hs, tgH hs, lnH hs, v10K hk, nI_cl (show k < 100 by omega), rfH hs hk, tgR hs hk, lnR hs hk, k_wornHeight (Nat.le_refl 1), k_wornPin (Nat.le_refl 1), v05, nc5, Int32.reduceAdd, Int32.reduceLT, e0, e1, e2, e3, e4, nb0, nb1, Option.toList_some, Option.toList_none, List.cons_append, List.nil_append, and_assoc, exists_and_left, exists_eq_left, true_and, and_true, Nat.reduceLeDiff, not_false_eq_true, not_true_eq_false, ↓reduceIte, eq_self, ← Int32.not_lt, ite_not, Classical.not_not]
  unfold wop fitb ltf at hq
  rw [cv3] at hq
  by_cases c0 : h s 1 < ap (woH (rowF (cv s h) k) n 0) (woP (pinF (cv s h)) n 0)
  · simp only [c0, decide_true, decide_false, not_false_eq_true, not_true_eq_false, ↓reduceIte, Bool.false_eq_true, Bool.and_true, Bool.true_and, Bool.false_and, Bool.and_false, true_and, false_and, and_true, and_false, show ¬ (0 : Int32) = -9 by decide, bzf] at hq ⊢; exact hq
  by_cases c1 : h s 1 < ap (woH (rowF (cv s h) k) n 1) (woP (pinF (cv s h)) n 1)
  · simp only [c0, c1, decide_true, decide_false, not_false_eq_true, not_true_eq_false, ↓reduceIte, Bool.false_eq_true, Bool.and_true, Bool.true_and, Bool.false_and, Bool.and_false, true_and, false_and, and_true, and_false, show ¬ (1 : Int32) = -9 by decide, bzf] at hq ⊢; exact hq
  by_cases c2 : h s 1 < ap (woH (rowF (cv s h) k) n 2) (woP (pinF (cv s h)) n 2)
  · simp only [c0, c1, c2, decide_true, decide_false, not_false_eq_true, not_true_eq_false, ↓reduceIte, Bool.false_eq_true, Bool.and_true, Bool.true_and, Bool.false_and, Bool.and_false, true_and, false_and, and_true, and_false, show ¬ (2 : Int32) = -9 by decide, bzf] at hq ⊢; exact hq
  by_cases c3 : h s 1 < ap (woH (rowF (cv s h) k) n 3) (woP (pinF (cv s h)) n 3)
  · simp only [c0, c1, c2, c3, decide_true, decide_false, not_false_eq_true, not_true_eq_false, ↓reduceIte, Bool.false_eq_true, Bool.and_true, Bool.true_and, Bool.false_and, Bool.and_false, true_and, false_and, and_true, and_false, show ¬ (3 : Int32) = -9 by decide, bzf] at hq ⊢; exact hq
  by_cases c4 : h s 1 < ap (woH (rowF (cv s h) k) n 4) (woP (pinF (cv s h)) n 4)
  · simp only [c0, c1, c2, c3, c4, decide_true, decide_false, not_false_eq_true, not_true_eq_false, ↓reduceIte, Bool.false_eq_true, Bool.and_true, Bool.true_and, Bool.false_and, Bool.and_false, true_and, false_and, and_true, and_false, show ¬ (4 : Int32) = -9 by decide, bzf] at hq ⊢; exact hq
  · simp only [c0, c1, c2, c3, c4, decide_true, decide_false, not_false_eq_true, not_true_eq_false, ↓reduceIte, Bool.false_eq_true, Bool.and_true, Bool.true_and, Bool.false_and, Bool.and_false, true_and, false_and, and_true, and_false, bzt] at hq ⊢; exact hq
/-- key k is shut after n uses more -/
def ltP (σ : Nat → Int32) (k n : Nat) : Bool := snb σ k || !wop σ k n
theorem k_usesTillShut {d : Nat} (hd : 3 ≤ d) {s K M k : Nat} (hs : isS s) {h : mH} (G : gdN (cv s h) K M) (hk : k < 10) (r : Option Value) (h' : mH) : Cal d eX2_usesTillShut [.ref 52, .ref s, .int (nI k)] h r h' ↔ r = some (.int (on (fst (ltP (cv s h) k) 0 1000))) ∧ h' = h := by
  refine Cal_iff (Cal_le (d := 3) (Cal_of rfl (fun Q hq => ?_)) hd) r h'
  show WP 2 eX2_usesTillShut Q 0 [.ref 52, .ref s, .int (nI k), mU] [] h
  simp only [bX2_usesTillShut_0]
  have ez : h (s + 14) k = cv s h (9 + 7 * k + 6) := (cvZ hk).symm
  have key : ∀ (n i : Nat), i + n = 1000 → Q (some (.int (on (fst (ltP (cv s h) k) i n)))) h → WP 2 eX2_usesTillShut Q 2 [.ref 52, .ref s, .int (nI k), .int (nI i)] [] h := by
    intro n
    induction n with
    | zero =>
      intro i hi hq
      have : i = 1000 := by omega
      subst this
      simp only [bX2_usesTillShut_2, bX2_usesTillShut_36, show (999 : Int32) = nI 999 from rfl, nlt (show 999 ≤ 100000 by omega) (show 1000 ≤ 100000 by omega), show 999 < 1000 by omega, Option.toList_some, Option.toList_none, List.cons_append, List.nil_append, and_assoc, exists_and_left, exists_eq_left, true_and, and_true, Nat.reduceLeDiff, not_false_eq_true, not_true_eq_false, ↓reduceIte, eq_self, ← Int32.not_lt, ite_not, Classical.not_not]
      exact hq
    | succ n ih =>
      intro i hi hq
      rw [bX2_usesTillShut_2]
      simp only [bX2_usesTillShut_0, bX2_usesTillShut_9, bX2_usesTillShut_15, bX2_usesTillShut_18, bX2_usesTillShut_25, bX2_usesTillShut_28, bX2_usesTillShut_30, bX2_usesTillShut_36, show (999 : Int32) = nI 999 from rfl, nlt (show 999 ≤ 100000 by omega) (show i ≤ 100000 by omega), show ¬ 999 < i by omega, t52, tgS hs, rfS5 hs, tgZ hs, lnZ hs, v10K hk, nI_cl (show k < 100 by omega), ez, k_opensWorn (Nat.le_refl 2) hs G hk (show i ≤ 1000 by omega), bz0, ite_bz, nI_1, Option.toList_some, Option.toList_none, List.cons_append, List.nil_append, and_assoc, exists_and_left, exists_eq_left, true_and, and_true, Nat.reduceLeDiff, not_false_eq_true, not_true_eq_false, ↓reduceIte, eq_self, ← Int32.not_lt, ite_not, Classical.not_not]
      rw [fst] at hq
      unfold ltP snb at hq
      by_cases c : cv s h (9 + 7 * k + 6) = 0
      · cases c2 : wop (cv s h) k i <;> simp only [c, c2, decide_true, decide_false, not_false_eq_true, not_true_eq_false, ↓reduceIte, Bool.false_eq_true, Bool.and_true, Bool.true_and, Bool.false_and, Bool.and_false, true_and, false_and, and_true, and_false, Bool.false_or, Bool.not_true, Bool.not_false] at hq ⊢
        · exact hq
        · refine ih (i + 1) (by omega) ?_
          unfold ltP snb
          simp only [c, decide_true, decide_false, not_false_eq_true, not_true_eq_false, ↓reduceIte, Bool.false_eq_true, Bool.and_true, Bool.true_and, Bool.false_and, Bool.and_false, true_and, false_and, and_true, and_false, Bool.false_or]
          exact hq
      · simp only [c, decide_true, decide_false, not_false_eq_true, not_true_eq_false, ↓reduceIte, Bool.false_eq_true, Bool.and_true, Bool.true_and, Bool.false_and, Bool.and_false, true_and, false_and, and_true, and_false, Bool.true_or] at hq ⊢
        exact hq
  exact key 1000 0 (by omega) hq
/-- x and y are within sl -/
def nr (sl x y : Int32) : Bool := decide (¬ sl < ap x y)
def aw (σ : Nat → Int32) (K t v : Nat) : Nat := ct (fun k => !snb σ k && nr (σ 3) (σ (9 + 7 * k + t)) (nI v)) K
theorem k_wholeKeysWithin {d : Nat} (hd : 1 ≤ d) {s K M t v : Nat} (hs : isS s) {h : mH} (G : gdN (cv s h) K M) (ht : t < 5) (hv : v ≤ 99) (r : Option Value) (h' : mH) : Cal d eX2_wholeKeysWithin [.ref 52, .ref s, .int (nI t), .int (nI v)] h r h' ↔ r = some (.int (nI (aw (cv s h) K t v))) ∧ h' = h := by
  refine Cal_iff (Cal_le (d := 1) (Cal_of rfl (fun Q hq => ?_)) hd) r h'
  show WP 0 eX2_wholeKeysWithin Q 0 [.ref 52, .ref s, .int (nI t), .int (nI v), mU, mU] [] h
  have hK := G.k10
  have e0 : h s 2 = nI K := G.s0
  simp only [bX2_wholeKeysWithin_0]
  refine wl (fun i => WP 0 eX2_wholeKeysWithin Q 6 [.ref 52, .ref s, .int (nI t), .int (nI v), .int (nI (aw (cv s h) i t v)), .int (nI i)] [] h) K ?_ K 0 (by omega) ?_
  · intro i hi hw
    have i10 : i < 10 := by omega
    have ej : jab (cv s h (9 + 7 * i + t) - nI v) = ap (cv s h (9 + 7 * i + t)) (nI v) := jab_ap (G.r i10 t ht) ⟨v, hv, rfl⟩
    unfold aw at hw
    rw [ct] at hw
    unfold nr snb at hw
    rw [bX2_wholeKeysWithin_6]
    simp only [bX2_wholeKeysWithin_0, bX2_wholeKeysWithin_15, bX2_wholeKeysWithin_22, bX2_wholeKeysWithin_25, bX2_wholeKeysWithin_46, bX2_wholeKeysWithin_49, bX2_wholeKeysWithin_55, tgS hs, rfS5 hs, tgZ hs, lnZ hs, rfS3 hs, tgH hs, lnH hs, e0, nlt (show i ≤ 100000 by omega) (show K ≤ 100000 by omega), hi, v10K i10, nI_cl (show i < 100 by omega), vp_nI ht (show 5 ≤ 100 by omega), nI_cl (show t < 100 by omega), rfH hs i10, tgR hs i10, lnR hs i10, ← cvZ (s := s) (h := h) i10, ← cvR (s := s) (h := h) i10 ht, ej, ← cv3 (s := s) (h := h), nI_1, Option.toList_some, Option.toList_none, List.cons_append, List.nil_append, and_assoc, exists_and_left, exists_eq_left, true_and, and_true, Nat.reduceLeDiff, not_false_eq_true, not_true_eq_false, ↓reduceIte, eq_self, ← Int32.not_lt, ite_not, Classical.not_not]
    by_cases c : cv s h (9 + 7 * i + 6) = 0
    · by_cases c2 : cv s h 3 < ap (cv s h (9 + 7 * i + t)) (nI v) <;> simp only [c, c2, decide_true, decide_false, not_false_eq_true, not_true_eq_false, ↓reduceIte, Bool.false_eq_true, Bool.and_true, Bool.true_and, Bool.false_and, Bool.and_false, true_and, false_and, and_true, and_false, Bool.not_true, Bool.not_false] at hw ⊢ <;> exact hw
    · simp only [c, decide_true, decide_false, not_false_eq_true, not_true_eq_false, ↓reduceIte, Bool.false_eq_true, Bool.and_true, Bool.true_and, Bool.false_and, Bool.and_false, true_and, false_and, and_true, and_false, Bool.not_true] at hw ⊢; exact hw
  · simp only [bX2_wholeKeysWithin_6, bX2_wholeKeysWithin_55, tgS hs, e0, nlt (show K ≤ 100000 by omega) (show K ≤ 100000 by omega), Nat.lt_irrefl, Option.toList_some, Option.toList_none, List.cons_append, List.nil_append, and_assoc, exists_and_left, exists_eq_left, true_and, and_true, Nat.reduceLeDiff, not_false_eq_true, not_true_eq_false, ↓reduceIte, eq_self, ← Int32.not_lt, ite_not, Classical.not_not]
    exact hq
/-- the first of the most -/
def mst (w : Nat → Nat) : Nat → Nat
  | 0 => 0
  | i + 1 => if mst w i < w i then w i else mst w i
def bmy (w : Nat → Nat) : Nat → Nat
  | 0 => 0
  | i + 1 => if mst w i < w i then i else bmy w i
theorem bmy_le (w : Nat → Nat) : ∀ i, bmy w i ≤ i
  | 0 => Nat.le_refl _
  | i + 1 => by have := bmy_le w i; rw [bmy]; split <;> omega
theorem mst_le {w : Nat → Nat} {b : Nat} (h : ∀ i, w i ≤ b) : ∀ i, mst w i ≤ b
  | 0 => Nat.zero_le _
  | i + 1 => by have := mst_le h i; have := h i; rw [mst]; split <;> omega
def anw (σ : Nat → Int32) (K t : Nat) : Nat := bmy (aw σ K t) 100
theorem bmy_lt (w : Nat → Nat) : ∀ i, 0 < i → bmy w i < i
  | 0, h => by omega
  | 1, _ => by rw [bmy, bmy]; split <;> omega
  | i + 2, _ => by have := bmy_lt w (i + 1) (by omega); rw [bmy]; split <;> omega
theorem anw_99 (σ : Nat → Int32) (K t : Nat) : anw σ K t ≤ 99 := by
  have := bmy_lt (aw σ K t) 100 (by omega)
  unfold anw; omega
theorem k_pinAnew {d : Nat} (hd : 2 ≤ d) {s K M t : Nat} (hs : isS s) {h : mH} (G : gdN (cv s h) K M) (ht : t < 5) (r : Option Value) (h' : mH) : Cal d eX2_pinAnew [.ref 52, .ref s, .int (nI t)] h r h' ↔ r = some (.int (nI (anw (cv s h) K t))) ∧ h' = h := by
  refine Cal_iff (Cal_le (d := 2) (Cal_of rfl (fun Q hq => ?_)) hd) r h'
  show WP 1 eX2_pinAnew Q 0 [.ref 52, .ref s, .int (nI t), mU, mU, mU, mU] [] h
  have hK := G.k10
  have hb : ∀ v, aw (cv s h) K t v ≤ 10 := fun v => Nat.le_trans (ct_le _ _) hK
  simp only [bX2_pinAnew_0]
  refine wl (fun i => ∀ u, WP 1 eX2_pinAnew Q 8 [.ref 52, .ref s, .int (nI t), .int (nI (bmy (aw (cv s h) K t) i)), .int (nI (mst (aw (cv s h) K t) i)), .int (nI i), u] [] h) 100 ?_ 100 0 (by omega) ?_ _
  · intro i hi hw u
    have hw := hw
    have b1 := hb i
    have b2 := mst_le hb i
    rw [bmy, mst] at hw
    rw [bX2_pinAnew_8]
    simp only [bX2_pinAnew_0, bX2_pinAnew_15, bX2_pinAnew_23, bX2_pinAnew_32, bX2_pinAnew_39, bX2_pinAnew_45, t52, show (99 : Int32) = nI 99 from rfl, nlt (show 99 ≤ 100000 by omega) (show i ≤ 100000 by omega), show ¬ 99 < i by omega, k_wholeKeysWithin (Nat.le_refl 1) hs G ht (show i ≤ 99 by omega), nlt (show mst (aw (cv s h) K t) i ≤ 100000 by omega) (show aw (cv s h) K t i ≤ 100000 by omega), nI_1, Option.toList_some, Option.toList_none, List.cons_append, List.nil_append, and_assoc, exists_and_left, exists_eq_left, true_and, and_true, Nat.reduceLeDiff, not_false_eq_true, not_true_eq_false, ↓reduceIte, eq_self, ← Int32.not_lt, ite_not, Classical.not_not]
    by_cases c : mst (aw (cv s h) K t) i < aw (cv s h) K t i <;> simp only [c, decide_true, decide_false, not_false_eq_true, not_true_eq_false, ↓reduceIte, Bool.false_eq_true, Bool.and_true, Bool.true_and, Bool.false_and, Bool.and_false, true_and, false_and, and_true, and_false] at hw ⊢ <;> exact hw _
  · intro u
    simp only [bX2_pinAnew_8, bX2_pinAnew_45, show (99 : Int32) = nI 99 from rfl, nlt (show 99 ≤ 100000 by omega) (show 100 ≤ 100000 by omega), show 99 < 100 by omega, Option.toList_some, Option.toList_none, List.cons_append, List.nil_append, and_assoc, exists_and_left, exists_eq_left, true_and, and_true, Nat.reduceLeDiff, not_false_eq_true, not_true_eq_false, ↓reduceIte, eq_self, ← Int32.not_lt, ite_not, Classical.not_not]
    exact hq
/-- the teeth within reach -/
def nrb (f p : Nat → Int32) (sl : Int32) : Nat := nb (fun t => nr sl (f t) (p t)) 5
theorem nb_cg {p q : Nat → Bool} : ∀ {n : Nat}, (∀ i, i < n → p i = q i) → nb p n = nb q n
  | 0, _ => rfl
  | n + 1, h => by rw [nb, nb, nb_cg (fun i hi => h i (by omega)), h n (by omega)]
theorem nrb_cg {f g p q : Nat → Int32} (hf : ∀ t, t < 5 → f t = g t) (hp : ∀ t, t < 5 → p t = q t) (sl : Int32) : nrb f p sl = nrb g q sl := nb_cg (fun i hi => by rw [hf i hi, hp i hi])
theorem nrb_lt (f p : Nat → Int32) (sl : Int32) : nrb f p sl < 32 := nb_lt _ 5
theorem fitb_nrb (f p : Nat → Int32) (sl : Int32) : fitb f p sl = decide (nrb f p sl = 31) := by
  unfold fitb ltf nrb nb nb nb nb nb nb nr
  by_cases c0 : sl < ap (f 0) (p 0)
  all_goals by_cases c1 : sl < ap (f 1) (p 1)
  all_goals by_cases c2 : sl < ap (f 2) (p 2)
  all_goals by_cases c3 : sl < ap (f 3) (p 3)
  all_goals by_cases c4 : sl < ap (f 4) (p 4)
  all_goals simp only [c0, c1, c2, c3, c4, decide_true, decide_false, not_false_eq_true, not_true_eq_false, ↓reduceIte, Bool.false_eq_true, Bool.and_true, Bool.true_and, Bool.false_and, Bool.and_false, true_and, false_and, and_true, and_false]
  all_goals decide
theorem k_teethWithin {d : Nat} (hd : 1 ≤ d) {s K M k a : Nat} (hs : isS s) {h : mH} (G : gdN (cv s h) K M) (hk : k < 10) (ha : tg a = 100) (hl : ln a = 5) (hp : r99 (h a)) (r : Option Value) (h' : mH) : Cal d eX2_teethWithin [.ref 52, .ref s, .int (nI k), .ref a] h r h' ↔ r = some (.int (nI (nrb (rowF (cv s h) k) (h a) (cv s h 3)))) ∧ h' = h := by
  refine Cal_iff (Cal_le (d := 1) (Cal_of rfl (fun Q hq => ?_)) hd) r h'
  show WP 0 eX2_teethWithin Q 0 [.ref 52, .ref s, .int (nI k), .ref a, mU, mU] [] h
  unfold nrb at hq
  simp only [bX2_teethWithin_0]
  refine wl (fun i => WP 0 eX2_teethWithin Q 6 [.ref 52, .ref s, .int (nI k), .ref a, .int (nI (nb (fun t => nr (cv s h 3) (rowF (cv s h) k t) (h a t)) i)), .int (nI i)] [] h) 5 ?_ 5 0 (by omega) ?_
  · intro i hi hw
    have ej : jab (h (s + 3 + k) i - h a i) = ap (rowF (cv s h) k i) (h a i) := by rw [rowE (s := s) (h := h) hk i hi]; exact jab_ap (G.r hk i hi) (hp i hi)
    have e := nb_n (fun t => nr (cv s h 3) (rowF (cv s h) k t) (h a t)) (show i < 31 by omega)
    rw [← e] at hw
    unfold nr at hw ⊢
    rw [bX2_teethWithin_6]
    simp only [bX2_teethWithin_0, bX2_teethWithin_12, bX2_teethWithin_38, bX2_teethWithin_45, bX2_teethWithin_46, bX2_teethWithin_55, show (5 : Int32) = nI 5 from rfl, nlt (show i ≤ 100000 by omega) (show 5 ≤ 100000 by omega), hi, tgS hs, rfS3 hs, tgH hs, lnH hs, v10K hk, nI_cl (show k < 100 by omega), rfH hs hk, tgR hs hk, lnR hs hk, ha, hl, vp_nI hi (show 5 ≤ 100 by omega), nI_cl (show i < 100 by omega), ej, ← cv3 (s := s) (h := h), nI_1, Option.toList_some, Option.toList_none, List.cons_append, List.nil_append, and_assoc, exists_and_left, exists_eq_left, true_and, and_true, Nat.reduceLeDiff, not_false_eq_true, not_true_eq_false, ↓reduceIte, eq_self, ← Int32.not_lt, ite_not, Classical.not_not]
    by_cases c : cv s h 3 < ap (rowF (cv s h) k i) (h a i) <;> simp only [c, decide_true, decide_false, not_false_eq_true, not_true_eq_false, ↓reduceIte, Bool.false_eq_true, Bool.and_true, Bool.true_and, Bool.false_and, Bool.and_false, true_and, false_and, and_true, and_false] at hw ⊢ <;> exact hw
  · simp only [bX2_teethWithin_6, bX2_teethWithin_55, show (5 : Int32) = nI 5 from rfl, nlt (show 5 ≤ 100000 by omega) (show 5 ≤ 100000 by omega), Nat.lt_irrefl, Option.toList_some, Option.toList_none, List.cons_append, List.nil_append, and_assoc, exists_and_left, exists_eq_left, true_and, and_true, Nat.reduceLeDiff, not_false_eq_true, not_true_eq_false, ↓reduceIte, eq_self, ← Int32.not_lt, ite_not, Classical.not_not]
    exact hq
