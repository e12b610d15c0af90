/-! who comes from whom -/
def par (σ : Nat → Int32) (k : Nat) : Option Nat := if σ (9 + 7 * k + 5) < 0 then none else some (σ (9 + 7 * k + 5)).toNatClampNeg
theorem par_none {σ : Nat → Int32} {k : Nat} (h : σ (9 + 7 * k + 5) = -9) : par σ k = none := by unfold par; rw [h]; rfl
theorem par_some {σ : Nat → Int32} {k j : Nat} (hj : j < 100) (h : σ (9 + 7 * k + 5) = nI j) : par σ k = some j := by
  unfold par; rw [h, if_neg (nnn (by omega)), nI_cl hj]
theorem par_gd {σ : Nat → Int32} {K M k : Nat} (G : gdN σ K M) (hk : k < K) : (σ (9 + 7 * k + 5) = -9 ∧ par σ k = none) ∨ ∃ j, j < k ∧ σ (9 + 7 * k + 5) = nI j ∧ par σ k = some j := by
  have hK := G.k10
  rcases G.f hk with h | ⟨j, hj, h⟩
  · exact Or.inl ⟨h, par_none h⟩
  · exact Or.inr ⟨j, hj, h, par_some (by omega) h⟩
/-- a is k or one ahead of it -/
def anc (σ : Nat → Int32) : Nat → Nat → Nat → Bool
  | 0, _, _ => false
  | n + 1, k, a => decide (a = k) || (match par σ k with
    | none => false
    | some j => anc σ n j a)
def heir (σ : Nat → Int32) (k a : Nat) : Bool := anc σ 10 k a
section FAM
variable {σ : Nat → Int32} {K M : Nat} (G : gdN σ K M)
theorem anc_st (G : gdN σ K M) : ∀ (n m k a : Nat), k < K → k < n → k < m → anc σ n k a = anc σ m k a
  | 0, _, _, _, _, h, _ => by omega
  | _ + 1, 0, _, _, _, _, h => by omega
  | n + 1, m + 1, k, a, hk, h1, h2 => by
    rw [anc, anc]
    rcases par_gd G hk with ⟨_, e⟩ | ⟨j, hj, _, e⟩
    · rw [e]
    · rw [e]; simp only; rw [anc_st G n m j a (by omega) (by omega) (by omega)]
theorem heir_eq (G : gdN σ K M) {k a : Nat} (hk : k < K) : heir σ k a = (decide (a = k) || (match par σ k with
    | none => false
    | some j => heir σ j a)) := by
  have hK := G.k10
  unfold heir
  rw [anc]
  rcases par_gd G hk with ⟨_, e⟩ | ⟨j, hj, _, e⟩
  · rw [e]
  · rw [e]; simp only; rw [anc_st G 9 10 j a (by omega) (by omega) (by omega)]
theorem heir_le (G : gdN σ K M) : ∀ (k : Nat), k < K → ∀ a, heir σ k a = true → a ≤ k := by
  intro k
  induction k using Nat.strongRecOn with
  | ind k ih =>
    intro hk a h
    rw [heir_eq G hk] at h
    rcases par_gd G hk with ⟨_, e⟩ | ⟨j, hj, _, e⟩
    · rw [e] at h; simp at h; omega
    · rw [e] at h
      simp only [Bool.or_eq_true, decide_eq_true_eq] at h
      rcases h with h | h
      · omega
      · have := ih j hj (by omega) a h; omega
theorem heir_self (G : gdN σ K M) {k : Nat} (hk : k < K) : heir σ k k = true := by rw [heir_eq G hk]; simp
theorem ik9 (x : Int32) : ik (-9) x = false := by unfold ik; simp
/-- a key and all ahead of it -/
def eld (σ : Nat → Int32) : Nat → Nat → Nat
  | 0, _ => 0
  | n + 1, k => 2 ^ k ||| (match par σ k with
    | none => 0
    | some j => eld σ n j)
theorem eld_lt (G : gdN σ K M) : ∀ (n k : Nat), k < K → eld σ n k < 2 ^ (k + 1)
  | 0, k, _ => Nat.two_pow_pos _
  | n + 1, k, hk => by
    rw [eld]
    refine Nat.or_lt_two_pow (Nat.pow_lt_pow_right (by omega) (by omega)) ?_
    rcases par_gd G hk with ⟨_, e⟩ | ⟨j, hj, _, e⟩
    · rw [e]; exact Nat.two_pow_pos _
    · rw [e]; exact Nat.lt_of_lt_of_le (eld_lt G n j (by omega)) (Nat.pow_le_pow_right (by omega) (by omega))
theorem eld_bit (G : gdN σ K M) : ∀ (n k a : Nat), k < K → (eld σ n k).testBit a = anc σ n k a
  | 0, k, a, _ => by simp [eld, anc]
  | n + 1, k, a, hk => by
    rw [eld, anc, Nat.testBit_or, Nat.testBit_two_pow]
    congr 1
    · simp only [decide_eq_decide]; omega
    · rcases par_gd G hk with ⟨_, e⟩ | ⟨j, hj, _, e⟩
      · rw [e]; simp
      · rw [e]; exact eld_bit G n j a (by omega)
theorem eld_1024 (G : gdN σ K M) {n k : Nat} (hk : k < K) : eld σ n k < 1024 := by
  have := G.k10
  exact Nat.lt_of_lt_of_le (eld_lt G n k hk) (Nat.pow_le_pow_right (n := 2) (j := 10) (by omega) (by omega))
theorem nI_or (a b : Nat) : nI a ||| nI b = nI (a ||| b) := by
  apply Int32.toBitVec_inj.mp
  simp [nI, Int32.toBitVec_or, BitVec.ofNat_or]
theorem nI_and (a b : Nat) : nI a &&& nI b = nI (a &&& b) := by
  apply Int32.toBitVec_inj.mp
  simp [nI, Int32.toBitVec_and, BitVec.ofNat_and]
theorem k_elders {d : Nat} (hd : 2 ≤ d) {s k : Nat} (hs : isS s) {h : mH} (G : gdN (cv s h) K M) (hk : k < K) (r : Option Value) (h' : mH) : Cal d eX1_elders [.ref s, .int (nI k)] h r h' ↔ r = some (.int (nI (eld (cv s h) 10 k))) ∧ h' = h := by
  refine Cal_iff (Cal_le (d := 2) (Cal_of rfl (fun Q hq => ?_)) hd) r h'
  show WP 1 eX1_elders Q 0 [.ref s, .int (nI k), mU, mU, mU] [] h
  have hK := G.k10
  have e0 : h s 2 = nI K := G.s0
  simp only [bX1_elders_0]
  have key : ∀ (n i b k : Nat), i + n = 10 → k < K → Q (some (.int (nI (b ||| eld (cv s h) n k)))) h → ∀ u, WP 1 eX1_elders Q 7 [.ref s, u, .int (nI b), .int (nI k), .int (nI i)] [] h := by
    intro n
    induction n with
    | zero =>
      intro i b k hi hk hq u
      have : i = 10 := by omega
      subst this
      simp only [bX1_elders_7, bX1_elders_41, show (10 : Int32) = nI 10 from rfl, nlt (show 10 ≤ 100000 by omega) (show 10 ≤ 100000 by omega), Nat.lt_irrefl, Option.toList_some, Option.toList_none, List.cons_append, List.nil_append, and_assoc, exists_and_left, exists_eq_left, true_and, and_true, Nat.reduceLeDiff, not_false_eq_true, not_true_eq_false, ↓reduceIte, eq_self, ← Int32.not_lt, ite_not, Classical.not_not]
      rw [eld, Nat.or_zero] at hq
      exact hq
    | succ n ih =>
      intro i b k hi hk hq u
      have hk10 : k < 10 := by omega
      rw [bX1_elders_7]
      simp only [bX1_elders_0, bX1_elders_14, bX1_elders_19, bX1_elders_22, bX1_elders_41, show (10 : Int32) = nI 10 from rfl, nlt (show i ≤ 100000 by omega) (show 10 ≤ 100000 by omega), show i < 10 by omega, tgS hs, k_hasKey (Nat.le_refl 1) hs, e0, ikk (show k < 2 ^ 31 by omega) (show K ≤ 1000 by omega), hk, decide_true, bz0, Bool.true_eq_false, rfS4 hs, tgF hs, lnF hs, v10K hk10, nI_cl (show k < 100 by omega), sh1 (show k < 31 by omega), nI_or, nI_1, Option.toList_some, Option.toList_none, List.cons_append, List.nil_append, and_assoc, exists_and_left, exists_eq_left, true_and, and_true, Nat.reduceLeDiff, not_false_eq_true, not_true_eq_false, ↓reduceIte, eq_self, ← Int32.not_lt, ite_not, Classical.not_not]
      rw [eld] at hq
      rw [show h (s + 13) k = cv s h (9 + 7 * k + 5) from (cvF hk10).symm]
      rcases par_gd G hk with ⟨e1, e⟩ | ⟨j, hj, e1, e⟩
      · rw [e1]
        rw [e, Nat.or_zero] at hq
        simp only [bX1_elders_7, bX1_elders_0, bX1_elders_14, bX1_elders_19, bX1_elders_22, bX1_elders_41, show (10 : Int32) = nI 10 from rfl, nlt (show i + 1 ≤ 100000 by omega) (show 10 ≤ 100000 by omega), tgS hs, k_hasKey (Nat.le_refl 1) hs, ik9, bz0, Option.toList_some, Option.toList_none, List.cons_append, List.nil_append, and_assoc, exists_and_left, exists_eq_left, true_and, and_true, Nat.reduceLeDiff, not_false_eq_true, not_true_eq_false, ↓reduceIte, eq_self, ← Int32.not_lt, ite_not, Classical.not_not]
        by_cases c : i + 1 < 10
        · simp only [c, ↓reduceIte]; exact hq
        · simp only [c, ↓reduceIte]; exact hq
      · rw [e1]
        rw [e] at hq
        refine ih (i + 1) _ j (by omega) (by omega) ?_ u
        rw [Nat.or_assoc]; exact hq
  exact key 10 0 0 k (by omega) hk (by rw [Nat.zero_or]; exact hq) _
/-- how many are ahead; the first of them -/
def dep (σ : Nat → Int32) : Nat → Nat → Nat
  | 0, _ => 0
  | n + 1, k => match par σ k with
    | none => 0
    | some j => 1 + dep σ n j
def rot (σ : Nat → Int32) : Nat → Nat → Nat
  | 0, k => k
  | n + 1, k => match par σ k with
    | none => k
    | some j => rot σ n j
theorem eld_pos {n k : Nat} : 0 < eld σ (n + 1) k := by
  rw [eld]
  exact Nat.lt_of_lt_of_le (Nat.two_pow_pos k) Nat.left_le_or
theorem eld_ct (G : gdN σ K M) : ∀ (n k : Nat), k < K → k ≤ n → ct (eld σ (n + 1) k).testBit 10 = 1 + dep σ n k := by
  intro n
  induction n with
  | zero =>
    intro k hk h0
    have hK := G.k10
    rw [eld, dep]
    rcases par_gd G hk with ⟨_, e⟩ | ⟨j, hj, _, e⟩
    · rw [e, pc_or k (by omega) 0 (Nat.two_pow_pos _)]; rfl
    · omega
  | succ n ih =>
    intro k hk h0
    have hK := G.k10
    rw [eld, dep]
    rcases par_gd G hk with ⟨_, e⟩ | ⟨j, hj, _, e⟩
    · rw [e, pc_or k (by omega) 0 (Nat.two_pow_pos _)]; rfl
    · rw [e]
      simp only
      rw [pc_or k (by omega) _ (Nat.lt_of_lt_of_le (eld_lt G (n + 1) j (by omega)) (Nat.pow_le_pow_right (by omega) (by omega))), ih j (by omega) (by omega)]
theorem eld_lo (G : gdN σ K M) : ∀ (n k : Nat), k < K → k ≤ n → lob (eld σ (n + 1) k) 10 = rot σ n k := by
  intro n
  induction n with
  | zero =>
    intro k hk h0
    have hK := G.k10
    rw [eld, rot]
    rcases par_gd G hk with ⟨_, e⟩ | ⟨j, hj, _, e⟩
    · rw [e, lo_or k (by omega) 0 (Nat.two_pow_pos _), if_pos rfl]
    · omega
  | succ n ih =>
    intro k hk h0
    have hK := G.k10
    rw [eld, rot]
    rcases par_gd G hk with ⟨_, e⟩ | ⟨j, hj, _, e⟩
    · rw [e, lo_or k (by omega) 0 (Nat.two_pow_pos _), if_pos rfl]
    · rw [e]
      simp only
      rw [lo_or k (by omega) _ (Nat.lt_of_lt_of_le (eld_lt G (n + 1) j (by omega)) (Nat.pow_le_pow_right (by omega) (by omega))), if_neg (Nat.pos_iff_ne_zero.mp eld_pos), ih j (by omega) (by omega)]
theorem k_depthOf {d : Nat} (hd : 3 ≤ d) {s k : Nat} (hs : isS s) {h : mH} (G : gdN (cv s h) K M) (hk : k < K) (r : Option Value) (h' : mH) : Cal d eX1_depthOf [.ref s, .int (nI k)] h r h' ↔ r = some (.int (nI (dep (cv s h) 9 k))) ∧ h' = h := by
  refine Cal_iff (Cal_le (d := 3) (Cal_of rfl (fun Q hq => ?_)) hd) r h'
  show WP 2 eX1_depthOf Q 0 [.ref s, .int (nI k)] [] h
  have hK := G.k10
  have e1 : nI (1 + dep (cv s h) 9 k) - 1 = nI (dep (cv s h) 9 k) := by rw [Nat.add_comm, nI_pred]
  simp only [bX1_depthOf_0, bX1_depthOf_5, bX1_depthOf_8, k_elders (Nat.le_refl 2) hs G hk, k_bitCount (show 1 ≤ 2 by omega) (eld_1024 G hk), eld_ct G 9 k hk (by omega), e1, Option.toList_some, Option.toList_none, List.cons_append, List.nil_append, and_assoc, exists_and_left, exists_eq_left, true_and, and_true, Nat.reduceLeDiff, not_false_eq_true, not_true_eq_false, ↓reduceIte, eq_self, ← Int32.not_lt, ite_not, Classical.not_not]
  exact hq
theorem k_rootOf {d : Nat} (hd : 3 ≤ d) {s k : Nat} (hs : isS s) {h : mH} (G : gdN (cv s h) K M) (hk : k < K) (r : Option Value) (h' : mH) : Cal d eX1_rootOf [.ref s, .int (nI k)] h r h' ↔ r = some (.int (nI (rot (cv s h) 9 k))) ∧ h' = h := by
  refine Cal_iff (Cal_le (d := 3) (Cal_of rfl (fun Q hq => ?_)) hd) r h'
  show WP 2 eX1_rootOf Q 0 [.ref s, .int (nI k)] [] h
  have hK := G.k10
  simp only [bX1_rootOf_0, bX1_rootOf_5, bX1_rootOf_8, k_elders (Nat.le_refl 2) hs G hk, k_ntz (show 1 ≤ 2 by omega), tz_n _ (eld_1024 G hk) eld_pos, eld_lo G 9 k hk (by omega), Option.toList_some, Option.toList_none, List.cons_append, List.nil_append, and_assoc, exists_and_left, exists_eq_left, true_and, and_true, Nat.reduceLeDiff, not_false_eq_true, not_true_eq_false, ↓reduceIte, eq_self, ← Int32.not_lt, ite_not, Classical.not_not]
  exact hq
/-- the nearest from which both come -/
def cmn (σ : Nat → Int32) (o : Nat) : Nat → Nat → Option Nat
  | 0, _ => none
  | n + 1, k => if heir σ o k then some k else match par σ k with
    | none => none
    | some j => cmn σ o n j
theorem cmn_hi (G : gdN σ K M) {o : Nat} (ho : o < K) : ∀ (n k : Nat), k < K → k < n → (match cmn σ o n k with
    | none => eld σ n k &&& eld σ 10 o = 0
    | some j => 0 < eld σ n k &&& eld σ 10 o ∧ j ≤ k ∧ hib (eld σ n k &&& eld σ 10 o) 10 = j) := by
  have hK := G.k10
  intro n
  induction n with
  | zero => intro k _ h; omega
  | succ n ih =>
    intro k hk hn
    rw [cmn]
    have bit : ∀ a, (eld σ (n + 1) k &&& eld σ 10 o).testBit a = (anc σ (n + 1) k a && heir σ o a) := fun a => by
      rw [Nat.testBit_and, eld_bit G _ _ _ hk, eld_bit G _ _ _ ho]; rfl
    have big : ∀ a, k < a → anc σ (n + 1) k a = false := fun a ha => by
      rw [← eld_bit G _ _ _ hk]
      exact Nat.testBit_lt_two_pow (Nat.lt_of_lt_of_le (eld_lt G (n + 1) k hk) (Nat.pow_le_pow_right (by omega) (by omega)))
    have self : anc σ (n + 1) k k = true := by rw [anc]; simp
    by_cases c : heir σ o k = true
    · rw [if_pos c]
      simp only
      have hb : (eld σ (n + 1) k &&& eld σ 10 o).testBit k = true := by rw [bit, self, c]; rfl
      refine ⟨?_, Nat.le_refl _, hib_is hb (by omega) (fun i h1 h2 => by rw [bit, big i h1]; rfl)⟩
      rcases Nat.eq_zero_or_pos (eld σ (n + 1) k &&& eld σ 10 o) with z | z
      · rw [z] at hb; simp at hb
      · exact z
    · rw [if_neg c]
      have c' : heir σ o k = false := by simpa using c
      have drop : ∀ x, (2 ^ k ||| x) &&& eld σ 10 o = x &&& eld σ 10 o := fun x => by
        apply Nat.eq_of_testBit_eq
        intro a
        rw [Nat.testBit_and, Nat.testBit_and, Nat.testBit_or, Nat.testBit_two_pow, eld_bit G _ _ _ ho]
        by_cases e : k = a
        · subst e
          have : anc σ 10 o k = false := c'
          rw [this]; simp
        · simp [e]
      rcases par_gd G hk with ⟨_, e⟩ | ⟨j, hj, _, e⟩
      · rw [e]
        simp only
        rw [eld, e]
        simp only
        rw [drop]; simp
      · rw [e]
        simp only
        rw [eld, e]
        simp only
        rw [drop]
        have := ih j (by omega) (by omega)
        cases e2 : cmn σ o n j with
        | none => rw [e2] at this; exact this
        | some q => rw [e2] at this; exact ⟨this.1, by omega, this.2.2⟩
theorem k_commonOf {d : Nat} (hd : 3 ≤ d) {s k o : Nat} (hs : isS s) {h : mH} (G : gdN (cv s h) K M) (hk : k < K) (ho : o < K) (r : Option Value) (h' : mH) : Cal d eX1_commonOf [.ref s, .int (nI k), .int (nI o)] h r h' ↔ r = some (.int (on (cmn (cv s h) o 10 k))) ∧ h' = h := by
  refine Cal_iff (Cal_le (d := 3) (Cal_of rfl (fun Q hq => ?_)) hd) r h'
  show WP 2 eX1_commonOf Q 0 [.ref s, .int (nI k), .int (nI o), mU] [] h
  have hK := G.k10
  have hc := cmn_hi G ho 10 k hk (by omega)
  have hlt : eld (cv s h) 10 k &&& eld (cv s h) 10 o < 1024 := Nat.lt_of_le_of_lt Nat.and_le_left (eld_1024 G hk)
  simp only [bX1_commonOf_0, bX1_commonOf_5, bX1_commonOf_10, bX1_commonOf_16, bX1_commonOf_21, bX1_commonOf_27, bX1_commonOf_28, k_elders (Nat.le_refl 2) hs G hk, k_elders (Nat.le_refl 2) hs G ho, nI_and, show (0 : Int32) = nI 0 from rfl, neq (show eld (cv s h) 10 k &&& eld (cv s h) 10 o ≤ 100000 by omega) (show 0 ≤ 100000 by omega), k_nlz (show 1 ≤ 2 by omega), Option.toList_some, Option.toList_none, List.cons_append, List.nil_append, and_assoc, exists_and_left, exists_eq_left, true_and, and_true, Nat.reduceLeDiff, not_false_eq_true, not_true_eq_false, ↓reduceIte, eq_self, ← Int32.not_lt, ite_not, Classical.not_not]
  cases e : cmn (cv s h) o 10 k with
  | none =>
    rw [e] at hc hq
    simp only at hc
    simp only [hc, decide_true, decide_false, not_false_eq_true, not_true_eq_false, ↓reduceIte, Bool.false_eq_true, Bool.and_true, Bool.true_and, Bool.false_and, Bool.and_false, true_and, false_and, and_true, and_false]
    exact hq
  | some j =>
    rw [e] at hc hq
    simp only at hc
    have h1 := lz_n _ hlt hc.1
    rw [hc.2.2] at h1
    simp only [show ¬ eld (cv s h) 10 k &&& eld (cv s h) 10 o = 0 by omega, h1, decide_true, decide_false, not_false_eq_true, not_true_eq_false, ↓reduceIte, Bool.false_eq_true, Bool.and_true, Bool.true_and, Bool.false_and, Bool.and_false, true_and, false_and, and_true, and_false]
    exact hq
theorem k_heirsOf {d : Nat} (hd : 2 ≤ d) {s k : Nat} (hs : isS s) {h : mH} (G : gdN (cv s h) K M) (hk : k < K) (r : Option Value) (h' : mH) : Cal d eX1_heirsOf [.ref s, .int (nI k)] h r h' ↔ r = some (.int (nI (nb (fun a => heir (cv s h) a k) K))) ∧ h' = h := by
  refine Cal_iff (Cal_le (d := 2) (Cal_of rfl (fun Q hq => ?_)) hd) r h'
  show WP 1 eX1_heirsOf Q 0 [.ref s, .int (nI k), mU, mU, mU] [] h
  have hK := G.k10
  have e0 : h s 2 = nI K := G.s0
  have ek : nb (fun a => heir (cv s h) a k) (k + 1) = 2 ^ k := by
    apply Nat.eq_of_testBit_eq
    intro a
    rw [nb_bit, Nat.testBit_two_pow]
    by_cases c : k = a
    · subst c
      simp [heir_self G hk]
    · by_cases c2 : a < k + 1
      · have : heir (cv s h) a k = false := by
          cases e : heir (cv s h) a k with
          | false => rfl
          | true => have := heir_le G a (by omega) k e; omega
        simp [c, this]
      · simp [c, c2]
  simp only [bX1_heirsOf_0, sh1 (show k < 31 by omega), nI_1, ← ek]
  obtain ⟨m, hm⟩ : ∃ m, k + 1 + m = K := ⟨K - (k + 1), by omega⟩
  refine wl (fun i => ∀ u, WP 1 eX1_heirsOf Q 8 [.ref s, .int (nI k), .int (nI (nb (fun a => heir (cv s h) a k) (k + 1 + i))), .int (nI (k + 1 + i)), u] [] h) m ?_ m 0 (by omega) ?_ _
  · intro i hi hw u
    have hi10 : k + 1 + i < 10 := by omega
    rw [bX1_heirsOf_8]
    have hnb := nb_lt (fun a => heir (cv s h) a k) (k + 1 + i)
    have hpw : 2 ^ (k + 1 + i) ≤ 2 ^ 10 := Nat.pow_le_pow_right (by omega) (by omega)
    have hh := heir_eq G (show k + 1 + i < K by omega) (a := k)
    have hw := hw
    rw [← Nat.add_assoc, nb, hh, decide_eq_false (show ¬ k = k + 1 + i by omega), Bool.false_or] at hw
    simp only [bX1_heirsOf_0, bX1_heirsOf_16, bX1_heirsOf_29, bX1_heirsOf_35, bX1_heirsOf_38, bX1_heirsOf_44, bX1_heirsOf_50, tgS hs, e0, nlt (show k + 1 + i ≤ 100000 by omega) (show K ≤ 100000 by omega), show k + 1 + i < K by omega, rfS4 hs, tgF hs, lnF hs, v10K hi10, nI_cl (show k + 1 + i < 100 by omega), ← cvF (s := s) (h := h) hi10, sh1 (show k + 1 + i < 31 by omega), nI_or, nI_1, Option.toList_some, Option.toList_none, List.cons_append, List.nil_append, and_assoc, exists_and_left, exists_eq_left, true_and, and_true, Nat.reduceLeDiff, not_false_eq_true, not_true_eq_false, ↓reduceIte, eq_self, ← Int32.not_lt, ite_not, Classical.not_not]
    rcases par_gd G (show k + 1 + i < K by omega) with ⟨e1, e⟩ | ⟨j, hj, e1, e⟩
    · rw [e] at hw
      simp only [e1, show (-9 : Int32) < 0 by decide, decide_true, decide_false, not_false_eq_true, not_true_eq_false, ↓reduceIte, Bool.false_eq_true, Bool.and_true, Bool.true_and, Bool.false_and, Bool.and_false, true_and, false_and, and_true, and_false, Nat.or_zero] at hw ⊢
      exact hw _
    · rw [e] at hw
      have hbit : (nb (fun a => heir (cv s h) a k) (k + 1 + i)).testBit j = heir (cv s h) j k := by rw [nb_bit]; simp [hj]
      simp only [bX1_heirsOf_0, bX1_heirsOf_16, bX1_heirsOf_29, bX1_heirsOf_35, bX1_heirsOf_38, bX1_heirsOf_44, bX1_heirsOf_50, sh1 (show k + 1 + i < 31 by omega), nI_or, nI_1, e1, nnn (show j ≤ 100000 by omega), k_holds (Nat.le_refl 1) (show nb (fun a => heir (cv s h) a k) (k + 1 + i) < 2 ^ 31 by omega) (show j < 31 by omega), hbit, bz0, ite_bz, Option.toList_some, Option.toList_none, List.cons_append, List.nil_append, and_assoc, exists_and_left, exists_eq_left, true_and, and_true, Nat.reduceLeDiff, not_false_eq_true, not_true_eq_false, ↓reduceIte, eq_self, ← Int32.not_lt, ite_not, Classical.not_not] at hw ⊢
      cases c : heir (cv s h) j k <;> simp only [c, decide_true, decide_false, not_false_eq_true, not_true_eq_false, ↓reduceIte, Bool.false_eq_true, Bool.and_true, Bool.true_and, Bool.false_and, Bool.and_false, true_and, false_and, and_true, and_false, Nat.or_zero] at hw ⊢ <;> exact hw _
  · intro u
    simp only [bX1_heirsOf_8, bX1_heirsOf_50, tgS hs, e0, hm, nlt (show K ≤ 100000 by omega) (show K ≤ 100000 by omega), Nat.lt_irrefl, Option.toList_some, Option.toList_none, List.cons_append, List.nil_append, and_assoc, exists_and_left, exists_eq_left, true_and, and_true, Nat.reduceLeDiff, not_false_eq_true, not_true_eq_false, ↓reduceIte, eq_self, ← Int32.not_lt, ite_not, Classical.not_not]
    exact hq
/-- the children of k -/
def chd (σ : Nat → Int32) (k a : Nat) : Bool := decide (par σ a = some k)
theorem k_childBits {d : Nat} (hd : 1 ≤ d) {s k : Nat} (hs : isS s) {h : mH} (G : gdN (cv s h) K M) (hk : k < K) (r : Option Value) (h' : mH) : Cal d eX1_childBits [.ref s, .int (nI k)] h r h' ↔ r = some (.int (nI (nb (chd (cv s h) k) K))) ∧ h' = h := by
  refine Cal_iff (Cal_le (d := 1) (Cal_of rfl (fun Q hq => ?_)) hd) r h'
  show WP 0 eX1_childBits Q 0 [.ref s, .int (nI k), mU, mU] [] h
  have hK := G.k10
  have e0 : h s 2 = nI K := G.s0
  have ek : nb (chd (cv s h) k) (k + 1) = 0 := by
    apply Nat.eq_of_testBit_eq
    intro a
    rw [nb_bit]
    by_cases c2 : a < k + 1
    · have : chd (cv s h) k a = false := by
        unfold chd
        rcases par_gd G (show a < K by omega) with ⟨e1, e⟩ | ⟨j, hj, e1, e⟩
        · rw [e]; simp
        · rw [e]; simp; omega
      simp [this]
    · simp [c2]
  simp only [bX1_childBits_0, nI_1]
  obtain ⟨m, hm⟩ : ∃ m, k + 1 + m = K := ⟨K - (k + 1), by omega⟩
  have st : WP 0 eX1_childBits Q 6 [.ref s, .int (nI k), .int (nI (nb (chd (cv s h) k) (k + 1))), .int (nI (k + 1))] [] h := by
    refine wl (fun i => WP 0 eX1_childBits Q 6 [.ref s, .int (nI k), .int (nI (nb (chd (cv s h) k) (k + 1 + i))), .int (nI (k + 1 + i))] [] h) m ?_ m 0 (by omega) ?_
    · intro i hi hw
      have hi10 : k + 1 + i < 10 := by omega
      rw [bX1_childBits_6]
      rw [← Nat.add_assoc, nb] at hw
      simp only [bX1_childBits_0, bX1_childBits_14, bX1_childBits_25, bX1_childBits_31, bX1_childBits_32, bX1_childBits_40, tgS hs, e0, nlt (show k + 1 + i ≤ 100000 by omega) (show K ≤ 100000 by omega), show k + 1 + i < K by omega, rfS4 hs, tgF hs, lnF hs, v10K hi10, nI_cl (show k + 1 + i < 100 by omega), ← cvF (s := s) (h := h) hi10, sh1 (show k + 1 + i < 31 by omega), show (0 : Int32) = nI 0 from rfl, nI_or, nI_1, Option.toList_some, Option.toList_none, List.cons_append, List.nil_append, and_assoc, exists_and_left, exists_eq_left, true_and, and_true, Nat.reduceLeDiff, not_false_eq_true, not_true_eq_false, ↓reduceIte, eq_self, ← Int32.not_lt, ite_not, Classical.not_not]
      have ec : chd (cv s h) k (k + 1 + i) = decide (cv s h (9 + 7 * (k + 1 + i) + 5) = nI k) := by
        unfold chd
        rcases par_gd G (show k + 1 + i < K by omega) with ⟨e1, e⟩ | ⟨j, hj, e1, e⟩
        · rw [e, e1]
          have := nm9 (show k ≤ 100000 by omega)
          simp [Ne.symm (show nI k ≠ -9 from this)]
        · rw [e, e1, decide_eq_decide, neq (by omega) (by omega)]
          exact Option.some_inj
      rw [ec] at hw
      by_cases c : cv s h (9 + 7 * (k + 1 + i) + 5) = nI k <;> simp only [c, decide_true, decide_false, not_false_eq_true, not_true_eq_false, ↓reduceIte, Bool.false_eq_true, Bool.and_true, Bool.true_and, Bool.false_and, Bool.and_false, true_and, false_and, and_true, and_false] at hw ⊢ <;> exact hw
    · simp only [bX1_childBits_6, bX1_childBits_40, tgS hs, e0, hm, nlt (show K ≤ 100000 by omega) (show K ≤ 100000 by omega), Nat.lt_irrefl, Option.toList_some, Option.toList_none, List.cons_append, List.nil_append, and_assoc, exists_and_left, exists_eq_left, true_and, and_true, Nat.reduceLeDiff, not_false_eq_true, not_true_eq_false, ↓reduceIte, eq_self, ← Int32.not_lt, ite_not, Classical.not_not]
      exact hq
  rw [ek] at st
  exact st
theorem nb_1024 (p : Nat → Bool) {K : Nat} (hK : K ≤ 10) : nb p K < 1024 := Nat.lt_of_lt_of_le (nb_lt p K) (Nat.pow_le_pow_right (n := 2) (j := 10) (by omega) hK)
theorem nb_ct (p : Nat → Bool) {K : Nat} (hK : K ≤ 10) : ct (nb p K).testBit 10 = ct p K := by
  rw [ct_ext hK (fun i h1 h2 => by rw [nb_bit]; simp [Nat.not_lt.mpr h1])]
  exact ct_cg (fun i hi => by rw [nb_bit]; simp [hi])
theorem nb_and (p q : Nat → Bool) (K : Nat) : nb p K &&& nb q K = nb (fun i => p i && q i) K := by
  apply Nat.eq_of_testBit_eq
  intro a
  rw [Nat.testBit_and, nb_bit, nb_bit, nb_bit]
  cases decide (a < K) <;> simp
theorem k_childrenOf {d : Nat} (hd : 2 ≤ d) {s k : Nat} (hs : isS s) {h : mH} (G : gdN (cv s h) K M) (hk : k < K) (r : Option Value) (h' : mH) : Cal d eX1_childrenOf [.ref s, .int (nI k)] h r h' ↔ r = some (.int (nI (ct (chd (cv s h) k) K))) ∧ h' = h := by
  refine Cal_iff (Cal_le (d := 2) (Cal_of rfl (fun Q hq => ?_)) hd) r h'
  show WP 1 eX1_childrenOf Q 0 [.ref s, .int (nI k)] [] h
  simp only [bX1_childrenOf_0, bX1_childrenOf_5, bX1_childrenOf_8, k_childBits (Nat.le_refl 1) hs G hk, k_bitCount (Nat.le_refl 1) (nb_1024 _ G.k10), nb_ct _ G.k10, Option.toList_some, Option.toList_none, List.cons_append, List.nil_append, and_assoc, exists_and_left, exists_eq_left, true_and, and_true, Nat.reduceLeDiff, not_false_eq_true, not_true_eq_false, ↓reduceIte, eq_self, ← Int32.not_lt, ite_not, Classical.not_not]
  exact hq
/-- how many of its heirs open -/
def lin (σ : Nat → Int32) (K k : Nat) : Nat := ct (fun a => heir σ a k && opb σ a) K
theorem k_openHeirsOf {d : Nat} (hd : 5 ≤ d) {s k : Nat} (hs : isS s) {h : mH} (G : gdN (cv s h) K M) (hk : k < K) (r : Option Value) (h' : mH) : Cal d eX1_openHeirsOf [.ref s, .int (nI k)] h r h' ↔ r = some (.int (nI (lin (cv s h) K k))) ∧ h' = h := by
  refine Cal_iff (Cal_le (d := 5) (Cal_of rfl (fun Q hq => ?_)) hd) r h'
  show WP 4 eX1_openHeirsOf Q 0 [.ref s, .int (nI k)] [] h
  simp only [bX1_openHeirsOf_0, bX1_openHeirsOf_5, bX1_openHeirsOf_9, bX1_openHeirsOf_13, tgS hs, k_heirsOf (show 2 ≤ 4 by omega) hs G hk, k_openingBits (Nat.le_refl 4) hs G, nI_and, nb_and, k_bitCount (show 1 ≤ 4 by omega) (nb_1024 _ G.k10), nb_ct _ G.k10, Option.toList_some, Option.toList_none, List.cons_append, List.nil_append, and_assoc, exists_and_left, exists_eq_left, true_and, and_true, Nat.reduceLeDiff, not_false_eq_true, not_true_eq_false, ↓reduceIte, eq_self, ← Int32.not_lt, ite_not, Classical.not_not]
  exact hq
/-- of those that p tells the one with the most w, of several the least -/
def bsm (p : Nat → Bool) (w : Nat → Nat) : Nat → Option Nat
  | 0 => none
  | i + 1 => if p i then (match bsm p w i with
    | none => some i
    | some b => if w b < w i then some i else some b) else bsm p w i
def onm (w : Nat → Nat) : Option Nat → Int32
  | none => 0
  | some b => nI (w b)
theorem bsm_lt {p : Nat → Bool} {w : Nat → Nat} : ∀ {i b : Nat}, bsm p w i = some b → b < i
  | 0, b, h => by cases h
  | i + 1, b, h => by
    rw [bsm] at h
    split at h
    · split at h
      · cases h; omega
      · rename_i c e
        have := bsm_lt e
        split at h
        · cases h; omega
        · cases h; omega
    · have := bsm_lt h; omega
def isR (σ : Nat → Int32) (k : Nat) : Bool := decide (par σ k = none)
theorem isR_lt {σ : Nat → Int32} {k : Nat} : isR σ k = decide (σ (9 + 7 * k + 5) < 0) := by
  unfold isR par
  by_cases c : σ (9 + 7 * k + 5) < 0 <;> simp [c]
theorem k_bestRoot {d : Nat} (hd : 5 ≤ d) {s : Nat} (hs : isS s) {h : mH} (G : gdN (cv s h) K M) (r : Option Value) (h' : mH) : Cal d eX1_bestRoot [.ref s] h r h' ↔ r = some (.int (on (bsm (isR (cv s h)) (lin (cv s h) K) K))) ∧ h' = h := by
  refine Cal_iff (Cal_le (d := 5) (Cal_of rfl (fun Q hq => ?_)) hd) r h'
  show WP 4 eX1_bestRoot Q 0 [.ref s, mU, mU, mU, mU, mU] [] h
  have hK := G.k10
  have e0 : h s 2 = nI K := G.s0
  simp only [bX1_bestRoot_0, bX1_bestRoot_4, tgS hs, k_openingBits (Nat.le_refl 4) hs G, Option.toList_some, Option.toList_none, List.cons_append, List.nil_append, and_assoc, exists_and_left, exists_eq_left, true_and, and_true, Nat.reduceLeDiff, not_false_eq_true, not_true_eq_false, ↓reduceIte, eq_self, ← Int32.not_lt, ite_not, Classical.not_not]
  refine wl (fun i => ∀ u, WP 4 eX1_bestRoot Q 13 [.ref s, .int (nI (nb (opb (cv s h)) K)), .int (on (bsm (isR (cv s h)) (lin (cv s h) K) i)), .int (onm (lin (cv s h) K) (bsm (isR (cv s h)) (lin (cv s h) K) i)), .int (nI i), u] [] h) K ?_ K 0 (by omega) ?_ _
  · intro i hi hw u
    have hi10 : i < 10 := by omega
    rw [bX1_bestRoot_13]
    have hw := hw
    rw [bsm, isR_lt] at hw
    simp only [bX1_bestRoot_0, bX1_bestRoot_4, bX1_bestRoot_22, bX1_bestRoot_32, bX1_bestRoot_35, bX1_bestRoot_41, bX1_bestRoot_46, bX1_bestRoot_54, bX1_bestRoot_60, bX1_bestRoot_66, bX1_bestRoot_72, tgS hs, e0, nlt (show i ≤ 100000 by omega) (show K ≤ 100000 by omega), hi, rfS4 hs, tgF hs, lnF hs, v10K hi10, nI_cl (show i < 100 by omega), ← cvF (s := s) (h := h) hi10, k_heirsOf (show 2 ≤ 4 by omega) hs G hi, nI_and, nb_and, k_bitCount (show 1 ≤ 4 by omega) (nb_1024 _ G.k10), nb_ct _ G.k10, nI_1, Option.toList_some, Option.toList_none, List.cons_append, List.nil_append, and_assoc, exists_and_left, exists_eq_left, true_and, and_true, Nat.reduceLeDiff, not_false_eq_true, not_true_eq_false, ↓reduceIte, eq_self, ← Int32.not_lt, ite_not, Classical.not_not]
    by_cases c : cv s h (9 + 7 * i + 5) < 0
    · simp only [c, decide_true, decide_false, not_false_eq_true, not_true_eq_false, ↓reduceIte, Bool.false_eq_true, Bool.and_true, Bool.true_and, Bool.false_and, Bool.and_false, true_and, false_and, and_true, and_false] at hw ⊢
      cases e : bsm (isR (cv s h)) (lin (cv s h) K) i with
      | none => simp only [e, on, decide_true, decide_false, not_false_eq_true, not_true_eq_false, ↓reduceIte, Bool.false_eq_true, Bool.and_true, Bool.true_and, Bool.false_and, Bool.and_false, true_and, false_and, and_true, and_false] at hw ⊢; exact hw _
      | some b =>
        have hb := bsm_lt e
        have l1 := ct_le (fun a => heir (cv s h) a b && opb (cv s h) a) K
        have l2 := ct_le (fun a => heir (cv s h) a i && opb (cv s h) a) K
        have el : (nI (lin (cv s h) K b) < nI (ct (fun a => heir (cv s h) a i && opb (cv s h) a) K)) = (lin (cv s h) K b < lin (cv s h) K i) := nlt (by unfold lin; omega) (by omega)
        simp only [e, on, onm, nm9 (show b ≤ 100000 by omega), el, decide_true, decide_false, not_false_eq_true, not_true_eq_false, ↓reduceIte, Bool.false_eq_true, Bool.and_true, Bool.true_and, Bool.false_and, Bool.and_false, true_and, false_and, and_true, and_false] at hw ⊢
        by_cases c2 : lin (cv s h) K b < lin (cv s h) K i <;> simp only [c2, decide_true, decide_false, not_false_eq_true, not_true_eq_false, ↓reduceIte, Bool.false_eq_true, Bool.and_true, Bool.true_and, Bool.false_and, Bool.and_false, true_and, false_and, and_true, and_false] at hw ⊢ <;> exact hw _
    · simp only [c, decide_true, decide_false, not_false_eq_true, not_true_eq_false, ↓reduceIte, Bool.false_eq_true, Bool.and_true, Bool.true_and, Bool.false_and, Bool.and_false, true_and, false_and, and_true, and_false] at hw ⊢; exact hw _
  · intro u
    simp only [bX1_bestRoot_13, bX1_bestRoot_72, tgS hs, e0, nlt (show K ≤ 100000 by omega) (show K ≤ 100000 by omega), Nat.lt_irrefl, Option.toList_some, Option.toList_none, List.cons_append, List.nil_append, and_assoc, exists_and_left, exists_eq_left, true_and, and_true, Nat.reduceLeDiff, not_false_eq_true, not_true_eq_false, ↓reduceIte, eq_self, ← Int32.not_lt, ite_not, Classical.not_not]
    exact hq
/-- those whose key may be asked for when k is lost -/
def nea (σ : Nat → Int32) (k a : Nat) : Bool := !decide (a = k) && (chd σ k a || (match par σ k with
    | none => false
    | some j => decide (a = j) || chd σ j a)) && opb σ a
theorem k_whomToAsk {d : Nat} (hd : 5 ≤ d) {s k : Nat} (hs : isS s) {h : mH} (G : gdN (cv s h) K M) (hk : k < K) (r : Option Value) (h' : mH) : Cal d eX1_whomToAsk [.ref s, .int (nI k)] h r h' ↔ r = some (.int (on (bst (nea (cv s h) k) (wgk (cv s h)) K))) ∧ h' = h := by
  refine Cal_iff (Cal_le (d := 5) (Cal_of rfl (fun Q hq => ?_)) hd) r h'
  show WP 4 eX1_whomToAsk Q 0 [.ref s, .int (nI k), mU, mU] [] h
  have hK := G.k10
  have hk10 : k < 10 := by omega
  have e0 : h s 2 = nI K := G.s0
  have ex : ∀ a : Nat, nI a &&& (nI (2 ^ k) ^^^ -1) = nI (a &&& ((2 ^ k) ^^^ (2 ^ 32 - 1))) := fun a => by
    apply Int32.toBitVec_inj.mp
    rw [Int32.toBitVec_and, Int32.toBitVec_xor]
    show BitVec.ofNat 32 _ &&& (BitVec.ofNat 32 _ ^^^ BitVec.ofNat 32 (2 ^ 32 - 1)) = BitVec.ofNat 32 _
    rw [BitVec.ofNat_and, BitVec.ofNat_xor]
  have lt : ∀ a b : Nat, a &&& b &&& nb (opb (cv s h)) K < 2 ^ 31 := fun a b => by
    have := nb_1024 (opb (cv s h)) hK
    exact Nat.lt_of_le_of_lt Nat.and_le_right (by omega)
  have bb : ∀ i, i < K → ((2 ^ k) ^^^ (2 ^ 32 - 1)).testBit i = !decide (i = k) := fun i hi => by
    rw [Nat.testBit_xor, Nat.testBit_two_pow, Nat.testBit_two_pow_sub_one]
    by_cases c : i = k
    · subst c; simp; omega
    · simp [c, show ¬ k = i from fun z => c z.symm]; omega
  simp only [bX1_whomToAsk_0, bX1_whomToAsk_5, bX1_whomToAsk_17, bX1_whomToAsk_26, bX1_whomToAsk_29, bX1_whomToAsk_41, bX1_whomToAsk_45, tgS hs, k_childBits (show 1 ≤ 4 by omega) hs G hk, rfS4 hs, tgF hs, lnF hs, v10K hk10, nI_cl (show k < 100 by omega), ← cvF (s := s) (h := h) hk10, sh1 (show k < 31 by omega), k_openingBits (Nat.le_refl 4) hs G, ex, nI_and, Option.toList_some, Option.toList_none, List.cons_append, List.nil_append, and_assoc, exists_and_left, exists_eq_left, true_and, and_true, Nat.reduceLeDiff, not_false_eq_true, not_true_eq_false, ↓reduceIte, eq_self, ← Int32.not_lt, ite_not, Classical.not_not]
  rcases par_gd G hk with ⟨e1, e⟩ | ⟨j, hj, e1, e⟩
  · simp only [e1, show (-9 : Int32) < 0 by decide, decide_true, decide_false, not_false_eq_true, not_true_eq_false, ↓reduceIte, Bool.false_eq_true, Bool.and_true, Bool.true_and, Bool.false_and, Bool.and_false, true_and, false_and, and_true, and_false]
    simp only [bX1_whomToAsk_0, bX1_whomToAsk_5, bX1_whomToAsk_17, bX1_whomToAsk_26, bX1_whomToAsk_29, bX1_whomToAsk_41, bX1_whomToAsk_45, k_leastWiggleOf (show 2 ≤ 4 by omega) hs G (lt _ _), Option.toList_some, Option.toList_none, List.cons_append, List.nil_append, and_assoc, exists_and_left, exists_eq_left, true_and, and_true, Nat.reduceLeDiff, not_false_eq_true, not_true_eq_false, ↓reduceIte, eq_self, ← Int32.not_lt, ite_not, Classical.not_not]
    rw [bst_cg (q := (nb (chd (cv s h) k) K &&& (2 ^ k ^^^ 2 ^ 32 - 1) &&& nb (opb (cv s h)) K).testBit)] at hq
    · exact hq
    · intro i hi
      rw [Nat.testBit_and, Nat.testBit_and, nb_bit, nb_bit, bb i hi]
      unfold nea
      rw [e]
      simp only [hi, decide_true, Bool.true_and, Bool.or_false]
      rw [Bool.and_comm (chd (cv s h) k i)]
  · simp only [e1, nnn (show j ≤ 100000 by omega), decide_true, decide_false, not_false_eq_true, not_true_eq_false, ↓reduceIte, Bool.false_eq_true, Bool.and_true, Bool.true_and, Bool.false_and, Bool.and_false, true_and, false_and, and_true, and_false]
    simp only [bX1_whomToAsk_0, bX1_whomToAsk_5, bX1_whomToAsk_17, bX1_whomToAsk_26, bX1_whomToAsk_29, bX1_whomToAsk_41, bX1_whomToAsk_45, tgS hs, k_childBits (show 1 ≤ 4 by omega) hs G (show j < K by omega), sh1 (show j < 31 by omega), nI_or, k_openingBits (Nat.le_refl 4) hs G, ex, nI_and, sh1 (show k < 31 by omega), k_leastWiggleOf (show 2 ≤ 4 by omega) hs G (lt _ _), Option.toList_some, Option.toList_none, List.cons_append, List.nil_append, and_assoc, exists_and_left, exists_eq_left, true_and, and_true, Nat.reduceLeDiff, not_false_eq_true, not_true_eq_false, ↓reduceIte, eq_self, ← Int32.not_lt, ite_not, Classical.not_not]
    rw [bst_cg (q := ((nb (chd (cv s h) k) K ||| (2 ^ j ||| nb (chd (cv s h) j) K)) &&& (2 ^ k ^^^ 2 ^ 32 - 1) &&& nb (opb (cv s h)) K).testBit)] at hq
    · exact hq
    · intro i hi
      rw [Nat.testBit_and, Nat.testBit_and, nb_bit, bb i hi, Nat.testBit_or, Nat.testBit_or, nb_bit, nb_bit, Nat.testBit_two_pow]
      unfold nea
      rw [e]
      simp only [hi, decide_true, Bool.true_and]
      rw [show decide (j = i) = decide (i = j) from by simp only [decide_eq_decide]; exact eq_comm]
      rw [Bool.and_comm (chd (cv s h) k i || _)]
end FAM
