/-! what a statement does -/
def dg (lc : Nat → Nat) (p : Nat) : Nat := lc p - 48
def d2 (lc : Nat → Nat) (p : Nat) : Nat := 10 * dg lc p + dg lc (p + 1)
def isD (lc : Nat → Nat) (n p : Nat) : Prop := p < n ∧ 48 ≤ lc p ∧ lc p ≤ 57
theorem isD_of {lc : Nat → Nat} {n p : Nat} (h : p < n ∧ okc 48 (lc p) = true) : isD lc n p := by
  obtain ⟨a, b⟩ := h
  unfold okc at b
  simp at b
  exact ⟨a, b.1, b.2⟩
theorem jdg : ∀ c, c < 58 → 48 ≤ c → jmx 0 (jmn 9 (nI c - 48)) = nI (c - 48) := by decide +kernel
section T2
variable {h : mH} {n : Nat} {lc : Nat → Nat}
theorem k_letterAt {d : Nat} (hd : 1 ≤ d) (e1 : h 55 1 = nI n) (L : gdL (h 56) n lc) {p : Nat} (hp : p < n) (r : Option Value) (h' : mH) : Cal d eX4_letterAt [.ref 55, .int (nI p)] h r h' ↔ r = some (.int (nI (lc p))) ∧ h' = h := by
  refine Cal_iff (Cal_le (d := 1) (Cal_of rfl (fun Q hq => ?_)) hd) r h'
  show WP 0 eX4_letterAt Q 0 [.ref 55, .int (nI p)] [] h
  have n96 := L.1
  obtain ⟨l1, l2⟩ := L.2 p hp
  simp only [bX4_letterAt_0, bX4_letterAt_4, bX4_letterAt_12, bX4_letterAt_21, bX4_letterAt_22, nnn (show p ≤ 100000 by omega), t55, e1, nlt (show p ≤ 100000 by omega) (show n ≤ 100000 by omega), hp, r550, t56, l56, vp_nI (show p < 96 by omega) (show 96 ≤ 100 by omega), nI_cl (show p < 100 by omega), l2, Option.toList_some, Option.toList_none, List.cons_append, List.nil_append, and_assoc, exists_and_left, exists_eq_left, true_and, and_true, Nat.reduceLeDiff, not_false_eq_true, not_true_eq_false, ↓reduceIte, eq_self, ← Int32.not_lt, ite_not, Classical.not_not]
  exact hq
/-- any letter's place: some number -/
theorem e_letterAt {d : Nat} (hd : 1 ≤ d) (e1 : h 55 1 = nI n) (L : gdL (h 56) n lc) (p : Nat) (hp : p < 200) : ∃ x, Cal d eX4_letterAt [.ref 55, .int (nI p)] h (some (.int x)) h := by
  by_cases c : p < n
  · exact ⟨_, (k_letterAt hd e1 L c _ _).mpr ⟨rfl, rfl⟩⟩
  · refine ⟨0, Cal_le (d := 1) (Cal_of rfl (fun Q hq => ?_)) hd⟩
    show WP 0 eX4_letterAt Q 0 [.ref 55, .int (nI p)] [] h
    have n96 := L.1
    simp only [bX4_letterAt_0, bX4_letterAt_4, bX4_letterAt_12, bX4_letterAt_21, bX4_letterAt_22, nnn (show p ≤ 100000 by omega), t55, e1, nlt (show p ≤ 100000 by omega) (show n ≤ 100000 by omega), c, Option.toList_some, Option.toList_none, List.cons_append, List.nil_append, and_assoc, exists_and_left, exists_eq_left, true_and, and_true, Nat.reduceLeDiff, not_false_eq_true, not_true_eq_false, ↓reduceIte, eq_self, ← Int32.not_lt, ite_not, Classical.not_not]
    exact hq
theorem e_digitAt {d : Nat} (hd : 2 ≤ d) (e1 : h 55 1 = nI n) (L : gdL (h 56) n lc) (p : Nat) (hp : p < 200) : ∃ x, Cal d eX4_digitAt [.ref 55, .int (nI p)] h (some (.int x)) h := by
  obtain ⟨y, hy⟩ := e_letterAt (Nat.le_refl 1) e1 L p hp
  refine ⟨jmx 0 (jmn 9 (y - 48)), Cal_le (d := 2) (Cal_of rfl (fun Q hq => ?_)) hd⟩
  show WP 1 eX4_digitAt Q 0 [.ref 55, .int (nI p)] [] h
  simp only [bX4_digitAt_0, bX4_digitAt_8, t55, Cal_iff hy, Option.toList_some, Option.toList_none, List.cons_append, List.nil_append, and_assoc, exists_and_left, exists_eq_left, true_and, and_true, Nat.reduceLeDiff, not_false_eq_true, not_true_eq_false, ↓reduceIte, eq_self, ← Int32.not_lt, ite_not, Classical.not_not]
  exact hq
theorem k_digitAt {d : Nat} (hd : 2 ≤ d) (e1 : h 55 1 = nI n) (L : gdL (h 56) n lc) {p : Nat} (hp : isD lc n p) (r : Option Value) (h' : mH) : Cal d eX4_digitAt [.ref 55, .int (nI p)] h r h' ↔ r = some (.int (nI (dg lc p))) ∧ h' = h := by
  refine Cal_iff (Cal_le (d := 2) (Cal_of rfl (fun Q hq => ?_)) hd) r h'
  show WP 1 eX4_digitAt Q 0 [.ref 55, .int (nI p)] [] h
  simp only [bX4_digitAt_0, bX4_digitAt_8, t55, k_letterAt (Nat.le_refl 1) e1 L hp.1, jdg _ (Nat.lt_succ_of_le hp.2.2) hp.2.1, Option.toList_some, Option.toList_none, List.cons_append, List.nil_append, and_assoc, exists_and_left, exists_eq_left, true_and, and_true, Nat.reduceLeDiff, not_false_eq_true, not_true_eq_false, ↓reduceIte, eq_self, ← Int32.not_lt, ite_not, Classical.not_not]
  exact hq
theorem k_twoDigitsAt {d : Nat} (hd : 3 ≤ d) (e1 : h 55 1 = nI n) (L : gdL (h 56) n lc) {p : Nat} (hp : isD lc n p) (hp2 : isD lc n (p + 1)) (r : Option Value) (h' : mH) : Cal d eX4_twoDigitsAt [.ref 55, .int (nI p)] h r h' ↔ r = some (.int (nI (d2 lc p))) ∧ h' = h := by
  refine Cal_iff (Cal_le (d := 3) (Cal_of rfl (fun Q hq => ?_)) hd) r h'
  show WP 2 eX4_twoDigitsAt Q 0 [.ref 55, .int (nI p)] [] h
  simp only [bX4_twoDigitsAt_0, bX4_twoDigitsAt_7, bX4_twoDigitsAt_15, t55, k_digitAt (Nat.le_refl 2) e1 L hp, nI_1, k_digitAt (Nat.le_refl 2) e1 L hp2, show (10 : Int32) = nI 10 from rfl, nI_mul, nI_plus, Option.toList_some, Option.toList_none, List.cons_append, List.nil_append, and_assoc, exists_and_left, exists_eq_left, true_and, and_true, Nat.reduceLeDiff, not_false_eq_true, not_true_eq_false, ↓reduceIte, eq_self, ← Int32.not_lt, ite_not, Classical.not_not]
  exact hq
theorem k_kindAt {d : Nat} (hd : 5 ≤ d) (e1 : h 55 1 = nI n) (L : gdL (h 56) n lc) {p : Nat} (hp : p < n) (r : Option Value) (h' : mH) : Cal d eX4_kindAt [.ref 55, .int (nI p)] h r h' ↔ r = some (.int (jmx 0 (kx (lc p)))) ∧ h' = h := by
  refine Cal_iff (Cal_le (d := 5) (Cal_of rfl (fun Q hq => ?_)) hd) r h'
  show WP 4 eX4_kindAt Q 0 [.ref 55, .int (nI p)] [] h
  simp only [bX4_kindAt_0, bX4_kindAt_8, bX4_kindAt_12, t55, k_letterAt (show 1 ≤ 4 by omega) e1 L hp, show tg 106 = 10 from rfl, k_indexOf (Nat.le_refl 4) (L.2 p hp).1, Option.toList_some, Option.toList_none, List.cons_append, List.nil_append, and_assoc, exists_and_left, exists_eq_left, true_and, and_true, Nat.reduceLeDiff, not_false_eq_true, not_true_eq_false, ↓reduceIte, eq_self, ← Int32.not_lt, ite_not, Classical.not_not]
  exact hq
theorem e_readFive {d : Nat} (hd : 4 ≤ d) (e1 : h 55 1 = nI n) (L : gdL (h 56) n lc) {p a : Nat} (hp : ∀ q, q < 10 → isD lc n (p + q)) (ha : tg a = 100) (hl : ln a = 5) (h55 : ¬ a = 55) (h56 : ¬ a = 56) (r : Option Value) (h' : mH) : Cal d eX4_readFive [.ref 55, .int (nI p), .ref a] h r h' ↔ r = none ∧ h' = mPut h a (pT (fun t => nI (d2 lc (p + 2 * t))) (h a) 5) := by
  refine Cal_iff (Cal_le (d := 4) (Cal_of rfl (fun Q hq => ?_)) hd) r h'
  show WP 3 eX4_readFive Q 0 [.ref 55, .int (nI p), .ref a, mU] [] h
  simp only [bX4_readFive_0]
  have key := wl (fun i => WP 3 eX4_readFive Q 2 [.ref 55, .int (nI p), .ref a, .int (nI i)] [] (mPut h a (pT (fun t => nI (d2 lc (p + 2 * t))) (h a) i))) 5 ?_ 5 0 (by omega) ?_
  · rw [pT_0, mPut_id] at key; exact key
  · intro i hi hw
    have x1 : ∀ x, mPut h a x 55 1 = nI n := fun x => by rw [mPut_ne h x (fun z => h55 z.symm)]; exact e1
    have x2 : ∀ x, gdL (mPut h a x 56) n lc := fun x => by rw [mPut_ne h x (fun z => h56 z.symm)]; exact L
    have a1 := hp (2 * i) (by omega)
    have a2 := hp (2 * i + 1) (by omega)
    rw [bX4_readFive_2]
    simp only [bX4_readFive_7, bX4_readFive_18, bX4_readFive_19, show (5 : Int32) = nI 5 from rfl, nlt (show i ≤ 100000 by omega) (show 5 ≤ 100000 by omega), hi, t55, show (2 : Int32) = nI 2 from rfl, nI_mul, nI_plus, k_twoDigitsAt (Nat.le_refl 3) (x1 _) (x2 _) a1 a2, ha, hl, vp_nI hi (show 5 ≤ 100 by omega), nI_cl (show i < 100 by omega), mPut_self, mPut_put, nI_1, Option.toList_some, Option.toList_none, List.cons_append, List.nil_append, and_assoc, exists_and_left, exists_eq_left, true_and, and_true, Nat.reduceLeDiff, not_false_eq_true, not_true_eq_false, ↓reduceIte, eq_self, ← Int32.not_lt, ite_not, Classical.not_not]
    have e := pT_succ (fun t => nI (d2 lc (p + 2 * t))) (h a) i
    rw [e]
    exact hw
  · simp only [bX4_readFive_2, bX4_readFive_25, show (5 : Int32) = nI 5 from rfl, nlt (show 5 ≤ 100000 by omega) (show 5 ≤ 100000 by omega), Nat.lt_irrefl, Option.toList_some, Option.toList_none, List.cons_append, List.nil_append, and_assoc, exists_and_left, exists_eq_left, true_and, and_true, Nat.reduceLeDiff, not_false_eq_true, not_true_eq_false, ↓reduceIte, eq_self, ← Int32.not_lt, ite_not, Classical.not_not]
    exact hq
end T2
/-- the pins as told from place p on; a key more as told -/
def pinS (lc : Nat → Nat) (p : Nat) (σ : Nat → Int32) (i : Nat) : Int32 := if 4 ≤ i ∧ i < 9 then nI (d2 lc (p + 2 * (i - 4))) else σ i
def keyS (lc : Nat → Nat) (p K : Nat) (σ : Nat → Int32) (i : Nat) : Int32 := if 9 + 7 * K ≤ i ∧ i < 9 + 7 * K + 5 then nI (d2 lc (p + 2 * (i - (9 + 7 * K)))) else addK σ K (-9) i
def kN (σ : Nat → Int32) : Nat := (σ 0).toNatClampNeg
def mN (σ : Nat → Int32) : Nat := (σ 1).toNatClampNeg
theorem gdkN {σ : Nat → Int32} {K M : Nat} (G : gdN σ K M) : kN σ = K := by unfold kN; rw [G.s0, nI_cl (by have := G.k10; omega)]
theorem gdmN {σ : Nat → Int32} {K M : Nat} (G : gdN σ K M) : mN σ = M := by unfold mN; rw [G.s1, nI_cl (by have := G.m5; omega)]
/-- key a is there and not snapped -/
def whl (σ : Nat → Int32) (K a : Nat) : Bool := decide (a < K) && !snb σ a
/-- the statement that begins at p -/
def stm (lc : Nat → Nat) (p : Nat) (σ : Nat → Int32) : Option (Nat → Int32) :=
  if lc p = 108 then some (pinS lc (p + 1) σ)
  else if lc p = 107 then (if kN σ = 10 then none else some (keyS lc (p + 1) (kN σ) σ))
  else if lc p = 109 then (if mN σ = 5 then none else some (addM σ (mN σ) (kx (lc (p + 1))) (nI (dg lc (p + 2)))))
  else if lc p = 99 then (if whl σ (kN σ) (dg lc (p + 1)) = true ∧ dg lc (p + 2) < mN σ ∧ ¬ kN σ = 10 then some (cutS σ (kN σ) (dg lc (p + 1)) (dg lc (p + 2))) else none)
  else if lc p = 117 then (if whl σ (kN σ) (dg lc (p + 1)) = true ∧ ¬ 9999 < σ 2 + nI (d2 lc (p + 2)) then some (usd σ (dg lc (p + 1)) (nI (d2 lc (p + 2)))) else none)
  else if lc p = 115 then some (upd σ 3 (nI (dg lc (p + 1))))
  else (if whl σ (kN σ) (dg lc (p + 1)) = true then some (upd σ (9 + 7 * dg lc (p + 1) + 6) 1) else none)
/-- a whole statement stands at p -/
def wsh (lc : Nat → Nat) (n p : Nat) : Prop := p < n ∧ ¬ sj (lc p) = 5 ∧ ∀ q, q < sln (sj (lc p)) → p + 1 + q < n ∧ okc (bn (sj (lc p)) q) (lc (p + 1 + q)) = true
section T3
variable {h : mH} {n p : Nat} {lc : Nat → Nat}
theorem whk {σ : Nat → Int32} {K M a : Nat} (G : gdN σ K M) (ha : a < 100) : (ik (nI a) (nI K) && decide (σ (9 + 7 * a + 6) = 0)) = whl σ K a := by
  unfold whl snb
  rw [ikk (by omega) (by have := G.k10; omega)]
  congr 1
  by_cases c : σ (9 + 7 * a + 6) = 0 <;> simp [c]
theorem k_whole {d : Nat} (hd : 2 ≤ d) {s K M a : Nat} (hs : isS s) (G : gdN (cv s h) K M) (ha : a < 100) (r : Option Value) (h' : mH) : Cal d eX3_hasWholeKey [.ref s, .int (nI a)] h r h' ↔ r = some (.int (bz (whl (cv s h) K a))) ∧ h' = h := by
  rw [k_hasWholeKey hd hs G, nI_cl ha, ← whk G ha]
  by_cases c : a < K
  · rw [cvZ (by have := G.k10; omega)]
  · rw [ikk (by omega) (by have := G.k10; omega), decide_eq_false c]; rfl
theorem whl_lt {σ : Nat → Int32} {K a : Nat} (h : whl σ K a = true) : a < K := by
  unfold whl at h
  simp at h
  exact h.1
theorem k_isSnapped0 {d : Nat} (hd : 3 ≤ d) {s K M a : Nat} (hs : isS s) (G : gdN (cv s h) K M) (ha : a < 100) (hw : whl (cv s h) K a = false) (r : Option Value) (h' : mH) : Cal d eX4_isSnapped [.ref s, .int (nI a)] h r h' ↔ r = some (.int 0) ∧ h' = h := by
  refine Cal_iff (Cal_le (d := 3) (Cal_of rfl (fun Q hq => ?_)) hd) r h'
  show WP 2 eX4_isSnapped Q 0 [.ref s, .int (nI a)] [] h
  simp only [bX4_isSnapped_0, bX4_isSnapped_5, bX4_isSnapped_8, tgS hs, k_whole (Nat.le_refl 2) hs G ha, hw, bz0, nb0, Option.toList_some, Option.toList_none, List.cons_append, List.nil_append, and_assoc, exists_and_left, exists_eq_left, true_and, and_true, Nat.reduceLeDiff, not_false_eq_true, not_true_eq_false, ↓reduceIte, eq_self, ← Int32.not_lt, ite_not, Classical.not_not]
  exact hq
theorem e_isSnapped {d : Nat} (hd : 3 ≤ d) {s K M a : Nat} (hs : isS s) (G : gdN (cv s h) K M) (ha : a < 100) (hw : whl (cv s h) K a = true) : ∃ h', (cv s h' = upd (cv s h) (9 + 7 * a + 6) 1 ∧ onl s h h') ∧ Cal d eX4_isSnapped [.ref s, .int (nI a)] h (some (.int 1)) h' := by
  refine Cal_pr (d := 2) hd rfl (fun Q hq => ?_)
  show WP 2 eX4_isSnapped Q 0 [.ref s, .int (nI a)] [] h
  have a10 : a < 10 := by have := whl_lt hw; have := G.k10; omega
  simp only [bX4_isSnapped_0, bX4_isSnapped_5, bX4_isSnapped_8, bX4_isSnapped_10, bX4_isSnapped_17, tgS hs, k_whole (Nat.le_refl 2) hs G ha, hw, bz0, Bool.true_eq_false, rfS5 hs, tgZ hs, lnZ hs, v10K a10, nI_cl (show a < 100 by omega), nb1, or_true, Option.toList_some, Option.toList_none, List.cons_append, List.nil_append, and_assoc, exists_and_left, exists_eq_left, true_and, and_true, Nat.reduceLeDiff, not_false_eq_true, not_true_eq_false, ↓reduceIte, eq_self, ← Int32.not_lt, ite_not, Classical.not_not]
  exact hq _ ⟨cv_uZ a10 1, onl.rfl'.put (by omega) (by omega)⟩
theorem k_isUsed0 {d : Nat} (hd : 3 ≤ d) {s K M a : Nat} {x : Int32} (hs : isS s) (G : gdN (cv s h) K M) (ha : a < 100) (hw : ¬ (whl (cv s h) K a = true ∧ ¬ 9999 < cv s h 2 + x)) (r : Option Value) (h' : mH) : Cal d eX4_isUsed [.ref s, .int (nI a), .int x] h r h' ↔ r = some (.int 0) ∧ h' = h := by
  refine Cal_iff (Cal_le (d := 3) (Cal_of rfl (fun Q hq => ?_)) hd) r h'
  show WP 2 eX4_isUsed Q 0 [.ref s, .int (nI a), .int x] [] h
  rw [cv2] at hw
  simp only [bX4_isUsed_0, bX4_isUsed_5, bX4_isUsed_8, bX4_isUsed_20, tgS hs, k_whole (Nat.le_refl 2) hs G ha, bz0, ite_bz, nb0, Option.toList_some, Option.toList_none, List.cons_append, List.nil_append, and_assoc, exists_and_left, exists_eq_left, true_and, and_true, Nat.reduceLeDiff, not_false_eq_true, not_true_eq_false, ↓reduceIte, eq_self, ← Int32.not_lt, ite_not, Classical.not_not]
  cases c : whl (cv s h) K a with
  | false => simp only [decide_true, decide_false, not_false_eq_true, not_true_eq_false, ↓reduceIte, Bool.false_eq_true, Bool.and_true, Bool.true_and, Bool.false_and, Bool.and_false, true_and, false_and, and_true, and_false]; exact hq
  | true =>
    have : 9999 < h s 9 + x := Classical.not_not.mp (fun z => hw ⟨c, z⟩)
    simp only [this, decide_true, decide_false, not_false_eq_true, not_true_eq_false, ↓reduceIte, Bool.false_eq_true, Bool.and_true, Bool.true_and, Bool.false_and, Bool.and_false, true_and, false_and, and_true, and_false]; exact hq
theorem e_isUsed {d : Nat} (hd : 3 ≤ d) {s K M a : Nat} {x : Int32} (hs : isS s) (G : gdN (cv s h) K M) (ha : a < 100) (hw : whl (cv s h) K a = true) (hx : ¬ 9999 < cv s h 2 + x) : ∃ h', (cv s h' = usd (cv s h) a x ∧ onl s h h') ∧ Cal d eX4_isUsed [.ref s, .int (nI a), .int x] h (some (.int 1)) h' := by
  refine Cal_pr (d := 2) hd rfl (fun Q hq => ?_)
  show WP 2 eX4_isUsed Q 0 [.ref s, .int (nI a), .int x] [] h
  have a10 : a < 10 := by have := whl_lt hw; have := G.k10; omega
  rw [cv2] at hx
  obtain ⟨h2, hc, w1, w2⟩ := e_wear (Nat.le_refl 2) hs (h := h) a10 x
  simp only [bX4_isUsed_0, bX4_isUsed_5, bX4_isUsed_8, bX4_isUsed_20, bX4_isUsed_22, bX4_isUsed_28, tgS hs, k_whole (Nat.le_refl 2) hs G ha, hw, bz0, Bool.true_eq_false, hx, Cal_iff hc, nb1, Option.toList_some, Option.toList_none, List.cons_append, List.nil_append, and_assoc, exists_and_left, exists_eq_left, true_and, and_true, Nat.reduceLeDiff, not_false_eq_true, not_true_eq_false, ↓reduceIte, eq_self, ← Int32.not_lt, ite_not, Classical.not_not]
  exact hq _ ⟨w1, w2⟩
theorem k_keyComes0 {d : Nat} (hd : 5 ≤ d) {s M : Nat} (hs : isS s) (G : gdN (cv s h) 10 M) (x : Int32) (r : Option Value) (h' : mH) : Cal d eX4_keyComes [.ref 55, .ref s, .int x] h r h' ↔ r = some (.int 0) ∧ h' = h := by
  refine Cal_iff (Cal_le (d := 5) (Cal_of rfl (fun Q hq => ?_)) hd) r h'
  show WP 4 eX4_keyComes Q 0 [.ref 55, .ref s, .int x, mU] [] h
  simp only [bX4_keyComes_0, bX4_keyComes_6, bX4_keyComes_13, tgS hs, k_addKeyFull (show 1 ≤ 4 by omega) hs G, nb0, Option.toList_some, Option.toList_none, List.cons_append, List.nil_append, and_assoc, exists_and_left, exists_eq_left, true_and, and_true, Nat.reduceLeDiff, not_false_eq_true, not_true_eq_false, ↓reduceIte, eq_self, ← Int32.not_lt, ite_not, Classical.not_not]
  exact hq
theorem cv_row {s k : Nat} {h : mH} {F : Nat → Int32} (hk : k < 10) : cv s (mPut h (s + 3 + k) (pT F (h (s + 3 + k)) 5)) = fun i => if 9 + 7 * k ≤ i ∧ i < 9 + 7 * k + 5 then F (i - (9 + 7 * k)) else cv s h i := by
  funext i
  rcases Nat.lt_or_ge i 89 with q | q
  · rw [cv_eq q, mPut_at]
    by_cases c : 9 + 7 * k ≤ i ∧ i < 9 + 7 * k + 5
    · have a1 : cc i = 3 + k := by unfold cc; rw [if_neg (by omega), if_neg (by omega), if_pos (by omega), if_pos (by omega)]; omega
      have a2 : cs i = i - (9 + 7 * k) := by unfold cs; rw [if_neg (by omega), if_neg (by omega), if_neg (by omega), if_neg (by omega), if_neg (by omega), if_pos (by omega), if_pos (by omega)]; omega
      rw [if_pos c, a1, a2, if_pos (by omega), pT_lt (by omega)]
    · rw [if_neg c, cv_eq q]
      by_cases c2 : s + cc i = s + 3 + k
      · rw [if_pos c2]
        have a3 : 5 ≤ cs i := by
          have a1 : cc i = 3 + k := by omega
          rcases cv_cases i with rfl | rfl | rfl | rfl | ⟨t, q2, rfl⟩ | ⟨k2, t, q2, q3, rfl⟩ | ⟨k2, q2, rfl⟩ | ⟨k2, q2, rfl⟩ | ⟨m, q2, rfl⟩ | ⟨m, q2, rfl⟩ | q2
          · simp [cc] at a1; omega
          · simp [cc] at a1; omega
          · simp [cc] at a1; omega
          · simp [cc] at a1; omega
          · unfold cc at a1; rw [if_neg (by omega), if_pos (by omega)] at a1; omega
          · unfold cc at a1; rw [if_neg (by omega), if_neg (by omega), if_pos (by omega), if_pos (by omega)] at a1; omega
          · unfold cc at a1; rw [if_neg (by omega), if_neg (by omega), if_pos (by omega), if_neg (by omega), if_pos (by omega)] at a1; omega
          · unfold cc at a1; rw [if_neg (by omega), if_neg (by omega), if_pos (by omega), if_neg (by omega), if_neg (by omega)] at a1; omega
          · unfold cc at a1; rw [if_neg (by omega), if_neg (by omega), if_neg (by omega), if_pos (by omega)] at a1; omega
          · unfold cc at a1; rw [if_neg (by omega), if_neg (by omega), if_neg (by omega), if_neg (by omega)] at a1; omega
          · omega
        rw [pT_ge a3, c2]
      · rw [if_neg c2]
  · rw [cv89 q, if_neg (by omega), cv89 q]
theorem e_keyComes {d : Nat} (hd : 5 ≤ d) {s K M q : Nat} (hs : isS s) (G : gdN (cv s h) K M) (hK : K < 10) (e1 : h 55 1 = nI n) (L : gdL (h 56) n lc) (hp : ∀ i, i < 10 → isD lc n (q + i)) : ∃ h', (cv s h' = keyS lc q K (cv s h) ∧ onl s h h') ∧ Cal d eX4_keyComes [.ref 55, .ref s, .int (nI q)] h (some (.int 1)) h' := by
  refine Cal_pr (d := 4) hd rfl (fun Q hq => ?_)
  show WP 4 eX4_keyComes Q 0 [.ref 55, .ref s, .int (nI q), mU] [] h
  obtain ⟨h2, hc, w1, w2⟩ := e_addKey (d := 4) (by omega) hs G hK (-9)
  have lt := hs.lt
  have x1 : h2 55 1 = nI n := by rw [w2 55 (by omega)]; exact e1
  have x2 : gdL (h2 56) n lc := by rw [w2 56 (by omega)]; exact L
  simp only [bX4_keyComes_0, bX4_keyComes_6, bX4_keyComes_13, bX4_keyComes_15, bX4_keyComes_26, tgS hs, Cal_iff hc, nm9 (show K ≤ 100000 by omega), rfS3 hs, tgH hs, lnH hs, v10K hK, nI_cl (show K < 100 by omega), rfH hs hK, t55, e_readFive (Nat.le_refl 4) x1 x2 hp (tgR hs hK) (lnR hs hK) (show ¬ s + 3 + K = 55 by omega) (show ¬ s + 3 + K = 56 by omega), nb1, Option.toList_some, Option.toList_none, List.cons_append, List.nil_append, and_assoc, exists_and_left, exists_eq_left, true_and, and_true, Nat.reduceLeDiff, not_false_eq_true, not_true_eq_false, ↓reduceIte, eq_self, ← Int32.not_lt, ite_not, Classical.not_not]
  refine hq _ ⟨?_, w2.put (by omega) (by omega)⟩
  rw [cv_row hK, w1]
  rfl
theorem cv_pin {s : Nat} {h : mH} {F : Nat → Int32} : cv s (mPut h (s + 1) (pT F (h (s + 1)) 5)) = fun i => if 4 ≤ i ∧ i < 9 then F (i - 4) else cv s h i := by
  refine cv_ext ?_ ?_ ?_ ?_ ?_ ?_ ?_ ?_ ?_ ?_ ?_
  · rw [mPut_ne _ _ (by omega)]; rfl
  · rw [mPut_ne _ _ (by omega)]; rfl
  · rw [mPut_ne _ _ (by omega)]; rfl
  · rw [mPut_ne _ _ (by omega)]; rfl
  · intro t ht; rw [mPut_self, pT_lt ht, if_pos (by omega), show 4 + t - 4 = t by omega]
  · intro k t hk ht; rw [mPut_ne _ _ (by omega), if_neg (by omega), cvR hk ht]
  · intro k hk; rw [mPut_ne _ _ (by omega), if_neg (by omega), cvF hk]
  · intro k hk; rw [mPut_ne _ _ (by omega), if_neg (by omega), cvZ hk]
  · intro m hm; rw [mPut_ne _ _ (by omega), if_neg (by omega), cvD hm]
  · intro m hm; rw [mPut_ne _ _ (by omega), if_neg (by omega), cvG hm]
  · intro i hi; rw [if_neg (by omega), cv89 hi]
def hjT (c : Nat) : Nat := swT (nI c) 99 [157, 214, 214, 214, 214, 214, 214, 214, 129, 116, 138, 214, 214, 214, 214, 214, 201, 214, 188, 214, 214, 208] 214
theorem hjT_c : hjT 108 = 116 ∧ hjT 107 = 129 ∧ hjT 109 = 138 ∧ hjT 99 = 157 ∧ hjT 117 = 188 ∧ hjT 115 = 201 ∧ hjT 120 = 208 := by decide +kernel
theorem sj_n5 {c : Nat} (h : ¬ sj c = 5) : (c = 108 ∧ sj c = 0) ∨ (c = 107 ∧ sj c = 0) ∨ (c = 109 ∧ sj c = 1) ∨ (c = 99 ∧ sj c = 2) ∨ (c = 117 ∧ sj c = 3) ∨ (c = 115 ∧ sj c = 4) ∨ (c = 120 ∧ sj c = 4) := by
  unfold sj at h ⊢
  by_cases c1 : c = 108
  · subst c1; simp
  by_cases c2 : c = 107
  · subst c2; simp
  by_cases c3 : c = 109
  · subst c3; simp
  by_cases c4 : c = 99
  · subst c4; simp
  by_cases c5 : c = 117
  · subst c5; simp
  by_cases c6 : c = 115
  · subst c6; simp
  by_cases c7 : c = 120
  · subst c7; simp
  · simp [c1, c2, c3, c4, c5, c6, c7] at h
/-- what class and text do with a statement -/
theorem jkx {c : Nat} (h : okc 107 c = true) : jmx 0 (kx c) = kx c ∧ ∃ q, q < 6 ∧ kx c = nI q := by
  unfold okc at h
  simp at h
  unfold kx at h ⊢
  split
  · exact ⟨rfl, 0, by omega, rfl⟩
  split
  · exact ⟨rfl, 1, by omega, rfl⟩
  split
  · exact ⟨rfl, 2, by omega, rfl⟩
  split
  · exact ⟨rfl, 3, by omega, rfl⟩
  split
  · exact ⟨rfl, 4, by omega, rfl⟩
  split
  · exact ⟨rfl, 5, by omega, rfl⟩
  · rename_i a b c d e f
    simp [a, b, c, d, e, f] at h
end T3
