/-! what changes a shop -/
def onl (s : Nat) (h h' : mH) : Prop := ∀ c, (c < s ∨ s + 17 ≤ c) → h' c = h c
theorem onl.rfl' {s : Nat} {h : mH} : onl s h h := fun _ _ => rfl
theorem onl.put {s c : Nat} {h h' : mH} {f : Nat → Int32} (o : onl s h h') (h1 : s ≤ c) (h2 : c < s + 17) : onl s h (mPut h' c f) := fun b hb => by rw [mPut_ne _ _ (by omega)]; exact o b hb
theorem onl.trans {s : Nat} {h h' h2 : mH} (o : onl s h h') (o2 : onl s h' h2) : onl s h h2 := fun c hc => (o2 c hc).trans (o c hc)
theorem mPut2 (h : mH) (a : Nat) (f : Nat → Int32) (b j : Nat) : mPut h a f b j = if b = a then f j else h b j := by
  rw [mPut_at]; split <;> rfl
theorem v10K {K : Nat} (h : K < 10) : vp_in (nI K) 10 := vp_nI h (by omega)
def addK (σ : Nat → Int32) (K : Nat) (x : Int32) : Nat → Int32 := upd (upd (upd σ (9 + 7 * K + 5) x) (9 + 7 * K + 6) 0) 0 (nI (K + 1))
theorem e_addKey {d : Nat} (hd : 1 ≤ d) {s K M : Nat} (hs : isS s) {h : mH} (G : gdN (cv s h) K M) (hK : K < 10) (x : Int32) : ∃ h', Cal d eX3_addKey [.ref s, .int x] h (some (.int (nI K))) h' ∧ cv s h' = addK (cv s h) K x ∧ onl s h h' := by
  have e0 : h s 2 = nI K := G.s0
  obtain ⟨r, h', ⟨e, e2, e3⟩, hc⟩ := Cal_ex (d := 0) (E := eX3_addKey) (as := [.ref s, .int x]) (h := h) (Q := fun r h' => r = some (.int (nI K)) ∧ cv s h' = addK (cv s h) K x ∧ onl s h h') rfl (by
    show WP 0 eX3_addKey _ 0 [.ref s, .int x] [] h
    have c10 : nI K < 10 := (nI_ltI (b := 10) (by omega) (by omega)).mpr hK
    have em : nI K + 1 - 1 = nI K := by rw [nI_1, nI_pred]
    simp only [bX3_addKey_0, bX3_addKey_9, bX3_addKey_12, bX3_addKey_22, bX3_addKey_32, bX3_addKey_42, tgS hs, rfS4 hs, rfS5 hs, tgF hs, lnF hs, tgZ hs, lnZ hs, mPut2, upd_at, show ¬ s = s + 13 by omega, show ¬ s = s + 14 by omega, e0, c10, v10K hK, nI_cl (show K < 100 by omega), em, true_or, Option.toList_some, Option.toList_none, List.cons_append, List.nil_append, and_assoc, exists_and_left, exists_eq_left, true_and, and_true, Nat.reduceLeDiff, not_false_eq_true, not_true_eq_false, ↓reduceIte, eq_self, ← Int32.not_lt, ite_not, Classical.not_not]
    refine ⟨?_, ((onl.rfl'.put (by omega) (by omega)).put (by omega) (by omega)).put (by omega) (by omega)⟩
    rw [cv_u0, cv_uZ hK, cv_uF hK, nI_1]
    rfl)
  subst e
  exact ⟨h', Cal_le hc hd, e2, e3⟩
theorem k_addKeyFull {d : Nat} (hd : 1 ≤ d) {s M : Nat} (hs : isS s) {h : mH} (G : gdN (cv s h) 10 M) (x : Int32) (r : Option Value) (h' : mH) : Cal d eX3_addKey [.ref s, .int x] h r h' ↔ r = some (.int (-9)) ∧ h' = h := by
  refine Cal_iff (Cal_le (d := 1) (Cal_of rfl (fun Q hq => ?_)) hd) r h'
  show WP 0 eX3_addKey Q 0 [.ref s, .int x] [] h
  have e0 : h s 2 = 10 := G.s0
  simp only [bX3_addKey_0, bX3_addKey_9, bX3_addKey_12, bX3_addKey_22, bX3_addKey_32, bX3_addKey_42, tgS hs, e0, Int32.reduceLT, Option.toList_some, Option.toList_none, List.cons_append, List.nil_append, and_assoc, exists_and_left, exists_eq_left, true_and, and_true, Nat.reduceLeDiff, not_false_eq_true, not_true_eq_false, ↓reduceIte, eq_self, ← Int32.not_lt, ite_not, Classical.not_not]
  exact hq
def addM (σ : Nat → Int32) (M : Nat) (a b : Int32) : Nat → Int32 := upd (upd (upd σ (79 + 2 * M) a) (79 + 2 * M + 1) b) 1 (nI (M + 1))
theorem e_addMachine {d : Nat} (hd : 1 ≤ d) {s K M : Nat} (hs : isS s) {h : mH} (G : gdN (cv s h) K M) (hM : M < 5) (a b : Int32) : ∃ h', Cal d eX3_addMachine [.ref s, .int a, .int b] h (some (.int 1)) h' ∧ cv s h' = addM (cv s h) M a b ∧ onl s h h' := by
  have e0 : h s 6 = nI M := G.s1
  obtain ⟨r, h', ⟨e, e2, e3⟩, hc⟩ := Cal_ex (d := 0) (E := eX3_addMachine) (as := [.ref s, .int a, .int b]) (h := h) (Q := fun r h' => r = some (.int 1) ∧ cv s h' = addM (cv s h) M a b ∧ onl s h h') rfl (by
    show WP 0 eX3_addMachine _ 0 [.ref s, .int a, .int b] [] h
    have c5 : nI M < 5 := (nI_ltI (b := 5) (by omega) (by omega)).mpr hM
    simp only [bX3_addMachine_0, bX3_addMachine_8, bX3_addMachine_10, bX3_addMachine_20, bX3_addMachine_30, bX3_addMachine_40, tgS hs, rfS7 hs, rfS8 hs, tgD hs, lnD hs, tgG hs, lnG hs, mPut2, upd_at, show ¬ s = s + 15 by omega, show ¬ s = s + 16 by omega, e0, c5, vp_nI hM (show 5 ≤ 100 by omega), nI_cl (show M < 100 by omega), nb1, Option.toList_some, Option.toList_none, List.cons_append, List.nil_append, and_assoc, exists_and_left, exists_eq_left, true_and, and_true, Nat.reduceLeDiff, not_false_eq_true, not_true_eq_false, ↓reduceIte, eq_self, ← Int32.not_lt, ite_not, Classical.not_not]
    refine ⟨?_, ((onl.rfl'.put (by omega) (by omega)).put (by omega) (by omega)).put (by omega) (by omega)⟩
    rw [cv_u1, cv_uG hM, cv_uD hM, nI_1]
    rfl)
  subst e
  exact ⟨h', Cal_le hc hd, e2, e3⟩
theorem k_addMachineFull {d : Nat} (hd : 1 ≤ d) {s K : Nat} (hs : isS s) {h : mH} (G : gdN (cv s h) K 5) (a b : Int32) (r : Option Value) (h' : mH) : Cal d eX3_addMachine [.ref s, .int a, .int b] h r h' ↔ r = some (.int 0) ∧ h' = h := by
  refine Cal_iff (Cal_le (d := 1) (Cal_of rfl (fun Q hq => ?_)) hd) r h'
  show WP 0 eX3_addMachine Q 0 [.ref s, .int a, .int b] [] h
  have e0 : h s 6 = 5 := G.s1
  simp only [bX3_addMachine_0, bX3_addMachine_8, bX3_addMachine_10, bX3_addMachine_20, bX3_addMachine_30, bX3_addMachine_40, tgS hs, e0, Int32.reduceLT, nb0, Option.toList_some, Option.toList_none, List.cons_append, List.nil_append, and_assoc, exists_and_left, exists_eq_left, true_and, and_true, Nat.reduceLeDiff, not_false_eq_true, not_true_eq_false, ↓reduceIte, eq_self, ← Int32.not_lt, ite_not, Classical.not_not]
  exact hq
/-! wear -/
def wrT (σ : Nat → Int32) (k : Nat) (n : Int32) (t i : Nat) : Int32 := if 9 + 7 * k ≤ i ∧ i < 9 + 7 * k + t then jmx 0 (σ i - n / 10) else if 4 ≤ i ∧ i < 4 + t then jmx 0 (σ i - n / 20) else σ i
theorem wrT_0 (σ : Nat → Int32) (k : Nat) (n : Int32) : wrT σ k n 0 = σ := by
  funext i; unfold wrT; rw [if_neg (by omega), if_neg (by omega)]
theorem wrT_r {σ : Nat → Int32} {k : Nat} {n : Int32} {t : Nat} (ht : t < 5) : wrT σ k n t (9 + 7 * k + t) = σ (9 + 7 * k + t) := by
  unfold wrT; rw [if_neg (by omega), if_neg (by omega)]
theorem wrT_p {σ : Nat → Int32} {k : Nat} {n : Int32} {t : Nat} (ht : t < 5) : wrT σ k n t (4 + t) = σ (4 + t) := by
  unfold wrT; rw [if_neg (by omega), if_neg (by omega)]
theorem wrT_s {σ : Nat → Int32} {k : Nat} {n : Int32} {t : Nat} (ht : t < 5) : upd (upd (wrT σ k n t) (9 + 7 * k + t) (jmx 0 (σ (9 + 7 * k + t) - n / 10))) (4 + t) (jmx 0 (σ (4 + t) - n / 20)) = wrT σ k n (t + 1) := by
  funext i
  simp only [upd_at]
  unfold wrT
  by_cases h1 : i = 4 + t
  · subst h1; rw [if_pos rfl, if_neg (by omega), if_pos (by omega)]
  · rw [if_neg h1]
    by_cases h2 : i = 9 + 7 * k + t
    · subst h2; rw [if_pos rfl, if_pos (by omega)]
    · rw [if_neg h2]
      by_cases h3 : 9 + 7 * k ≤ i ∧ i < 9 + 7 * k + t
      · rw [if_pos h3, if_pos (by omega)]
      · rw [if_neg h3, if_neg (show ¬ (9 + 7 * k ≤ i ∧ i < 9 + 7 * k + (t + 1)) by omega)]
        by_cases h4 : 4 ≤ i ∧ i < 4 + t
        · rw [if_pos h4, if_pos (by omega)]
        · rw [if_neg h4, if_neg (by omega)]
/-- used n times -/
def usd (σ : Nat → Int32) (k : Nat) (n : Int32) : Nat → Int32 := upd (wrT σ k n 5) 2 (σ 2 + n)
theorem e_wear {d : Nat} (hd : 2 ≤ d) {s k : Nat} (hs : isS s) {h : mH} (hk : k < 10) (n : Int32) : ∃ h', Cal d eX3_wear [.ref s, .int (nI k), .int n] h none h' ∧ cv s h' = usd (cv s h) k n ∧ onl s h h' := by
  obtain ⟨r, h', ⟨e, e2, e3⟩, hc⟩ := Cal_ex (d := 1) (E := eX3_wear) (as := [.ref s, .int (nI k), .int n]) (h := h) (Q := fun r h' => r = none ∧ cv s h' = usd (cv s h) k n ∧ onl s h h') rfl (by
    show WP 1 eX3_wear _ 0 [.ref s, .int (nI k), .int n, mU] [] h
    simp only [bX3_wear_0]
    refine wloopP (fun i hh => WP 1 eX3_wear _ 2 [.ref s, .int (nI k), .int n, .int (nI i)] [] hh) 5 (fun i hh => cv s hh = wrT (cv s h) k n i ∧ onl s h hh) ?_ ?_ 5 0 h (by omega) ⟨(wrT_0 _ _ _).symm, onl.rfl'⟩
    · intro i hh hi hI hw
      have er : hh (s + 3 + k) i = cv s h (9 + 7 * k + i) := by rw [← cvR (s := s) (h := hh) hk hi, hI.1, wrT_r hi]
      have ep : hh (s + 1) i = cv s h (4 + i) := by rw [← cvP (s := s) (h := hh) hi, hI.1, wrT_p hi]
      rw [bX3_wear_2]
      simp only [bX3_wear_0, bX3_wear_7, bX3_wear_26, bX3_wear_27, bX3_wear_42, bX3_wear_43, bX3_wear_49, bX3_wear_59, tgS hs, rfS3 hs, tgH hs, lnH hs, rfS0 hs, tgP hs, lnP hs, show (5 : Int32) = nI 5 from rfl, nlt (show i ≤ 100000 by omega) (show 5 ≤ 100000 by omega), hi, v10K hk, nI_cl (show k < 100 by omega), nI_cl (show i < 100 by omega), vp_nI hi (show 5 ≤ 100 by omega), rfH hs hk, tgR hs hk, lnR hs hk, k_wornHeight (Nat.le_refl 1), k_wornPin (Nat.le_refl 1), mPut2, show ¬ s + 1 = s + 3 + k by omega, er, ep, nI_1, Option.toList_some, Option.toList_none, List.cons_append, List.nil_append, and_assoc, exists_and_left, exists_eq_left, true_and, and_true, Nat.reduceLeDiff, not_false_eq_true, not_true_eq_false, ↓reduceIte, eq_self, ← Int32.not_lt, ite_not, Classical.not_not]
      refine hw _ ⟨?_, (hI.2.put (by omega) (by omega)).put (by omega) (by omega)⟩
      rw [cv_uP hi, cv_uR hk hi, hI.1, wrT_s hi]
    · intro hh hI
      simp only [bX3_wear_2, bX3_wear_49, bX3_wear_0, bX3_wear_7, bX3_wear_26, bX3_wear_27, bX3_wear_42, bX3_wear_43, bX3_wear_49, bX3_wear_59, tgS hs, show (5 : Int32) = nI 5 from rfl, nlt (show 5 ≤ 100000 by omega) (show 5 ≤ 100000 by omega), Nat.lt_irrefl, Option.toList_some, Option.toList_none, List.cons_append, List.nil_append, and_assoc, exists_and_left, exists_eq_left, true_and, and_true, Nat.reduceLeDiff, not_false_eq_true, not_true_eq_false, ↓reduceIte, eq_self, ← Int32.not_lt, ite_not, Classical.not_not]
      refine ⟨?_, hI.2.put (by omega) (by omega)⟩
      rw [cv_u2, hI.1]
      have e9 : hh s 9 = cv s h 2 := by rw [← cv2 (s := s) (h := hh), hI.1]; unfold wrT; rw [if_neg (by omega), if_neg (by omega)]
      rw [e9]
      rfl)
  subst e
  exact ⟨h', Cal_le hc hd, e2, e3⟩
/-! a copy -/
/-- the row with key K cut from key k by machine m -/
def cutS (σ : Nat → Int32) (K k m i : Nat) : Int32 := if i = 0 then nI (K + 1) else if i = 9 + 7 * K + 5 then nI k else if i = 9 + 7 * K + 6 then 0 else if 9 + 7 * K ≤ i ∧ i < 9 + 7 * K + 5 then jcut (σ (79 + 2 * m)) (σ (79 + 2 * m + 1)) (σ (9 + 7 * k + (i - (9 + 7 * K)))) (nI (i - (9 + 7 * K))) else σ i
def cutT (σ : Nat → Int32) (K k m t i : Nat) : Int32 := if 9 + 7 * K ≤ i ∧ i < 9 + 7 * K + t then jcut (σ (79 + 2 * m)) (σ (79 + 2 * m + 1)) (σ (9 + 7 * k + (i - (9 + 7 * K)))) (nI (i - (9 + 7 * K))) else addK σ K (nI k) i
theorem cutT_0 (σ : Nat → Int32) (K k m : Nat) : cutT σ K k m 0 = addK σ K (nI k) := by
  funext i; unfold cutT; rw [if_neg (by omega)]
theorem cutT_s {σ : Nat → Int32} {K k m t : Nat} : upd (cutT σ K k m t) (9 + 7 * K + t) (jcut (σ (79 + 2 * m)) (σ (79 + 2 * m + 1)) (σ (9 + 7 * k + t)) (nI t)) = cutT σ K k m (t + 1) := by
  funext i
  simp only [upd_at]
  unfold cutT
  by_cases h1 : i = 9 + 7 * K + t
  · subst h1; rw [if_pos rfl, if_pos (by omega), show 9 + 7 * K + t - (9 + 7 * K) = t by omega]
  · rw [if_neg h1]
    by_cases h3 : 9 + 7 * K ≤ i ∧ i < 9 + 7 * K + t
    · rw [if_pos h3, if_pos (by omega)]
    · rw [if_neg h3, if_neg (by omega)]
theorem cutT_5 {σ : Nat → Int32} {K k m : Nat} : cutT σ K k m 5 = cutS σ K k m := by
  funext i
  unfold cutT cutS addK
  simp only [upd_at]
  by_cases h0 : i = 0
  · rw [if_neg (by omega), if_pos h0, if_pos h0]
  · rw [if_neg h0, if_neg h0]
    by_cases h3 : 9 + 7 * K ≤ i ∧ i < 9 + 7 * K + 5
    · rw [if_pos h3, if_neg (by omega), if_neg (by omega), if_pos h3]
    · rw [if_neg h3, if_neg h3]
      by_cases h1 : i = 9 + 7 * K + 6
      · rw [if_pos h1, if_neg (by omega), if_pos h1]
      · rw [if_neg h1, if_neg h1]
/-- reading what a copy leaves as it was -/
theorem cutT_o {σ : Nat → Int32} {K k m t i : Nat} (h0 : ¬ i = 0) (h1 : i < 9 + 7 * K ∨ 9 + 7 * K + 7 ≤ i) (ht : t ≤ 5) : cutT σ K k m t i = σ i := by
  unfold cutT addK
  simp only [upd_at]
  rw [if_neg (by omega), if_neg h0, if_neg (by omega), if_neg (by omega)]
theorem addK_gd {σ : Nat → Int32} {K M : Nat} (G : gdN σ K M) (hK : K < 10) {x : Int32} (hx : x = -9 ∨ ∃ j, j < K ∧ x = nI j) : gdN (addK σ K x) (K + 1) M := by
  have hz : ∀ i, ¬ i = 0 → ¬ i = 9 + 7 * K + 5 → ¬ i = 9 + 7 * K + 6 → addK σ K x i = σ i := fun i a b c => by unfold addK; simp only [upd_at]; rw [if_neg a, if_neg c, if_neg b]
  refine ⟨by omega, by unfold addK; rfl, G.m5, by rw [hz 1 (by omega) (by omega) (by omega)]; exact G.s1, by rw [hz 2 (by omega) (by omega) (by omega)]; exact G.s2, by rw [hz 3 (by omega) (by omega) (by omega)]; exact G.s3, fun t ht => by rw [hz _ (by omega) (by omega) (by omega)]; exact G.p t ht, fun k t hk ht => by rw [hz _ (by omega) (by omega) (by omega)]; exact G.r hk t ht, ?_, ?_, fun m hm => by rw [hz _ (by omega) (by omega) (by omega)]; exact G.d hm, fun m hm => by rw [hz _ (by omega) (by omega) (by omega)]; exact G.g hm, fun i hi => by rw [hz _ (by omega) (by omega) (by omega)]; exact G.o i hi⟩
  · intro k hk
    by_cases e : k = K
    · subst e
      have : addK σ k x (9 + 7 * k + 5) = x := by unfold addK; simp only [upd_at]; rw [if_neg (by omega), if_neg (by omega), if_true]
      rw [this]; exact hx
    · rw [hz _ (by omega) (by omega) (by omega)]; exact G.f (by omega)
  · intro k hk
    by_cases e : k = K
    · subst e
      have : addK σ k x (9 + 7 * k + 6) = 0 := by unfold addK; simp only [upd_at]; rw [if_neg (by omega), if_true]
      rw [this]; exact Or.inl rfl
    · rw [hz _ (by omega) (by omega) (by omega)]; exact G.z hk
theorem e_addCopy {d : Nat} (hd : 4 ≤ d) {s K M k m : Nat} (hs : isS s) {h : mH} (G : gdN (cv s h) K M) (hK : K < 10) (hk : k < K) (hm : m < M) : ∃ h', Cal d eX3_addCopy [.ref s, .int (nI k), .int (nI m)] h (some (.int (nI K))) h' ∧ cv s h' = cutS (cv s h) K k m ∧ onl s h h' := by
  have e0 : h s 2 = nI K := G.s0
  have e1 : h s 6 = nI M := G.s1
  have m5 := G.m5
  obtain ⟨h1, hc1, e11, e12⟩ := e_addKey (d := 3) (by omega) hs G hK (nI k)
  obtain ⟨r, h', ⟨e, e2, e3⟩, hc⟩ := Cal_ex (d := 3) (E := eX3_addCopy) (as := [.ref s, .int (nI k), .int (nI m)]) (h := h) (Q := fun r h' => r = some (.int (nI K)) ∧ cv s h' = cutS (cv s h) K k m ∧ onl s h h') rfl (by
    show WP 3 eX3_addCopy _ 0 [.ref s, .int (nI k), .int (nI m), mU, mU] [] h
    simp only [bX3_addCopy_0, bX3_addCopy_5, bX3_addCopy_8, bX3_addCopy_13, bX3_addCopy_16, bX3_addCopy_19, bX3_addCopy_24, bX3_addCopy_31, bX3_addCopy_34, bX3_addCopy_43, bX3_addCopy_67, bX3_addCopy_68, bX3_addCopy_74, tgS hs, k_hasKey (show 1 ≤ 3 by omega) hs, k_hasMachine (show 1 ≤ 3 by omega) hs, e0, e1, ikk (show k < 2 ^ 31 by omega) (show K ≤ 1000 by omega), ikk (show m < 2 ^ 31 by omega) (show M ≤ 1000 by omega), hk, hm, decide_true, bz0, Bool.true_eq_false, Cal_iff hc1, nm9 (show K ≤ 100000 by omega), Option.toList_some, Option.toList_none, List.cons_append, List.nil_append, and_assoc, exists_and_left, exists_eq_left, true_and, and_true, Nat.reduceLeDiff, not_false_eq_true, not_true_eq_false, ↓reduceIte, eq_self, ← Int32.not_lt, ite_not, Classical.not_not]
    refine wloopP (fun i hh => WP 3 eX3_addCopy _ 37 [.ref s, .int (nI k), .int (nI m), .int (nI K), .int (nI i)] [] hh) 5 (fun i hh => cv s hh = cutT (cv s h) K k m i ∧ onl s h hh) ?_ ?_ 5 0 h1 (by omega) ⟨by rw [e11, cutT_0], e12⟩
    · intro i hh hi hI hw
      have er : hh (s + 3 + k) i = cv s h (9 + 7 * k + i) := by rw [← cvR (s := s) (h := hh) (show k < 10 by omega) hi, hI.1, cutT_o (by omega) (by omega) (by omega)]
      have ed : hh (s + 15) m = cv s h (79 + 2 * m) := by rw [← cvD (s := s) (h := hh) (show m < 5 by omega), hI.1, cutT_o (by omega) (by omega) (by omega)]
      have eg : hh (s + 16) m = cv s h (79 + 2 * m + 1) := by rw [← cvG (s := s) (h := hh) (show m < 5 by omega), hI.1, cutT_o (by omega) (by omega) (by omega)]
      rw [bX3_addCopy_37]
      simp only [bX3_addCopy_0, bX3_addCopy_5, bX3_addCopy_8, bX3_addCopy_13, bX3_addCopy_16, bX3_addCopy_19, bX3_addCopy_24, bX3_addCopy_31, bX3_addCopy_34, bX3_addCopy_43, bX3_addCopy_67, bX3_addCopy_68, bX3_addCopy_74, tgS hs, rfS3 hs, tgH hs, lnH hs, show (5 : Int32) = nI 5 from rfl, nlt (show i ≤ 100000 by omega) (show 5 ≤ 100000 by omega), hi, v10K hK, v10K (show k < 10 by omega), nI_cl (show k < 100 by omega), nI_cl (show K < 100 by omega), nI_cl (show i < 100 by omega), vp_nI hi (show 5 ≤ 100 by omega), rfH hs hK, rfH hs (show k < 10 by omega), tgR hs hK, lnR hs hK, tgR hs (show k < 10 by omega), lnR hs (show k < 10 by omega), k_cutBy (Nat.le_refl 3) hs (show m < 5 by omega), er, ed, eg, nI_1, Option.toList_some, Option.toList_none, List.cons_append, List.nil_append, and_assoc, exists_and_left, exists_eq_left, true_and, and_true, Nat.reduceLeDiff, not_false_eq_true, not_true_eq_false, ↓reduceIte, eq_self, ← Int32.not_lt, ite_not, Classical.not_not]
      refine hw _ ⟨?_, hI.2.put (by omega) (by omega)⟩
      rw [cv_uR hK hi, hI.1, cutT_s]
    · intro hh hI
      simp only [bX3_addCopy_37, bX3_addCopy_0, bX3_addCopy_5, bX3_addCopy_8, bX3_addCopy_13, bX3_addCopy_16, bX3_addCopy_19, bX3_addCopy_24, bX3_addCopy_31, bX3_addCopy_34, bX3_addCopy_43, bX3_addCopy_67, bX3_addCopy_68, bX3_addCopy_74, show (5 : Int32) = nI 5 from rfl, nlt (show 5 ≤ 100000 by omega) (show 5 ≤ 100000 by omega), Nat.lt_irrefl, Option.toList_some, Option.toList_none, List.cons_append, List.nil_append, and_assoc, exists_and_left, exists_eq_left, true_and, and_true, Nat.reduceLeDiff, not_false_eq_true, not_true_eq_false, ↓reduceIte, eq_self, ← Int32.not_lt, ite_not, Classical.not_not]
      exact ⟨by rw [hI.1, cutT_5], hI.2⟩)
  subst e
  exact ⟨h', Cal_le hc hd, e2, e3⟩
/-- no copy: no such machine, or no room -/
theorem k_addCopyNo {d : Nat} (hd : 4 ≤ d) {s K M k : Nat} (hs : isS s) {h : mH} (G : gdN (cv s h) K M) (hk : k < K) {y : Int32} (hno : ik y (nI M) = false ∨ K = 10) (r : Option Value) (h' : mH) : Cal d eX3_addCopy [.ref s, .int (nI k), .int y] h r h' ↔ r = some (.int (-9)) ∧ h' = h := by
  refine Cal_iff (Cal_le (d := 4) (Cal_of rfl (fun Q hq => ?_)) hd) r h'
  show WP 3 eX3_addCopy Q 0 [.ref s, .int (nI k), .int y, mU, mU] [] h
  have e0 : h s 2 = nI K := G.s0
  have e1 : h s 6 = nI M := G.s1
  have hk10 := G.k10
  simp only [bX3_addCopy_0, bX3_addCopy_5, bX3_addCopy_8, bX3_addCopy_13, bX3_addCopy_16, bX3_addCopy_19, bX3_addCopy_24, bX3_addCopy_31, bX3_addCopy_34, bX3_addCopy_43, bX3_addCopy_67, bX3_addCopy_68, bX3_addCopy_74, tgS hs, k_hasKey (show 1 ≤ 3 by omega) hs, k_hasMachine (show 1 ≤ 3 by omega) hs, e0, e1, ikk (show k < 2 ^ 31 by omega) (show K ≤ 1000 by omega), hk, decide_true, bz0, Bool.true_eq_false, Option.toList_some, Option.toList_none, List.cons_append, List.nil_append, and_assoc, exists_and_left, exists_eq_left, true_and, and_true, Nat.reduceLeDiff, not_false_eq_true, not_true_eq_false, ↓reduceIte, eq_self, ← Int32.not_lt, ite_not, Classical.not_not]
  cases e : ik y (nI M) with
  | false => simp only [decide_true, decide_false, not_false_eq_true, not_true_eq_false, ↓reduceIte, Bool.false_eq_true, Bool.and_true, Bool.true_and, Bool.false_and, Bool.and_false, true_and, false_and, and_true, and_false]; exact hq
  | true =>
    rw [e] at hno
    have hK : K = 10 := hno.resolve_left (by simp)
    subst hK
    simp only [bX3_addCopy_0, bX3_addCopy_5, bX3_addCopy_8, bX3_addCopy_13, bX3_addCopy_16, bX3_addCopy_19, bX3_addCopy_24, bX3_addCopy_31, bX3_addCopy_34, bX3_addCopy_43, bX3_addCopy_67, bX3_addCopy_68, bX3_addCopy_74, k_addKeyFull (show 1 ≤ 3 by omega) hs G, Bool.true_eq_false, Option.toList_some, Option.toList_none, List.cons_append, List.nil_append, and_assoc, exists_and_left, exists_eq_left, true_and, and_true, Nat.reduceLeDiff, not_false_eq_true, not_true_eq_false, ↓reduceIte, eq_self, ← Int32.not_lt, ite_not, Classical.not_not]
    exact hq

/-! one shop becomes another -/
theorem c05 (f g : Nat → Int32) : va_cpy f g (Int32.toNatClampNeg 0) (Int32.toNatClampNeg 0) (Int32.toNatClampNeg 5) = pT f g 5 := pT_cpy f g
theorem isS_apart {s s' : Nat} (hs : isS s) (hs' : isS s') (hne : ¬ s = s') : s + 17 ≤ s' ∨ s' + 17 ≤ s := by
  rcases hs with rfl | rfl | rfl <;> rcases hs' with rfl | rfl | rfl <;> first | omega | exact absurd rfl hne
theorem e_becomes {d : Nat} (hd : 1 ≤ d) {s s' : Nat} (hs : isS s) (hs' : isS s') (hne : ¬ s = s') {h : mH} (hz : ∀ k, k < 10 → h (s' + 14) k = 0 ∨ h (s' + 14) k = 1) : ∃ h', Cal d eX3_becomes [.ref s, .ref s'] h none h' ∧ cv s h' = cv s' h ∧ onl s h h' := by
  have hap := isS_apart hs hs' hne
  have nc : Int32.toNatClampNeg 0 + Int32.toNatClampNeg 5 ≤ 5 := by decide
  obtain ⟨r, h', ⟨e, e2, e3⟩, hc⟩ := Cal_ex (d := 0) (E := eX3_becomes) (as := [.ref s, .ref s']) (h := h) (Q := fun r h' => r = none ∧ cv s h' = cv s' h ∧ onl s h h') rfl (by
    show WP 0 eX3_becomes _ 0 [.ref s, .ref s', mU] [] h
    simp only [bX3_becomes_0, bX3_becomes_14, bX3_becomes_22, bX3_becomes_30, bX3_becomes_38, bX3_becomes_56, bX3_becomes_68, bX3_becomes_79, bX3_becomes_80, bX3_becomes_86, bX3_becomes_94, bX3_becomes_108, bX3_becomes_122, bX3_becomes_130, tgS hs, tgS hs', rfS0 hs, rfS0 hs', tgP hs, tgP hs', lnP hs, lnP hs', nc, c05, mPut2, show ¬ s' = s + 1 by omega, show ¬ s' = s by omega, Option.toList_some, Option.toList_none, List.cons_append, List.nil_append, and_assoc, exists_and_left, exists_eq_left, true_and, and_true, Nat.reduceLeDiff, not_false_eq_true, not_true_eq_false, ↓reduceIte, eq_self, ← Int32.not_lt, ite_not, Classical.not_not]
    refine wloopP (fun i hh => WP 0 eX3_becomes _ 32 [.ref s, .ref s', .int (nI i)] [] hh) 10 (fun i hh => onl s h hh ∧ hh s 1 = h s' 1 ∧ hh s 2 = h s' 2 ∧ (∀ t, t < 5 → hh (s + 1) t = h (s' + 1) t) ∧ ∀ k, k < i → (∀ t, t < 5 → hh (s + 3 + k) t = h (s' + 3 + k) t) ∧ hh (s + 13) k = h (s' + 13) k ∧ hh (s + 14) k = h (s' + 14) k) ?_ ?_ 10 0 _ (by omega) ?_
    · intro i hh hi hI hw
      obtain ⟨i1, i2, i3, i4, i5⟩ := hI
      have fr0 : ∀ c, s' ≤ c → c < s' + 17 → hh c = h c := fun c a b => i1 c (by omega)
      have ez := hz i hi
      rw [← fr0 (s' + 14) (by omega) (by omega)] at ez
      rw [bX3_becomes_32]
      simp only [bX3_becomes_0, bX3_becomes_14, bX3_becomes_22, bX3_becomes_30, bX3_becomes_38, bX3_becomes_56, bX3_becomes_68, bX3_becomes_79, bX3_becomes_80, bX3_becomes_86, bX3_becomes_94, bX3_becomes_108, bX3_becomes_122, bX3_becomes_130, tgS hs, tgS hs', rfS3 hs, rfS3 hs', tgH hs, tgH hs', lnH hs, lnH hs', rfS4 hs, rfS4 hs', tgF hs, tgF hs', lnF hs, lnF hs', rfS5 hs, rfS5 hs', tgZ hs, tgZ hs', lnZ hs, lnZ hs', rfH hs hi, rfH hs' hi, tgR hs hi, tgR hs' hi, lnR hs hi, lnR hs' hi, show (10 : Int32) = nI 10 from rfl, nlt (show i ≤ 100000 by omega) (show 10 ≤ 100000 by omega), hi, v10K hi, nI_cl (show i < 100 by omega), nc, c05, mPut2, show ¬ s' + 13 = s + 3 + i by omega, show ¬ s' + 14 = s + 13 by omega, show ¬ s' + 14 = s + 3 + i by omega, ez, nI_1, Option.toList_some, Option.toList_none, List.cons_append, List.nil_append, and_assoc, exists_and_left, exists_eq_left, true_and, and_true, Nat.reduceLeDiff, not_false_eq_true, not_true_eq_false, ↓reduceIte, eq_self, ← Int32.not_lt, ite_not, Classical.not_not]
      refine hw _ ⟨((i1.put (by omega) (by omega)).put (by omega) (by omega)).put (by omega) (by omega), ?_, ?_, ?_, ?_⟩
      · simp only [mPut2, show ¬ s = s + 14 by omega, show ¬ s = s + 13 by omega, show ¬ s = s + 3 + i by omega, if_false]; exact i2
      · simp only [mPut2, show ¬ s = s + 14 by omega, show ¬ s = s + 13 by omega, show ¬ s = s + 3 + i by omega, if_false]; exact i3
      · intro t ht
        simp only [mPut2, show ¬ s + 1 = s + 14 by omega, show ¬ s + 1 = s + 13 by omega, show ¬ s + 1 = s + 3 + i by omega, if_false]; exact i4 t ht
      · intro k hk
        simp only [mPut2, upd_at, mPut_at, show ¬ s + 3 + k = s + 14 by omega, show ¬ s + 3 + k = s + 13 by omega, show ¬ s + 13 = s + 14 by omega, show ¬ s + 13 = s + 3 + i by omega, show ¬ s + 14 = s + 13 by omega, show ¬ s + 14 = s + 3 + i by omega, if_false, if_true]
        by_cases e : k = i
        · subst e
          simp only [if_true]
          refine ⟨fun t ht => by rw [pT_lt ht, fr0 (s' + 3 + k) (by omega) (by omega)], by rw [fr0 (s' + 13) (by omega) (by omega)], by rw [fr0 (s' + 14) (by omega) (by omega)]⟩
        · simp only [e, show ¬ s + 3 + k = s + 3 + i by omega, if_false]
          exact i5 k (by omega)
    · intro hh hI
      obtain ⟨i1, i2, i3, i4, i5⟩ := hI
      have fr0 : ∀ c, s' ≤ c → c < s' + 17 → hh c = h c := fun c a b => i1 c (by omega)
      simp only [bX3_becomes_32, bX3_becomes_0, bX3_becomes_14, bX3_becomes_22, bX3_becomes_30, bX3_becomes_38, bX3_becomes_56, bX3_becomes_68, bX3_becomes_79, bX3_becomes_80, bX3_becomes_86, bX3_becomes_94, bX3_becomes_108, bX3_becomes_122, bX3_becomes_130, tgS hs, tgS hs', rfS7 hs, rfS7 hs', rfS8 hs, rfS8 hs', tgD hs, tgD hs', lnD hs, lnD hs', tgG hs, tgG hs', lnG hs, lnG hs', show (10 : Int32) = nI 10 from rfl, nlt (show 10 ≤ 100000 by omega) (show 10 ≤ 100000 by omega), Nat.lt_irrefl, nc, c05, mPut2, show ¬ s' = s + 16 by omega, show ¬ s' = s + 15 by omega, show ¬ s' = s by omega, Option.toList_some, Option.toList_none, List.cons_append, List.nil_append, and_assoc, exists_and_left, exists_eq_left, true_and, and_true, Nat.reduceLeDiff, not_false_eq_true, not_true_eq_false, ↓reduceIte, eq_self, ← Int32.not_lt, ite_not, Classical.not_not]
      refine ⟨?_, (((i1.put (by omega) (by omega)).put (by omega) (by omega)).put (by omega) (by omega)).put (by omega) (by omega)⟩
      refine cv_ext ?_ ?_ ?_ ?_ ?_ ?_ ?_ ?_ ?_ ?_ (fun i hi => cv89 hi)
      · simp only [mPut2, mPut_at, upd_at, show ¬ s = s + 16 by omega, show ¬ s = s + 15 by omega, if_false, if_true, Nat.reduceEqDiff]; exact i3
      · simp only [mPut2, mPut_at, upd_at, show ¬ s = s + 16 by omega, show ¬ s = s + 15 by omega, if_false, if_true, Nat.reduceEqDiff]; rw [fr0 s' (by omega) (by omega)]; rfl
      · simp only [mPut2, mPut_at, upd_at, show ¬ s = s + 16 by omega, show ¬ s = s + 15 by omega, if_false, if_true, Nat.reduceEqDiff]; rw [fr0 s' (by omega) (by omega)]; rfl
      · simp only [mPut2, mPut_at, upd_at, show ¬ s = s + 16 by omega, show ¬ s = s + 15 by omega, if_false, if_true, Nat.reduceEqDiff]; exact i2
      · intro t ht
        simp only [mPut2, show ¬ s + 1 = s by omega, show ¬ s + 1 = s + 16 by omega, show ¬ s + 1 = s + 15 by omega, if_false]; rw [i4 t ht, cvP ht]
      · intro k t hk ht
        simp only [mPut2, show ¬ s + 3 + k = s by omega, show ¬ s + 3 + k = s + 16 by omega, show ¬ s + 3 + k = s + 15 by omega, if_false]; rw [(i5 k hk).1 t ht, cvR hk ht]
      · intro k hk
        simp only [mPut2, show ¬ s + 13 = s by omega, show ¬ s + 13 = s + 16 by omega, show ¬ s + 13 = s + 15 by omega, if_false]; rw [(i5 k hk).2.1, cvF hk]
      · intro k hk
        simp only [mPut2, show ¬ s + 14 = s by omega, show ¬ s + 14 = s + 16 by omega, show ¬ s + 14 = s + 15 by omega, if_false]; rw [(i5 k hk).2.2, cvZ hk]
      · intro m hm
        simp only [mPut2, mPut_at, show ¬ s + 15 = s by omega, show ¬ s + 15 = s + 16 by omega, show ¬ s' + 15 = s by omega, if_false, if_true]; rw [pT_lt hm, fr0 (s' + 15) (by omega) (by omega), cvD hm]
      · intro m hm
        simp only [mPut2, mPut_at, show ¬ s + 16 = s by omega, show ¬ s' + 16 = s by omega, show ¬ s' + 16 = s + 15 by omega, show ¬ s + 16 = s + 15 by omega, if_false, if_true]; rw [pT_lt hm, fr0 (s' + 16) (by omega) (by omega), cvG hm]
    · refine ⟨((onl.rfl'.put (by omega) (by omega)).put (by omega) (by omega)).put (by omega) (by omega), ?_, ?_, ?_, fun k hk => by omega⟩
      · simp only [mPut2, mPut_at, upd_at, show ¬ s = s + 1 by omega, if_false, if_true, Nat.reduceEqDiff]
      · simp only [mPut2, mPut_at, upd_at, show ¬ s = s + 1 by omega, if_false, if_true, Nat.reduceEqDiff]
      · intro t ht
        simp only [mPut2, show ¬ s + 1 = s by omega, if_false, if_true]; rw [pT_lt ht])
  subst e
  exact ⟨h', Cal_le hc hd, e2, e3⟩
/-! the worst tooth -/
def wst (f p : Nat → Int32) : Nat → Nat
  | 0 => 0
  | t + 1 => if ap (f (wst f p t)) (p (wst f p t)) < ap (f (t + 1)) (p (t + 1)) then t + 1 else wst f p t
theorem wst_le (f p : Nat → Int32) : ∀ t, wst f p t ≤ t
  | 0 => Nat.le_refl _
  | t + 1 => by
    have := wst_le f p t
    rw [wst]; split <;> omega
theorem k_worstTooth {d : Nat} (hd : 1 ≤ d) {s a : Nat} (hs : isS s) (ha : tg a = 100) (hl : ln a = 5) {h : mH} (hf : r99 (h a)) (hp : r99 (h (s + 1))) (r : Option Value) (h' : mH) : Cal d eX3_worstTooth [.ref s, .ref a] h r h' ↔ r = some (.int (nI (wst (h a) (h (s + 1)) 4))) ∧ h' = h := by
  refine Cal_iff (Cal_le (d := 1) (Cal_of rfl (fun Q hq => ?_)) hd) r h'
  show WP 0 eX3_worstTooth Q 0 [.ref s, .ref a, mU, mU] [] h
  simp only [bX3_worstTooth_0]
  have e : ∀ t, t < 5 → jab (h a t - h (s + 1) t) = ap (h a t) (h (s + 1) t) := fun t ht => jab_ap (hf t ht) (hp t ht)
  refine wl (fun i => WP 0 eX3_worstTooth Q 4 [.ref s, .ref a, .int (nI (wst (h a) (h (s + 1)) i)), .int (nI (i + 1))] [] h) 4 ?_ 4 0 (by omega) ?_
  · intro i hi hw
    have hwl := wst_le (h a) (h (s + 1)) i
    have e1 := e (i + 1) (by omega)
    have e2 := e (wst (h a) (h (s + 1)) i) (by omega)
    rw [bX3_worstTooth_4]
    rw [wst] at hw
    simp only [bX3_worstTooth_0, bX3_worstTooth_9, bX3_worstTooth_38, bX3_worstTooth_40, bX3_worstTooth_46, tgS hs, rfS0 hs, tgP hs, lnP hs, ha, hl, show (5 : Int32) = nI 5 from rfl, nlt (show i + 1 ≤ 100000 by omega) (show 5 ≤ 100000 by omega), show i + 1 < 5 by omega, vp_nI (show i + 1 < 5 by omega) (show 5 ≤ 100 by omega), vp_nI (show wst (h a) (h (s + 1)) i < 5 by omega) (show 5 ≤ 100 by omega), nI_cl (show i + 1 < 100 by omega), nI_cl (show wst (h a) (h (s + 1)) i < 100 by omega), e1, e2, nI_1, Option.toList_some, Option.toList_none, List.cons_append, List.nil_append, and_assoc, exists_and_left, exists_eq_left, true_and, and_true, Nat.reduceLeDiff, not_false_eq_true, not_true_eq_false, ↓reduceIte, eq_self, ← Int32.not_lt, ite_not, Classical.not_not]
    by_cases c : ap (h a (wst (h a) (h (s + 1)) i)) (h (s + 1) (wst (h a) (h (s + 1)) i)) < ap (h a (i + 1)) (h (s + 1) (i + 1)) <;> simp only [c, decide_true, decide_false, not_false_eq_true, not_true_eq_false, ↓reduceIte, Bool.false_eq_true, Bool.and_true, Bool.true_and, Bool.false_and, Bool.and_false, true_and, false_and, and_true, and_false] at hw ⊢ <;> exact hw
  · simp only [bX3_worstTooth_4, bX3_worstTooth_0, bX3_worstTooth_9, bX3_worstTooth_38, bX3_worstTooth_40, bX3_worstTooth_46, show (5 : Int32) = nI 5 from rfl, nlt (show 4 + 1 ≤ 100000 by omega) (show 5 ≤ 100000 by omega), show ¬ 4 + 1 < 5 by omega, Option.toList_some, Option.toList_none, List.cons_append, List.nil_append, and_assoc, exists_and_left, exists_eq_left, true_and, and_true, Nat.reduceLeDiff, not_false_eq_true, not_true_eq_false, ↓reduceIte, eq_self, ← Int32.not_lt, ite_not, Classical.not_not]
    exact hq
