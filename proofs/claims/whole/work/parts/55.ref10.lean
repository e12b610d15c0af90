section RS
variable {h : mH} {n p q : Nat} {lc : Nat → Nat} {N N' : Nat → Int32}
theorem e6_num {D d k : Nat} (hD : 2 ≤ D) (e7 : h 59 7 = nI n) (L : gdL (h 63) n lc) (hp : p ≤ 150) (hd : d ≤ 2) (hk : k < 5) (N : Nat → Int32) : ∃ N', ((dsc lc n d p).2 = true → N' = upd N k (nI (nmV lc d p 0))) ∧ Cal D eX6_readsNumber [.ref 59, .int (nI k), .int (nI d)] (wP h p N) (some (.int (bz (dsc lc n d p).2))) (wP h (dsc lc n d p).1 N') := by
  obtain ⟨N', w', a, b, c⟩ := e6_readsNumber (N := N) hD e7 L hp hd hk
  subst b
  exact ⟨N', a, c⟩
theorem nm1 (lc : Nat → Nat) (p : Nat) : nmV lc 1 p 0 = dg lc p := by unfold nmV nmV; omega
theorem nm2 (lc : Nat → Nat) (p : Nat) : nmV lc 2 p 0 = d2 lc p := by unfold nmV nmV nmV d2; omega
theorem dsc_f {d p : Nat} (h : (dsc lc n d p).2 = false) : dsc lc n d p = ((dsc lc n d p).1, false) := by rw [← h]
theorem e6_readsFive {D : Nat} (hD : 3 ≤ D) (e7 : h 59 7 = nI n) (L : gdL (h 63) n lc) (hp : p ≤ 120) (N : Nat → Int32) : ∃ N', ((dsc lc n 10 p).2 = true → ∀ s, s < 5 → N' s = nI (d2 lc (p + 2 * s))) ∧ Cal D eX6_readsFive [.ref 59] (wP h p N) (some (.int (bz (dsc lc n 10 p).2))) (wP h (dsc lc n 10 p).1 N') := by
  obtain ⟨w', ⟨N', e1, e2⟩, hc⟩ := Cal_pr (d := 2) (D := D) (E := eX6_readsFive) (as := [.ref 59]) (h := wP h p N) (r := some (.int (bz (dsc lc n 10 p).2))) (P := fun w' => ∃ N', ((dsc lc n 10 p).2 = true → ∀ s, s < 5 → N' s = nI (d2 lc (p + 2 * s))) ∧ w' = wP h (dsc lc n 10 p).1 N') hD rfl (fun Q hq => by
    show WP 2 eX6_readsFive Q 0 [.ref 59, mU, mU] [] (wP h p N)
    rw [bX6_readsFive_0]
    have key : ∀ (m t : Nat) (N : Nat → Int32), t + m = 5 → (∀ s, s < t → N s = nI (d2 lc (p + 2 * s))) → (∀ N', ((dsc lc n (2 * m) (p + 2 * t)).2 = true → ∀ s, s < 5 → N' s = nI (d2 lc (p + 2 * s))) → Q (some (.int (bz (dsc lc n (2 * m) (p + 2 * t)).2))) (wP h (dsc lc n (2 * m) (p + 2 * t)).1 N')) → WP 2 eX6_readsFive Q 4 [.ref 59, .int 1, .int (nI t)] [] (wP h (p + 2 * t) N) := by
      intro m
      induction m with
      | zero =>
        intro t N ht hN hq2
        simp only [bX6_readsFive_4, bX6_readsFive_26, show (5 : Int32) = nI 5 from rfl, nlt (show t ≤ 100000 by omega) (show 5 ≤ 100000 by omega), show ¬ t < 5 by omega, nb1, Option.toList_some, Option.toList_none, List.cons_append, List.nil_append, and_assoc, exists_and_left, exists_eq_left, true_and, and_true, Nat.reduceLeDiff, not_false_eq_true, not_true_eq_false, ↓reduceIte, eq_self, ← Int32.not_lt, ite_not, Classical.not_not]
        exact hq2 N (fun _ s hs => hN s (by omega))
      | succ m ih =>
        intro t N ht hN hq2
        obtain ⟨N1, a1, c1⟩ := e6_num (Nat.le_refl 2) e7 L (show p + 2 * t ≤ 150 by omega) (Nat.le_refl 2) (show t < 5 by omega) N
        have c1 : Cal 2 eX6_readsNumber [.ref 59, .int (nI t), .int 2] (wP h (p + 2 * t) N) (some (.int (bz (dsc lc n 2 (p + 2 * t)).2))) (wP h (dsc lc n 2 (p + 2 * t)).1 N1) := c1
        rw [show 2 * (m + 1) = 2 + 2 * m by omega, dsc_add] at hq2
        rw [bX6_readsFive_4]
        simp only [bX6_readsFive_9, bX6_readsFive_13, bX6_readsFive_19, show (5 : Int32) = nI 5 from rfl, nlt (show t ≤ 100000 by omega) (show 5 ≤ 100000 by omega), show t < 5 by omega, n01, t59, Cal_iff c1, nI_1, Option.toList_some, Option.toList_none, List.cons_append, List.nil_append, and_assoc, exists_and_left, exists_eq_left, true_and, and_true, Nat.reduceLeDiff, not_false_eq_true, not_true_eq_false, ↓reduceIte, eq_self, ← Int32.not_lt, ite_not, Classical.not_not]
        cases ok : (dsc lc n 2 (p + 2 * t)).2 with
        | true =>
          obtain ⟨b1, b2⟩ := dsc_t ok
          rw [ok] at hq2 a1
          rw [if_pos rfl, b1, show p + 2 * t + 2 = p + 2 * (t + 1) by omega] at hq2
          rw [b1, show p + 2 * t + 2 = p + 2 * (t + 1) by omega]
          refine ih (t + 1) N1 (by omega) (fun s hs => ?_) hq2
          rw [a1 rfl, nm2, upd_at]
          by_cases c : s = t
          · rw [if_pos c, c]
          · rw [if_neg c]; exact hN s (by omega)
        | false =>
          rw [ok] at hq2
          simp only [decide_true, decide_false, not_false_eq_true, not_true_eq_false, ↓reduceIte, Bool.false_eq_true, Bool.and_true, Bool.true_and, Bool.false_and, Bool.and_false, true_and, false_and, and_true, and_false] at hq2
          rw [ok] at hq2
          simp only [bzf, bX6_readsFive_4, bX6_readsFive_9, bX6_readsFive_26, nb0, ite_self, Option.toList_some, Option.toList_none, List.cons_append, List.nil_append, and_assoc, exists_and_left, exists_eq_left, true_and, and_true, Nat.reduceLeDiff, not_false_eq_true, not_true_eq_false, ↓reduceIte, eq_self, ← Int32.not_lt, ite_not, Classical.not_not]
          exact hq2 N1 (fun z => by cases z)
    exact key 5 0 N (by omega) (fun s hs => by omega) (fun N' e => hq _ ⟨N', e, rfl⟩))
  subst e2
  exact ⟨N', e1, hc⟩
theorem kbT : ∀ c, c < 256 → swT (nI c) 103 [94, 86, 96, 96, 96, 96, 84, 96, 96, 96, 96, 90, 92, 96, 96, 96, 88] 96 = (if c = 109 then 84 else if c = 104 then 86 else if c = 119 then 88 else if c = 114 then 90 else if c = 115 then 92 else if c = 103 then 94 else 96) := by decide +kernel
theorem kb1 : swT (-1) 103 [94, 86, 96, 96, 96, 96, 84, 96, 96, 96, 96, 90, 92, 96, 96, 96, 88] 96 = 96 := by decide +kernel
/-- a kind's number, -9 -/
def kb (lc : Nat → Nat) (n p : Nat) : Int32 := if decide (p < n) && okc 107 (lc p) then kx (lc p) else -9
theorem okk (c : Nat) : okc 107 c = !decide (kx c < 0) := rfl
theorem k6_kindBy {D : Nat} (hD : 1 ≤ D) (L : gdL (h 63) n lc) (w : mH) (r : Option Value) (h' : mH) : Cal D eX6_kindBy [.int (hr lc n p)] w r h' ↔ r = some (.int (kb lc n p)) ∧ h' = w := by
  refine Cal_iff (Cal_le (d := 1) (Cal_of rfl (fun Q hq => ?_)) hD) r h'
  show WP 0 eX6_kindBy Q 0 [.int (hr lc n p)] [] w
  unfold kb at hq
  rw [bX6_kindBy_0, swP_T]
  unfold hr
  by_cases c : p < n
  · obtain ⟨l1, l2⟩ := L.2 p c
    rw [if_pos c, kbT _ l1]
    rw [decide_eq_true c, Bool.true_and, okk] at hq
    generalize lc p = a at hq ⊢
    unfold kx at hq
    by_cases c0 : a = 109
    · subst c0; rw [if_pos rfl]; rw [bX6_kindBy_84]; exact hq
    by_cases c1 : a = 104
    · subst c1; rw [if_neg (by omega), if_pos rfl]; rw [bX6_kindBy_86]; exact hq
    by_cases c2 : a = 119
    · subst c2; rw [if_neg (by omega), if_neg (by omega), if_pos rfl]; rw [bX6_kindBy_88]; exact hq
    by_cases c3 : a = 114
    · subst c3; rw [if_neg (by omega), if_neg (by omega), if_neg (by omega), if_pos rfl]; rw [bX6_kindBy_90]; exact hq
    by_cases c4 : a = 115
    · subst c4; rw [if_neg (by omega), if_neg (by omega), if_neg (by omega), if_neg (by omega), if_pos rfl]; rw [bX6_kindBy_92]; exact hq
    by_cases c5 : a = 103
    · subst c5; rw [if_neg (by omega), if_neg (by omega), if_neg (by omega), if_neg (by omega), if_neg (by omega), if_pos rfl]; rw [bX6_kindBy_94]; exact hq
    · rw [if_neg c0, if_neg c1, if_neg c2, if_neg c3, if_neg c4, if_neg c5]; rw [bX6_kindBy_96]
      simp only [c0, c1, c2, c3, c4, c5, decide_true, decide_false, not_false_eq_true, not_true_eq_false, ↓reduceIte, Bool.false_eq_true, Bool.and_true, Bool.true_and, Bool.false_and, Bool.and_false, true_and, false_and, and_true, and_false, show (-1 : Int32) < 0 by decide, Bool.not_true] at hq
      exact hq
  · rw [if_neg c, kb1, bX6_kindBy_96]
    rw [decide_eq_false c, Bool.false_and] at hq
    exact hq
theorem kb_s : (kb lc n p < 0) = ((decide (p < n) && okc 107 (lc p)) = false) := by
  unfold kb
  cases c : (decide (p < n) && okc 107 (lc p)) with
  | false => simp only [decide_true, decide_false, not_false_eq_true, not_true_eq_false, ↓reduceIte, Bool.false_eq_true, Bool.and_true, Bool.true_and, Bool.false_and, Bool.and_false, true_and, false_and, and_true, and_false, show (-9 : Int32) < 0 by decide]
  | true =>
    simp only [Bool.and_eq_true, decide_eq_true_eq] at c
    obtain ⟨_, q, q6, e⟩ := jkx c.2
    simp only [decide_true, decide_false, not_false_eq_true, not_true_eq_false, ↓reduceIte, Bool.false_eq_true, Bool.and_true, Bool.true_and, Bool.false_and, Bool.and_false, true_and, false_and, and_true, and_false, e, nnn (show q ≤ 100000 by omega), Bool.true_eq_false]
theorem k6_readsKind {D : Nat} (hD : 2 ≤ D) (e7 : h 59 7 = nI n) (L : gdL (h 63) n lc) (hp : p ≤ 150) (N : Nat → Int32) (r : Option Value) (h' : mH) : Cal D eX6_readsKind [.ref 59] (wP h p N) r h' ↔ r = some (.int (bz (decide (p < n) && okc 107 (lc p)))) ∧ h' = wP h (if decide (p < n) && okc 107 (lc p) then p + 1 else p) (upd N 0 (kb lc n p)) := by
  refine Cal_iff (Cal_le (d := 2) (Cal_of rfl (fun Q hq => ?_)) hD) r h'
  show WP 1 eX6_readsKind Q 0 [.ref 59] [] (wP h p N)
  have u0 : ∀ (f : Nat → Int32) v, upd f 0 v 0 = v := fun f v => if_pos rfl
  have v5 : vp_in 0 5 := v05.1
  simp only [bX6_readsKind_0, bX6_readsKind_9, bX6_readsKind_12, bX6_readsKind_13, t59, r5911, t67, l67, v5, c0, k6_here (Nat.le_refl 1) e7 L (show p ≤ 200 by omega), k6_kindBy (Nat.le_refl 1) L, w67, wPN, w10, u0, kb_s, Option.toList_some, Option.toList_none, List.cons_append, List.nil_append, and_assoc, exists_and_left, exists_eq_left, true_and, and_true, Nat.reduceLeDiff, not_false_eq_true, not_true_eq_false, ↓reduceIte, eq_self, ← Int32.not_lt, ite_not, Classical.not_not]
  cases c : (decide (p < n) && okc 107 (lc p)) with
  | true =>
    rw [c] at hq
    have c' : ¬ (true = false) := by decide
    simp only [c', decide_true, decide_false, not_false_eq_true, not_true_eq_false, ↓reduceIte, Bool.false_eq_true, Bool.and_true, Bool.true_and, Bool.false_and, Bool.and_false, true_and, false_and, and_true, and_false] at hq ⊢
    simp only [bX6_readsKind_31, bX6_readsKind_32, bX6_readsKind_36, bX6_readsKind_45, bX6_readsKind_50, t59, r5911, t67, l67, v5, c0, nI_1, wPs, w67, u0, kb_s, c, c', nb1, Option.toList_some, Option.toList_none, List.cons_append, List.nil_append, and_assoc, exists_and_left, exists_eq_left, true_and, and_true, Nat.reduceLeDiff, not_false_eq_true, not_true_eq_false, ↓reduceIte, eq_self, ← Int32.not_lt, ite_not, Classical.not_not]
    exact hq
  | false =>
    rw [c] at hq
    simp only [decide_true, decide_false, not_false_eq_true, not_true_eq_false, ↓reduceIte, Bool.false_eq_true, Bool.and_true, Bool.true_and, Bool.false_and, Bool.and_false, true_and, false_and, and_true, and_false] at hq ⊢
    simp only [bX6_readsKind_27, bX6_readsKind_32, bX6_readsKind_36, bX6_readsKind_49, bX6_readsKind_50, t59, r5911, t67, l67, v5, c0, Int32.add_zero, wPs, w67, u0, kb_s, c, nb0, Option.toList_some, Option.toList_none, List.cons_append, List.nil_append, and_assoc, exists_and_left, exists_eq_left, true_and, and_true, Nat.reduceLeDiff, not_false_eq_true, not_true_eq_false, ↓reduceIte, eq_self, ← Int32.not_lt, ite_not, Classical.not_not]
    exact hq
/-- the numbers of the statement at p -/
def nms (lc : Nat → Nat) (p : Nat) (N : Nat → Int32) : Prop := (sj (lc p) = 0 → ∀ s, s < 5 → N s = nI (d2 lc (p + 1 + 2 * s))) ∧ (sj (lc p) = 1 → N 0 = kx (lc (p + 1)) ∧ N 1 = nI (dg lc (p + 2))) ∧ (sj (lc p) = 2 → N 0 = nI (dg lc (p + 1)) ∧ N 1 = nI (dg lc (p + 2))) ∧ (sj (lc p) = 3 → N 0 = nI (dg lc (p + 1)) ∧ N 1 = nI (d2 lc (p + 2))) ∧ (sj (lc p) = 4 → N 0 = nI (dg lc (p + 1)))
def rst (lc : Nat → Nat) (n p : Nat) : Nat × Bool := if sj (lc p) = 5 then (p, false) else scn lc n (sj (lc p)) (sln (sj (lc p))) 0 (p + 1)
def rjT (j : Nat) : Nat := if j = 0 then 120 else if j = 1 then 128 else if j = 2 then 153 else if j = 3 then 180 else if j = 4 then 207 else 217
theorem rj_T : ∀ c, c < 256 → swT (nI c) 99 [153, 217, 217, 217, 217, 217, 217, 217, 120, 120, 128, 217, 217, 217, 217, 217, 207, 217, 180, 217, 217, 207] 217 = rjT (sj c) := by decide +kernel
theorem rj_1 : swT (-1) 99 [153, 217, 217, 217, 217, 217, 217, 217, 120, 120, 128, 217, 217, 217, 217, 217, 207, 217, 180, 217, 217, 207] 217 = 217 := by decide +kernel
theorem hr59 (L : gdL (h 63) n lc) : (hr lc n q = 59) = ((decide (q < n) && decide (lc q = 59)) = true) := by
  unfold hr
  by_cases c : q < n
  · obtain ⟨l1, l2⟩ := L.2 q c
    rw [if_pos c, decide_eq_true c, Bool.true_and, show (59 : Int32) = nI 59 from rfl, neq (by omega) (by omega), decide_eq_true_eq]
  · rw [if_neg c, decide_eq_false c, Bool.false_and]
    exact propext ⟨fun z => absurd z (by decide), fun z => by cases z⟩
theorem rs_tail {D : Nat} {Q : Option Value → mH → Prop} (e7 : h 59 7 = nI n) (L : gdL (h 63) n lc) (hD : 1 ≤ D) (hq : q ≤ 150) {j i : Nat} (hb : bn j i = 59) (u : Value) (N : Nat → Int32) (hQ : Q (some (.int (bz (scn lc n j 1 i q).2))) (wP h (scn lc n j 1 i q).1 N)) : WP D eX6_readsStatement Q 229 [.ref 59, u, .int 1] [] (wP h q N) := by
  rw [scn_semi hb] at hQ
  simp only [bX6_readsStatement_229, bX6_readsStatement_233, bX6_readsStatement_237, bX6_readsStatement_242, n01, t59, k6_here hD e7 L (show q ≤ 200 by omega), hr59 L, nb0, Option.toList_some, Option.toList_none, List.cons_append, List.nil_append, and_assoc, exists_and_left, exists_eq_left, true_and, and_true, Nat.reduceLeDiff, not_false_eq_true, not_true_eq_false, ↓reduceIte, eq_self, ← Int32.not_lt, ite_not, Classical.not_not]
  cases c : (decide (q < n) && decide (lc q = 59)) with
  | true =>
    rw [c] at hQ
    simp only [decide_true, decide_false, not_false_eq_true, not_true_eq_false, ↓reduceIte, Bool.false_eq_true, Bool.and_true, Bool.true_and, Bool.false_and, Bool.and_false, true_and, false_and, and_true, and_false] at hQ ⊢
    simp only [bX6_readsStatement_244, bX6_readsStatement_254, t59, w10, nI_1, wPs, nb1, Option.toList_some, Option.toList_none, List.cons_append, List.nil_append, and_assoc, exists_and_left, exists_eq_left, true_and, and_true, Nat.reduceLeDiff, not_false_eq_true, not_true_eq_false, ↓reduceIte, eq_self, ← Int32.not_lt, ite_not, Classical.not_not]
    exact hQ
  | false => rw [c] at hQ; simp only [decide_true, decide_false, not_false_eq_true, not_true_eq_false, ↓reduceIte, Bool.false_eq_true, Bool.and_true, Bool.true_and, Bool.false_and, Bool.and_false, true_and, false_and, and_true, and_false] at hQ ⊢; exact hQ
theorem e6_rs {D : Nat} (hD : 4 ≤ D) (e7 : h 59 7 = nI n) (L : gdL (h 63) n lc) (hp : p < n) (N : Nat → Int32) : ∃ N', ((rst lc n p).2 = true → nms lc p N') ∧ Cal D eX6_readsStatement [.ref 59] (wP h p N) (some (.int (bz (rst lc n p).2))) (wP h (rst lc n p).1 N') := by
  obtain ⟨w', ⟨N', e1, e2⟩, hc⟩ := Cal_pr (d := 3) (D := D) (E := eX6_readsStatement) (as := [.ref 59]) (h := wP h p N) (r := some (.int (bz (rst lc n p).2))) (P := fun w' => ∃ N', ((rst lc n p).2 = true → nms lc p N') ∧ w' = wP h (rst lc n p).1 N') hD rfl (fun Q hq => by
    show WP 3 eX6_readsStatement Q 0 [.ref 59, mU, mU] [] (wP h p N)
    have n96 := L.1
    obtain ⟨l1, l2⟩ := L.2 p hp
    have ehr : hr lc n p = nI (lc p) := if_pos hp
    have hq : ∀ N', ((rst lc n p).2 = true → nms lc p N') → Q (some (.int (bz (rst lc n p).2))) (wP h (rst lc n p).1 N') := fun N' e => hq _ ⟨N', e, rfl⟩
    simp only [bX6_readsStatement_0, bX6_readsStatement_4, bX6_readsStatement_15, t59, k6_here (show 1 ≤ 3 by omega) e7 L (show p ≤ 200 by omega), ehr, w10, nI_1, wPs, swP_T, rj_T _ l1, Option.toList_some, Option.toList_none, List.cons_append, List.nil_append, and_assoc, exists_and_left, exists_eq_left, true_and, and_true, Nat.reduceLeDiff, not_false_eq_true, not_true_eq_false, ↓reduceIte, eq_self, ← Int32.not_lt, ite_not, Classical.not_not]
    unfold rst at hq
    have s5 := sj_le (lc p)
    rcases (show sj (lc p) = 0 ∨ sj (lc p) = 1 ∨ sj (lc p) = 2 ∨ sj (lc p) = 3 ∨ sj (lc p) = 4 ∨ sj (lc p) = 5 by omega) with e | e | e | e | e | e
    · rw [e, if_neg (by omega), show sln 0 = 10 + 1 from rfl, scn_dig (fun q hq => bn48 0 (by omega) _ (by omega) (by rw [show sln 0 = 11 from rfl]; omega) (by omega))] at hq
      rw [e, show rjT 0 = 120 from rfl]
      obtain ⟨N1, a1, c1⟩ := e6_readsFive (Nat.le_refl 3) e7 L (show p + 1 ≤ 120 by omega) N
      simp only [bX6_readsStatement_120, bX6_readsStatement_124, t59, Cal_iff c1, Option.toList_some, Option.toList_none, List.cons_append, List.nil_append, and_assoc, exists_and_left, exists_eq_left, true_and, and_true, Nat.reduceLeDiff, not_false_eq_true, not_true_eq_false, ↓reduceIte, eq_self, ← Int32.not_lt, ite_not, Classical.not_not]
      cases ok : (dsc lc n 10 (p + 1)).2 with
      | true =>
        obtain ⟨b1, b2⟩ := dsc_t ok
        rw [ok] at hq a1
        simp only [decide_true, decide_false, not_false_eq_true, not_true_eq_false, ↓reduceIte, Bool.false_eq_true, Bool.and_true, Bool.true_and, Bool.false_and, Bool.and_false, true_and, false_and, and_true, and_false, bzt] at hq ⊢
        have := b2 9 (by omega)
        exact rs_tail e7 L (by omega) (by rw [b1]; omega) (show bn 0 (0 + 10) = 59 from rfl) _ _ (hq N1 (fun _ => ⟨fun _ => a1 rfl, fun z => by omega, fun z => by omega, fun z => by omega, fun z => by omega⟩))
      | false =>
        rw [ok] at hq
        simp only [decide_true, decide_false, not_false_eq_true, not_true_eq_false, ↓reduceIte, Bool.false_eq_true, Bool.and_true, Bool.true_and, Bool.false_and, Bool.and_false, true_and, false_and, and_true, and_false, bzf] at hq ⊢
        rw [ok] at hq
        simp only [bX6_readsStatement_229, bX6_readsStatement_242, nb0, Option.toList_some, Option.toList_none, List.cons_append, List.nil_append, and_assoc, exists_and_left, exists_eq_left, true_and, and_true, Nat.reduceLeDiff, not_false_eq_true, not_true_eq_false, ↓reduceIte, eq_self, ← Int32.not_lt, ite_not, Classical.not_not]
        exact hq N1 (fun z => by cases z)
    · rw [e, if_neg (by omega), show sln 1 = (1 + 1) + 1 from rfl, scn, show bn 1 0 = 107 from rfl] at hq
      rw [e, show rjT 1 = 128 from rfl]
      simp only [bX6_readsStatement_128, bX6_readsStatement_132, bX6_readsStatement_148, bX6_readsStatement_149, t59, k6_readsKind (show 2 ≤ 3 by omega) e7 L (show p + 1 ≤ 150 by omega), bz0, ite_bz, Option.toList_some, Option.toList_none, List.cons_append, List.nil_append, and_assoc, exists_and_left, exists_eq_left, true_and, and_true, Nat.reduceLeDiff, not_false_eq_true, not_true_eq_false, ↓reduceIte, eq_self, ← Int32.not_lt, ite_not, Classical.not_not]
      cases ok : (decide (p + 1 < n) && okc 107 (lc (p + 1))) with
      | true =>
        have ekb : kb lc n (p + 1) = kx (lc (p + 1)) := by unfold kb; rw [ok]; rfl
        rw [ok] at hq
        simp only [decide_true, decide_false, not_false_eq_true, not_true_eq_false, ↓reduceIte, Bool.false_eq_true, Bool.and_true, Bool.true_and, Bool.false_and, Bool.and_false, true_and, false_and, and_true, and_false] at hq ⊢
        rw [scn_dig (fun q hq => bn48 1 (by omega) _ (by omega) (by rw [show sln 1 = 3 from rfl]; omega) (by omega))] at hq
        obtain ⟨N1, a1, c1⟩ := e6_num (show 2 ≤ 3 by omega) e7 L (show p + 1 + 1 ≤ 150 by omega) (show 1 ≤ 2 by omega) (show 1 < 5 by omega) (upd N 0 (kb lc n (p + 1)))
        have c1 : Cal 3 eX6_readsNumber [.ref 59, .int 1, .int 1] (wP h (p + 1 + 1) (upd N 0 (kb lc n (p + 1)))) (some (.int (bz (dsc lc n 1 (p + 1 + 1)).2))) (wP h (dsc lc n 1 (p + 1 + 1)).1 N1) := c1
        simp only [bX6_readsStatement_135, bX6_readsStatement_141, bX6_readsStatement_144, bX6_readsStatement_148, bX6_readsStatement_149, t59, Cal_iff c1, bz0, ite_bz, Option.toList_some, Option.toList_none, List.cons_append, List.nil_append, and_assoc, exists_and_left, exists_eq_left, true_and, and_true, Nat.reduceLeDiff, not_false_eq_true, not_true_eq_false, ↓reduceIte, eq_self, ← Int32.not_lt, ite_not, Classical.not_not]
        cases ok2 : (dsc lc n 1 (p + 1 + 1)).2 with
        | true =>
          obtain ⟨b1, b2⟩ := dsc_t ok2
          rw [ok2] at hq a1
          simp only [decide_true, decide_false, not_false_eq_true, not_true_eq_false, ↓reduceIte, Bool.false_eq_true, Bool.and_true, Bool.true_and, Bool.false_and, Bool.and_false, true_and, false_and, and_true, and_false] at hq ⊢
          have := b2 0 (by omega)
          refine rs_tail e7 L (by omega) (by rw [b1]; omega) (show bn 1 (0 + 1 + 1) = 59 from rfl) _ _ (hq N1 (fun _ => ⟨fun z => by omega, fun _ => ?_, fun z => by omega, fun z => by omega, fun z => by omega⟩))
          rw [a1 rfl, nm1, ekb]
          exact ⟨rfl, rfl⟩
        | false =>
          rw [ok2] at hq
          simp only [decide_true, decide_false, not_false_eq_true, not_true_eq_false, ↓reduceIte, Bool.false_eq_true, Bool.and_true, Bool.true_and, Bool.false_and, Bool.and_false, true_and, false_and, and_true, and_false] at hq ⊢
          rw [ok2] at hq
          simp only [bX6_readsStatement_229, bX6_readsStatement_242, nb0, Option.toList_some, Option.toList_none, List.cons_append, List.nil_append, and_assoc, exists_and_left, exists_eq_left, true_and, and_true, Nat.reduceLeDiff, not_false_eq_true, not_true_eq_false, ↓reduceIte, eq_self, ← Int32.not_lt, ite_not, Classical.not_not]
          exact hq N1 (fun z => by cases z)
      | false =>
        rw [ok] at hq
        simp only [decide_true, decide_false, not_false_eq_true, not_true_eq_false, ↓reduceIte, Bool.false_eq_true, Bool.and_true, Bool.true_and, Bool.false_and, Bool.and_false, true_and, false_and, and_true, and_false] at hq ⊢
        simp only [bX6_readsStatement_229, bX6_readsStatement_242, nb0, Option.toList_some, Option.toList_none, List.cons_append, List.nil_append, and_assoc, exists_and_left, exists_eq_left, true_and, and_true, Nat.reduceLeDiff, not_false_eq_true, not_true_eq_false, ↓reduceIte, eq_self, ← Int32.not_lt, ite_not, Classical.not_not]
        exact hq _ (fun z => by cases z)
    · rw [e, if_neg (by omega), show sln 2 = 1 + (1 + 1) from rfl, scn_dig (fun q hq => bn48 2 (by omega) _ (by omega) (by rw [show sln 2 = 3 from rfl]; omega) (by omega))] at hq
      rw [e, show rjT 2 = 153 from rfl]
      obtain ⟨N1, a1, c1⟩ := e6_num (show 2 ≤ 3 by omega) e7 L (show p + 1 ≤ 150 by omega) (show 1 ≤ 2 by omega) (show 0 < 5 by omega) N
      have c1 : Cal 3 eX6_readsNumber [.ref 59, .int 0, .int 1] (wP h (p + 1) N) (some (.int (bz (dsc lc n 1 (p + 1)).2))) (wP h (dsc lc n 1 (p + 1)).1 N1) := c1
      simp only [bX6_readsStatement_153, bX6_readsStatement_159, bX6_readsStatement_175, bX6_readsStatement_176, t59, Cal_iff c1, bz0, ite_bz, Option.toList_some, Option.toList_none, List.cons_append, List.nil_append, and_assoc, exists_and_left, exists_eq_left, true_and, and_true, Nat.reduceLeDiff, not_false_eq_true, not_true_eq_false, ↓reduceIte, eq_self, ← Int32.not_lt, ite_not, Classical.not_not]
      cases ok : (dsc lc n 1 (p + 1)).2 with
      | true =>
        obtain ⟨b1, b2⟩ := dsc_t ok
        rw [ok] at hq a1
        simp only [decide_true, decide_false, not_false_eq_true, not_true_eq_false, ↓reduceIte, Bool.false_eq_true, Bool.and_true, Bool.true_and, Bool.false_and, Bool.and_false, true_and, false_and, and_true, and_false] at hq ⊢
        rw [b1, scn_dig (fun q hq => bn48 2 (by omega) _ (by omega) (by rw [show sln 2 = 3 from rfl]; omega) (by omega))] at hq
        obtain ⟨N2, a2, c2⟩ := e6_num (show 2 ≤ 3 by omega) e7 L (show p + 1 + 1 ≤ 150 by omega) (show 1 ≤ 2 by omega) (show 1 < 5 by omega) N1
        have c2 : Cal 3 eX6_readsNumber [.ref 59, .int 1, .int 1] (wP h (p + 1 + 1) N1) (some (.int (bz (dsc lc n 1 (p + 1 + 1)).2))) (wP h (dsc lc n 1 (p + 1 + 1)).1 N2) := c2
        simp only [bX6_readsStatement_162, bX6_readsStatement_168, bX6_readsStatement_171, bX6_readsStatement_175, bX6_readsStatement_176, t59, b1, Cal_iff c2, bz0, ite_bz, Option.toList_some, Option.toList_none, List.cons_append, List.nil_append, and_assoc, exists_and_left, exists_eq_left, true_and, and_true, Nat.reduceLeDiff, not_false_eq_true, not_true_eq_false, ↓reduceIte, eq_self, ← Int32.not_lt, ite_not, Classical.not_not]
        cases ok2 : (dsc lc n 1 (p + 1 + 1)).2 with
        | true =>
          obtain ⟨b3, b4⟩ := dsc_t ok2
          rw [ok2] at hq a2
          simp only [decide_true, decide_false, not_false_eq_true, not_true_eq_false, ↓reduceIte, Bool.false_eq_true, Bool.and_true, Bool.true_and, Bool.false_and, Bool.and_false, true_and, false_and, and_true, and_false] at hq ⊢
          have := b4 0 (by omega)
          refine rs_tail e7 L (by omega) (by rw [b3]; omega) (show bn 2 (0 + 1 + 1) = 59 from rfl) _ _ (hq N2 (fun _ => ⟨fun z => by omega, fun z => by omega, fun _ => ?_, fun z => by omega, fun z => by omega⟩))
          rw [a2 rfl, a1 rfl, nm1, nm1]
          exact ⟨rfl, rfl⟩
        | false =>
          rw [ok2] at hq
          simp only [decide_true, decide_false, not_false_eq_true, not_true_eq_false, ↓reduceIte, Bool.false_eq_true, Bool.and_true, Bool.true_and, Bool.false_and, Bool.and_false, true_and, false_and, and_true, and_false] at hq ⊢
          rw [ok2] at hq
          simp only [bX6_readsStatement_229, bX6_readsStatement_242, nb0, Option.toList_some, Option.toList_none, List.cons_append, List.nil_append, and_assoc, exists_and_left, exists_eq_left, true_and, and_true, Nat.reduceLeDiff, not_false_eq_true, not_true_eq_false, ↓reduceIte, eq_self, ← Int32.not_lt, ite_not, Classical.not_not]
          exact hq N2 (fun z => by cases z)
      | false =>
        rw [ok] at hq
        simp only [decide_true, decide_false, not_false_eq_true, not_true_eq_false, ↓reduceIte, Bool.false_eq_true, Bool.and_true, Bool.true_and, Bool.false_and, Bool.and_false, true_and, false_and, and_true, and_false] at hq ⊢
        rw [ok] at hq
        simp only [bX6_readsStatement_229, bX6_readsStatement_242, nb0, Option.toList_some, Option.toList_none, List.cons_append, List.nil_append, and_assoc, exists_and_left, exists_eq_left, true_and, and_true, Nat.reduceLeDiff, not_false_eq_true, not_true_eq_false, ↓reduceIte, eq_self, ← Int32.not_lt, ite_not, Classical.not_not]
        exact hq N1 (fun z => by cases z)
    · rw [e, if_neg (by omega), show sln 3 = 1 + (2 + 1) from rfl, scn_dig (fun q hq => bn48 3 (by omega) _ (by omega) (by rw [show sln 3 = 4 from rfl]; omega) (by omega))] at hq
      rw [e, show rjT 3 = 180 from rfl]
      obtain ⟨N1, a1, c1⟩ := e6_num (show 2 ≤ 3 by omega) e7 L (show p + 1 ≤ 150 by omega) (show 1 ≤ 2 by omega) (show 0 < 5 by omega) N
      have c1 : Cal 3 eX6_readsNumber [.ref 59, .int 0, .int 1] (wP h (p + 1) N) (some (.int (bz (dsc lc n 1 (p + 1)).2))) (wP h (dsc lc n 1 (p + 1)).1 N1) := c1
      simp only [bX6_readsStatement_180, bX6_readsStatement_186, bX6_readsStatement_202, bX6_readsStatement_203, t59, Cal_iff c1, bz0, ite_bz, Option.toList_some, Option.toList_none, List.cons_append, List.nil_append, and_assoc, exists_and_left, exists_eq_left, true_and, and_true, Nat.reduceLeDiff, not_false_eq_true, not_true_eq_false, ↓reduceIte, eq_self, ← Int32.not_lt, ite_not, Classical.not_not]
      cases ok : (dsc lc n 1 (p + 1)).2 with
      | true =>
        obtain ⟨b1, b2⟩ := dsc_t ok
        rw [ok] at hq a1
        simp only [decide_true, decide_false, not_false_eq_true, not_true_eq_false, ↓reduceIte, Bool.false_eq_true, Bool.and_true, Bool.true_and, Bool.false_and, Bool.and_false, true_and, false_and, and_true, and_false] at hq ⊢
        rw [b1, scn_dig (fun q hq => bn48 3 (by omega) _ (by omega) (by rw [show sln 3 = 4 from rfl]; omega) (by omega))] at hq
        obtain ⟨N2, a2, c2⟩ := e6_num (show 2 ≤ 3 by omega) e7 L (show p + 1 + 1 ≤ 150 by omega) (show 2 ≤ 2 by omega) (show 1 < 5 by omega) N1
        have c2 : Cal 3 eX6_readsNumber [.ref 59, .int 1, .int 2] (wP h (p + 1 + 1) N1) (some (.int (bz (dsc lc n 2 (p + 1 + 1)).2))) (wP h (dsc lc n 2 (p + 1 + 1)).1 N2) := c2
        simp only [bX6_readsStatement_189, bX6_readsStatement_195, bX6_readsStatement_198, bX6_readsStatement_202, bX6_readsStatement_203, t59, b1, Cal_iff c2, bz0, ite_bz, Option.toList_some, Option.toList_none, List.cons_append, List.nil_append, and_assoc, exists_and_left, exists_eq_left, true_and, and_true, Nat.reduceLeDiff, not_false_eq_true, not_true_eq_false, ↓reduceIte, eq_self, ← Int32.not_lt, ite_not, Classical.not_not]
        cases ok2 : (dsc lc n 2 (p + 1 + 1)).2 with
        | true =>
          obtain ⟨b3, b4⟩ := dsc_t ok2
          rw [ok2] at hq a2
          simp only [decide_true, decide_false, not_false_eq_true, not_true_eq_false, ↓reduceIte, Bool.false_eq_true, Bool.and_true, Bool.true_and, Bool.false_and, Bool.and_false, true_and, false_and, and_true, and_false] at hq ⊢
          have := b4 1 (by omega)
          refine rs_tail e7 L (by omega) (by rw [b3]; omega) (show bn 3 (0 + 1 + 2) = 59 from rfl) _ _ (hq N2 (fun _ => ⟨fun z => by omega, fun z => by omega, fun z => by omega, fun _ => ?_, fun z => by omega⟩))
          rw [a2 rfl, a1 rfl, nm1, nm2]
          exact ⟨rfl, rfl⟩
        | false =>
          rw [ok2] at hq
          simp only [decide_true, decide_false, not_false_eq_true, not_true_eq_false, ↓reduceIte, Bool.false_eq_true, Bool.and_true, Bool.true_and, Bool.false_and, Bool.and_false, true_and, false_and, and_true, and_false] at hq ⊢
          rw [ok2] at hq
          simp only [bX6_readsStatement_229, bX6_readsStatement_242, nb0, Option.toList_some, Option.toList_none, List.cons_append, List.nil_append, and_assoc, exists_and_left, exists_eq_left, true_and, and_true, Nat.reduceLeDiff, not_false_eq_true, not_true_eq_false, ↓reduceIte, eq_self, ← Int32.not_lt, ite_not, Classical.not_not]
          exact hq N2 (fun z => by cases z)
      | false =>
        rw [ok] at hq
        simp only [decide_true, decide_false, not_false_eq_true, not_true_eq_false, ↓reduceIte, Bool.false_eq_true, Bool.and_true, Bool.true_and, Bool.false_and, Bool.and_false, true_and, false_and, and_true, and_false] at hq ⊢
        rw [ok] at hq
        simp only [bX6_readsStatement_229, bX6_readsStatement_242, nb0, Option.toList_some, Option.toList_none, List.cons_append, List.nil_append, and_assoc, exists_and_left, exists_eq_left, true_and, and_true, Nat.reduceLeDiff, not_false_eq_true, not_true_eq_false, ↓reduceIte, eq_self, ← Int32.not_lt, ite_not, Classical.not_not]
        exact hq N1 (fun z => by cases z)
    · rw [e, if_neg (by omega), show sln 4 = 1 + 1 from rfl, scn_dig (fun q hq => bn48 4 (by omega) _ (by omega) (by rw [show sln 4 = 2 from rfl]; omega) (by omega))] at hq
      rw [e, show rjT 4 = 207 from rfl]
      obtain ⟨N1, a1, c1⟩ := e6_num (show 2 ≤ 3 by omega) e7 L (show p + 1 ≤ 150 by omega) (show 1 ≤ 2 by omega) (show 0 < 5 by omega) N
      have c1 : Cal 3 eX6_readsNumber [.ref 59, .int 0, .int 1] (wP h (p + 1) N) (some (.int (bz (dsc lc n 1 (p + 1)).2))) (wP h (dsc lc n 1 (p + 1)).1 N1) := c1
      simp only [bX6_readsStatement_207, bX6_readsStatement_213, t59, Cal_iff c1, Option.toList_some, Option.toList_none, List.cons_append, List.nil_append, and_assoc, exists_and_left, exists_eq_left, true_and, and_true, Nat.reduceLeDiff, not_false_eq_true, not_true_eq_false, ↓reduceIte, eq_self, ← Int32.not_lt, ite_not, Classical.not_not]
      cases ok : (dsc lc n 1 (p + 1)).2 with
      | true =>
        obtain ⟨b1, b2⟩ := dsc_t ok
        rw [ok] at hq a1
        simp only [decide_true, decide_false, not_false_eq_true, not_true_eq_false, ↓reduceIte, Bool.false_eq_true, Bool.and_true, Bool.true_and, Bool.false_and, Bool.and_false, true_and, false_and, and_true, and_false, bzt] at hq ⊢
        have := b2 0 (by omega)
        refine rs_tail e7 L (by omega) (by rw [b1]; omega) (show bn 4 (0 + 1) = 59 from rfl) _ _ (hq N1 (fun _ => ⟨fun z => by omega, fun z => by omega, fun z => by omega, fun z => by omega, fun _ => ?_⟩))
        rw [a1 rfl, nm1]
        rfl
      | false =>
        rw [ok] at hq
        simp only [decide_true, decide_false, not_false_eq_true, not_true_eq_false, ↓reduceIte, Bool.false_eq_true, Bool.and_true, Bool.true_and, Bool.false_and, Bool.and_false, true_and, false_and, and_true, and_false, bzf] at hq ⊢
        rw [ok] at hq
        simp only [bX6_readsStatement_229, bX6_readsStatement_242, nb0, Option.toList_some, Option.toList_none, List.cons_append, List.nil_append, and_assoc, exists_and_left, exists_eq_left, true_and, and_true, Nat.reduceLeDiff, not_false_eq_true, not_true_eq_false, ↓reduceIte, eq_self, ← Int32.not_lt, ite_not, Classical.not_not]
        exact hq N1 (fun z => by cases z)
    · rw [e, if_pos rfl] at hq
      rw [e, show rjT 5 = 217 from rfl]
      have em : nI (p + 1) - 1 = nI p := nI_pred p
      simp only [bX6_readsStatement_217, bX6_readsStatement_227, t59, w10, em, wPs, nb0, Option.toList_some, Option.toList_none, List.cons_append, List.nil_append, and_assoc, exists_and_left, exists_eq_left, true_and, and_true, Nat.reduceLeDiff, not_false_eq_true, not_true_eq_false, ↓reduceIte, eq_self, ← Int32.not_lt, ite_not, Classical.not_not]
      exact hq _ (fun z => by cases z))
  subst e2
  exact ⟨N', e1, hc⟩
/-- no letters at all -/
theorem k6_rs0 {D : Nat} (hD : 4 ≤ D) (e7 : h 59 7 = nI 0) (L : gdL (h 63) 0 lc) (N : Nat → Int32) (r : Option Value) (h' : mH) : Cal D eX6_readsStatement [.ref 59] (wP h 0 N) r h' ↔ r = some (.int 0) ∧ h' = wP h 0 N := by
  refine Cal_iff (Cal_le (d := 4) (Cal_of rfl (fun Q hq => ?_)) hD) r h'
  show WP 3 eX6_readsStatement Q 0 [.ref 59, mU, mU] [] (wP h 0 N)
  have ehr : hr lc 0 0 = -1 := rfl
  have em : nI (0 + 1) - 1 = nI 0 := nI_pred 0
  simp only [bX6_readsStatement_0, bX6_readsStatement_4, bX6_readsStatement_15, t59, k6_here (show 1 ≤ 3 by omega) e7 L (show 0 ≤ 200 by omega), ehr, w10, nI_1, wPs, swP_T, rj_1, bX6_readsStatement_217, bX6_readsStatement_227, em, nb0, Option.toList_some, Option.toList_none, List.cons_append, List.nil_append, and_assoc, exists_and_left, exists_eq_left, true_and, and_true, Nat.reduceLeDiff, not_false_eq_true, not_true_eq_false, ↓reduceIte, eq_self, ← Int32.not_lt, ite_not, Classical.not_not]
  exact hq
end RS
