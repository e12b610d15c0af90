/-! the shop's methods -/
theorem wl (W : Nat → Prop) (n : Nat) (hs : ∀ i, i < n → W (i + 1) → W i) : ∀ k i, i + k = n → W n → W i
  | 0, i, hk, hw => by
    have e : i = n := by omega
    subst e
    exact hw
  | k + 1, i, hk, hw => hs i (by omega) (wl W n hs k (i + 1) (by omega) hw)
def cc (i : Nat) : Nat := if i ≤ 3 then 0 else if i < 9 then 1 else if i < 79 then (if (i - 9) % 7 < 5 then 3 + (i - 9) / 7 else if (i - 9) % 7 = 5 then 13 else 14) else if (i - 79) % 2 = 0 then 15 else 16
def cs (i : Nat) : Nat := if i = 0 then 2 else if i = 1 then 6 else if i = 2 then 9 else if i = 3 then 1 else if i < 9 then i - 4 else if i < 79 then (if (i - 9) % 7 < 5 then (i - 9) % 7 else (i - 9) / 7) else (i - 79) / 2
theorem cc_inj : ∀ i, i < 89 → ∀ j, j < 89 → cc i = cc j → cs i = cs j → i = j := by decide +kernel
theorem cv_eq {s : Nat} {h : mH} {i : Nat} (hi : i < 89) : cv s h i = h (s + cc i) (cs i) := by
  unfold cc cs
  rcases cv_cases i with rfl | rfl | rfl | rfl | ⟨t, q, rfl⟩ | ⟨k, t, q, q2, rfl⟩ | ⟨k, q, rfl⟩ | ⟨k, q, rfl⟩ | ⟨m, q, rfl⟩ | ⟨m, q, rfl⟩ | q
  · rfl
  · rfl
  · rfl
  · rfl
  · rw [cvP q, if_neg (by omega), if_pos (by omega), if_neg (by omega), if_neg (by omega), if_neg (by omega), if_neg (by omega), if_pos (by omega), show 4 + t - 4 = t by omega]
  · rw [cvR q q2, if_neg (by omega), if_neg (by omega), if_pos (by omega), if_pos (by omega), if_neg (by omega), if_neg (by omega), if_neg (by omega), if_neg (by omega), if_neg (by omega), if_pos (by omega), if_pos (by omega), show (9 + 7 * k + t - 9) % 7 = t by omega, show (9 + 7 * k + t - 9) / 7 = k by omega, Nat.add_assoc]
  · rw [cvF q, if_neg (by omega), if_neg (by omega), if_pos (by omega), if_neg (by omega), if_pos (by omega), if_neg (by omega), if_neg (by omega), if_neg (by omega), if_neg (by omega), if_neg (by omega), if_pos (by omega), if_neg (by omega), show (9 + 7 * k + 5 - 9) / 7 = k by omega]
  · rw [cvZ q, if_neg (by omega), if_neg (by omega), if_pos (by omega), if_neg (by omega), if_neg (by omega), if_neg (by omega), if_neg (by omega), if_neg (by omega), if_neg (by omega), if_neg (by omega), if_pos (by omega), if_neg (by omega), show (9 + 7 * k + 6 - 9) / 7 = k by omega]
  · rw [cvD q, if_neg (by omega), if_neg (by omega), if_neg (by omega), if_pos (by omega), if_neg (by omega), if_neg (by omega), if_neg (by omega), if_neg (by omega), if_neg (by omega), if_neg (by omega), show (79 + 2 * m - 79) / 2 = m by omega]
  · rw [cvG q, if_neg (by omega), if_neg (by omega), if_neg (by omega), if_neg (by omega), if_neg (by omega), if_neg (by omega), if_neg (by omega), if_neg (by omega), if_neg (by omega), if_neg (by omega), show (79 + 2 * m + 1 - 79) / 2 = m by omega]
  · omega
theorem cv_upd {s : Nat} {h : mH} {i0 c j : Nat} (v : Int32) (hi : i0 < 89) (hc : s + cc i0 = c) (hj : cs i0 = j) : cv s (mPut h c (upd (h c) j v)) = upd (cv s h) i0 v := by
  subst hc; subst hj
  funext i
  rcases Nat.lt_or_ge i 89 with q | q
  · rw [cv_eq q, upd_at, mPut_at]
    by_cases h1 : i = i0
    · subst h1
      rw [if_pos rfl, if_pos rfl, upd_at, if_pos rfl]
    · rw [if_neg h1, cv_eq q]
      by_cases h2 : s + cc i = s + cc i0
      · rw [if_pos h2, upd_at, if_neg (fun z => h1 (cc_inj i q i0 hi (by omega) z)), h2]
      · rw [if_neg h2]
  · rw [cv89 q, upd_at, if_neg (by omega), cv89 q]
section CVU
variable {s : Nat} {h : mH}
theorem cv_u0 (v : Int32) : cv s (mPut h s (upd (h s) 2 v)) = upd (cv s h) 0 v := cv_upd v (by omega) rfl rfl
theorem cv_u1 (v : Int32) : cv s (mPut h s (upd (h s) 6 v)) = upd (cv s h) 1 v := cv_upd v (by omega) rfl rfl
theorem cv_u2 (v : Int32) : cv s (mPut h s (upd (h s) 9 v)) = upd (cv s h) 2 v := cv_upd v (by omega) rfl rfl
theorem cv_u3 (v : Int32) : cv s (mPut h s (upd (h s) 1 v)) = upd (cv s h) 3 v := cv_upd v (by omega) rfl rfl
theorem cv_uP {t : Nat} (ht : t < 5) (v : Int32) : cv s (mPut h (s + 1) (upd (h (s + 1)) t v)) = upd (cv s h) (4 + t) v := cv_upd v (by omega) (by unfold cc; rw [if_neg (by omega), if_pos (by omega)]) (by unfold cs; rw [if_neg (by omega), if_neg (by omega), if_neg (by omega), if_neg (by omega), if_pos (by omega)]; omega)
theorem cv_uR {k t : Nat} (hk : k < 10) (ht : t < 5) (v : Int32) : cv s (mPut h (s + 3 + k) (upd (h (s + 3 + k)) t v)) = upd (cv s h) (9 + 7 * k + t) v := cv_upd v (by omega) (by unfold cc; rw [if_neg (by omega), if_neg (by omega), if_pos (by omega), if_pos (by omega)]; omega) (by unfold cs; rw [if_neg (by omega), if_neg (by omega), if_neg (by omega), if_neg (by omega), if_neg (by omega), if_pos (by omega), if_pos (by omega)]; omega)
theorem cv_uF {k : Nat} (hk : k < 10) (v : Int32) : cv s (mPut h (s + 13) (upd (h (s + 13)) k v)) = upd (cv s h) (9 + 7 * k + 5) v := cv_upd v (by omega) (by unfold cc; rw [if_neg (by omega), if_neg (by omega), if_pos (by omega), if_neg (by omega), if_pos (by omega)]) (by unfold cs; rw [if_neg (by omega), if_neg (by omega), if_neg (by omega), if_neg (by omega), if_neg (by omega), if_pos (by omega), if_neg (by omega)]; omega)
theorem cv_uZ {k : Nat} (hk : k < 10) (v : Int32) : cv s (mPut h (s + 14) (upd (h (s + 14)) k v)) = upd (cv s h) (9 + 7 * k + 6) v := cv_upd v (by omega) (by unfold cc; rw [if_neg (by omega), if_neg (by omega), if_pos (by omega), if_neg (by omega), if_neg (by omega)]) (by unfold cs; rw [if_neg (by omega), if_neg (by omega), if_neg (by omega), if_neg (by omega), if_neg (by omega), if_pos (by omega), if_neg (by omega)]; omega)
theorem cv_uD {m : Nat} (hm : m < 5) (v : Int32) : cv s (mPut h (s + 15) (upd (h (s + 15)) m v)) = upd (cv s h) (79 + 2 * m) v := cv_upd v (by omega) (by unfold cc; rw [if_neg (by omega), if_neg (by omega), if_neg (by omega), if_pos (by omega)]) (by unfold cs; rw [if_neg (by omega), if_neg (by omega), if_neg (by omega), if_neg (by omega), if_neg (by omega), if_neg (by omega)]; omega)
theorem cv_uG {m : Nat} (hm : m < 5) (v : Int32) : cv s (mPut h (s + 16) (upd (h (s + 16)) m v)) = upd (cv s h) (79 + 2 * m + 1) v := cv_upd v (by omega) (by unfold cc; rw [if_neg (by omega), if_neg (by omega), if_neg (by omega), if_neg (by omega)]) (by unfold cs; rw [if_neg (by omega), if_neg (by omega), if_neg (by omega), if_neg (by omega), if_neg (by omega), if_neg (by omega)]; omega)
end CVU
theorem mv_upd {c : Nat} {h : mH} {i : Nat} (hi : i < 89) (v : Int32) : mv c (mPut h c (upd (h c) i v)) = upd (mv c h) i v := by
  funext j
  simp only [mv, upd_at, mPut_self]
  by_cases h1 : j = i
  · subst h1; rw [if_pos hi, if_pos rfl, if_pos rfl]
  · rw [if_neg h1, if_neg h1]
/-! distances -/
def wig (f p : Nat → Int32) : Int32 := 0 + ap (f 0) (p 0) + ap (f 1) (p 1) + ap (f 2) (p 2) + ap (f 3) (p 3) + ap (f 4) (p 4)
theorem k_wiggleOf {d : Nat} (hd : 1 ≤ d) {s a : Nat} (hs : isS s) (ha : tg a = 100) (hl : ln a = 5) {h : mH} (hf : r99 (h a)) (hp : r99 (h (s + 1))) (r : Option Value) (h' : mH) : Cal d eX3_wiggleOf [.ref s, .ref a] h r h' ↔ r = some (.int (wig (h a) (h (s + 1)))) ∧ h' = h := by
  refine Cal_iff (Cal_le (d := 1) (Cal_of rfl (fun Q hq => ?_)) hd) r h'
  show WP 0 eX3_wiggleOf Q 0 [.ref s, .ref a, mU, mU] [] h
  have e : ∀ t, t < 5 → jab (h a t - h (s + 1) t) = ap (h a t) (h (s + 1) t) := fun t ht => jab_ap (hf t ht) (hp t ht)
  have e0 := e 0 (by omega)
  have e1 := e 1 (by omega)
  have e2 := e 2 (by omega)
  have e3 := e 3 (by omega)
  have e4 := e 4 (by omega)
  simp only [bX3_wiggleOf_0, bX3_wiggleOf_4, bX3_wiggleOf_9, bX3_wiggleOf_31, tgS hs, rfS0 hs, tgP hs, lnP hs, ha, hl, v05, nc5, Int32.reduceAdd, Int32.reduceLT, e0, e1, e2, e3, e4, Option.toList_some, Option.toList_none, List.cons_append, List.nil_append, and_assoc, exists_and_left, exists_eq_left, true_and, and_true, Nat.reduceLeDiff, not_false_eq_true, not_true_eq_false, ↓reduceIte, eq_self, ← Int32.not_lt, ite_not, Classical.not_not]
  exact hq
/-- the least of TEETH that is too far; -9 -/
def ltf (f p : Nat → Int32) (sl : Int32) : Int32 := if sl < ap (f 0) (p 0) then 0 else if sl < ap (f 1) (p 1) then 1 else if sl < ap (f 2) (p 2) then 2 else if sl < ap (f 3) (p 3) then 3 else if sl < ap (f 4) (p 4) then 4 else -9
theorem k_leastTooFar {d : Nat} (hd : 1 ≤ d) {s a : Nat} (hs : isS s) (ha : tg a = 100) (hl : ln a = 5) {h : mH} (hf : r99 (h a)) (hp : r99 (h (s + 1))) (r : Option Value) (h' : mH) : Cal d eX3_leastTooFar [.ref s, .ref a] h r h' ↔ r = some (.int (ltf (h a) (h (s + 1)) (h s 1))) ∧ h' = h := by
  refine Cal_iff (Cal_le (d := 1) (Cal_of rfl (fun Q hq => ?_)) hd) r h'
  show WP 0 eX3_leastTooFar Q 0 [.ref s, .ref a, mU] [] h
  have e : ∀ t, t < 5 → jab (h a t - h (s + 1) t) = ap (h a t) (h (s + 1) t) := fun t ht => jab_ap (hf t ht) (hp t ht)
  have e0 := e 0 (by omega)
  have e1 := e 1 (by omega)
  have e2 := e 2 (by omega)
  have e3 := e 3 (by omega)
  have e4 := e 4 (by omega)
  simp only [bX3_leastTooFar_0, bX3_leastTooFar_2, bX3_leastTooFar_7, bX3_leastTooFar_27, bX3_leastTooFar_29, bX3_leastTooFar_35, tgS hs, rfS0 hs, tgP hs, lnP hs, ha, hl, v05, nc5, Int32.reduceAdd, Int32.reduceLT, e0, e1, e2, e3, e4, Option.toList_some, Option.toList_none, List.cons_append, List.nil_append, and_assoc, exists_and_left, exists_eq_left, true_and, and_true, Nat.reduceLeDiff, not_false_eq_true, not_true_eq_false, ↓reduceIte, eq_self, ← Int32.not_lt, ite_not, Classical.not_not]
  unfold ltf at hq
  by_cases c0 : h s 1 < ap (h a 0) (h (s + 1) 0)
  · simp only [c0, decide_true, decide_false, not_false_eq_true, not_true_eq_false, ↓reduceIte, Bool.false_eq_true, Bool.and_true, Bool.true_and, Bool.false_and, Bool.and_false, true_and, false_and, and_true, and_false] at hq ⊢; exact hq
  by_cases c1 : h s 1 < ap (h a 1) (h (s + 1) 1)
  · simp only [c0, c1, decide_true, decide_false, not_false_eq_true, not_true_eq_false, ↓reduceIte, Bool.false_eq_true, Bool.and_true, Bool.true_and, Bool.false_and, Bool.and_false, true_and, false_and, and_true, and_false] at hq ⊢; exact hq
  by_cases c2 : h s 1 < ap (h a 2) (h (s + 1) 2)
  · simp only [c0, c1, c2, decide_true, decide_false, not_false_eq_true, not_true_eq_false, ↓reduceIte, Bool.false_eq_true, Bool.and_true, Bool.true_and, Bool.false_and, Bool.and_false, true_and, false_and, and_true, and_false] at hq ⊢; exact hq
  by_cases c3 : h s 1 < ap (h a 3) (h (s + 1) 3)
  · simp only [c0, c1, c2, c3, decide_true, decide_false, not_false_eq_true, not_true_eq_false, ↓reduceIte, Bool.false_eq_true, Bool.and_true, Bool.true_and, Bool.false_and, Bool.and_false, true_and, false_and, and_true, and_false] at hq ⊢; exact hq
  by_cases c4 : h s 1 < ap (h a 4) (h (s + 1) 4)
  · simp only [c0, c1, c2, c3, c4, decide_true, decide_false, not_false_eq_true, not_true_eq_false, ↓reduceIte, Bool.false_eq_true, Bool.and_true, Bool.true_and, Bool.false_and, Bool.and_false, true_and, false_and, and_true, and_false] at hq ⊢; exact hq
  · simp only [c0, c1, c2, c3, c4, decide_true, decide_false, not_false_eq_true, not_true_eq_false, ↓reduceIte, Bool.false_eq_true, Bool.and_true, Bool.true_and, Bool.false_and, Bool.and_false, true_and, false_and, and_true, and_false] at hq ⊢; exact hq
/-- no tooth is too far -/
def fitb (f p : Nat → Int32) (sl : Int32) : Bool := decide (ltf f p sl = -9)
theorem k_fits {d : Nat} (hd : 2 ≤ d) {s a : Nat} (hs : isS s) (ha : tg a = 100) (hl : ln a = 5) {h : mH} (hf : r99 (h a)) (hp : r99 (h (s + 1))) (r : Option Value) (h' : mH) : Cal d eX3_fits [.ref s, .ref a] h r h' ↔ r = some (.int (bz (fitb (h a) (h (s + 1)) (h s 1)))) ∧ h' = h := by
  refine Cal_iff (Cal_le (d := 2) (Cal_of rfl (fun Q hq => ?_)) hd) r h'
  show WP 1 eX3_fits Q 0 [.ref s, .ref a] [] h
  simp only [bX3_fits_0, bX3_fits_5, bX3_fits_10, bX3_fits_14, bX3_fits_15, tgS hs, k_leastTooFar (Nat.le_refl 1) hs ha hl hf hp, nb0, nb1, Option.toList_some, Option.toList_none, List.cons_append, List.nil_append, and_assoc, exists_and_left, exists_eq_left, true_and, and_true, Nat.reduceLeDiff, not_false_eq_true, not_true_eq_false, ↓reduceIte, eq_self, ← Int32.not_lt, ite_not, Classical.not_not]
  unfold fitb bz at hq
  by_cases c : ltf (h a) (h (s + 1)) (h s 1) = -9 <;> simp only [c, decide_true, decide_false, not_false_eq_true, not_true_eq_false, ↓reduceIte, Bool.false_eq_true, Bool.and_true, Bool.true_and, Bool.false_and, Bool.and_false, true_and, false_and, and_true, and_false] at hq ⊢ <;> exact hq
theorem k_cutBy {d : Nat} (hd : 3 ≤ d) {s m : Nat} (hs : isS s) (hm : m < 5) (v t : Int32) (h : mH) (r : Option Value) (h' : mH) : Cal d eX3_cutBy [.ref s, .int (nI m), .int v, .int t] h r h' ↔ r = some (.int (jcut (h (s + 15) m) (h (s + 16) m) v t)) ∧ h' = h := by
  refine Cal_iff (Cal_le (d := 3) (Cal_of rfl (fun Q hq => ?_)) hd) r h'
  show WP 2 eX3_cutBy Q 0 [.ref s, .int (nI m), .int v, .int t] [] h
  simp only [bX3_cutBy_0, bX3_cutBy_17, tgS hs, rfS7 hs, rfS8 hs, tgD hs, lnD hs, tgG hs, lnG hs, vp_nI hm (show 5 ≤ 100 by omega), nI_cl (show m < 100 by omega), k_cutHeight, Option.toList_some, Option.toList_none, List.cons_append, List.nil_append, and_assoc, exists_and_left, exists_eq_left, true_and, and_true, Nat.reduceLeDiff, not_false_eq_true, not_true_eq_false, ↓reduceIte, eq_self, ← Int32.not_lt, ite_not, Classical.not_not]
  exact hq
theorem k_wornHeight {d : Nat} (hd : 1 ≤ d) (x n : Int32) (h : mH) (r : Option Value) (h' : mH) : Cal d eX3_wornHeight [.int x, .int n] h r h' ↔ r = some (.int (jmx 0 (x - n / 10))) ∧ h' = h := by
  refine Cal_iff (Cal_le (d := 1) (Cal_of rfl (fun Q hq => ?_)) hd) r h'
  show WP 0 eX3_wornHeight Q 0 [.int x, .int n] [] h
  simp only [bX3_wornHeight_0]
  exact hq
theorem k_wornPin {d : Nat} (hd : 1 ≤ d) (x n : Int32) (h : mH) (r : Option Value) (h' : mH) : Cal d eX3_wornPin [.int x, .int n] h r h' ↔ r = some (.int (jmx 0 (x - n / 20))) ∧ h' = h := by
  refine Cal_iff (Cal_le (d := 1) (Cal_of rfl (fun Q hq => ?_)) hd) r h'
  show WP 0 eX3_wornPin Q 0 [.int x, .int n] [] h
  simp only [bX3_wornPin_0]
  exact hq
