/-! the reference reads its letters -/
def wP (h : mH) (p : Nat) (N : Nat → Int32) : mH := mPut (mPut h 67 N) 59 (upd (h 59) 10 (nI p))
section RD
variable {h : mH} {n p q : Nat} {lc : Nat → Nat} {N N' : Nat → Int32}
theorem wP59 : wP h p N 59 = upd (h 59) 10 (nI p) := mPut_self _ _ _
theorem w10 : wP h p N 59 10 = nI p := by rw [wP59]; exact if_pos rfl
theorem w7 : wP h p N 59 7 = h 59 7 := by rw [wP59]; exact if_neg (by omega)
theorem w67 : wP h p N 67 = N := by unfold wP; rw [mPut_ne _ _ (by omega), mPut_self]
theorem w63 : wP h p N 63 = h 63 := by unfold wP; rw [mPut_ne _ _ (by omega), mPut_ne _ _ (by omega)]
theorem wPs : mPut (wP h p N) 59 (upd (wP h p N 59) 10 (nI q)) = wP h q N := by
  rw [wP59]
  unfold wP
  rw [mPut_put]
  congr 1
  funext j
  simp only [upd_at]
  split <;> rfl
theorem wPN : mPut (wP h p N) 67 N' = wP h p N' := by unfold wP; rw [mPut_comm _ _ _ (by omega), mPut_put]
theorem wP_id (e : h 59 10 = nI p) : wP h p (h 67) = h := by
  unfold wP
  rw [mPut_id]
  have : upd (h 59) 10 (nI p) = h 59 := by
    funext j
    simp only [upd_at]
    split
    · rename_i z; rw [z, e]
    · rfl
  rw [this, mPut_id]
def hr (lc : Nat → Nat) (n p : Nat) : Int32 := if p < n then nI (lc p) else -1
theorem k6_here {d : Nat} (hd : 1 ≤ d) (e7 : h 59 7 = nI n) (L : gdL (h 63) n lc) (hp : p ≤ 200) (r : Option Value) (h' : mH) : Cal d eX6_here [.ref 59] (wP h p N) r h' ↔ r = some (.int (hr lc n p)) ∧ h' = wP h p N := by
  refine Cal_iff (Cal_le (d := 1) (Cal_of rfl (fun Q hq => ?_)) hd) r h'
  show WP 0 eX6_here Q 0 [.ref 59] [] (wP h p N)
  have n96 := L.1
  unfold hr at hq
  simp only [bX6_here_0, bX6_here_23, bX6_here_24, t59, w7, w10, e7, nlt (show p ≤ 100000 by omega) (show n ≤ 100000 by omega), Option.toList_some, Option.toList_none, List.cons_append, List.nil_append, and_assoc, exists_and_left, exists_eq_left, true_and, and_true, Nat.reduceLeDiff, not_false_eq_true, not_true_eq_false, ↓reduceIte, eq_self, ← Int32.not_lt, ite_not, Classical.not_not]
  by_cases c : p < n
  · obtain ⟨l1, l2⟩ := L.2 p c
    simp only [c, decide_true, decide_false, not_false_eq_true, not_true_eq_false, ↓reduceIte, Bool.false_eq_true, Bool.and_true, Bool.true_and, Bool.false_and, Bool.and_false, true_and, false_and, and_true, and_false] at hq ⊢
    simp only [bX6_here_11, bX6_here_24, t59, r594, t63, l63, w10, w63, vp_nI (show p < 96 by omega) (show 96 ≤ 100 by omega), nI_cl (show p < 100 by omega), l2, Option.toList_some, Option.toList_none, List.cons_append, List.nil_append, and_assoc, exists_and_left, exists_eq_left, true_and, and_true, Nat.reduceLeDiff, not_false_eq_true, not_true_eq_false, ↓reduceIte, eq_self, ← Int32.not_lt, ite_not, Classical.not_not]
    exact hq
  · simp only [c, decide_true, decide_false, not_false_eq_true, not_true_eq_false, ↓reduceIte, Bool.false_eq_true, Bool.and_true, Bool.true_and, Bool.false_and, Bool.and_false, true_and, false_and, and_true, and_false] at hq ⊢; exact hq
theorem hr_d (L : gdL (h 63) n lc) : isin (hr lc n p) 48 57 = (decide (p < n) && okc 48 (lc p)) := by
  unfold hr
  by_cases c : p < n
  · obtain ⟨l1, l2⟩ := L.2 p c
    rw [if_pos c, decide_eq_true c, Bool.true_and]
    unfold isin okc
    simp only [if_true, show (48 : Int32) = nI 48 from rfl, show (57 : Int32) = nI 57 from rfl, nlt (show lc p ≤ 100000 by omega) (show 48 ≤ 100000 by omega), nlt (show 57 ≤ 100000 by omega) (show lc p ≤ 100000 by omega)]
    congr 1
    · simp only [decide_eq_decide]; omega
    · simp only [decide_eq_decide]; omega
  · rw [if_neg c, decide_eq_false c, Bool.false_and]
    decide
/-- d digits from p on -/
def dsc (lc : Nat → Nat) (n : Nat) : Nat → Nat → Nat × Bool
  | 0, p => (p, true)
  | d + 1, p => if decide (p < n) && okc 48 (lc p) then dsc lc n d (p + 1) else (p, false)
theorem dsc_t : ∀ {d p : Nat}, (dsc lc n d p).2 = true → (dsc lc n d p).1 = p + d ∧ ∀ q, q < d → isD lc n (p + q)
  | 0, p, _ => ⟨rfl, fun q hq => by omega⟩
  | d + 1, p, h => by
    rw [dsc] at h ⊢
    by_cases c : (decide (p < n) && okc 48 (lc p)) = true
    · rw [if_pos c] at h ⊢
      obtain ⟨a, b⟩ := dsc_t h
      simp only [Bool.and_eq_true, decide_eq_true_eq] at c
      refine ⟨by rw [a]; omega, fun q hq => ?_⟩
      match q, hq with
      | 0, _ => exact isD_of c
      | q + 1, hq =>
        have := b q (by omega)
        rw [show p + 1 + q = p + (q + 1) by omega] at this
        exact this
    · rw [if_neg c] at h; simp at h
theorem dsc_le : ∀ {d p : Nat}, (dsc lc n d p).1 ≤ p + d
  | 0, p => Nat.le_refl _
  | d + 1, p => by
    rw [dsc]
    split
    · have := dsc_le (d := d) (p := p + 1); omega
    · omega
theorem dsc_add (b : Nat) : ∀ {a p : Nat}, dsc lc n (a + b) p = if (dsc lc n a p).2 = true then dsc lc n b (dsc lc n a p).1 else dsc lc n a p
  | 0, p => by rw [Nat.zero_add]; rfl
  | a + 1, p => by
    rw [show a + 1 + b = (a + b) + 1 by omega, dsc, dsc]
    by_cases c : (decide (p < n) && okc 48 (lc p)) = true
    · rw [if_pos c, if_pos c]; exact dsc_add b
    · rw [if_neg c, if_neg c]; rfl
theorem scn_dig {j m : Nat} : ∀ {d i p : Nat}, (∀ q, q < d → bn j (i + q) = 48) → scn lc n j (d + m) i p = if (dsc lc n d p).2 = true then scn lc n j m (i + d) (dsc lc n d p).1 else dsc lc n d p
  | 0, i, p, _ => by rw [Nat.zero_add]; rfl
  | d + 1, i, p, hb => by
    rw [show d + 1 + m = (d + m) + 1 by omega, scn, dsc, show bn j i = 48 from hb 0 (by omega)]
    by_cases c : (decide (p < n) && okc 48 (lc p)) = true
    · rw [if_pos c, if_pos c, scn_dig (fun q hq => by rw [show i + 1 + q = i + (q + 1) by omega]; exact hb (q + 1) (by omega)), show i + 1 + d = i + (d + 1) by omega]
    · rw [if_neg c, if_neg c]; rfl
theorem scn_semi {j i p : Nat} (hb : bn j i = 59) : scn lc n j 1 i p = if decide (p < n) && decide (lc p = 59) then (p + 1, true) else (p, false) := by
  rw [scn, hb]
  rfl
/-- the number that d digits tell, on from v -/
def nmV (lc : Nat → Nat) : Nat → Nat → Nat → Nat
  | 0, _, v => v
  | d + 1, p, v => nmV lc d (p + 1) (10 * v + dg lc p)
theorem e6_readsNumber {D d k : Nat} (hD : 2 ≤ D) (e7 : h 59 7 = nI n) (L : gdL (h 63) n lc) (hp : p ≤ 150) (hd : d ≤ 2) (hk : k < 5) : ∃ N', (∃ w', ((dsc lc n d p).2 = true → N' = upd N k (nI (nmV lc d p 0))) ∧ w' = wP h (dsc lc n d p).1 N' ∧ Cal D eX6_readsNumber [.ref 59, .int (nI k), .int (nI d)] (wP h p N) (some (.int (bz (dsc lc n d p).2))) w') := by
  obtain ⟨w', ⟨N', e1, e2⟩, hc⟩ := Cal_pr (d := 1) (D := D) (E := eX6_readsNumber) (as := [.ref 59, .int (nI k), .int (nI d)]) (h := wP h p N) (r := some (.int (bz (dsc lc n d p).2))) (P := fun w' => ∃ N', ((dsc lc n d p).2 = true → N' = upd N k (nI (nmV lc d p 0))) ∧ w' = wP h (dsc lc n d p).1 N') hD rfl (fun Q hq => by
    show WP 1 eX6_readsNumber Q 0 [.ref 59, .int (nI k), .int (nI d), mU] [] (wP h p N)
    have n96 := L.1
    simp only [bX6_readsNumber_0, bX6_readsNumber_7, t59, r5911, t67, l67, vp_nI hk (show 5 ≤ 100 by omega), nI_cl (show k < 100 by omega), w67, wPN, Option.toList_some, Option.toList_none, List.cons_append, List.nil_append, and_assoc, exists_and_left, exists_eq_left, true_and, and_true, Nat.reduceLeDiff, not_false_eq_true, not_true_eq_false, ↓reduceIte, eq_self, ← Int32.not_lt, ite_not, Classical.not_not]
    have uu : ∀ (f : Nat → Int32) v w, upd (upd f k v) k w = upd f k w := fun f v w => by funext j; simp only [upd_at]; split <;> rfl
    have u1 : ∀ (f : Nat → Int32) v, upd f k v k = v := fun f v => if_pos rfl
    have key : ∀ (m i p' v : Nat), i + m = d → p' ≤ 160 → (∀ N', ((dsc lc n m p').2 = true → N' = upd N k (nI (nmV lc m p' v))) → Q (some (.int (bz (dsc lc n m p').2))) (wP h (dsc lc n m p').1 N')) → p' + m ≤ 160 → WP 1 eX6_readsNumber Q 9 [.ref 59, .int (nI k), .int (nI d), .int (nI i)] [] (wP h p' (upd N k (nI v))) := by
      intro m
      induction m with
      | zero =>
        intro i p' v hi hp' hq2 _
        simp only [bX6_readsNumber_9, bX6_readsNumber_69, nlt (show i ≤ 100000 by omega) (show d ≤ 100000 by omega), show ¬ i < d by omega, nb1, Option.toList_some, Option.toList_none, List.cons_append, List.nil_append, and_assoc, exists_and_left, exists_eq_left, true_and, and_true, Nat.reduceLeDiff, not_false_eq_true, not_true_eq_false, ↓reduceIte, eq_self, ← Int32.not_lt, ite_not, Classical.not_not]
        exact hq2 _ (fun _ => rfl)
      | succ m ih =>
        intro i p' v hi hp' hq hm
        rw [dsc, nmV] at hq
        rw [bX6_readsNumber_9]
        simp only [bX6_readsNumber_14, bX6_readsNumber_18, bX6_readsNumber_25, bX6_readsNumber_28, nlt (show i ≤ 100000 by omega) (show d ≤ 100000 by omega), show i < d by omega, t59, k6_here (Nat.le_refl 1) e7 L (show p' ≤ 200 by omega), k6_isIn (Nat.le_refl 1), hr_d L, bz0, ite_bz, nb0, Option.toList_some, Option.toList_none, List.cons_append, List.nil_append, and_assoc, exists_and_left, exists_eq_left, true_and, and_true, Nat.reduceLeDiff, not_false_eq_true, not_true_eq_false, ↓reduceIte, eq_self, ← Int32.not_lt, ite_not, Classical.not_not]
        by_cases c : (decide (p' < n) && okc 48 (lc p')) = true
        · have hD := isD_of (by simp only [Bool.and_eq_true, decide_eq_true_eq] at c; exact c)
          have e48 : nI (10 * v) + nI (lc p') - 48 = nI (10 * v + dg lc p') := by
            rw [nI_plus, show (48 : Int32) = nI 48 from rfl, pk_sub (by have := hD.2; omega)]
            unfold dg
            congr 1
            have := hD.2
            omega
          have d9 := hD.d9
          rw [if_pos c] at hq ⊢
          simp only [bX6_readsNumber_30, bX6_readsNumber_48, bX6_readsNumber_53, bX6_readsNumber_63, t59, r5911, t67, l67, vp_nI hk (show 5 ≤ 100 by omega), nI_cl (show k < 100 by omega), w67, u1, k6_here (Nat.le_refl 1) e7 L (show p' ≤ 200 by omega), show (10 : Int32) = nI 10 from rfl, nI_mul, hr, hD.1, e48, wPN, uu, w10, wPs, nI_1, Option.toList_some, Option.toList_none, List.cons_append, List.nil_append, and_assoc, exists_and_left, exists_eq_left, true_and, and_true, Nat.reduceLeDiff, not_false_eq_true, not_true_eq_false, ↓reduceIte, eq_self, ← Int32.not_lt, ite_not, Classical.not_not]
          exact ih (i + 1) (p' + 1) (10 * v + dg lc p') (by omega) (by omega) hq (by omega)
        · rw [if_neg c] at hq ⊢
          exact hq _ (fun z => by cases z)
    exact key d 0 p 0 (by omega) (by omega) (fun N' e => hq _ ⟨N', e, rfl⟩) (by omega))
  exact ⟨N', w', e1, e2, hc⟩
end RD
