/-- how many statements from p on -/
def cnS (lc : Nat → Nat) (n : Nat) : Nat → Nat → Nat
  | 0, _ => 0
  | f + 1, p => if p < n then 1 + cnS lc n f (p + 1 + sln (sj (lc p))) else 0
theorem hap_cnt {lc : Nat → Nat} {n : Nat} : ∀ {f p q : Nat} {σ τ : Nat → Int32}, (hap lc n f p q σ).2 = some τ → (hap lc n f p q σ).1 = nI (q + cnS lc n f p)
  | 0, p, q, σ, τ, _ => rfl
  | f + 1, p, q, σ, τ, h => by
    rw [hap] at h ⊢
    rw [cnS]
    by_cases c : p < n
    · rw [if_pos c] at h ⊢
      rw [if_pos c]
      cases e : stm lc p σ with
      | none => rw [e] at h; cases h
      | some σ' =>
        rw [e] at h
        have := hap_cnt h
        rw [show q + (1 + cnS lc n f (p + 1 + sln (sj (lc p)))) = q + 1 + cnS lc n f (p + 1 + sln (sj (lc p))) by omega]
        exact this
    · rw [if_neg c, if_neg c]; rfl
/-- between the statements of a text -/
def lkI (h w : mH) (p : Nat) (τ : Nat → Int32) : Prop := w 59 10 = nI p ∧ (∀ j, ¬ j = 10 → w 59 j = h 59 j) ∧ mv 60 w = τ ∧ ∀ c, ¬ c = 59 → ¬ c = 60 → ¬ c = 62 → ¬ c = 66 → ¬ c = 67 → w c = h c
theorem mS_lk {h w : mH} {p : Nat} {τ : Nat → Int32} (I : lkI h w p τ) : mS (mPut w 59 (upd (w 59) 7 0)) = (τ, (mS h).2.1, (0, (mS h).2.2.1.2), (mS h).2.2.2) := by
  obtain ⟨_, a, b, c⟩ := I
  unfold mS
  have m61 : mv 61 w = mv 61 h := by funext i; unfold mv; rw [c 61 (by omega) (by omega) (by omega) (by omega) (by omega)]
  rw [mv_out (by omega), mv_out (by omega), b, m61, mPut_self, mPut_ne _ _ (by omega), mPut_ne _ _ (by omega), mPut_ne _ _ (by omega), c 63 (by omega) (by omega) (by omega) (by omega) (by omega), c 64 (by omega) (by omega) (by omega) (by omega) (by omega), c 65 (by omega) (by omega) (by omega) (by omega) (by omega)]
  simp only [upd_at, show ¬ (3 : Nat) = 7 by omega, show ¬ (8 : Nat) = 7 by omega, if_false, if_true]
  rw [a 3 (by omega), a 8 (by omega)]
theorem frR_lk {h w : mH} {p : Nat} {τ : Nat → Int32} (I : lkI h w p τ) : frR h (mPut w 59 (upd (w 59) 7 0)) := fun c hc => by
  rw [mPut_ne _ _ (by omega)]
  exact I.2.2.2 c (by omega) (by omega) (by omega) (by omega) (by omega)
theorem lkI_wP {h w : mH} {p q : Nat} {τ N : Nat → Int32} (I : lkI h w p τ) : lkI h (wP w q N) q τ := by
  obtain ⟨_, a, b, c⟩ := I
  refine ⟨w10, fun j hj => ?_, ?_, fun x h1 h2 h3 h4 h5 => ?_⟩
  · rw [wP59, upd_at, if_neg hj]; exact a j hj
  · unfold wP; rw [mv_out (by omega), mv_out (by omega)]; exact b
  · unfold wP; rw [mPut_ne _ _ h1, mPut_ne _ _ h5]; exact c x h1 h2 h3 h4 h5
theorem n19 : ∀ p, p ≤ 100 → ¬ (-1000 : Int32) - nI p = -9 := by decide +kernel
theorem n29 : ∀ p, p ≤ 100 → ¬ (-2000 : Int32) - nI p = -9 := by decide +kernel
theorem r_lock : KR eX6_lock [] f_lock := by
  refine KR_of66 rfl (fun h K M GS G Q hq x0 => ?_)
  show WP 10 eX6_lock Q 0 [.ref 59, mU, mU, mU, mU, mU] [] (mPut h 66 x0)
  have g0 : mv 60 h 0 = nI K := G.s0
  have g1 : mv 60 h 1 = nI M := G.s1
  have e0 : ∀ x, mPut h 66 x 60 0 = nI K := fun x => by rw [q60]; exact G.s0
  have e1 : ∀ x, mPut h 66 x 60 1 = nI M := fun x => by rw [q60]; exact G.s1
  have k10 := G.k10
  have m5 := G.m5
  have gk := gdkN G
  have gm := gdmN G
  unfold f_lock at hq
  simp only [mS_1, mS_if, mS_im, mS_ln, mS_l, mS_rn, mS_r, mS_q, g0, g1, bno, gk, gm] at hq
  obtain ⟨n, lc, en, L⟩ := GS.2.2.1
  have n96 := L.1
  have e7 : h 59 7 = nI n := en
  have L : gdL (h 63) n (lcN (h 63)) := gdL_lc L
  simp only [e7, xN_n (show n < 100000 by omega)] at hq
  generalize lcN (h 63) = lc at L hq
  have ew : mPut (mPut h 66 x0) 59 (upd (h 59) 10 0) = wP (mPut h 66 x0) 0 (mPut h 66 x0 67) := by unfold wP; rw [mPut_id, q59]; rfl
  have I0 : lkI h (wP (mPut h 66 x0) 0 (mPut h 66 x0 67)) 0 (mv 60 h) := by
    refine ⟨w10, fun j hj => ?_, ?_, fun c h1 h2 h3 h4 h5 => ?_⟩
    · rw [wP59, upd_at, if_neg hj, q59]
    · unfold wP; rw [mv_out (by omega), mv_out (by omega), mv66]
    · unfold wP; rw [mPut_ne _ _ h1, mPut_ne _ _ h5, mPut_ne _ _ h4]
  simp only [bX6_lock_0, bX6_lock_5, t59, q59, ew, Option.toList_some, Option.toList_none, List.cons_append, List.nil_append, and_assoc, exists_and_left, exists_eq_left, true_and, and_true, Nat.reduceLeDiff, not_false_eq_true, not_true_eq_false, ↓reduceIte, eq_self, ← Int32.not_lt, ite_not, Classical.not_not]
  -- the end
  have fin : ∀ (w : mH) (p : Nat) (τ : Nat → Int32) (cn fa : Int32) (u v z : Value), lkI h w p τ → (∀ h', mS h' = (τ, (mS h).2.1, (0, (mS h).2.2.1.2), (mS h).2.2.2) → frR h h' → Q (some (.int (if fa = -9 then cn else fa))) h') → WP 10 eX6_lock Q 128 [.ref 59, .int cn, .int fa, u, v, z] [] w := by
    intro w p τ cn fa u v z I hQ
    have hQ := hQ _ (mS_lk I) (frR_lk I)
    simp only [bX6_lock_128, bX6_lock_133, bX6_lock_139, bX6_lock_143, bX6_lock_144, t59, Option.toList_some, Option.toList_none, List.cons_append, List.nil_append, and_assoc, exists_and_left, exists_eq_left, true_and, and_true, Nat.reduceLeDiff, not_false_eq_true, not_true_eq_false, ↓reduceIte, eq_self, ← Int32.not_lt, ite_not, Classical.not_not]
    by_cases c : fa = -9 <;> simp only [c, decide_true, decide_false, not_false_eq_true, not_true_eq_false, ↓reduceIte, Bool.false_eq_true, Bool.and_true, Bool.true_and, Bool.false_and, Bool.and_false, true_and, false_and, and_true, and_false] at hQ ⊢ <;> exact hQ
  -- the second pass
  have two : ∀ (f p q : Nat) (w : mH) (K M : Nat) (τ : Nat → Int32) (cn : Int32) (u v z : Value), lkI h w p τ → mv 62 w = mv 60 h → gdN τ K M → msh lc n f p = none → n < p + f → p ≤ 200 → (∀ h', mS h' = ((hap lc n f p q τ).2.getD (mv 60 h), (mS h).2.1, (0, (mS h).2.2.1.2), (mS h).2.2.2) → frR h h' → Q (some (.int (match (hap lc n f p q τ).2 with
      | none => (hap lc n f p q τ).1
      | some _ => cn))) h') → WP 10 eX6_lock Q 62 [.ref 59, .int cn, .int (-9), u, v, z] [] w := by
    intro f
    induction f with
    | zero =>
      intro p q w K M τ cn u v z I e62 G2 hm hf hp2 hQ
      have x7 : w 59 7 = nI n := by rw [I.2.1 7 (by omega)]; exact e7
      have c : (nI p < nI n) = False := eq_false (nI_nlt (by omega) (by omega))
      simp only [bX6_lock_62, bX6_lock_68, t59, x7, I.1, c, Option.toList_some, Option.toList_none, List.cons_append, List.nil_append, and_assoc, exists_and_left, exists_eq_left, true_and, and_true, Nat.reduceLeDiff, not_false_eq_true, not_true_eq_false, ↓reduceIte, eq_self, ← Int32.not_lt, ite_not, Classical.not_not]
      exact fin w p τ cn (-9) u v z I hQ
    | succ f ih =>
      intro p q w K M τ cn u v z I e62 G2 hm hf hp2 hQ
      have x7 : w 59 7 = nI n := by rw [I.2.1 7 (by omega)]; exact e7
      have x63 : w 63 = h 63 := I.2.2.2 63 (by omega) (by omega) (by omega) (by omega) (by omega)
      have Lw : gdL (w 63) n lc := by rw [x63]; exact L
      rw [bX6_lock_62]
      rw [hap] at hQ
      by_cases c : p < n
      · obtain ⟨wsp, hm2⟩ := msh_n hm c
        have s11 := sln_le (sj (lc p))
        have er : rst lc n p = (p + 1 + sln (sj (lc p)), true) := by
          unfold rst
          rw [if_neg wsp.2.1]
          rw [msh, if_pos c, if_neg wsp.2.1] at hm
          cases e2 : (scn lc n (sj (lc p)) (sln (sj (lc p))) 0 (p + 1)).2 with
          | true =>
            have := (scn_t e2).1
            exact Prod.ext this e2
          | false => rw [e2] at hm; simp at hm
        obtain ⟨N', a1, c1⟩ := e6_rs (show 4 ≤ 10 by omega) x7 Lw c (w 67)
        rw [er] at a1 c1
        rw [wP_id I.1] at c1
        have hN := a1 rfl
        have I2 : lkI h (wP w (p + 1 + sln (sj (lc p))) N') (p + 1 + sln (sj (lc p))) τ := lkI_wP I
        have ehr : hr lc n p = nI (lc p) := if_pos c
        have kh : ∀ r h', Cal 10 eX6_here [.ref 59] w r h' ↔ r = some (.int (nI (lc p))) ∧ h' = w := fun r h' => by
          have := k6_here (N := w 67) (show 1 ≤ 10 by omega) x7 Lw (show p ≤ 200 by omega) r h'
          rw [wP_id I.1, ehr] at this
          exact this
        have G3 : gdN (mv 60 (wP w (p + 1 + sln (sj (lc p))) N')) K M := by rw [I2.2.2.1]; exact G2
        obtain ⟨w3, ⟨b1, b2⟩, c3⟩ := e6_isDone (show 8 ≤ 10 by omega) G3 wsp (by rw [w67]; exact hN) (wP w (p + 1 + sln (sj (lc p))) N' 66)
        rw [mPut_id, I2.2.2.1] at c3
        rw [I2.2.2.1] at b1
        have m62 : mv 62 w3 = mv 60 h := by
          rw [← e62]
          funext i
          unfold mv
          rw [b2 62 (by omega) (by omega)]
          unfold wP
          rw [mPut_ne _ _ (by omega), mPut_ne _ _ (by omega)]
        rw [if_pos c] at hQ
        have cc : (nI n ≤ nI p) = False := eq_false (fun z => by have := (nI_leI (by omega) (by omega)).mp z; omega)
        simp only [bX6_lock_68, bX6_lock_79, bX6_lock_88, bX6_lock_94, bX6_lock_102, bX6_lock_105, t59, x7, I.1, nlt (show p ≤ 100000 by omega) (show n ≤ 100000 by omega), c, kh, Cal_iff c1, Cal_iff c3, bzt, bz0, ite_bz, Option.toList_some, Option.toList_none, List.cons_append, List.nil_append, and_assoc, exists_and_left, exists_eq_left, true_and, and_true, Nat.reduceLeDiff, not_false_eq_true, not_true_eq_false, ↓reduceIte, eq_self, ← Int32.not_lt, ite_not, Classical.not_not]
        cases e : stm lc p τ with
        | some τ' =>
          rw [e] at hQ b1
          obtain ⟨K', M', G'⟩ := stm_gd G2 wsp e
          simp only [is_s, decide_true, decide_false, not_false_eq_true, not_true_eq_false, ↓reduceIte, Bool.false_eq_true, Bool.and_true, Bool.true_and, Bool.false_and, Bool.and_false, true_and, false_and, and_true, and_false]
          refine ih (p + 1 + sln (sj (lc p))) (q + 1) w3 K' M' τ' cn _ _ _ ⟨?_, fun j hj => ?_, b1 τ' rfl, fun c h1 h2 h3 h4 h5 => ?_⟩ m62 G' hm2 (by omega) (by omega) hQ
          · rw [b2 59 (by omega) (by omega)]; exact I2.1
          · rw [b2 59 (by omega) (by omega)]; exact I2.2.1 j hj
          · rw [b2 c h2 h4]; exact I2.2.2.2 c h1 h2 h3 h4 h5
        | none =>
          rw [e] at hQ
          simp only [is_n, decide_true, decide_false, not_false_eq_true, not_true_eq_false, ↓reduceIte, Bool.false_eq_true, Bool.and_true, Bool.true_and, Bool.false_and, Bool.and_false, true_and, false_and, and_true, and_false]
          have I4 : lkI h (mPut w3 60 (pT (w3 62) (w3 60) 89)) (p + 1 + sln (sj (lc p))) (mv 60 h) := by
            refine ⟨?_, fun j hj => ?_, ?_, fun c h1 h2 h3 h4 h5 => ?_⟩
            · rw [mPut_ne _ _ (by omega), b2 59 (by omega) (by omega)]; exact I2.1
            · rw [mPut_ne _ _ (by omega), b2 59 (by omega) (by omega)]; exact I2.2.1 j hj
            · rw [mv_lay, m62]
            · rw [mPut_ne _ _ h2, b2 c h2 h4]; exact I2.2.2.2 c h1 h2 h3 h4 h5
          simp only [bX6_lock_108, bX6_lock_125, bX6_lock_62, t59, r590, r592, k6_lays (show 1 ≤ 10 by omega) t62 l62 t60 l60 (show ¬ 62 = 60 by omega), n29 p (by omega), Option.toList_some, Option.toList_none, List.cons_append, List.nil_append, and_assoc, exists_and_left, exists_eq_left, true_and, and_true, Nat.reduceLeDiff, not_false_eq_true, not_true_eq_false, ↓reduceIte, eq_self, ← Int32.not_lt, ite_not, Classical.not_not]
          refine fin _ _ _ _ _ _ _ _ I4 (fun h' h1 h2 => ?_)
          rw [if_neg (n29 p (by omega))]
          exact hQ h' h1 h2
      · have cc : (nI p < nI n) = False := eq_false (nI_nlt (by omega) (by omega))
        rw [if_neg c] at hQ
        simp only [bX6_lock_68, t59, x7, I.1, cc, Option.toList_some, Option.toList_none, List.cons_append, List.nil_append, and_assoc, exists_and_left, exists_eq_left, true_and, and_true, Nat.reduceLeDiff, not_false_eq_true, not_true_eq_false, ↓reduceIte, eq_self, ← Int32.not_lt, ite_not, Classical.not_not]
        exact fin w p τ cn (-9) u v z I hQ
  -- behind the first pass
  have mid1 : ∀ (w : mH) (p : Nat) (cn fa : Int32) (u v z : Value), lkI h w p (mv 60 h) → (∀ w' : mH, lkI h w' 0 (mv 60 h) → mv 62 w' = mv 60 h → WP 10 eX6_lock Q 62 [.ref 59, .int cn, .int fa, u, v, z] [] w') → WP 10 eX6_lock Q 46 [.ref 59, .int cn, .int fa, u, v, z] [] w := by
    intro w p cn fa u v z I hW
    simp only [bX6_lock_46, bX6_lock_57, t59, r590, r592, k6_lays (show 1 ≤ 10 by omega) t60 l60 t62 l62 (show ¬ 60 = 62 by omega), Option.toList_some, Option.toList_none, List.cons_append, List.nil_append, and_assoc, exists_and_left, exists_eq_left, true_and, and_true, Nat.reduceLeDiff, not_false_eq_true, not_true_eq_false, ↓reduceIte, eq_self, ← Int32.not_lt, ite_not, Classical.not_not]
    refine hW _ ⟨?_, fun j hj => ?_, ?_, fun c h1 h2 h3 h4 h5 => ?_⟩ ?_
    · rw [mPut_self]; exact if_pos rfl
    · rw [mPut_self, upd_at, if_neg hj, mPut_ne _ _ (by omega)]; exact I.2.1 j hj
    · rw [mv_out (by omega), mv_out (by omega)]; exact I.2.2.1
    · rw [mPut_ne _ _ h1, mPut_ne _ _ h3]; exact I.2.2.2 c h1 h2 h3 h4 h5
    · rw [mv_out (by omega), mv_lay]; exact I.2.2.1
  have fault : ∀ (w : mH) (p q : Nat) (cn : Int32) (u v z : Value), lkI h w p (mv 60 h) → q ≤ 100 → (∀ h', mS h' = (mv 60 h, (mS h).2.1, (0, (mS h).2.2.1.2), (mS h).2.2.2) → frR h h' → Q (some (.int (-1000 - nI q))) h') → WP 10 eX6_lock Q 46 [.ref 59, .int cn, .int (-1000 - nI q), u, v, z] [] w := by
    intro w p q cn u v z I hq100 hQ
    refine mid1 w p cn _ u v z I (fun w' I' _ => ?_)
    simp only [bX6_lock_62, n19 q hq100, Option.toList_some, Option.toList_none, List.cons_append, List.nil_append, and_assoc, exists_and_left, exists_eq_left, true_and, and_true, Nat.reduceLeDiff, not_false_eq_true, not_true_eq_false, ↓reduceIte, eq_self, ← Int32.not_lt, ite_not, Classical.not_not]
    exact fin w' 0 _ cn _ u v z I' (fun h' h1 h2 => by rw [if_neg (n19 q hq100)]; exact hQ h' h1 h2)
  by_cases c0 : n = 0
  · subst c0
    have em : mis lc 0 = some 0 := rfl
    rw [em] at hq
    have b7 : mPut h 66 x0 59 7 = nI 0 := by rw [q59]; exact e7
    have bL : gdL (mPut h 66 x0 63) 0 lc := by rw [mPut_ne _ _ (by omega)]; exact L
    simp only [bX6_lock_10, bX6_lock_14, bX6_lock_17, bX6_lock_26, t59, k6_rs0 (show 4 ≤ 10 by omega) b7 bL, w10, n19 0 (by omega), Option.toList_some, Option.toList_none, List.cons_append, List.nil_append, and_assoc, exists_and_left, exists_eq_left, true_and, and_true, Nat.reduceLeDiff, not_false_eq_true, not_true_eq_false, ↓reduceIte, eq_self, ← Int32.not_lt, ite_not, Classical.not_not]
    exact fault _ 0 0 _ _ _ _ I0 (by omega) hq
  · have em : mis lc n = msh lc n (n + 1) 0 := if_neg c0
    rw [em] at hq
    have b7 : mPut h 66 x0 59 7 = nI n := by rw [q59]; exact e7
    have bL : gdL (mPut h 66 x0 63) n lc := by rw [mPut_ne _ _ (by omega)]; exact L
    have one : ∀ (f p q : Nat) (N : Nat → Int32) (u v z : Value), lkI h (wP (mPut h 66 x0) p N) p (mv 60 h) → p < n → n < p + f → (∀ p', msh lc n f p = some p' → ∀ (w : mH) (p2 : Nat) (cn : Int32), lkI h w p2 (mv 60 h) → WP 10 eX6_lock Q 46 [.ref 59, .int cn, .int (-1000 - nI p'), u, v, z] [] w) → (msh lc n f p = none → ∀ (w : mH) (p2 : Nat), lkI h w p2 (mv 60 h) → WP 10 eX6_lock Q 46 [.ref 59, .int (nI (q + cnS lc n f p)), .int (-9), u, v, z] [] w) → WP 10 eX6_lock Q 10 [.ref 59, .int (nI q), .int (-9), u, v, z] [] (wP (mPut h 66 x0) p N) := by
      intro f
      induction f with
      | zero => intro p q N u v z _ h1 h2; omega
      | succ f ih =>
        intro p q N u v z I hp hf hS hNn
        obtain ⟨N', a1, c1⟩ := e6_rs (show 4 ≤ 10 by omega) b7 bL hp N
        have I2 : lkI h (wP (mPut h 66 x0) (rst lc n p).1 N') (rst lc n p).1 (mv 60 h) := by
          have := lkI_wP (q := (rst lc n p).1) (N := N') I
          have e : wP (wP (mPut h 66 x0) p N) (rst lc n p).1 N' = wP (mPut h 66 x0) (rst lc n p).1 N' := by
            unfold wP
            funext c
            by_cases z1 : c = 59
            · subst z1
              rw [mPut_self, mPut_self, mPut_self]
              funext j
              simp only [upd_at]
              split <;> rfl
            · rw [mPut_ne _ _ z1, mPut_ne _ _ z1]
              by_cases z2 : c = 67
              · subst z2; rw [mPut_self, mPut_self]
              · rw [mPut_ne _ _ z2, mPut_ne _ _ z2, mPut_ne _ _ z1, mPut_ne _ _ z2]
          rw [e] at this
          exact this
        have em2 : msh lc n (f + 1) p = if (rst lc n p).2 = true then msh lc n f (rst lc n p).1 else some (rst lc n p).1 := by
          rw [msh, if_pos hp]
          unfold rst
          by_cases c5 : sj (lc p) = 5
          · rw [if_pos c5, if_pos c5]; rfl
          · rw [if_neg c5, if_neg c5]
        have ec : (rst lc n p).2 = true → (rst lc n p).1 = p + 1 + sln (sj (lc p)) := by
          unfold rst
          by_cases c5 : sj (lc p) = 5
          · rw [if_pos c5]; intro z; cases z
          · rw [if_neg c5]; intro z; exact (scn_t z).1
        have le : (rst lc n p).1 ≤ n := by
          unfold rst
          by_cases c5 : sj (lc p) = 5
          · rw [if_pos c5]; exact Nat.le_of_lt hp
          · rw [if_neg c5]; exact scn_le (by omega)
        rw [em2] at hS hNn
        rw [bX6_lock_10]
        simp only [bX6_lock_14, bX6_lock_17, t59, Cal_iff c1, w10, bz0, ite_bz, Option.toList_some, Option.toList_none, List.cons_append, List.nil_append, and_assoc, exists_and_left, exists_eq_left, true_and, and_true, Nat.reduceLeDiff, not_false_eq_true, not_true_eq_false, ↓reduceIte, eq_self, ← Int32.not_lt, ite_not, Classical.not_not]
        cases ok : (rst lc n p).2 with
        | true =>
          rw [ok] at hS hNn
          have e5 := ec ok
          rw [e5] at hS hNn I2 le ⊢
          have eb : cnS lc n (f + 1) p = 1 + cnS lc n f (p + 1 + sln (sj (lc p))) := by rw [cnS, if_pos hp]
          rw [eb, show q + (1 + cnS lc n f (p + 1 + sln (sj (lc p)))) = q + 1 + cnS lc n f (p + 1 + sln (sj (lc p))) by omega] at hNn
          simp only [decide_true, decide_false, not_false_eq_true, not_true_eq_false, ↓reduceIte, Bool.false_eq_true, Bool.and_true, Bool.true_and, Bool.false_and, Bool.and_false, true_and, false_and, and_true, and_false] at hS hNn ⊢
          simp only [bX6_lock_26, bX6_lock_35, t59, w10, w7, b7, nlt (show p + 1 + sln (sj (lc p)) ≤ 100000 by omega) (show n ≤ 100000 by omega), nI_1, Option.toList_some, Option.toList_none, List.cons_append, List.nil_append, and_assoc, exists_and_left, exists_eq_left, true_and, and_true, Nat.reduceLeDiff, not_false_eq_true, not_true_eq_false, ↓reduceIte, eq_self, ← Int32.not_lt, ite_not, Classical.not_not]
          by_cases c2 : p + 1 + sln (sj (lc p)) < n
          · simp only [c2, decide_true, decide_false, not_false_eq_true, not_true_eq_false, ↓reduceIte, Bool.false_eq_true, Bool.and_true, Bool.true_and, Bool.false_and, Bool.and_false, true_and, false_and, and_true, and_false]
            exact ih (p + 1 + sln (sj (lc p))) (q + 1) N' u v z I2 c2 (by omega) hS hNn
          · simp only [c2, decide_true, decide_false, not_false_eq_true, not_true_eq_false, ↓reduceIte, Bool.false_eq_true, Bool.and_true, Bool.true_and, Bool.false_and, Bool.and_false, true_and, false_and, and_true, and_false]
            have z1 : msh lc n f (p + 1 + sln (sj (lc p))) = none := by
              cases f with
              | zero => rfl
              | succ f => rw [msh, if_neg c2]
            have z2 : cnS lc n f (p + 1 + sln (sj (lc p))) = 0 := by
              cases f with
              | zero => rfl
              | succ f => rw [cnS, if_neg c2]
            rw [z2, Nat.add_zero] at hNn
            exact hNn z1 _ _ I2
        | false =>
          rw [ok] at hS
          simp only [decide_true, decide_false, not_false_eq_true, not_true_eq_false, ↓reduceIte, Bool.false_eq_true, Bool.and_true, Bool.true_and, Bool.false_and, Bool.and_false, true_and, false_and, and_true, and_false] at hS ⊢
          simp only [bX6_lock_26, n19 (rst lc n p).1 (by omega), Option.toList_some, Option.toList_none, List.cons_append, List.nil_append, and_assoc, exists_and_left, exists_eq_left, true_and, and_true, Nat.reduceLeDiff, not_false_eq_true, not_true_eq_false, ↓reduceIte, eq_self, ← Int32.not_lt, ite_not, Classical.not_not]
          exact hS _ rfl _ _ _ I2
    refine one (n + 1) 0 0 _ _ _ _ I0 (by omega) (by omega) (fun p' e w p2 cn I => ?_) (fun e w p2 I => ?_)
    · rw [e] at hq
      have := msh_le e
      exact fault w p2 p' cn _ _ _ I (by omega) hq
    · rw [e] at hq
      refine mid1 w p2 _ _ _ _ _ I (fun w' I' e62 => two (n + 1) 0 0 w' K M (mv 60 h) _ _ _ _ I' e62 G e (by omega) (by omega) (fun h' h1 h2 => ?_))
      have := hq h' h1 h2
      cases eh : (hap lc n (n + 1) 0 0 (mv 60 h)).2 with
      | none => exact this
      | some τ =>
        rw [hap_cnt eh] at this
        exact this
