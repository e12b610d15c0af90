/-! image, on, lock, slip -/
theorem cS_3 {h h' : mH} (o : onl 35 h h') (e : cv 35 h' = cv 1 h) : cS (mPut h' 0 (upd (h' 0) 3 1)) = ((cS h).1, (1, (cS h).1), (cS h).2.2) := by
  unfold cS
  rw [cv_out (by omega), cv_out (by omega), mPut_self, mPut_ne _ _ (by omega), mPut_ne _ _ (by omega), mPut_ne _ _ (by omega), mPut_ne _ _ (by omega), o 0 (by omega), o 55 (by omega), o 56 (by omega), o 57 (by omega), o 58 (by omega), cv_congr (s := 1) (fun c h1 h2 => o c (by omega)), e]
  rfl
theorem c_image : KC eX5_image [] f_image := by
  refine KC_of rfl (fun h K M GS G Q hq => ?_)
  show WP 10 eX5_image Q 0 [.ref 0] [] h
  have e0 : h 1 2 = nI K := G.s0
  have e1 : h 1 6 = nI M := G.s1
  have g0 : cv 1 h 0 = nI K := G.s0
  have g1 : cv 1 h 1 = nI M := G.s1
  have k10 := G.k10
  have m5 := G.m5
  have gk := gdkN G
  have gm := gdmN G
  unfold f_image at hq
  simp only [cS_1, cS_if, cS_im, cS_ln, cS_l, cS_rn, cS_r, cS_q, g0, g1, bno, gk, gm] at hq
  have hz : ∀ k, k < 10 → h (1 + 14) k = 0 ∨ h (1 + 14) k = 1 := fun k hk => by have := G.z hk; rw [cvZ hk] at this; exact this
  obtain ⟨h2, hc, w1, w2⟩ := e_becomes (show 1 ≤ 10 by omega) s35 s1 (by omega) hz
  have e9 : ∀ x, mPut h2 0 x 1 9 = cv 1 h 2 := fun x => by rw [mPut_ne _ _ (by omega), w2 1 (by omega)]; rfl
  simp only [bX5_image_0, bX5_image_11, bX5_image_16, r02, tgS s35, Cal_iff hc, e9, t0, r00, r04, t52, tgS s1, k_hasKey (show 1 ≤ 10 by omega) s1, k_hasMachine (show 1 ≤ 10 by omega) s1, k_refuse (show 1 ≤ 10 by omega) rc1, k_refuse (show 1 ≤ 10 by omega) rc2, k_refuse (show 1 ≤ 10 by omega) rc3, k_refuse (show 1 ≤ 10 by omega) rc4, k_refuse (show 1 ≤ 10 by omega) rc6, k_isTooth (show 1 ≤ 10 by omega), k_isZeroOrOne (show 1 ≤ 10 by omega), k_outside (show 1 ≤ 10 by omega), bz0, ite_bz, e0, e1, Option.toList_some, Option.toList_none, List.cons_append, List.nil_append, and_assoc, exists_and_left, exists_eq_left, true_and, and_true, Nat.reduceLeDiff, not_false_eq_true, not_true_eq_false, ↓reduceIte, eq_self, ← Int32.not_lt, ite_not, Classical.not_not]
  exact hq _ (cS_3 w2 w1) (frC_p (onl35_frC w2) (by omega))
theorem c_on : KC eX5_on [] f_on := by
  refine KC_of rfl (fun h K M GS G Q hq => ?_)
  show WP 10 eX5_on Q 0 [.ref 0] [] h
  have e0 : h 1 2 = nI K := G.s0
  have e1 : h 1 6 = nI M := G.s1
  have g0 : cv 1 h 0 = nI K := G.s0
  have g1 : cv 1 h 1 = nI M := G.s1
  have k10 := G.k10
  have m5 := G.m5
  have gk := gdkN G
  have gm := gdmN G
  unfold f_on at hq
  simp only [cS_1, cS_if, cS_im, cS_ln, cS_l, cS_rn, cS_r, cS_q, g0, g1, bno, gk, gm] at hq
  rcases GS.2.1 with z | ⟨z, K2, M2, G2⟩
  · have z : h 0 3 = 0 := z
    simp only [bX5_on_0, bX5_on_7, bX5_on_13, z, t0, r00, r04, t52, tgS s1, k_hasKey (show 1 ≤ 10 by omega) s1, k_hasMachine (show 1 ≤ 10 by omega) s1, k_refuse (show 1 ≤ 10 by omega) rc1, k_refuse (show 1 ≤ 10 by omega) rc2, k_refuse (show 1 ≤ 10 by omega) rc3, k_refuse (show 1 ≤ 10 by omega) rc4, k_refuse (show 1 ≤ 10 by omega) rc6, k_isTooth (show 1 ≤ 10 by omega), k_isZeroOrOne (show 1 ≤ 10 by omega), k_outside (show 1 ≤ 10 by omega), bz0, ite_bz, e0, e1, Option.toList_some, Option.toList_none, List.cons_append, List.nil_append, and_assoc, exists_and_left, exists_eq_left, true_and, and_true, Nat.reduceLeDiff, not_false_eq_true, not_true_eq_false, ↓reduceIte, eq_self, ← Int32.not_lt, ite_not, Classical.not_not] at hq ⊢
    exact hq _ (cS_rf _) (frC_rf _)
  · have z : h 0 3 = 1 := z
    have G2 : gdN (cI (h 0 3) (cv 35 h)) K2 M2 := G2
    have eI : cI (h 0 3) (cv 35 h) = cv 35 h := by rw [z]; rfl
    rw [eI] at G2
    have hz : ∀ k, k < 10 → h (35 + 14) k = 0 ∨ h (35 + 14) k = 1 := fun k hk => by have := G2.z hk; rw [cvZ hk] at this; exact this
    obtain ⟨h2, hc, w1, w2⟩ := e_becomes (show 1 ≤ 10 by omega) s1 s35 (by omega) hz
    have e9 : h2 1 9 = cv 35 h 2 := by rw [← w1]; rfl
    rw [eI] at hq
    simp only [z, n01, decide_true, decide_false, not_false_eq_true, not_true_eq_false, ↓reduceIte, Bool.false_eq_true, Bool.and_true, Bool.true_and, Bool.false_and, Bool.and_false, true_and, false_and, and_true, and_false] at hq
    simp only [bX5_on_0, bX5_on_14, bX5_on_25, z, n01, r02, tgS s35, Cal_iff hc, e9, t0, r00, r04, t52, tgS s1, k_hasKey (show 1 ≤ 10 by omega) s1, k_hasMachine (show 1 ≤ 10 by omega) s1, k_refuse (show 1 ≤ 10 by omega) rc1, k_refuse (show 1 ≤ 10 by omega) rc2, k_refuse (show 1 ≤ 10 by omega) rc3, k_refuse (show 1 ≤ 10 by omega) rc4, k_refuse (show 1 ≤ 10 by omega) rc6, k_isTooth (show 1 ≤ 10 by omega), k_isZeroOrOne (show 1 ≤ 10 by omega), k_outside (show 1 ≤ 10 by omega), bz0, ite_bz, e0, e1, Option.toList_some, Option.toList_none, List.cons_append, List.nil_append, and_assoc, exists_and_left, exists_eq_left, true_and, and_true, Nat.reduceLeDiff, not_false_eq_true, not_true_eq_false, ↓reduceIte, eq_self, ← Int32.not_lt, ite_not, Classical.not_not]
    refine hq _ ?_ (onl1_frC w2)
    rw [cS_o1 w2, w1]
theorem gdL_lc {L : Nat → Int32} {n : Nat} {lc : Nat → Nat} (g : gdL L n lc) : gdL L n (lcN L) := ⟨g.1, fun i hi => by
  obtain ⟨a, b⟩ := g.2 i hi
  have : lcN L i = lc i := by unfold lcN; rw [b, nI_clamp (by omega)]
  rw [this]; exact ⟨a, b⟩⟩
theorem msh_le {lc : Nat → Nat} {n : Nat} : ∀ {f p q : Nat}, msh lc n f p = some q → q ≤ n
  | 0, p, q, h => by rw [msh] at h; cases h
  | f + 1, p, q, h => by
    rw [msh] at h
    split at h
    · rename_i c
      split at h
      · cases h; omega
      · split at h
        · exact msh_le h
        · cases h; exact scn_le (by omega)
    · cases h
theorem mis_le {lc : Nat → Nat} {n q : Nat} (h : mis lc n = some q) : q ≤ n := by
  unfold mis at h
  split at h
  · cases h; omega
  · exact msh_le h
theorem mis_n {lc : Nat → Nat} {n : Nat} (h : mis lc n = none) : msh lc n (n + 1) 0 = none := by
  unfold mis at h
  split at h
  · cases h
  · exact h
theorem k_forget {d : Nat} (hd : 1 ≤ d) (h : mH) (r : Option Value) (h' : mH) : Cal d eX4_forget [.ref 55] h r h' ↔ r = none ∧ h' = mPut h 55 (upd (h 55) 1 0) := by
  refine Cal_iff (Cal_le (d := 1) (Cal_of rfl (fun Q hq => ?_)) hd) r h'
  show WP 0 eX4_forget Q 0 [.ref 55] [] h
  simp only [bX4_forget_0, bX4_forget_5, t55, Option.toList_some, Option.toList_none, List.cons_append, List.nil_append, and_assoc, exists_and_left, exists_eq_left, true_and, and_true, Nat.reduceLeDiff, not_false_eq_true, not_true_eq_false, ↓reduceIte, eq_self, ← Int32.not_lt, ite_not, Classical.not_not]
  exact hq
theorem cS_55 {h : mH} : cS (mPut h 55 (upd (h 55) 1 0)) = ((cS h).1, (cS h).2.1, (0, (cS h).2.2.1.2), (cS h).2.2.2) := by
  unfold cS
  rw [cv_out (by omega), cv_out (by omega)]
  rfl
theorem c_lock : KC eX5_lock [] f_lock := by
  refine KC_of rfl (fun h K M GS G Q hq => ?_)
  show WP 10 eX5_lock Q 0 [.ref 0, mU, mU] [] h
  have e0 : h 1 2 = nI K := G.s0
  have e1 : h 1 6 = nI M := G.s1
  have g0 : cv 1 h 0 = nI K := G.s0
  have g1 : cv 1 h 1 = nI M := G.s1
  have k10 := G.k10
  have m5 := G.m5
  have gk := gdkN G
  have gm := gdmN G
  unfold f_lock at hq
  simp only [cS_1, cS_if, cS_im, cS_ln, cS_l, cS_rn, cS_r, cS_q, g0, g1, bno, gk, gm] at hq
  obtain ⟨n, lc, en, L⟩ := GS.2.2.1
  have n96 := L.1
  have e55 : h 55 1 = nI n := en
  have L : gdL (h 56) n (lcN (h 56)) := gdL_lc L
  simp only [e55, xN_n (show n < 100000 by omega)] at hq
  simp only [bX5_lock_0, bX5_lock_7, bX5_lock_14, r05, t55, k_misshapenPlace (show 6 ≤ 10 by omega) e55 L, t0, r00, r04, t52, tgS s1, k_hasKey (show 1 ≤ 10 by omega) s1, k_hasMachine (show 1 ≤ 10 by omega) s1, k_refuse (show 1 ≤ 10 by omega) rc1, k_refuse (show 1 ≤ 10 by omega) rc2, k_refuse (show 1 ≤ 10 by omega) rc3, k_refuse (show 1 ≤ 10 by omega) rc4, k_refuse (show 1 ≤ 10 by omega) rc6, k_isTooth (show 1 ≤ 10 by omega), k_isZeroOrOne (show 1 ≤ 10 by omega), k_outside (show 1 ≤ 10 by omega), bz0, ite_bz, e0, e1, Option.toList_some, Option.toList_none, List.cons_append, List.nil_append, and_assoc, exists_and_left, exists_eq_left, true_and, and_true, Nat.reduceLeDiff, not_false_eq_true, not_true_eq_false, ↓reduceIte, eq_self, ← Int32.not_lt, ite_not, Classical.not_not]
  cases em : mis (lcN (h 56)) n with
  | some p =>
    have := mis_le em
    rw [em] at hq
    simp only [on, nm9 (show p ≤ 100000 by omega), decide_true, decide_false, not_false_eq_true, not_true_eq_false, ↓reduceIte, Bool.false_eq_true, Bool.and_true, Bool.true_and, Bool.false_and, Bool.and_false, true_and, false_and, and_true, and_false] at hq ⊢
    simp only [bX5_lock_61, bX5_lock_68, r05, t55, k_forget (show 1 ≤ 10 by omega), t0, r00, r04, t52, tgS s1, k_hasKey (show 1 ≤ 10 by omega) s1, k_hasMachine (show 1 ≤ 10 by omega) s1, k_refuse (show 1 ≤ 10 by omega) rc1, k_refuse (show 1 ≤ 10 by omega) rc2, k_refuse (show 1 ≤ 10 by omega) rc3, k_refuse (show 1 ≤ 10 by omega) rc4, k_refuse (show 1 ≤ 10 by omega) rc6, k_isTooth (show 1 ≤ 10 by omega), k_isZeroOrOne (show 1 ≤ 10 by omega), k_outside (show 1 ≤ 10 by omega), bz0, ite_bz, e0, e1, Option.toList_some, Option.toList_none, List.cons_append, List.nil_append, and_assoc, exists_and_left, exists_eq_left, true_and, and_true, Nat.reduceLeDiff, not_false_eq_true, not_true_eq_false, ↓reduceIte, eq_self, ← Int32.not_lt, ite_not, Classical.not_not]
    exact hq _ cS_55 (frC_p frC_r (by omega))
  | none =>
    rw [em] at hq
    have hm := mis_n em
    have hz : ∀ k, k < 10 → h (1 + 14) k = 0 ∨ h (1 + 14) k = 1 := fun k hk => by have := G.z hk; rw [cvZ hk] at this; exact this
    obtain ⟨h2, hc, w1, w2⟩ := e_becomes (show 1 ≤ 10 by omega) s18 s1 (by omega) hz
    have x1 : h2 55 1 = nI n := by rw [w2 55 (by omega)]; exact e55
    have x2 : gdL (h2 56) n (lcN (h 56)) := by rw [w2 56 (by omega)]; exact L
    have G2 : gdN (cv 18 h2) K M := by rw [w1]; exact G
    obtain ⟨h3, ⟨v1, v2⟩, hc3⟩ := e_happenIn (show 7 ≤ 10 by omega) s18 G2 x1 x2 hm
    rw [w1] at v1 hc3
    have sg := hap_sg (lc := lcN (h 56)) (f := n + 1) (p := 0) (q := 0) (σ := cv 1 h) n96 (by omega)
    have o3 : onl 18 h h3 := w2.trans v2
    simp only [on, decide_true, decide_false, not_false_eq_true, not_true_eq_false, ↓reduceIte, Bool.false_eq_true, Bool.and_true, Bool.true_and, Bool.false_and, Bool.and_false, true_and, false_and, and_true, and_false] at hq ⊢
    simp only [bX5_lock_23, bX5_lock_34, bX5_lock_45, r01, r05, t55, tgS s18, Cal_iff hc, Cal_iff hc3, sg, t0, r00, r04, t52, tgS s1, k_hasKey (show 1 ≤ 10 by omega) s1, k_hasMachine (show 1 ≤ 10 by omega) s1, k_refuse (show 1 ≤ 10 by omega) rc1, k_refuse (show 1 ≤ 10 by omega) rc2, k_refuse (show 1 ≤ 10 by omega) rc3, k_refuse (show 1 ≤ 10 by omega) rc4, k_refuse (show 1 ≤ 10 by omega) rc6, k_isTooth (show 1 ≤ 10 by omega), k_isZeroOrOne (show 1 ≤ 10 by omega), k_outside (show 1 ≤ 10 by omega), bz0, ite_bz, e0, e1, Option.toList_some, Option.toList_none, List.cons_append, List.nil_append, and_assoc, exists_and_left, exists_eq_left, true_and, and_true, Nat.reduceLeDiff, not_false_eq_true, not_true_eq_false, ↓reduceIte, eq_self, ← Int32.not_lt, ite_not, Classical.not_not]
    cases eh : (hap (lcN (h 56)) n (n + 1) 0 0 (cv 1 h)).2 with
    | none =>
      rw [eh] at hq
      simp only [decide_true, decide_false, not_false_eq_true, not_true_eq_false, ↓reduceIte, Bool.false_eq_true, Bool.and_true, Bool.true_and, Bool.false_and, Bool.and_false, true_and, false_and, and_true, and_false]
      simp only [bX5_lock_61, bX5_lock_68, r05, t55, k_forget (show 1 ≤ 10 by omega), t0, r00, r04, t52, tgS s1, k_hasKey (show 1 ≤ 10 by omega) s1, k_hasMachine (show 1 ≤ 10 by omega) s1, k_refuse (show 1 ≤ 10 by omega) rc1, k_refuse (show 1 ≤ 10 by omega) rc2, k_refuse (show 1 ≤ 10 by omega) rc3, k_refuse (show 1 ≤ 10 by omega) rc4, k_refuse (show 1 ≤ 10 by omega) rc6, k_isTooth (show 1 ≤ 10 by omega), k_isZeroOrOne (show 1 ≤ 10 by omega), k_outside (show 1 ≤ 10 by omega), bz0, ite_bz, e0, e1, Option.toList_some, Option.toList_none, List.cons_append, List.nil_append, and_assoc, exists_and_left, exists_eq_left, true_and, and_true, Nat.reduceLeDiff, not_false_eq_true, not_true_eq_false, ↓reduceIte, eq_self, ← Int32.not_lt, ite_not, Classical.not_not]
      refine hq _ ?_ (frC_p (onl18_frC o3) (by omega))
      rw [cS_55, cS_o18 o3]
      rfl
    | some τ =>
      obtain ⟨K', M', G'⟩ := hap_gd G hm eh
      have vv := v1 τ eh
      have hz3 : ∀ k, k < 10 → h3 (18 + 14) k = 0 ∨ h3 (18 + 14) k = 1 := fun k hk => by rw [← vv] at G'; have := G'.z hk; rw [cvZ hk] at this; exact this
      obtain ⟨h4, hc4, y1, y2⟩ := e_becomes (show 1 ≤ 10 by omega) s1 s18 (by omega) hz3
      rw [eh] at hq
      have ne : ((some τ : Option (Nat → Int32)) = none) = False := eq_false (fun z => by cases z)
      simp only [ne, decide_true, decide_false, not_false_eq_true, not_true_eq_false, ↓reduceIte, Bool.false_eq_true, Bool.and_true, Bool.true_and, Bool.false_and, Bool.and_false, true_and, false_and, and_true, and_false]
      simp only [bX5_lock_50, bX5_lock_61, bX5_lock_68, r01, r05, t55, tgS s18, Cal_iff hc4, k_forget (show 1 ≤ 10 by omega), t0, r00, r04, t52, tgS s1, k_hasKey (show 1 ≤ 10 by omega) s1, k_hasMachine (show 1 ≤ 10 by omega) s1, k_refuse (show 1 ≤ 10 by omega) rc1, k_refuse (show 1 ≤ 10 by omega) rc2, k_refuse (show 1 ≤ 10 by omega) rc3, k_refuse (show 1 ≤ 10 by omega) rc4, k_refuse (show 1 ≤ 10 by omega) rc6, k_isTooth (show 1 ≤ 10 by omega), k_isZeroOrOne (show 1 ≤ 10 by omega), k_outside (show 1 ≤ 10 by omega), bz0, ite_bz, e0, e1, Option.toList_some, Option.toList_none, List.cons_append, List.nil_append, and_assoc, exists_and_left, exists_eq_left, true_and, and_true, Nat.reduceLeDiff, not_false_eq_true, not_true_eq_false, ↓reduceIte, eq_self, ← Int32.not_lt, ite_not, Classical.not_not]
      refine hq _ ?_ (frC_p (fun c hc => by rw [y2 c (by omega)]; exact o3 c (by omega)) (by omega))
      rw [cS_55, cS_o1 y2, cS_o18 o3, y1, vv]
      rfl
theorem slW_le {σ : Nat → Int32} {k m n t : Nat} (hn : n ≤ 6) (ht : t ≤ 20) : ∀ i, slW σ k m n t i ≤ i * 64000000
  | 0 => Nat.le_refl _
  | i + 1 => by
    have ih := slW_le (σ := σ) (k := k) (m := m) hn ht i
    have h1 : (t - 1) ^ (n - ct i.testBit 10) ≤ 20 ^ (n - ct i.testBit 10) := Nat.pow_le_pow_left (by omega) _
    have h2 : 20 ^ (n - ct i.testBit 10) ≤ 20 ^ 6 := Nat.pow_le_pow_right (by omega) (by omega)
    have h3 : (20 : Nat) ^ 6 = 64000000 := by decide
    have hX : (t - 1) ^ (n - ct i.testBit 10) ≤ 64000000 := by rw [← h3]; exact Nat.le_trans h1 h2
    clear h1 h2 h3
    rw [slW]
    generalize (t - 1) ^ (n - ct i.testBit 10) = X at hX ⊢
    generalize slW σ k m n t i = Y at ih ⊢
    have key : ∀ C Z, Z ≤ C → Y ≤ i * C → Y + Z ≤ (i + 1) * C := fun C Z h1 h2 => by rw [Nat.succ_mul]; exact Nat.add_le_add h2 h1
    split
    · exact key _ _ hX ih
    · exact key _ _ (Nat.zero_le _) ih
theorem slN_le {σ : Nat → Int32} {k m n t : Nat} (hn : n ≤ 6) (ht : t ≤ 20) : slN σ k m n t ≤ 4096000000 := by
  unfold slN
  split
  · split <;> omega
  · have h1 := slW_le (σ := σ) (k := k) (m := m) hn ht (2 ^ n)
    have h2 : 2 ^ n ≤ 64 := Nat.pow_le_pow_right (n := 2) (j := 6) (by omega) hn
    omega
theorem pw_le {n t : Nat} (hn : n ≤ 6) (ht : t ≤ 20) : t ^ n ≤ 64000000 := by
  have h1 : t ^ n ≤ 20 ^ n := Nat.pow_le_pow_left ht _
  have h2 : 20 ^ n ≤ 20 ^ 6 := Nat.pow_le_pow_right (by omega) hn
  have h3 : (20 : Nat) ^ 6 = 64000000 := by decide
  omega
theorem c_slip (x y n t p : Int32) : KC eX5_slip [.int x, .int y, .int n, .int t, .int p] (f_slip x y n t p) := by
  refine KC_of rfl (fun h K M GS G Q hq => ?_)
  show WP 10 eX5_slip Q 0 [.ref 0, .int x, .int y, .int n, .int t, .int p, mU, mU, mU, mU, mU, mU] [] h
  have e0 : h 1 2 = nI K := G.s0
  have e1 : h 1 6 = nI M := G.s1
  have g0 : cv 1 h 0 = nI K := G.s0
  have g1 : cv 1 h 1 = nI M := G.s1
  have k10 := G.k10
  have m5 := G.m5
  have gk := gdkN G
  have gm := gdmN G
  unfold f_slip at hq
  simp only [cS_1, cS_if, cS_im, cS_ln, cS_l, cS_rn, cS_r, cS_q, g0, g1, bno, gk, gm] at hq
  simp only [bX5_slip_0, bX5_slip_8, bX5_slip_11, bX5_slip_19, bX5_slip_22, bX5_slip_30, bX5_slip_33, bX5_slip_37, bX5_slip_43, bX5_slip_52, bX5_slip_55, bX5_slip_61, bX5_slip_68, bX5_slip_77, bX5_slip_80, bX5_slip_85, bX5_slip_88, bX5_slip_97, t0, r00, r04, t52, tgS s1, k_hasKey (show 1 ≤ 10 by omega) s1, k_hasMachine (show 1 ≤ 10 by omega) s1, k_refuse (show 1 ≤ 10 by omega) rc1, k_refuse (show 1 ≤ 10 by omega) rc2, k_refuse (show 1 ≤ 10 by omega) rc3, k_refuse (show 1 ≤ 10 by omega) rc4, k_refuse (show 1 ≤ 10 by omega) rc6, k_isTooth (show 1 ≤ 10 by omega), k_isZeroOrOne (show 1 ≤ 10 by omega), k_outside (show 1 ≤ 10 by omega), bz0, ite_bz, e0, e1, Option.toList_some, Option.toList_none, List.cons_append, List.nil_append, and_assoc, exists_and_left, exists_eq_left, true_and, and_true, Nat.reduceLeDiff, not_false_eq_true, not_true_eq_false, ↓reduceIte, eq_self, ← Int32.not_lt, ite_not, Classical.not_not]
  simp only [bnl] at hq
  cases c : ik x (nI K) with
  | false => simp only [c, decide_true, decide_false, not_false_eq_true, not_true_eq_false, ↓reduceIte, Bool.false_eq_true, Bool.and_true, Bool.true_and, Bool.false_and, Bool.and_false, true_and, false_and, and_true, and_false] at hq ⊢; exact hq _ (cS_rf _) (frC_rf _)
  | true =>
    obtain ⟨k, hk, rfl⟩ := ikt (by omega) c
    have hk10 : k < 10 := by omega
    simp only [c, decide_true, decide_false, not_false_eq_true, not_true_eq_false, ↓reduceIte, Bool.false_eq_true, Bool.and_true, Bool.true_and, Bool.false_and, Bool.and_false, true_and, false_and, and_true, and_false, xN_n (show k < 100000 by omega)] at hq ⊢
    cases c2 : ik y (nI M) with
    | false => simp only [c2, decide_true, decide_false, not_false_eq_true, not_true_eq_false, ↓reduceIte, Bool.false_eq_true, Bool.and_true, Bool.true_and, Bool.false_and, Bool.and_false, true_and, false_and, and_true, and_false] at hq ⊢; exact hq _ (cS_rf _) (frC_rf _)
    | true =>
      obtain ⟨m, hm, rfl⟩ := ikt (by omega) c2
      simp only [c2, decide_true, decide_false, not_false_eq_true, not_true_eq_false, ↓reduceIte, Bool.false_eq_true, Bool.and_true, Bool.true_and, Bool.false_and, Bool.and_false, true_and, false_and, and_true, and_false, xN_n (show m < 100000 by omega)] at hq ⊢
      by_cases n0 : n < 0
      · simp only [n0, decide_true, decide_false, not_false_eq_true, not_true_eq_false, ↓reduceIte, Bool.false_eq_true, Bool.and_true, Bool.true_and, Bool.false_and, Bool.and_false, true_and, false_and, and_true, and_false] at hq ⊢; exact hq _ (cS_rf _) (frC_rf _)
      by_cases t2 : t < 2
      · simp only [n0, t2, decide_true, decide_false, not_false_eq_true, not_true_eq_false, ↓reduceIte, Bool.false_eq_true, Bool.and_true, Bool.true_and, Bool.false_and, Bool.and_false, true_and, false_and, and_true, and_false] at hq ⊢; exact hq _ (cS_rf _) (frC_rf _)
      by_cases n6 : 6 < n
      · simp only [n0, t2, n6, decide_true, decide_false, not_false_eq_true, not_true_eq_false, ↓reduceIte, Bool.false_eq_true, Bool.and_true, Bool.true_and, Bool.false_and, Bool.and_false, true_and, false_and, and_true, and_false] at hq ⊢; exact hq _ (cS_rf _) (frC_rf _)
      by_cases t20 : 20 < t
      · simp only [n0, t2, n6, t20, decide_true, decide_false, not_false_eq_true, not_true_eq_false, ↓reduceIte, Bool.false_eq_true, Bool.and_true, Bool.true_and, Bool.false_and, Bool.and_false, true_and, false_and, and_true, and_false] at hq ⊢; exact hq _ (cS_rf _) (frC_rf _)
      obtain ⟨a, _, a6, rfl⟩ : ∃ j, 0 ≤ j ∧ j ≤ 6 ∧ n = nI j := oub_in (a := 0) (b := 6) (by omega) (by omega) (by unfold oub; rw [if_neg (show ¬ n < nI 0 from n0), if_neg (show ¬ nI 6 < n from n6)])
      obtain ⟨b, b2, b20, rfl⟩ : ∃ j, 2 ≤ j ∧ j ≤ 20 ∧ t = nI j := oub_in (a := 2) (b := 20) (by omega) (by omega) (by unfold oub; rw [if_neg (show ¬ t < nI 2 from t2), if_neg (show ¬ nI 20 < t from t20)])
      cases c3 : i01 p with
      | false => simp only [n0, t2, n6, t20, c3, decide_true, decide_false, not_false_eq_true, not_true_eq_false, ↓reduceIte, Bool.false_eq_true, Bool.and_true, Bool.true_and, Bool.false_and, Bool.and_false, true_and, false_and, and_true, and_false] at hq ⊢; exact hq _ (cS_rf _) (frC_rf _)
      | true =>
        obtain ⟨g, hc⟩ := e_waysToOpen (show 5 ≤ 10 by omega) s1 G hk10 (show m < 5 by omega) a6 (show 1 ≤ b by omega) b20
        have q1 := slN_le (σ := cv 1 h) (k := k) (m := m) a6 b20
        have q2 := pw_le a6 b20
        have q3 : 0 < b ^ a := Nat.pow_pos (by omega)
        have q4 : 0 < Nat.gcd (slN (cv 1 h) k m a b) (b ^ a) := Nat.gcd_pos_of_pos_right _ q3
        have q5 : Nat.gcd (slN (cv 1 h) k m a b) (b ^ a) ≤ b ^ a := Nat.gcd_le_right _ q3
        have q6 : jml 1 (lN (Nat.gcd (slN (cv 1 h) k m a b) (b ^ a))) = lN (Nat.gcd (slN (cv 1 h) k m a b) (b ^ a)) := by
          unfold jml
          rw [if_neg]
          intro z
          have := (pk_lLT (a := Nat.gcd (slN (cv 1 h) k m a b) (b ^ a)) (b := 1) (by omega) (by omega)).mp z
          omega
        have q7 : ¬ lN (Nat.gcd (slN (cv 1 h) k m a b) (b ^ a)) = 0 := by rw [lN0 (by omega)]; omega
        simp only [n0, t2, n6, t20, c3, decide_true, decide_false, not_false_eq_true, not_true_eq_false, ↓reduceIte, Bool.false_eq_true, Bool.and_true, Bool.true_and, Bool.false_and, Bool.and_false, true_and, false_and, and_true, and_false, xN_n (show a < 100000 by omega), xN_n (show b < 100000 by omega)] at hq ⊢
        simp only [bX5_slip_100, bX5_slip_116, bX5_slip_125, bX5_slip_135, t0, r00, r04, t52, Cal_iff hc, nI_l (show b < 2 ^ 31 by omega), k_power (show 1 ≤ 10 by omega) (show a ≤ 100 by omega), k_greatestDivisor (show 1 ≤ 10 by omega) (show slN (cv 1 h) k m a b < 2 ^ 62 by omega) (show b ^ a < 2 ^ 40 by omega), q6, Option.toList_some, Option.toList_none, List.cons_append, List.nil_append, and_assoc, exists_and_left, exists_eq_left, true_and, and_true, Nat.reduceLeDiff, not_false_eq_true, not_true_eq_false, ↓reduceIte, eq_self, ← Int32.not_lt, ite_not, Classical.not_not]
        by_cases p0 : p = 0
        · simp only [p0, decide_true, decide_false, not_false_eq_true, not_true_eq_false, ↓reduceIte, Bool.false_eq_true, Bool.and_true, Bool.true_and, Bool.false_and, Bool.and_false, true_and, false_and, and_true, and_false] at hq ⊢
          simp only [bX5_slip_145, bX5_slip_158, q7, pk_lDiv (show slN (cv 1 h) k m a b < 2 ^ 63 by omega) q4 (show Nat.gcd (slN (cv 1 h) k m a b) (b ^ a) < 2 ^ 63 by omega), Option.toList_some, Option.toList_none, List.cons_append, List.nil_append, and_assoc, exists_and_left, exists_eq_left, true_and, and_true, Nat.reduceLeDiff, not_false_eq_true, not_true_eq_false, ↓reduceIte, eq_self, ← Int32.not_lt, ite_not, Classical.not_not]
          exact hq _ cS_53 (frC_p frC_r (by omega))
        · simp only [p0, decide_true, decide_false, not_false_eq_true, not_true_eq_false, ↓reduceIte, Bool.false_eq_true, Bool.and_true, Bool.true_and, Bool.false_and, Bool.and_false, true_and, false_and, and_true, and_false] at hq ⊢
          simp only [bX5_slip_153, bX5_slip_158, q7, pk_lDiv (show b ^ a < 2 ^ 63 by omega) q4 (show Nat.gcd (slN (cv 1 h) k m a b) (b ^ a) < 2 ^ 63 by omega), Option.toList_some, Option.toList_none, List.cons_append, List.nil_append, and_assoc, exists_and_left, exists_eq_left, true_and, and_true, Nat.reduceLeDiff, not_false_eq_true, not_true_eq_false, ↓reduceIte, eq_self, ← Int32.not_lt, ite_not, Classical.not_not]
          exact hq _ cS_53 (frC_p frC_r (by omega))
