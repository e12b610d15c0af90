/-! what stays a lock's row -/
def hSl (i : Nat) : Prop := (4 ≤ i ∧ i < 9) ∨ (9 ≤ i ∧ i < 79 ∧ (i - 9) % 7 < 5)
theorem gd_99 {σ σ' : Nat → Int32} {K M : Nat} (G : gdN σ K M) (h : ∀ i, σ' i = σ i ∨ (hSl i ∧ is99 (σ' i))) : gdN σ' K M := by
  have n : ∀ i, ¬ hSl i → σ' i = σ i := fun i hi => (h i).elim id (fun z => absurd z.1 hi)
  refine ⟨G.k10, by rw [n 0 (by unfold hSl; omega)]; exact G.s0, G.m5, by rw [n 1 (by unfold hSl; omega)]; exact G.s1, by rw [n 2 (by unfold hSl; omega)]; exact G.s2, by rw [n 3 (by unfold hSl; omega)]; exact G.s3, fun t ht => ?_, fun k t hk ht => ?_, fun k hk => ?_, fun k hk => ?_, fun m hm => ?_, fun m hm => ?_, fun i hi => ?_⟩
  · rcases h (4 + t) with z | z
    · rw [z]; exact G.p t ht
    · exact z.2
  · rcases h (9 + 7 * k + t) with z | z
    · rw [z]; exact G.r hk t ht
    · exact z.2
  · rw [n _ (by have := G.k10; unfold hSl; omega)]; exact G.f hk
  · rw [n _ (by unfold hSl; omega)]; exact G.z hk
  · rw [n _ (by unfold hSl; omega)]; exact G.d hm
  · rw [n _ (by unfold hSl; omega)]; exact G.g hm
  · rw [n _ (by unfold hSl; omega)]; exact G.o i hi
theorem gd_h {σ : Nat → Int32} {K M i : Nat} {v : Int32} (G : gdN σ K M) (hi : hSl i) (hv : is99 v) : gdN (upd σ i v) K M := gd_99 G (fun j => by
  rw [upd_at]
  by_cases c : j = i
  · rw [if_pos c]; exact Or.inr ⟨by rw [c]; exact hi, hv⟩
  · rw [if_neg c]; exact Or.inl rfl)
/-- another place -/
def oSl (i : Nat) (v : Int32) : Prop := (i = 2 ∧ ∃ U, U ≤ 9999 ∧ v = nI U) ∨ (i = 3 ∧ ∃ L, L ≤ 9 ∧ v = nI L) ∨ (9 ≤ i ∧ i < 79 ∧ (i - 9) % 7 = 6 ∧ (v = 0 ∨ v = 1)) ∨ (79 ≤ i ∧ i < 89 ∧ (i - 79) % 2 = 0 ∧ ∃ q, q < 6 ∧ v = nI q) ∨ (79 ≤ i ∧ i < 89 ∧ (i - 79) % 2 = 1 ∧ ∃ q, q ≤ 9 ∧ v = nI q)
theorem gd_o {σ : Nat → Int32} {K M i : Nat} {v : Int32} (G : gdN σ K M) (hv : oSl i v) : gdN (upd σ i v) K M := by
  have n : ∀ j, ¬ j = i → upd σ i v j = σ j := fun j hj => if_neg hj
  have y : upd σ i v i = v := if_pos rfl
  unfold oSl at hv
  refine ⟨G.k10, by rw [n 0 (by omega)]; exact G.s0, G.m5, by rw [n 1 (by omega)]; exact G.s1, ?_, ?_, fun t ht => by rw [n _ (by omega)]; exact G.p t ht, fun k t hk ht => by rw [n _ (by omega)]; exact G.r hk t ht, fun k hk => by have := G.k10; rw [n _ (by omega)]; exact G.f hk, fun k hk => ?_, fun m hm => ?_, fun m hm => ?_, fun i hi => by rw [n _ (by omega)]; exact G.o i hi⟩
  · by_cases c : 2 = i
    · subst c
      rw [y]
      rcases hv with ⟨_, z⟩ | ⟨z, _⟩ | ⟨z, _⟩ | ⟨z, _⟩ | ⟨z, _⟩
      · exact z
      all_goals omega
    · rw [n _ c]; exact G.s2
  · by_cases c : 3 = i
    · subst c
      rw [y]
      rcases hv with ⟨z, _⟩ | ⟨_, z⟩ | ⟨z, _⟩ | ⟨z, _⟩ | ⟨z, _⟩
      · omega
      · exact z
      all_goals omega
    · rw [n _ c]; exact G.s3
  · by_cases c : 9 + 7 * k + 6 = i
    · subst c
      rw [y]
      rcases hv with ⟨z, _⟩ | ⟨z, _⟩ | ⟨_, _, _, z⟩ | ⟨z, z2, _⟩ | ⟨z, z2, _⟩
      · omega
      · omega
      · exact z
      all_goals omega
    · rw [n _ c]; exact G.z hk
  · by_cases c : 79 + 2 * m = i
    · subst c
      rw [y]
      rcases hv with ⟨z, _⟩ | ⟨z, _⟩ | ⟨_, z, _⟩ | ⟨_, _, _, z⟩ | ⟨_, _, z, _⟩
      · omega
      · omega
      · omega
      · exact z
      · omega
    · rw [n _ c]; exact G.d hm
  · by_cases c : 79 + 2 * m + 1 = i
    · subst c
      rw [y]
      rcases hv with ⟨z, _⟩ | ⟨z, _⟩ | ⟨_, z, _⟩ | ⟨_, _, z, _⟩ | ⟨_, _, _, z⟩
      · omega
      · omega
      · omega
      · omega
      · exact z
    · rw [n _ c]; exact G.g hm
theorem gd_1 {σ : Nat → Int32} {K M : Nat} (G : gdN σ K M) (hM : M < 5) : gdN (upd σ 1 (nI (M + 1))) K (M + 1) := by
  have n : ∀ j, ¬ j = 1 → upd σ 1 (nI (M + 1)) j = σ j := fun j hj => if_neg hj
  exact ⟨G.k10, by rw [n 0 (by omega)]; exact G.s0, by omega, if_pos rfl, by rw [n 2 (by omega)]; exact G.s2, by rw [n 3 (by omega)]; exact G.s3, fun t ht => by rw [n _ (by omega)]; exact G.p t ht, fun k t hk ht => by rw [n _ (by omega)]; exact G.r hk t ht, fun k hk => by rw [n _ (by omega)]; exact G.f hk, fun k hk => by rw [n _ (by omega)]; exact G.z hk, fun m hm => by rw [n _ (by omega)]; exact G.d hm, fun m hm => by rw [n _ (by omega)]; exact G.g hm, fun i hi => by rw [n _ (by omega)]; exact G.o i hi⟩
theorem addM_gd {σ : Nat → Int32} {K M a b : Nat} (G : gdN σ K M) (hM : M < 5) (ha : a < 6) (hb : b ≤ 9) : gdN (addM σ M (nI a) (nI b)) K (M + 1) :=
  gd_1 (gd_o (gd_o G (Or.inr (Or.inr (Or.inr (Or.inl ⟨by omega, by omega, by omega, a, ha, rfl⟩))))) (Or.inr (Or.inr (Or.inr (Or.inr ⟨by omega, by omega, by omega, b, hb, rfl⟩))))) hM
theorem cutS_gd {σ : Nat → Int32} {K M k m : Nat} (G : gdN σ K M) (hK : K < 10) (hk : k < K) : gdN (cutS σ K k m) (K + 1) M := by
  rw [← cutT_5]
  refine gd_99 (addK_gd G hK (x := nI k) (Or.inr ⟨k, hk, rfl⟩)) (fun i => ?_)
  unfold cutT
  by_cases c : 9 + 7 * K ≤ i ∧ i < 9 + 7 * K + 5
  · rw [if_pos c]
    refine Or.inr ⟨Or.inr (by omega), cut_99 _ _ _ ?_⟩
    exact G.r (show k < 10 by omega) _ (by omega)
  · rw [if_neg c]; exact Or.inl rfl
theorem usd_gd {σ : Nat → Int32} {K M k n : Nat} (G : gdN σ K M) (hk : k < 10) (hn : n ≤ 1000) (hx : ¬ 9999 < σ 2 + nI n) : gdN (usd σ k (nI n)) K M := by
  obtain ⟨U, hU, eU⟩ := G.s2
  have e : σ 2 + nI n = nI (U + n) := by rw [eU, nI_plus]
  refine gd_o (gd_99 G (σ' := wrT σ k (nI n) 5) (fun i => ?_)) (Or.inl ⟨rfl, U + n, ?_, e⟩)
  · unfold wrT
    by_cases c : 9 + 7 * k ≤ i ∧ i < 9 + 7 * k + 5
    · rw [if_pos c]
      refine Or.inr ⟨Or.inr (by omega), wo_99 (c := 10) ?_ (by omega) (by omega) (by omega)⟩
      have := G.r hk (i - (9 + 7 * k)) (by omega)
      unfold rowF at this
      rw [show 9 + 7 * k + (i - (9 + 7 * k)) = i by omega] at this
      exact this
    · rw [if_neg c]
      by_cases c2 : 4 ≤ i ∧ i < 4 + 5
      · rw [if_pos c2]
        refine Or.inr ⟨Or.inl (by omega), wo_99 (c := 20) ?_ (by omega) (by omega) (by omega)⟩
        have := G.p (i - 4) (by omega)
        unfold pinF at this
        rw [show 4 + (i - 4) = i by omega] at this
        exact this
      · rw [if_neg c2]; exact Or.inl rfl
  · rw [e, show (9999 : Int32) = nI 9999 from rfl, nlt (by omega) (by omega)] at hx
    omega
section STM
variable {h : mH} {n p : Nat} {lc : Nat → Nat}
theorem bn48 : ∀ j, j < 6 → ∀ q, q < 12 → q + 1 < sln j → (j = 1 → ¬ q = 0) → bn j q = 48 := by decide +kernel
theorem wsh_d (hw : wsh lc n p) {q : Nat} (hq : q + 1 < sln (sj (lc p))) (h1 : sj (lc p) = 1 → ¬ q = 0) : isD lc n (p + 1 + q) := by
  have hj := sj_le (lc p)
  have h11 := sln_le (sj (lc p))
  have := hw.2.2 q (by omega)
  rw [bn48 _ (by omega) q (by omega) hq h1] at this
  exact isD_of this
theorem isD.d9 {q : Nat} (hD : isD lc n q) : dg lc q ≤ 9 := by unfold dg; have := hD.2; omega
theorem d2_99 {q : Nat} (hD : isD lc n q) (hD2 : isD lc n (q + 1)) : d2 lc q ≤ 99 := by unfold d2; have := hD.d9; have := hD2.d9; omega
theorem sln_c : sln 0 = 11 ∧ sln 1 = 3 ∧ sln 2 = 3 ∧ sln 3 = 4 ∧ sln 4 = 2 := by decide
theorem stm_gd {σ σ' : Nat → Int32} {K M : Nat} (G : gdN σ K M) (hw : wsh lc n p) (hs : stm lc p σ = some σ') : ∃ K' M', gdN σ' K' M' := by
  have hK := G.k10
  have hM := G.m5
  unfold stm at hs
  rw [gdkN G, gdmN G] at hs
  have D := fun q => wsh_d hw (q := q)
  obtain ⟨s0, s1, s2, s3, s4⟩ := sln_c
  rcases sj_n5 hw.2.1 with ⟨e, ej⟩ | ⟨e, ej⟩ | ⟨e, ej⟩ | ⟨e, ej⟩ | ⟨e, ej⟩ | ⟨e, ej⟩ | ⟨e, ej⟩
  · rw [ej, s0] at D
    rw [if_pos e] at hs
    cases hs
    refine ⟨K, M, gd_99 G (fun i => ?_)⟩
    unfold pinS
    by_cases c : 4 ≤ i ∧ i < 9
    · rw [if_pos c]
      refine Or.inr ⟨Or.inl c, _, ?_, rfl⟩
      exact d2_99 (D (2 * (i - 4)) (by omega) (by omega)) (by rw [Nat.add_assoc]; exact D (2 * (i - 4) + 1) (by omega) (by omega))
    · rw [if_neg c]; exact Or.inl rfl
  · rw [ej, s0] at D
    rw [if_neg (by omega), if_pos e] at hs
    by_cases c : K = 10
    · rw [if_pos c] at hs; cases hs
    · rw [if_neg c] at hs
      cases hs
      refine ⟨K + 1, M, gd_99 (addK_gd G (by omega) (x := -9) (Or.inl rfl)) (fun i => ?_)⟩
      unfold keyS
      by_cases c : 9 + 7 * K ≤ i ∧ i < 9 + 7 * K + 5
      · rw [if_pos c]
        refine Or.inr ⟨Or.inr (by omega), _, ?_, rfl⟩
        exact d2_99 (D (2 * (i - (9 + 7 * K))) (by omega) (by omega)) (by rw [Nat.add_assoc]; exact D (2 * (i - (9 + 7 * K)) + 1) (by omega) (by omega))
      · rw [if_neg c]; exact Or.inl rfl
  · have hk := hw.2.2 0 (by rw [ej, s1]; omega)
    rw [ej] at hk
    obtain ⟨_, q, q6, eq⟩ := jkx (show okc 107 (lc (p + 1)) = true from hk.2)
    rw [ej, s1] at D
    rw [if_neg (by omega), if_neg (by omega), if_pos e] at hs
    by_cases c : M = 5
    · rw [if_pos c] at hs; cases hs
    · rw [if_neg c] at hs
      cases hs
      rw [eq]
      exact ⟨K, M + 1, addM_gd G (by omega) q6 (D 1 (by omega) (by omega)).d9⟩
  · rw [if_neg (by omega), if_neg (by omega), if_neg (by omega), if_pos e] at hs
    split at hs
    · rename_i c
      cases hs
      exact ⟨K + 1, M, cutS_gd G (by omega) (whl_lt c.1)⟩
    · cases hs
  · rw [ej, s3] at D
    rw [if_neg (by omega), if_neg (by omega), if_neg (by omega), if_neg (by omega), if_pos e] at hs
    split at hs
    · rename_i c
      cases hs
      have := whl_lt c.1
      have := d2_99 (D 1 (by omega) (by omega)) (D 2 (by omega) (by omega))
      exact ⟨K, M, usd_gd G (by omega) (show d2 lc (p + 2) ≤ 1000 by have : d2 lc (p + 2) ≤ 99 := this; omega) c.2⟩
    · cases hs
  · rw [ej, s4] at D
    rw [if_neg (by omega), if_neg (by omega), if_neg (by omega), if_neg (by omega), if_neg (by omega), if_pos e] at hs
    cases hs
    exact ⟨K, M, gd_o G (Or.inr (Or.inl ⟨rfl, _, (D 0 (by omega) (by omega)).d9, rfl⟩))⟩
  · rw [if_neg (by omega), if_neg (by omega), if_neg (by omega), if_neg (by omega), if_neg (by omega), if_neg (by omega)] at hs
    split at hs
    · rename_i c
      cases hs
      have := whl_lt c
      exact ⟨K, M, gd_o G (Or.inr (Or.inr (Or.inl ⟨by omega, by omega, by omega, Or.inr rfl⟩)))⟩
    · cases hs
theorem hj108 : swT (nI 108) 99 [157, 214, 214, 214, 214, 214, 214, 214, 129, 116, 138, 214, 214, 214, 214, 214, 201, 214, 188, 214, 214, 208] 214 = 116 := by decide +kernel
theorem hj107 : swT (nI 107) 99 [157, 214, 214, 214, 214, 214, 214, 214, 129, 116, 138, 214, 214, 214, 214, 214, 201, 214, 188, 214, 214, 208] 214 = 129 := by decide +kernel
theorem hj109 : swT (nI 109) 99 [157, 214, 214, 214, 214, 214, 214, 214, 129, 116, 138, 214, 214, 214, 214, 214, 201, 214, 188, 214, 214, 208] 214 = 138 := by decide +kernel
theorem hj99 : swT (nI 99) 99 [157, 214, 214, 214, 214, 214, 214, 214, 129, 116, 138, 214, 214, 214, 214, 214, 201, 214, 188, 214, 214, 208] 214 = 157 := by decide +kernel
theorem hj117 : swT (nI 117) 99 [157, 214, 214, 214, 214, 214, 214, 214, 129, 116, 138, 214, 214, 214, 214, 214, 201, 214, 188, 214, 214, 208] 214 = 188 := by decide +kernel
theorem hj115 : swT (nI 115) 99 [157, 214, 214, 214, 214, 214, 214, 214, 129, 116, 138, 214, 214, 214, 214, 214, 201, 214, 188, 214, 214, 208] 214 = 201 := by decide +kernel
theorem hj120 : swT (nI 120) 99 [157, 214, 214, 214, 214, 214, 214, 214, 129, 116, 138, 214, 214, 214, 214, 214, 201, 214, 188, 214, 214, 208] 214 = 208 := by decide +kernel
theorem is_s {α : Type} (x : α) : (some x).isSome = true := rfl
theorem is_n {α : Type} : (none : Option α).isSome = false := rfl
theorem e_happens {d : Nat} (hd : 6 ≤ d) {s K M : Nat} (hs : isS s) (G : gdN (cv s h) K M) (e1 : h 55 1 = nI n) (L : gdL (h 56) n lc) (hw : wsh lc n p) : ∃ h', ((∀ σ', stm lc p (cv s h) = some σ' → cv s h' = σ') ∧ onl s h h') ∧ Cal d eX4_happens [.ref 55, .ref s, .int (nI p)] h (some (.int (bz (stm lc p (cv s h)).isSome))) h' := by
  refine Cal_pr (d := 5) hd rfl (fun Q hq => ?_)
  show WP 5 eX4_happens Q 0 [.ref 55, .ref s, .int (nI p), mU] [] h
  have n96 := L.1
  have hp := hw.1
  have k10 := G.k10
  have m5 := G.m5
  have e0 : cv s h 0 = nI K := G.s0
  have D := fun q => wsh_d hw (q := q)
  have F := hw.2.2
  have lt := hs.lt
  obtain ⟨s0, s1, s2, s3, s4⟩ := sln_c
  obtain ⟨x, hx⟩ := e_digitAt (show 2 ≤ 5 by omega) e1 L (p + 1) (by omega)
  unfold stm at hq
  rw [gdkN G, gdmN G] at hq
  simp only [bX4_happens_0, bX4_happens_7, bX4_happens_13, t55, nI_1, Cal_iff hx, k_letterAt (show 1 ≤ 5 by omega) e1 L hp, swP_T, Option.toList_some, Option.toList_none, List.cons_append, List.nil_append, and_assoc, exists_and_left, exists_eq_left, true_and, and_true, Nat.reduceLeDiff, not_false_eq_true, not_true_eq_false, ↓reduceIte, eq_self, ← Int32.not_lt, ite_not, Classical.not_not]
  have dx : isD lc n (p + 1) → x = nI (dg lc (p + 1)) := fun hD => by
    have := ((k_digitAt (show 2 ≤ 5 by omega) e1 L hD _ _).mp hx).1
    injection this with this
    injection this
  rcases sj_n5 hw.2.1 with ⟨e, ej⟩ | ⟨e, ej⟩ | ⟨e, ej⟩ | ⟨e, ej⟩ | ⟨e, ej⟩ | ⟨e, ej⟩ | ⟨e, ej⟩
  · rw [ej, s0] at D
    have DD : ∀ q, q < 10 → isD lc n (p + 1 + q) := fun q hq => D q (by omega) (by omega)
    rw [if_pos e] at hq
    simp only [e, hj108, bX4_happens_116, bX4_happens_127, tgS hs, rfS0 hs, t55, nI_1, e_readFive (show 4 ≤ 5 by omega) e1 L DD (tgP hs) (lnP hs) (show ¬ s + 1 = 55 by omega) (show ¬ s + 1 = 56 by omega), nb1, Option.toList_some, Option.toList_none, List.cons_append, List.nil_append, and_assoc, exists_and_left, exists_eq_left, true_and, and_true, Nat.reduceLeDiff, not_false_eq_true, not_true_eq_false, ↓reduceIte, eq_self, ← Int32.not_lt, ite_not, Classical.not_not]
    exact hq _ ⟨fun σ' hh => by cases hh; rw [cv_pin]; rfl, onl.rfl'.put (by omega) (by omega)⟩
  · rw [ej, s0] at D
    have DD : ∀ q, q < 10 → isD lc n (p + 1 + q) := fun q hq => D q (by omega) (by omega)
    rw [if_neg (by omega), if_pos e] at hq
    by_cases c : K = 10
    · subst c
      simp only [e, hj107, bX4_happens_129, bX4_happens_137, t55, nI_1, k_keyComes0 (Nat.le_refl 5) hs G, nb0, is_n, bzf, Option.toList_some, Option.toList_none, List.cons_append, List.nil_append, and_assoc, exists_and_left, exists_eq_left, true_and, and_true, Nat.reduceLeDiff, not_false_eq_true, not_true_eq_false, ↓reduceIte, eq_self, ← Int32.not_lt, ite_not, Classical.not_not] at hq ⊢
      exact hq _ ⟨fun σ' hh => (by cases hh), onl.rfl'⟩
    · rw [if_neg c] at hq
      obtain ⟨h2, ⟨w1, w2⟩, hc⟩ := e_keyComes (Nat.le_refl 5) hs G (by omega) e1 L DD
      simp only [e, hj107, bX4_happens_129, bX4_happens_137, t55, nI_1, Cal_iff hc, nb1, is_s, bzt, Option.toList_some, Option.toList_none, List.cons_append, List.nil_append, and_assoc, exists_and_left, exists_eq_left, true_and, and_true, Nat.reduceLeDiff, not_false_eq_true, not_true_eq_false, ↓reduceIte, eq_self, ← Int32.not_lt, ite_not, Classical.not_not] at hq ⊢
      exact hq _ ⟨fun σ' hh => by cases hh; exact w1, w2⟩
  · have hk := F 0 (by rw [ej, s1]; omega)
    rw [ej] at hk
    obtain ⟨jx, _⟩ := jkx (show okc 107 (lc (p + 1)) = true from hk.2)
    have p1 : p + 1 < n := hk.1
    rw [ej, s1] at D
    have D1 : isD lc n (p + 2) := D 1 (by omega) (by omega)
    rw [if_neg (by omega), if_neg (by omega), if_pos e] at hq
    by_cases c : M = 5
    · subst c
      simp only [e, hj109, bX4_happens_138, bX4_happens_146, bX4_happens_153, bX4_happens_156, t55, nI_1, show (2 : Int32) = nI 2 from rfl, nI_plus, k_kindAt (Nat.le_refl 5) e1 L p1, jx, k_digitAt (show 2 ≤ 5 by omega) e1 L D1, tgS hs, k_addMachineFull (show 1 ≤ 5 by omega) hs G, nb0, is_n, bzf, Option.toList_some, Option.toList_none, List.cons_append, List.nil_append, and_assoc, exists_and_left, exists_eq_left, true_and, and_true, Nat.reduceLeDiff, not_false_eq_true, not_true_eq_false, ↓reduceIte, eq_self, ← Int32.not_lt, ite_not, Classical.not_not] at hq ⊢
      exact hq _ ⟨fun σ' hh => (by cases hh), onl.rfl'⟩
    · rw [if_neg c] at hq
      obtain ⟨h2, hc, w1, w2⟩ := e_addMachine (show 1 ≤ 5 by omega) hs G (by omega) (kx (lc (p + 1))) (nI (dg lc (p + 2)))
      simp only [e, hj109, bX4_happens_138, bX4_happens_146, bX4_happens_153, bX4_happens_156, t55, nI_1, show (2 : Int32) = nI 2 from rfl, nI_plus, k_kindAt (Nat.le_refl 5) e1 L p1, jx, k_digitAt (show 2 ≤ 5 by omega) e1 L D1, tgS hs, Cal_iff hc, nb1, is_s, bzt, Option.toList_some, Option.toList_none, List.cons_append, List.nil_append, and_assoc, exists_and_left, exists_eq_left, true_and, and_true, Nat.reduceLeDiff, not_false_eq_true, not_true_eq_false, ↓reduceIte, eq_self, ← Int32.not_lt, ite_not, Classical.not_not] at hq ⊢
      exact hq _ ⟨fun σ' hh => by cases hh; exact w1, w2⟩
  · rw [ej, s2] at D
    have D0 : isD lc n (p + 1) := D 0 (by omega) (by omega)
    have D1 : isD lc n (p + 2) := D 1 (by omega) (by omega)
    have a9 := D0.d9
    have b9 := D1.d9
    rw [if_neg (by omega), if_neg (by omega), if_neg (by omega), if_pos e] at hq
    rw [dx D0]
    simp only [e, hj99, bX4_happens_157, bX4_happens_162, bX4_happens_165, bX4_happens_186, bX4_happens_187, tgS hs, t55, k_whole (show 2 ≤ 5 by omega) hs G (show dg lc (p + 1) < 100 by omega), bz0, ite_bz, show (2 : Int32) = nI 2 from rfl, nI_plus, k_digitAt (show 2 ≤ 5 by omega) e1 L D1, nb0, Option.toList_some, Option.toList_none, List.cons_append, List.nil_append, and_assoc, exists_and_left, exists_eq_left, true_and, and_true, Nat.reduceLeDiff, not_false_eq_true, not_true_eq_false, ↓reduceIte, eq_self, ← Int32.not_lt, ite_not, Classical.not_not]
    cases cw : whl (cv s h) K (dg lc (p + 1)) with
    | false =>
      simp only [cw, decide_true, decide_false, not_false_eq_true, not_true_eq_false, ↓reduceIte, Bool.false_eq_true, Bool.and_true, Bool.true_and, Bool.false_and, Bool.and_false, true_and, false_and, and_true, and_false, is_n, bzf] at hq ⊢
      exact hq _ ⟨fun σ' hh => (by cases hh), onl.rfl'⟩
    | true =>
      have ak := whl_lt cw
      by_cases cc : dg lc (p + 2) < M ∧ ¬ K = 10
      · obtain ⟨h2, hc, w1, w2⟩ := e_addCopy (show 4 ≤ 5 by omega) hs G (show K < 10 by omega) ak cc.1
        simp only [cw, cc, decide_true, decide_false, not_false_eq_true, not_true_eq_false, ↓reduceIte, Bool.false_eq_true, Bool.and_true, Bool.true_and, Bool.false_and, Bool.and_false, true_and, false_and, and_true, and_false, is_s, bzt] at hq ⊢
        simp only [bX4_happens_174, bX4_happens_177, bX4_happens_182, bX4_happens_187, tgS hs, Cal_iff hc, nm9 (show K ≤ 100000 by omega), nb1, Option.toList_some, Option.toList_none, List.cons_append, List.nil_append, and_assoc, exists_and_left, exists_eq_left, true_and, and_true, Nat.reduceLeDiff, not_false_eq_true, not_true_eq_false, ↓reduceIte, eq_self, ← Int32.not_lt, ite_not, Classical.not_not]
        exact hq _ ⟨fun σ' hh => by cases hh; exact w1, w2⟩
      · have hno : ik (nI (dg lc (p + 2))) (nI M) = false ∨ K = 10 := by
          rw [ikk (by omega) (by omega), decide_eq_false_iff_not]
          omega
        simp only [cw, cc, decide_true, decide_false, not_false_eq_true, not_true_eq_false, ↓reduceIte, Bool.false_eq_true, Bool.and_true, Bool.true_and, Bool.false_and, Bool.and_false, true_and, false_and, and_true, and_false, is_n, bzf] at hq ⊢
        simp only [bX4_happens_174, bX4_happens_177, bX4_happens_186, bX4_happens_187, tgS hs, k_addCopyNo (show 4 ≤ 5 by omega) hs G ak hno, nb0, Option.toList_some, Option.toList_none, List.cons_append, List.nil_append, and_assoc, exists_and_left, exists_eq_left, true_and, and_true, Nat.reduceLeDiff, not_false_eq_true, not_true_eq_false, ↓reduceIte, eq_self, ← Int32.not_lt, ite_not, Classical.not_not]
        exact hq _ ⟨fun σ' hh => (by cases hh), onl.rfl'⟩
  · rw [ej, s3] at D
    have D0 : isD lc n (p + 1) := D 0 (by omega) (by omega)
    have D1 : isD lc n (p + 2) := D 1 (by omega) (by omega)
    have D2 : isD lc n (p + 2 + 1) := D 2 (by omega) (by omega)
    have a9 := D0.d9
    rw [if_neg (by omega), if_neg (by omega), if_neg (by omega), if_neg (by omega), if_pos e] at hq
    rw [dx D0]
    simp only [e, hj117, bX4_happens_188, bX4_happens_197, t55, show (2 : Int32) = nI 2 from rfl, nI_plus, k_twoDigitsAt (show 3 ≤ 5 by omega) e1 L D1 D2, Option.toList_some, Option.toList_none, List.cons_append, List.nil_append, and_assoc, exists_and_left, exists_eq_left, true_and, and_true, Nat.reduceLeDiff, not_false_eq_true, not_true_eq_false, ↓reduceIte, eq_self, ← Int32.not_lt, ite_not, Classical.not_not]
    by_cases cc : whl (cv s h) K (dg lc (p + 1)) = true ∧ ¬ 9999 < cv s h 2 + nI (d2 lc (p + 2))
    · obtain ⟨h2, ⟨w1, w2⟩, hc⟩ := e_isUsed (show 3 ≤ 5 by omega) hs G (show dg lc (p + 1) < 100 by omega) cc.1 cc.2
      rw [if_pos cc] at hq
      simp only [bX4_happens_200, Cal_iff hc, nb1, is_s, bzt, Option.toList_some, Option.toList_none, List.cons_append, List.nil_append, and_assoc, exists_and_left, exists_eq_left, true_and, and_true, Nat.reduceLeDiff, not_false_eq_true, not_true_eq_false, ↓reduceIte, eq_self, ← Int32.not_lt, ite_not, Classical.not_not] at hq ⊢
      exact hq _ ⟨fun σ' hh => by cases hh; exact w1, w2⟩
    · rw [if_neg cc] at hq
      simp only [bX4_happens_200, k_isUsed0 (show 3 ≤ 5 by omega) hs G (show dg lc (p + 1) < 100 by omega) cc, nb0, is_n, bzf, Option.toList_some, Option.toList_none, List.cons_append, List.nil_append, and_assoc, exists_and_left, exists_eq_left, true_and, and_true, Nat.reduceLeDiff, not_false_eq_true, not_true_eq_false, ↓reduceIte, eq_self, ← Int32.not_lt, ite_not, Classical.not_not] at hq ⊢
      exact hq _ ⟨fun σ' hh => (by cases hh), onl.rfl'⟩
  · rw [ej, s4] at D
    have D0 : isD lc n (p + 1) := D 0 (by omega) (by omega)
    rw [if_neg (by omega), if_neg (by omega), if_neg (by omega), if_neg (by omega), if_neg (by omega), if_pos e] at hq
    rw [dx D0]
    simp only [e, hj115, bX4_happens_201, bX4_happens_206, tgS hs, nb1, is_s, bzt, Option.toList_some, Option.toList_none, List.cons_append, List.nil_append, and_assoc, exists_and_left, exists_eq_left, true_and, and_true, Nat.reduceLeDiff, not_false_eq_true, not_true_eq_false, ↓reduceIte, eq_self, ← Int32.not_lt, ite_not, Classical.not_not] at hq ⊢
    exact hq _ ⟨fun σ' hh => by cases hh; exact cv_u3 _, (onl.rfl'.put (by omega) (by omega))⟩
  · rw [ej, s4] at D
    have D0 : isD lc n (p + 1) := D 0 (by omega) (by omega)
    have a9 := D0.d9
    rw [if_neg (by omega), if_neg (by omega), if_neg (by omega), if_neg (by omega), if_neg (by omega), if_neg (by omega)] at hq
    rw [dx D0]
    simp only [e, hj120, bX4_happens_208]
    cases cw : whl (cv s h) K (dg lc (p + 1)) with
    | false =>
      simp only [cw, decide_true, decide_false, not_false_eq_true, not_true_eq_false, ↓reduceIte, Bool.false_eq_true, Bool.and_true, Bool.true_and, Bool.false_and, Bool.and_false, true_and, false_and, and_true, and_false, is_n, bzf] at hq ⊢
      simp only [bX4_happens_213, k_isSnapped0 (show 3 ≤ 5 by omega) hs G (show dg lc (p + 1) < 100 by omega) cw, nb0, Option.toList_some, Option.toList_none, List.cons_append, List.nil_append, and_assoc, exists_and_left, exists_eq_left, true_and, and_true, Nat.reduceLeDiff, not_false_eq_true, not_true_eq_false, ↓reduceIte, eq_self, ← Int32.not_lt, ite_not, Classical.not_not]
      exact hq _ ⟨fun σ' hh => (by cases hh), onl.rfl'⟩
    | true =>
      obtain ⟨h2, ⟨w1, w2⟩, hc⟩ := e_isSnapped (show 3 ≤ 5 by omega) hs G (show dg lc (p + 1) < 100 by omega) cw
      simp only [cw, decide_true, decide_false, not_false_eq_true, not_true_eq_false, ↓reduceIte, Bool.false_eq_true, Bool.and_true, Bool.true_and, Bool.false_and, Bool.and_false, true_and, false_and, and_true, and_false, is_s, bzt] at hq ⊢
      simp only [bX4_happens_213, Cal_iff hc, nb1, Option.toList_some, Option.toList_none, List.cons_append, List.nil_append, and_assoc, exists_and_left, exists_eq_left, true_and, and_true, Nat.reduceLeDiff, not_false_eq_true, not_true_eq_false, ↓reduceIte, eq_self, ← Int32.not_lt, ite_not, Classical.not_not]
      exact hq _ ⟨fun σ' hh => by cases hh; exact w1, w2⟩
end STM
