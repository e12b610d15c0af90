/-! all statements of a text -/
def hap (lc : Nat → Nat) (n : Nat) : Nat → Nat → Nat → (Nat → Int32) → Int32 × Option (Nat → Int32)
  | 0, _, q, σ => (nI q, some σ)
  | f + 1, p, q, σ => if p < n then (match stm lc p σ with
    | none => (-2000 - nI p, none)
    | some σ' => hap lc n f (p + 1 + sln (sj (lc p))) (q + 1) σ') else (nI q, some σ)
section HAP
variable {h : mH} {n p : Nat} {lc : Nat → Nat}
theorem msh_n {f : Nat} (hm : msh lc n (f + 1) p = none) (hp : p < n) : wsh lc n p ∧ msh lc n f (p + 1 + sln (sj (lc p))) = none := by
  rw [msh, if_pos hp] at hm
  by_cases c : sj (lc p) = 5
  · rw [if_pos c] at hm; cases hm
  · rw [if_neg c] at hm
    by_cases c2 : (scn lc n (sj (lc p)) (sln (sj (lc p))) 0 (p + 1)).2 = true
    · rw [if_pos c2] at hm
      obtain ⟨a, b⟩ := scn_t c2
      rw [a] at hm
      refine ⟨⟨hp, c, fun q hq => ?_⟩, hm⟩
      have := b q hq
      rw [Nat.zero_add] at this
      exact this
    · rw [if_neg c2] at hm; cases hm
theorem hap_gd : ∀ {f p q : Nat} {σ σ' : Nat → Int32} {K M : Nat}, gdN σ K M → msh lc n f p = none → (hap lc n f p q σ).2 = some σ' → ∃ K' M', gdN σ' K' M'
  | 0, p, q, σ, σ', K, M, G, _, h2 => by rw [hap] at h2; cases h2; exact ⟨K, M, G⟩
  | f + 1, p, q, σ, σ', K, M, G, h1, h2 => by
    rw [hap] at h2
    by_cases c : p < n
    · rw [if_pos c] at h2
      obtain ⟨a, b⟩ := msh_n h1 c
      cases e : stm lc p σ with
      | none => rw [e] at h2; cases h2
      | some τ =>
        rw [e] at h2
        obtain ⟨K', M', G'⟩ := stm_gd G a e
        exact hap_gd G' b h2
    · rw [if_neg c] at h2; cases h2; exact ⟨K, M, G⟩
theorem neg20 : ∀ p, p ≤ 100 → (-2000 : Int32) - nI p < 0 := by decide +kernel
theorem hap_sg : ∀ {f p q : Nat} {σ : Nat → Int32}, n ≤ 96 → q + f ≤ 1000 → (((hap lc n f p q σ).1 < 0) = ((hap lc n f p q σ).2 = none))
  | 0, p, q, σ, _, h2 => by
    rw [hap]
    exact propext ⟨fun z => absurd z (nnn (by omega)), fun z => by cases z⟩
  | f + 1, p, q, σ, h1, h2 => by
    rw [hap]
    by_cases c : p < n
    · rw [if_pos c]
      cases e : stm lc p σ with
      | none => exact propext ⟨fun _ => rfl, fun _ => neg20 p (by omega)⟩
      | some τ => exact hap_sg h1 (by omega)
    · rw [if_neg c]
      exact propext ⟨fun z => absurd z (nnn (by omega)), fun z => by cases z⟩
theorem e_happenIn {d : Nat} (hd : 7 ≤ d) {s K M : Nat} (hs : isS s) (G : gdN (cv s h) K M) (e1 : h 55 1 = nI n) (L : gdL (h 56) n lc) (hm : msh lc n (n + 1) 0 = none) : ∃ h', ((∀ σ', (hap lc n (n + 1) 0 0 (cv s h)).2 = some σ' → cv s h' = σ') ∧ onl s h h') ∧ Cal d eX4_happenIn [.ref 55, .ref s] h (some (.int (hap lc n (n + 1) 0 0 (cv s h)).1)) h' := by
  refine Cal_pr (d := 6) hd rfl (fun Q hq => ?_)
  show WP 6 eX4_happenIn Q 0 [.ref 55, .ref s, mU, mU] [] h
  have n96 := L.1
  have lt := hs.lt
  simp only [bX4_happenIn_0]
  have key : ∀ (f p q : Nat) (hh : mH) (K M : Nat), gdN (cv s hh) K M → onl s h hh → msh lc n f p = none → n < p + f → p ≤ 200 → (∀ h', (∀ σ', (hap lc n f p q (cv s hh)).2 = some σ' → cv s h' = σ') → onl s h h' → Q (some (.int (hap lc n f p q (cv s hh)).1)) h') → WP 6 eX4_happenIn Q 4 [.ref 55, .ref s, .int (nI q), .int (nI p)] [] hh := by
    intro f
    induction f with
    | zero =>
      intro p q hh K M G o hm hf hp2 hq
      have x1 : hh 55 1 = nI n := by rw [o 55 (by omega)]; exact e1
      have c : (hh 55 1 ≤ nI p) = True := by rw [x1]; exact eq_true (Int32.not_lt.mp (nI_nlt (by omega) (by omega)))
      rw [bX4_happenIn_4]
      simp only [bX4_happenIn_50, t55, c, if_true, true_and]
      exact hq _ (fun σ' hh => by rw [hap] at hh; cases hh; rfl) o
    | succ f ih =>
      intro p q hh K M G o hm hf hp2 hq
      have x1 : hh 55 1 = nI n := by rw [o 55 (by omega)]; exact e1
      have x2 : gdL (hh 56) n lc := by rw [o 56 (by omega)]; exact L
      rw [bX4_happenIn_4]
      rw [hap] at hq
      by_cases c : p < n
      · obtain ⟨wsp, hm2⟩ := msh_n hm c
        obtain ⟨h2, ⟨w1, w2⟩, hc⟩ := e_happens (Nat.le_refl 6) hs G x1 x2 wsp
        have y1 : h2 55 1 = nI n := by rw [w2 55 (by omega)]; exact x1
        have y2 : gdL (h2 56) n lc := by rw [w2 56 (by omega)]; exact x2
        obtain ⟨l1, l2⟩ := y2.2 p c
        have s5 := sj_le (lc p)
        have s11 := sln_le (sj (lc p))
        rw [if_pos c] at hq
        simp only [bX4_happenIn_12, bX4_happenIn_18, bX4_happenIn_21, bX4_happenIn_27, bX4_happenIn_41, bX4_happenIn_44, t55, x1, nlt (show p ≤ 100000 by omega) (show n ≤ 100000 by omega), c, Cal_iff hc, r550, t56, l56, vp_nI (show p < 96 by omega) (show 96 ≤ 100 by omega), nI_cl (show p < 100 by omega), l2, k_shapeBehind (show 1 ≤ 6 by omega) l1, tT (show sj (lc p) ≤ 6 by omega), k_length (show 2 ≤ 6 by omega) (show sj (lc p) ≤ 6 by omega), bz0, ite_bz, nI_1, show (1 : Int32) = nI 1 from rfl, nI_plus, Option.toList_some, Option.toList_none, List.cons_append, List.nil_append, and_assoc, exists_and_left, exists_eq_left, true_and, and_true, Nat.reduceLeDiff, not_false_eq_true, not_true_eq_false, ↓reduceIte, eq_self, ← Int32.not_lt, ite_not, Classical.not_not]
        cases e : stm lc p (cv s hh) with
        | none =>
          rw [e] at hq
          simp only [is_n, decide_true, decide_false, not_false_eq_true, not_true_eq_false, ↓reduceIte, Bool.false_eq_true, Bool.and_true, Bool.true_and, Bool.false_and, Bool.and_false, true_and, false_and, and_true, and_false]
          exact hq _ (fun σ' hh => by cases hh) (o.trans w2)
        | some τ =>
          rw [e] at hq w1
          have ww := w1 τ rfl
          obtain ⟨K', M', G'⟩ := stm_gd G wsp e
          simp only [is_s, decide_true, decide_false, not_false_eq_true, not_true_eq_false, ↓reduceIte, Bool.false_eq_true, Bool.and_true, Bool.true_and, Bool.false_and, Bool.and_false, true_and, false_and, and_true, and_false]
          rw [← ww] at hq G'
          have := ih (p + 1 + sln (sj (lc p))) (q + 1) h2 K' M' G' (o.trans w2) hm2 (by omega) (by omega) hq
          rw [show p + (1 + sln (sj (lc p))) = p + 1 + sln (sj (lc p)) by omega]
          exact this
      · rw [if_neg c] at hq
        simp only [bX4_happenIn_50, t55, x1, nlt (show p ≤ 100000 by omega) (show n ≤ 100000 by omega), c, Option.toList_some, Option.toList_none, List.cons_append, List.nil_append, and_assoc, exists_and_left, exists_eq_left, true_and, and_true, Nat.reduceLeDiff, not_false_eq_true, not_true_eq_false, ↓reduceIte, eq_self, ← Int32.not_lt, ite_not, Classical.not_not]
        exact hq _ (fun σ' hh => by cases hh; rfl) o
  exact key (n + 1) 0 0 h K M G onl.rfl' hm (by omega) (by omega) (fun h' a b => hq h' ⟨a, b⟩)
end HAP
/-! what both sides hold: the lock; the image; the letters; the row; refusals -/
abbrev St : Type := (Nat → Int32) × (Int32 × (Nat → Int32)) × (Int32 × (Nat → Int32)) × (Int32 × (Nat → Int32)) × (Nat → Int32)
def cI (b : Int32) (f : Nat → Int32) : Nat → Int32 := if b = 0 then fun _ => 0 else f
def cS (h : mH) : St := (cv 1 h, (h 0 3, cI (h 0 3) (cv 35 h)), (h 55 1, h 56), (h 0 7, h 57), h 58)
def mS (h : mH) : St := (mv 60 h, (h 59 3, cI (h 59 3) (mv 61 h)), (h 59 7, h 63), (h 59 8, h 64), h 65)
def gdS (S : St) : Prop := (∃ K M, gdN S.1 K M) ∧ (S.2.1.1 = 0 ∨ (S.2.1.1 = 1 ∧ ∃ K M, gdN S.2.1.2 K M)) ∧ (∃ n lc, S.2.2.1.1 = nI n ∧ gdL S.2.2.1.2 n lc) ∧ ∃ r, r ≤ 12 ∧ S.2.2.2.1.1 = nI r
/-- a refusal is counted -/
def rfz (S : St) (c : Int32) : St := (S.1, S.2.1, S.2.2.1, S.2.2.2.1, upd S.2.2.2.2 (-c).toNatClampNeg (S.2.2.2.2 (-c).toNatClampNeg + 1))
theorem rfz_gd {S : St} (G : gdS S) (c : Int32) : gdS (rfz S c) := G
def frC (h h' : mH) : Prop := ∀ c, 59 ≤ c → h' c = h c
def frR (h h' : mH) : Prop := ∀ c, c < 59 → h' c = h c
/-- the contract of a method of the class, of the reference -/
def KC (E : mE) (as : List Value) (f : St → Value × St) : Prop := ∀ h, gdS (cS h) → ∃ h', (cS h' = (f (cS h)).2 ∧ frC h h') ∧ Cal 11 E (.ref 0 :: as) h (some (f (cS h)).1) h'
def KR (E : mE) (as : List Value) (f : St → Value × St) : Prop := ∀ h, gdS (mS h) → ∃ h', (mS h' = (f (mS h)).2 ∧ frR h h') ∧ Cal 11 E (.ref 59 :: as) h (some (f (mS h)).1) h'
theorem KC_of {E : mE} {as : List Value} {f : St → Value × St} (ho : eOk E (.ref 0 :: as) = true) (hw : ∀ h K M, gdS (cS h) → gdN (cv 1 h) K M → ∀ Q : Option Value → mH → Prop, (∀ h', cS h' = (f (cS h)).2 → frC h h' → Q (some (f (cS h)).1) h') → WP 10 E Q 0 (ent E (.ref 0 :: as)) [] h) : KC E as f := by
  intro h G
  obtain ⟨K, M, GN⟩ := G.1
  exact Cal_pr (d := 10) (Nat.le_refl 11) ho (fun Q hq => hw h K M G GN Q (fun h' a b => hq h' ⟨a, b⟩))
theorem KR_of {E : mE} {as : List Value} {f : St → Value × St} (ho : eOk E (.ref 59 :: as) = true) (hw : ∀ h K M, gdS (mS h) → gdN (mv 60 h) K M → ∀ Q : Option Value → mH → Prop, (∀ h', mS h' = (f (mS h)).2 → frR h h' → Q (some (f (mS h)).1) h') → WP 10 E Q 0 (ent E (.ref 59 :: as)) [] h) : KR E as f := by
  intro h G
  obtain ⟨K, M, GN⟩ := G.1
  exact Cal_pr (d := 10) (Nat.le_refl 11) ho (fun Q hq => hw h K M G GN Q (fun h' a b => hq h' ⟨a, b⟩))
/-! what a change of cells is to the state -/
section CSU
variable {h : mH} {g : Nat → Int32}
theorem cS_52 : cS (mPut h 52 g) = cS h := by
  unfold cS; rw [cv_out (by omega), cv_out (by omega)]; rfl
theorem cS_53 : cS (mPut h 53 g) = cS h := by
  unfold cS; rw [cv_out (by omega), cv_out (by omega)]; rfl
theorem cS_54 : cS (mPut h 54 g) = cS h := by
  unfold cS; rw [cv_out (by omega), cv_out (by omega)]; rfl
theorem cS_w {a x : Nat → Int32} : cS (w52 h a x) = cS h := by unfold w52; rw [cS_53, cS_52]
theorem frC_r : frC h h := fun _ _ => rfl
theorem frC_p {h' : mH} (f : frC h h') {c : Nat} (hc : c < 59) : frC h (mPut h' c g) := fun b hb => by rw [mPut_ne _ _ (by omega)]; exact f b hb
theorem frC_w {a x : Nat → Int32} : frC h (w52 h a x) := frC_p (frC_p frC_r (by omega)) (by omega)
def rfC (h : mH) (c : Int32) : mH := mPut h 58 (upd (h 58) (-c).toNatClampNeg (h 58 (-c).toNatClampNeg + 1))
theorem cS_rf (c : Int32) : cS (rfC h c) = rfz (cS h) c := by
  unfold rfC cS rfz; rw [cv_out (by omega), cv_out (by omega)]; rfl
theorem frC_rf (c : Int32) : frC h (rfC h c) := frC_p frC_r (by omega)
theorem onl1_frC {h' : mH} (o : onl 1 h h') : frC h h' := fun c hc => o c (by omega)
theorem onl18_frC {h' : mH} (o : onl 18 h h') : frC h h' := fun c hc => o c (by omega)
theorem onl35_frC {h' : mH} (o : onl 35 h h') : frC h h' := fun c hc => o c (by omega)
/-- the shop alone -/
theorem cS_o1 {h' : mH} (o : onl 1 h h') : cS h' = (cv 1 h', (cS h).2) := by
  unfold cS
  rw [o 0 (by omega), o 55 (by omega), o 56 (by omega), o 57 (by omega), o 58 (by omega), cv_congr (s := 35) (fun c h1 h2 => o c (by omega))]
theorem cS_o18 {h' : mH} (o : onl 18 h h') : cS h' = cS h := by
  unfold cS
  rw [o 0 (by omega), o 55 (by omega), o 56 (by omega), o 57 (by omega), o 58 (by omega), cv_congr (s := 35) (fun c h1 h2 => o c (by omega)), cv_congr (s := 1) (fun c h1 h2 => o c (by omega))]
end CSU
/-! the refusals of the class; what its guards answer -/
theorem t0 : tg 0 = 5 := rfl
theorem r00 : rf 0 0 = 1 := rfl
theorem r01 : rf 0 1 = 18 := rfl
theorem r02 : rf 0 2 = 35 := rfl
theorem r04 : rf 0 4 = 52 := rfl
theorem r05 : rf 0 5 = 55 := rfl
theorem r06 : rf 0 6 = 57 := rfl
theorem r08 : rf 0 8 = 58 := rfl
theorem t58 : tg 58 = 100 := rfl
theorem l58 : ln 58 = 7 := rfl
theorem s1 : isS 1 := Or.inl rfl
theorem s18 : isS 18 := Or.inr (Or.inl rfl)
theorem s35 : isS 35 := Or.inr (Or.inr rfl)
def rcd (c : Int32) : Prop := c = -1 ∨ c = -2 ∨ c = -3 ∨ c = -4 ∨ c = -6
theorem rc1 : rcd (-1) := Or.inl rfl
theorem rc2 : rcd (-2) := Or.inr (Or.inl rfl)
theorem rc3 : rcd (-3) := Or.inr (Or.inr (Or.inl rfl))
theorem rc4 : rcd (-4) := Or.inr (Or.inr (Or.inr (Or.inl rfl)))
theorem rc6 : rcd (-6) := Or.inr (Or.inr (Or.inr (Or.inr rfl)))
theorem rcd_a {c : Int32} (hc : rcd c) : ¬ -1 < c ∧ ¬ c < -6 ∧ vp_in (-c) 7 := by
  rcases hc with rfl | rfl | rfl | rfl | rfl <;> (unfold vp_in; decide)
theorem k_refuse {d : Nat} (hd : 1 ≤ d) {c : Int32} (hc : rcd c) (h : mH) (r : Option Value) (h' : mH) : Cal d eX5_refuse [.ref 0, .int c] h r h' ↔ r = some (.int c) ∧ h' = rfC h c := by
  refine Cal_iff (Cal_le (d := 1) (Cal_of rfl (fun Q hq => ?_)) hd) r h'
  show WP 0 eX5_refuse Q 0 [.ref 0, .int c] [] h
  obtain ⟨a, b, e⟩ := rcd_a hc
  simp only [bX5_refuse_0, bX5_refuse_5, bX5_refuse_11, bX5_refuse_22, a, b, e, t0, r08, t58, l58, Option.toList_some, Option.toList_none, List.cons_append, List.nil_append, and_assoc, exists_and_left, exists_eq_left, true_and, and_true, Nat.reduceLeDiff, not_false_eq_true, not_true_eq_false, ↓reduceIte, eq_self, ← Int32.not_lt, ite_not, Classical.not_not]
  exact hq
theorem k_isTooth {d : Nat} (hd : 1 ≤ d) (x : Int32) (h : mH) (r : Option Value) (h' : mH) : Cal d eX5_isTooth [.int x] h r h' ↔ r = some (.int (bz (ik x 5))) ∧ h' = h := by
  refine Cal_iff (Cal_le (d := 1) (Cal_of rfl (fun Q hq => ?_)) hd) r h'
  show WP 0 eX5_isTooth Q 0 [.int x] [] h
  unfold bz ik at hq
  simp only [bX5_isTooth_0, bX5_isTooth_4, bX5_isTooth_9, bX5_isTooth_13, bX5_isTooth_14, nb0, nb1, Option.toList_some, Option.toList_none, List.cons_append, List.nil_append, and_assoc, exists_and_left, exists_eq_left, true_and, and_true, Nat.reduceLeDiff, not_false_eq_true, not_true_eq_false, ↓reduceIte, eq_self, ← Int32.not_lt, ite_not, Classical.not_not] at hq ⊢
  by_cases h1 : x < 0 <;> by_cases h2 : x < 5 <;> simp only [h1, h2, decide_true, decide_false, not_false_eq_true, not_true_eq_false, ↓reduceIte, Bool.false_eq_true, Bool.and_true, Bool.true_and, Bool.false_and, Bool.and_false, true_and, false_and, and_true, and_false] at hq ⊢ <;> exact hq
def i01 (x : Int32) : Bool := decide (x = 0) || decide (x = 1)
theorem k_isZeroOrOne {d : Nat} (hd : 1 ≤ d) (x : Int32) (h : mH) (r : Option Value) (h' : mH) : Cal d eX5_isZeroOrOne [.int x] h r h' ↔ r = some (.int (bz (i01 x))) ∧ h' = h := by
  refine Cal_iff (Cal_le (d := 1) (Cal_of rfl (fun Q hq => ?_)) hd) r h'
  show WP 0 eX5_isZeroOrOne Q 0 [.int x] [] h
  unfold bz i01 at hq
  simp only [bX5_isZeroOrOne_0, bX5_isZeroOrOne_4, bX5_isZeroOrOne_9, bX5_isZeroOrOne_13, bX5_isZeroOrOne_14, nb0, nb1, Option.toList_some, Option.toList_none, List.cons_append, List.nil_append, and_assoc, exists_and_left, exists_eq_left, true_and, and_true, Nat.reduceLeDiff, not_false_eq_true, not_true_eq_false, ↓reduceIte, eq_self, ← Int32.not_lt, ite_not, Classical.not_not] at hq ⊢
  by_cases h1 : x = 0
  · simp only [h1, decide_true, decide_false, not_false_eq_true, not_true_eq_false, ↓reduceIte, Bool.false_eq_true, Bool.and_true, Bool.true_and, Bool.false_and, Bool.and_false, true_and, false_and, and_true, and_false, Bool.true_or] at hq ⊢; exact hq
  · by_cases h2 : x = 1 <;> simp only [h1, h2, decide_true, decide_false, not_false_eq_true, not_true_eq_false, ↓reduceIte, Bool.false_eq_true, Bool.and_true, Bool.true_and, Bool.false_and, Bool.and_false, true_and, false_and, and_true, and_false, Bool.false_or] at hq ⊢ <;> exact hq
/-- 0 where v is within its bounds, else the refusal -/
def oub (v a b : Int32) : Int32 := if v < a then -4 else if b < v then -6 else 0
theorem k_outside {d : Nat} (hd : 1 ≤ d) (x a b : Int32) (h : mH) (r : Option Value) (h' : mH) : Cal d eX5_outside [.int x, .int a, .int b] h r h' ↔ r = some (.int (oub x a b)) ∧ h' = h := by
  refine Cal_iff (Cal_le (d := 1) (Cal_of rfl (fun Q hq => ?_)) hd) r h'
  show WP 0 eX5_outside Q 0 [.int x, .int a, .int b] [] h
  unfold oub at hq
  simp only [bX5_outside_0, bX5_outside_5, bX5_outside_8, bX5_outside_13, bX5_outside_18, bX5_outside_19, Option.toList_some, Option.toList_none, List.cons_append, List.nil_append, and_assoc, exists_and_left, exists_eq_left, true_and, and_true, Nat.reduceLeDiff, not_false_eq_true, not_true_eq_false, ↓reduceIte, eq_self, ← Int32.not_lt, ite_not, Classical.not_not] at hq ⊢
  by_cases h1 : x < a <;> by_cases h2 : b < x <;> simp only [h1, h2, decide_true, decide_false, not_false_eq_true, not_true_eq_false, ↓reduceIte, Bool.false_eq_true, Bool.and_true, Bool.true_and, Bool.false_and, Bool.and_false, true_and, false_and, and_true, and_false] at hq ⊢ <;> exact hq
theorem oub_c {v a b : Int32} : (v < a ∧ oub v a b = -4) ∨ (¬ v < a ∧ b < v ∧ oub v a b = -6) ∨ (¬ v < a ∧ ¬ b < v ∧ oub v a b = 0) := by
  unfold oub
  by_cases h1 : v < a
  · exact Or.inl ⟨h1, if_pos h1⟩
  · by_cases h2 : b < v
    · exact Or.inr (Or.inl ⟨h1, h2, by rw [if_neg h1, if_pos h2]⟩)
    · exact Or.inr (Or.inr ⟨h1, h2, by rw [if_neg h1, if_neg h2]⟩)
theorem oub_r {v a b : Int32} (h : ¬ oub v a b = 0) : rcd (oub v a b) := by
  rcases oub_c (v := v) (a := a) (b := b) with ⟨_, e⟩ | ⟨_, _, e⟩ | ⟨_, _, e⟩
  · rw [e]; exact rc4
  · rw [e]; exact rc6
  · exact absurd e h
/-- a number within its bounds -/
theorem oub_in {v : Int32} {a b : Nat} (ha : a ≤ 100000) (hb : b ≤ 100000) (h : oub v (nI a) (nI b) = 0) : ∃ n, a ≤ n ∧ n ≤ b ∧ v = nI n := by
  rcases oub_c (v := v) (a := nI a) (b := nI b) with ⟨_, e⟩ | ⟨_, _, e⟩ | ⟨h1, h2, _⟩
  · rw [e] at h; exact absurd h (by decide)
  · rw [e] at h; exact absurd h (by decide)
  · by_cases c : v < 0
    · exact absurd (Int32.lt_of_lt_of_le c (Int32.not_lt.mp (nnn ha))) h1
    · obtain ⟨j, hj, rfl⟩ := nI_of c
      refine ⟨j, ?_, ?_, rfl⟩
      · rcases Nat.lt_or_ge j a with q | q
        · exact absurd ((nI_ltI hj (by omega)).mpr q) h1
        · exact q
      · rcases Nat.lt_or_ge b j with q | q
        · exact absurd ((nI_ltI (by omega) hj).mpr q) h2
        · exact q
