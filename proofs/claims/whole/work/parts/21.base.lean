/-! helpers: loops, heaps, numbers -/
theorem WPx_ex {C : mC} {E : mE} {Q : Option Value → mH → Prop} {pc : Nat} {ls st : List Value} {h : mH} (hw : WPx C E Q pc ls st h) : ∃ r h', Q r h' ∧ WPx C E (fun r' h'' => r' = r ∧ h'' = h') pc ls st h := by
  refine hw (fun pc ls st h => ∃ r h', Q r h' ∧ WPx C E (fun r' h'' => r' = r ∧ h'' = h') pc ls st h) (fun pc ls st h hs => ?_)
  unfold stp at hs
  cases e : nxt E pc ls st h with
  | none => rw [e] at hs; exact hs.elim
  | some z =>
    rw [e] at hs
    match z, hs with
    | .inl z, hs =>
      obtain ⟨r, h', a, b⟩ := hs
      exact ⟨r, h', a, WPx_fold (by unfold stp; rw [e]; exact b)⟩
    | .inr (.inl z), hs =>
      obtain ⟨v, h2, c, r, h', a, b⟩ := hs
      exact ⟨r, h', a, WPx_fold (by unfold stp; rw [e]; exact ⟨v, h2, c, b⟩)⟩
    | .inr (.inr v), hs => exact ⟨v, h, hs, WPx_fold (by unfold stp; rw [e]; exact ⟨rfl, rfl⟩)⟩
/-- a contract whose end is told by a property -/
theorem Cal_ex {d : Nat} {E : mE} {as : List Value} {h : mH} {Q : Option Value → mH → Prop} (ho : eOk E as = true) (hw : WP d E Q 0 (ent E as) [] h) : ∃ r h', Q r h' ∧ Cal (d + 1) E as h r h' := by
  obtain ⟨r, h', a, b⟩ := WPx_ex hw
  exact ⟨r, h', a, ho, b⟩
def fr {α : Type} (f : Nat → α → α) : Nat → Nat → α → α
  | _, 0, a => a
  | i, n + 1, a => fr f (i + 1) n (f i a)
theorem wloop {α : Type} (W : Nat → α → Prop) (f : Nat → α → α) (n : Nat) (I : Nat → α → Prop) (hs : ∀ i a, i < n → I i a → I (i + 1) (f i a) ∧ (W (i + 1) (f i a) → W i a)) : ∀ k i a, i + k = n → I i a → (I n (fr f i k a) → W n (fr f i k a)) → W i a
  | 0, i, a, hk, hI, hw => by
    have e : i = n := by omega
    subst e
    exact hw hI
  | k + 1, i, a, hk, hI, hw => by
    obtain ⟨h1, h2⟩ := hs i a (by omega) hI
    exact h2 (wloop W f n I hs k (i + 1) (f i a) (by omega) h1 hw)
theorem fr_succ {α : Type} (f : Nat → α → α) : ∀ (n i : Nat) (a : α), fr f i (n + 1) a = f (i + n) (fr f i n a)
  | 0, i, a => rfl
  | n + 1, i, a => by
    rw [fr, fr_succ f n (i + 1) (f i a), show i + 1 + n = i + (n + 1) by omega]
    rfl
theorem fr_congr {α : Type} {f g : Nat → α → α} : ∀ (n i : Nat) (a : α), (∀ j b, i ≤ j → j < i + n → f j b = g j b) → fr f i n a = fr g i n a
  | 0, _, _, _ => rfl
  | n + 1, i, a, h => by
    rw [fr, fr, h i a (Nat.le_refl _) (by omega)]
    exact fr_congr n (i + 1) _ (fun j b h1 h2 => h j b (by omega) (by omega))
theorem mPut_at (h : mH) (a : Nat) (f : Nat → Int32) (b : Nat) : mPut h a f b = if b = a then f else h b := rfl
theorem mPut_put (h : mH) (a : Nat) (f g : Nat → Int32) : mPut (mPut h a f) a g = mPut h a g := by
  funext b; simp only [mPut_at]; split <;> rfl
theorem mPut_comm (h : mH) {a b : Nat} (f g : Nat → Int32) (hab : ¬ a = b) : mPut (mPut h a f) b g = mPut (mPut h b g) a f := by
  funext c; simp only [mPut_at]
  by_cases h1 : c = b
  · rw [if_pos h1, if_neg (fun z => hab (by rw [← z, ← h1])), if_pos h1]
  · rw [if_neg h1, if_neg h1]
theorem mPut_id (h : mH) (a : Nat) : mPut h a (h a) = h := by
  funext c; simp only [mPut_at]
  by_cases h1 : c = a
  · rw [if_pos h1, h1]
  · rw [if_neg h1]
theorem upd_at (f : Nat → Int32) (k : Nat) (x : Int32) (j : Nat) : upd f k x j = if j = k then x else f j := rfl
/-- the first t places from F, the rest from g -/
def pT (F g : Nat → Int32) (t : Nat) : Nat → Int32 := fun i => if i < t then F i else g i
theorem pT_0 (F g : Nat → Int32) : pT F g 0 = g := by funext i; simp [pT]
theorem pT_succ (F g : Nat → Int32) (t : Nat) : upd (pT F g t) t (F t) = pT F g (t + 1) := by
  funext i
  simp only [upd_at, pT]
  by_cases h1 : i = t
  · subst h1; simp
  · by_cases h2 : i < t
    · simp [h1, h2, Nat.lt_succ_of_lt h2]
    · simp [h1, h2, show ¬ i < t + 1 by omega]
theorem pT_lt {F g : Nat → Int32} {t i : Nat} (h : i < t) : pT F g t i = F i := if_pos h
theorem pT_ge {F g : Nat → Int32} {t i : Nat} (h : t ≤ i) : pT F g t i = g i := if_neg (by omega)
theorem pT_cpy (F g : Nat → Int32) : va_cpy F g 0 0 5 = pT F g 5 := by
  funext i
  by_cases h : i < 5
  · rw [pT_lt h, pk_cpy_in (Nat.zero_le _) (by omega)]; simp
  · rw [pT_ge (by omega), pk_cpy_out (Or.inr (by omega))]
def ap (x y : Int32) : Int32 := if y < x then x - y else y - x
theorem ap_comm (x y : Int32) : ap x y = ap y x := by
  unfold ap
  by_cases h1 : y < x
  · rw [if_pos h1, if_neg (fun z => Int32.lt_irrefl (Int32.lt_trans h1 z))]
  · rw [if_neg h1]
    by_cases h2 : x < y
    · rw [if_pos h2]
    · rw [if_neg h2, Int32.le_antisymm (Int32.not_lt.mp h1) (Int32.not_lt.mp h2)]
/-- a height: 0 .. 99 -/
def is99 (x : Int32) : Prop := ∃ n : Nat, n ≤ 99 ∧ x = nI n
def r99 (f : Nat → Int32) : Prop := ∀ t, t < 5 → is99 (f t)
theorem jab_ap {x y : Int32} (hx : is99 x) (hy : is99 y) : jab (x - y) = ap x y := by
  obtain ⟨a, ha, rfl⟩ := hx
  obtain ⟨b, hb, rfl⟩ := hy
  unfold jab ap
  rcases Nat.lt_or_ge b a with h | h
  · rw [if_pos ((nI_ltI (by omega) (by omega)).mpr h), pk_sub (by omega), if_pos (nI_pos' (by omega))]
  · have hn : ¬ nI b < nI a := nI_nlt h (by omega)
    rcases Nat.lt_or_ge a b with h2 | h2
    · rw [if_neg hn, if_neg (Int32.not_le.mpr (pk_sneg (by omega) h2))]
      apply Int32.toBitVec_inj.mp
      simp only [Int32.toBitVec_sub, Int32.toBitVec_zero]
      generalize (nI a).toBitVec = u
      generalize (nI b).toBitVec = v
      apply BitVec.eq_of_toNat_eq
      have hu := u.isLt
      have hv := v.isLt
      simp only [BitVec.toNat_sub, BitVec.toNat_ofNat]
      omega
    · have : a = b := by omega
      subst this
      rw [if_neg hn, pk_sub (Nat.le_refl _), Nat.sub_self, nI_0]
      decide
theorem ap_n {a b : Nat} (ha : a ≤ 99) (hb : b ≤ 99) : ap (nI a) (nI b) = nI (if b < a then a - b else b - a) := by
  unfold ap
  rcases Nat.lt_or_ge b a with h | h
  · rw [if_pos ((nI_ltI (by omega) (by omega)).mpr h), if_pos h, pk_sub (by omega)]
  · rw [if_neg (nI_nlt h (by omega)), if_neg (by omega), pk_sub h]
theorem ap_99 {x y : Int32} (hx : is99 x) (hy : is99 y) : is99 (ap x y) := by
  obtain ⟨a, ha, rfl⟩ := hx
  obtain ⟨b, hb, rfl⟩ := hy
  exact ⟨_, by split <;> omega, ap_n ha hb⟩
theorem held_99 (x : Int32) : is99 (jheld x) := by
  unfold jheld
  split
  · exact ⟨0, by omega, rfl⟩
  · split
    · exact ⟨99, by omega, rfl⟩
    · rename_i h1 h2
      obtain ⟨j, hj, e⟩ := nI_of h1
      refine ⟨j, ?_, e⟩
      rw [e] at h2
      rcases Nat.lt_or_ge 99 j with q | q
      · exact absurd ((nI_ltI (a := 99) (by omega) hj).mpr q) h2
      · exact q
theorem cut_99 (k f : Int32) {v : Int32} (t : Int32) (hv : is99 v) : is99 (jcut k f v t) := by
  unfold jcut
  split
  · exact held_99 _
  split
  · split
    · exact held_99 _
    · exact hv
  split
  · exact held_99 _
  split
  · exact held_99 _
  split
  · exact held_99 _
  · exact held_99 _
theorem ien (n : Nat) : (0 : Int32) = nI 0 := rfl
theorem i5 : (5 : Int32) = nI 5 := rfl
theorem wloopP (W : Nat → mH → Prop) (n : Nat) (I : Nat → mH → Prop) (hs : ∀ i hh, i < n → I i hh → (∀ h2, I (i + 1) h2 → W (i + 1) h2) → W i hh) (hx : ∀ hh, I n hh → W n hh) : ∀ k i hh, i + k = n → I i hh → W i hh
  | 0, i, hh, hk, hI => by
    have e : i = n := by omega
    subst e
    exact hx hh hI
  | k + 1, i, hh, hk, hI => hs i hh (by omega) hI (fun h2 h3 => wloopP W n I hs hx k (i + 1) h2 (by omega) h3)
/-- a shop as one row of 89 numbers, laid as the reference lays its own -/
def cv (s : Nat) (h : mH) (i : Nat) : Int32 :=
  if i = 0 then h s 2 else if i = 1 then h s 6 else if i = 2 then h s 9 else if i = 3 then h s 1 else if i < 9 then h (s + 1) (i - 4)
  else if i < 79 then (if (i - 9) % 7 < 5 then h (s + 3 + (i - 9) / 7) ((i - 9) % 7) else if (i - 9) % 7 = 5 then h (s + 13) ((i - 9) / 7) else h (s + 14) ((i - 9) / 7))
  else if i < 89 then (if (i - 79) % 2 = 0 then h (s + 15) ((i - 79) / 2) else h (s + 16) ((i - 79) / 2)) else 0
/-- the reference's row -/
def mv (c : Nat) (h : mH) (i : Nat) : Int32 := if i < 89 then h c i else 0
section CV
variable {s : Nat} {h : mH}
theorem cv0 : cv s h 0 = h s 2 := rfl
theorem cv1 : cv s h 1 = h s 6 := rfl
theorem cv2 : cv s h 2 = h s 9 := rfl
theorem cv3 : cv s h 3 = h s 1 := rfl
theorem cvP {t : Nat} (ht : t < 5) : cv s h (4 + t) = h (s + 1) t := by
  unfold cv
  rw [if_neg (by omega), if_neg (by omega), if_neg (by omega), if_neg (by omega), if_pos (by omega), show 4 + t - 4 = t by omega]
theorem cvR {k t : Nat} (hk : k < 10) (ht : t < 5) : cv s h (9 + 7 * k + t) = h (s + 3 + k) t := by
  unfold cv
  rw [if_neg (by omega), if_neg (by omega), if_neg (by omega), if_neg (by omega), if_neg (by omega), if_pos (by omega), show (9 + 7 * k + t - 9) % 7 = t by omega, show (9 + 7 * k + t - 9) / 7 = k by omega, if_pos ht]
theorem cvF {k : Nat} (hk : k < 10) : cv s h (9 + 7 * k + 5) = h (s + 13) k := by
  unfold cv
  rw [if_neg (by omega), if_neg (by omega), if_neg (by omega), if_neg (by omega), if_neg (by omega), if_pos (by omega), show (9 + 7 * k + 5 - 9) % 7 = 5 by omega, show (9 + 7 * k + 5 - 9) / 7 = k by omega, if_neg (by omega), if_pos rfl]
theorem cvZ {k : Nat} (hk : k < 10) : cv s h (9 + 7 * k + 6) = h (s + 14) k := by
  unfold cv
  rw [if_neg (by omega), if_neg (by omega), if_neg (by omega), if_neg (by omega), if_neg (by omega), if_pos (by omega), show (9 + 7 * k + 6 - 9) % 7 = 6 by omega, show (9 + 7 * k + 6 - 9) / 7 = k by omega, if_neg (by omega), if_neg (by omega)]
theorem cvD {m : Nat} (hm : m < 5) : cv s h (79 + 2 * m) = h (s + 15) m := by
  unfold cv
  rw [if_neg (by omega), if_neg (by omega), if_neg (by omega), if_neg (by omega), if_neg (by omega), if_neg (by omega), if_pos (by omega), show (79 + 2 * m - 79) % 2 = 0 by omega, show (79 + 2 * m - 79) / 2 = m by omega, if_pos rfl]
theorem cvG {m : Nat} (hm : m < 5) : cv s h (79 + 2 * m + 1) = h (s + 16) m := by
  unfold cv
  rw [if_neg (by omega), if_neg (by omega), if_neg (by omega), if_neg (by omega), if_neg (by omega), if_neg (by omega), if_pos (by omega), show (79 + 2 * m + 1 - 79) % 2 = 1 by omega, show (79 + 2 * m + 1 - 79) / 2 = m by omega, if_neg (by omega)]
/-- every place of the row is one of these -/
theorem cv_cases (i : Nat) : i = 0 ∨ i = 1 ∨ i = 2 ∨ i = 3 ∨ (∃ t, t < 5 ∧ i = 4 + t) ∨ (∃ k t, k < 10 ∧ t < 5 ∧ i = 9 + 7 * k + t) ∨ (∃ k, k < 10 ∧ i = 9 + 7 * k + 5) ∨ (∃ k, k < 10 ∧ i = 9 + 7 * k + 6) ∨ (∃ m, m < 5 ∧ i = 79 + 2 * m) ∨ (∃ m, m < 5 ∧ i = 79 + 2 * m + 1) ∨ 89 ≤ i := by
  rcases Nat.lt_or_ge i 9 with h1 | h1
  · rcases (show i = 0 ∨ i = 1 ∨ i = 2 ∨ i = 3 ∨ 4 ≤ i by omega) with q | q | q | q | q
    · exact Or.inl q
    · exact Or.inr (Or.inl q)
    · exact Or.inr (Or.inr (Or.inl q))
    · exact Or.inr (Or.inr (Or.inr (Or.inl q)))
    · exact Or.inr (Or.inr (Or.inr (Or.inr (Or.inl ⟨i - 4, by omega, by omega⟩))))
  rcases Nat.lt_or_ge i 79 with h2 | h2
  · right; right; right; right; right
    rcases (show (i - 9) % 7 < 5 ∨ (i - 9) % 7 = 5 ∨ (i - 9) % 7 = 6 by omega) with q | q | q
    · exact Or.inl ⟨(i - 9) / 7, (i - 9) % 7, by omega, q, by omega⟩
    · exact Or.inr (Or.inl ⟨(i - 9) / 7, by omega, by omega⟩)
    · exact Or.inr (Or.inr (Or.inl ⟨(i - 9) / 7, by omega, by omega⟩))
  · right; right; right; right; right; right; right; right
    rcases Nat.lt_or_ge i 89 with h3 | h3
    · rcases (show (i - 79) % 2 = 0 ∨ (i - 79) % 2 = 1 by omega) with q | q
      · exact Or.inl ⟨(i - 79) / 2, by omega, by omega⟩
      · exact Or.inr (Or.inl ⟨(i - 79) / 2, by omega, by omega⟩)
    · exact Or.inr (Or.inr h3)
theorem cv89 {i : Nat} (hi : 89 ≤ i) : cv s h i = 0 := by
  unfold cv
  rw [if_neg (by omega), if_neg (by omega), if_neg (by omega), if_neg (by omega), if_neg (by omega), if_neg (by omega), if_neg (by omega)]
/-- two worlds that agree on the shop's cells -/
theorem cv_congr {h2 : mH} (hc : ∀ c, s ≤ c → c < s + 17 → h2 c = h c) : cv s h2 = cv s h := by
  funext i
  unfold cv
  by_cases a0 : i < 89
  · have e0 := hc s (by omega) (by omega)
    have e1 := hc (s + 1) (by omega) (by omega)
    have e13 := hc (s + 13) (by omega) (by omega)
    have e14 := hc (s + 14) (by omega) (by omega)
    have e15 := hc (s + 15) (by omega) (by omega)
    have e16 := hc (s + 16) (by omega) (by omega)
    by_cases a1 : i < 79
    · by_cases a2 : 9 ≤ i
      · have er := hc (s + 3 + (i - 9) / 7) (by omega) (by omega)
        simp only [e0, e1, e13, e14, e15, e16, er]
      · simp only [e0, e1, show i < 9 by omega, if_true]
    · simp only [e0, e1, e15, e16, a1, if_false]
  · simp only [show ¬ i = 0 by omega, show ¬ i = 1 by omega, show ¬ i = 2 by omega, show ¬ i = 3 by omega, show ¬ i < 9 by omega, show ¬ i < 79 by omega, show ¬ i < 89 by omega, if_false]
theorem cv_out {c : Nat} {f : Nat → Int32} (hc : c < s ∨ s + 17 ≤ c) : cv s (mPut h c f) = cv s h := cv_congr (fun b h1 h2 => mPut_ne h f (by omega))
end CV
/-- the row of a shop is given by its parts -/
theorem cv_ext {s : Nat} {h : mH} {σ : Nat → Int32} (h0 : h s 2 = σ 0) (h1 : h s 6 = σ 1) (h2 : h s 9 = σ 2) (h3 : h s 1 = σ 3) (hp : ∀ t, t < 5 → h (s + 1) t = σ (4 + t)) (hr : ∀ k t, k < 10 → t < 5 → h (s + 3 + k) t = σ (9 + 7 * k + t)) (hf : ∀ k, k < 10 → h (s + 13) k = σ (9 + 7 * k + 5)) (hz : ∀ k, k < 10 → h (s + 14) k = σ (9 + 7 * k + 6)) (hd : ∀ m, m < 5 → h (s + 15) m = σ (79 + 2 * m)) (hg : ∀ m, m < 5 → h (s + 16) m = σ (79 + 2 * m + 1)) (ho : ∀ i, 89 ≤ i → σ i = 0) : cv s h = σ := by
  funext i
  rcases cv_cases i with rfl | rfl | rfl | rfl | ⟨t, q, rfl⟩ | ⟨k, t, q, q2, rfl⟩ | ⟨k, q, rfl⟩ | ⟨k, q, rfl⟩ | ⟨m, q, rfl⟩ | ⟨m, q, rfl⟩ | q
  · exact h0
  · exact h1
  · exact h2
  · exact h3
  · rw [cvP q, hp t q]
  · rw [cvR q q2, hr k t q q2]
  · rw [cvF q, hf k q]
  · rw [cvZ q, hz k q]
  · rw [cvD q, hd m q]
  · rw [cvG q, hg m q]
  · rw [cv89 q, ho i q]
