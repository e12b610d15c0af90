/-! THE SMALL MACHINE IS THE MACHINE: what its steps reach the machine reaches -/
def cnc (ad : Nat → Nat) (fv : Value) : Value → Value
  | .ref k => .ref (ad k)
  | .retAddr _ => fv
  | v => v
def wF (ad : Nat → Nat) (h : mH) (k : Nat) : List Value := (List.range (NN (tg k))).map (fun j => if fk (tg k) j = 2 then .ref (ad (rf k j)) else .int (h k j))
def wE (cs : ClassId × ClassId × ClassId) (ad : Nat → Nat) (h : mH) (k : Nat) : va_E :=
  if tg k < 100 then .inr (tg k - 2, wF ad h k)
  else if tg k = 102 then .inl (cs.2.2, ln k, .inr (.inr (.inr (.inr (fun i => some (ad (rf k i)))))))
  else .inl (if tg k = 100 then cs.1 else cs.2.1, ln k, .inl (h k))
def wL (cs : ClassId × ClassId × ClassId) (ad : Nat → Nat) (h : mH) : va_W := (List.range 68).map (fun k => (ad k, wE cs ad h k))
def wT (cs : ClassId × ClassId × ClassId) : List (ClassId × FieldType) := [(cs.1, .int), (cs.2.1, .boolean), (cs.2.2, .array .int)]
def wA (ad : Nat → Nat) : Nat → Prop := fun q => ∃ k, k < 68 ∧ q = ad k
def txL : List String := ["0000000000;", "k0;", "00;", "000;", "0;", "", "mhwrsg"]
def wFx (D : va_G) (cs : ClassId × ClassId × ClassId) (ad : Nat → Nat) (fv : Value) (U : State) (H : Heap) : Prop :=
  va_K D vwCl (wT cs) U ∧ vk_S 7 stL byL (fun i => ad (100 + i)) (fun i => ad (110 + i)) (wA ad) U H ∧ (∀ j, j < 7 → vk_R (ownS 4) (siL.getD j 0) (txL.getD j "") (ad (100 + j)) U)
  ∧ va_Z "java/lang/String" "COMPACT_STRINGS" "Z" (.int 1) (wA ad) U H ∧ va_Z "jdk/internal/util/Preconditions" "SIOOBE_FORMATTER" "Ljava/util/function/BiFunction;" fv (wA ad) U H ∧ ∀ w ∈ nestW, va_Nw w U
def mW : List Cond := lw_tbl.filter goodWord
theorem inW.m {w : Cond} (h : inW w) : w ∈ mW := List.mem_filter.mpr h
def rmD (d : Nat) : Room := { frames := d, cells := 0, slots := 0, locals := 40 * d }
def mQ (D : va_G) (cs : ClassId × ClassId × ClassId) (ad : Nat → Nat) (fv : Value) (Q : Option Value → mH → Prop) : Array Value → State → Outcome → State → Prop := fun _ st oc t => (∃ r h', oc = .returned (r.map (cnc ad fv)) ∧ Q r h' ∧ va_P D vwCl (wL cs ad h') t.heap) ∧ va_F (wA ad) st t
def mPc (D : va_G) (cs : ClassId × ClassId × ClassId) (ad : Nat → Nat) (fv : Value) (as : List Value) (h : mH) : Array Value → State → Prop := va_Pc (as.map (cnc ad fv)) (fun U => va_P D vwCl (wL cs ad h) U.heap ∧ wFx D cs ad fv U U.heap)
def mMet (l : Launch) (D : va_G) (cs : ClassId × ClassId × ClassId) (ad : Nat → Nat) (fv : Value) (d : Nat) (E : mE) (as : List Value) (h : mH) (r : Option Value) (h' : mH) : Prop :=
  Met l (eY E) (.code (eY E) (eC E) (eL E) (eR E) :: mW) (rmD d) (mPc D cs ad fv as h) (mQ D cs ad fv (fun r' h'' => r' = r ∧ h'' = h')) 0 0 (wA ad)
theorem cnc_cat {ad : Nat → Nat} {fv : Value} (hfv : fv = .null ∨ ∃ a, fv = .ref a) (v : Value) : (cnc ad fv v).category = v.category := by
  cases v <;> try rfl
  rcases hfv with h | ⟨a, h⟩ <;> rw [h] <;> rfl
theorem cnc_ref {ad : Nat → Nat} {fv : Value} {k : Nat} : cnc ad fv (.ref k) = .ref (ad k) := rfl
theorem cats_map {ad : Nat → Nat} {fv : Value} (hfv : fv = .null ∨ ∃ a, fv = .ref a) (st : List Value) : ((st.map (cnc ad fv)).map fun v => v.category).sum = cats st := by
  unfold cats
  rw [List.map_map]
  congr 1
  exact List.map_congr_left (fun v _ => cnc_cat hfv v)
theorem tg_lt {k t : Nat} (h : tg k = t) (ht : t = 2 ∨ t = 3 ∨ t = 4 ∨ t = 5 ∨ t = 6 ∨ t = 100 ∨ t = 101 ∨ t = 102) : k < 68 := by
  rcases Nat.lt_or_ge k 68 with q | q
  · exact q
  · unfold tg at h
    rw [if_neg (by omega)] at h
    by_cases h1 : k < 100
    · rw [if_pos h1] at h; omega
    · rw [if_neg h1] at h
      by_cases h2 : k < 107
      · rw [if_pos h2] at h; omega
      · rw [if_neg h2] at h
        by_cases h3 : k < 110
        · rw [if_pos h3] at h; omega
        · rw [if_neg h3] at h
          by_cases h4 : k < 117
          · rw [if_pos h4] at h; omega
          · rw [if_neg h4] at h; omega
theorem tgL_le : ∀ k, k < 68 → tgL.getD k 0 ≤ 102 ∧ ¬ tgL.getD k 0 = 10 := by decide +kernel
theorem tg_10 {k : Nat} (h : tg k = 10) : ∃ j, j < 7 ∧ k = 100 + j := by
  unfold tg at h
  by_cases h0 : k < 68
  · rw [if_pos h0] at h; exact absurd h (tgL_le k h0).2
  · rw [if_neg h0] at h
    by_cases h1 : k < 100
    · rw [if_pos h1] at h; omega
    · rw [if_neg h1] at h
      by_cases h2 : k < 107
      · exact ⟨k - 100, by omega, by omega⟩
      · rw [if_neg h2] at h
        by_cases h3 : k < 110
        · rw [if_pos h3] at h; omega
        · rw [if_neg h3] at h
          by_cases h4 : k < 117
          · rw [if_pos h4] at h; omega
          · rw [if_neg h4] at h; omega
theorem tg_103 {k : Nat} (h : tg k = 103) : ∃ j, j < 7 ∧ k = 110 + j := by
  unfold tg at h
  by_cases h0 : k < 68
  · rw [if_pos h0] at h; have := (tgL_le k h0).1; omega
  · rw [if_neg h0] at h
    by_cases h1 : k < 100
    · rw [if_pos h1] at h; omega
    · rw [if_neg h1] at h
      by_cases h2 : k < 107
      · rw [if_pos h2] at h; omega
      · rw [if_neg h2] at h
        by_cases h3 : k < 110
        · rw [if_pos h3] at h; omega
        · exact ⟨k - 110, by
            by_cases h4 : k < 117
            · omega
            · rw [if_neg h3, if_neg h4] at h; omega, by omega⟩
theorem tg_arr {k : Nat} (h : 100 ≤ tg k) : tg k = 100 ∨ tg k = 101 ∨ tg k = 102 ∨ tg k = 103 := by
  have h2 : tg k ≤ 103 := by
    unfold tg
    split
    · rename_i q; have := (tgL_le k q).1; omega
    · split <;> try omega
      split <;> try omega
      split <;> try omega
      split <;> omega
  omega
theorem wL_get {cs : ClassId × ClassId × ClassId} {ad : Nat → Nat} {h : mH} {k : Nat} (hk : k < 68) : (wL cs ad h)[k]? = some (ad k, wE cs ad h k) := by
  unfold wL
  rw [List.getElem?_map, List.getElem?_range hk]
  rfl
theorem wL_set {cs : ClassId × ClassId × ClassId} {ad : Nat → Nat} {h : mH} {a : Nat} {f : Nat → Int32} {e : va_E} (ha : a < 68) (he : wE cs ad (mPut h a f) a = e) : (wL cs ad h).set a (ad a, e) = wL cs ad (mPut h a f) := by
  apply List.ext_getElem?
  intro i
  rw [List.getElem?_set]
  by_cases e1 : a = i
  · subst e1
    rw [if_pos rfl, wL_get ha, he]
    simp [wL, ha]
  · rw [if_neg e1]
    rcases Nat.lt_or_ge i 68 with q | q
    · rw [wL_get q, wL_get q]
      have hne : ∀ j, mPut h a f i j = h i j := fun j => by unfold mPut; rw [if_neg (fun z => e1 z.symm)]
      have hne' : mPut h a f i = h i := funext hne
      unfold wE wF
      simp only [hne, hne']
    · simp [wL, q]
theorem mPut_self (h : mH) (a : Nat) (f : Nat → Int32) : mPut h a f a = f := if_pos rfl
theorem mPut_ne (h : mH) {a b : Nat} (f : Nat → Int32) (hb : ¬ b = a) : mPut h a f b = h b := if_neg hb
theorem wE_obj {cs : ClassId × ClassId × ClassId} {ad : Nat → Nat} {h : mH} {k t : Nat} (ht : tg k = t) (h6 : t ≤ 6) : wE cs ad h k = .inr (t - 2, wF ad h k) := by
  unfold wE; rw [if_pos (by omega), ht]
theorem wE_int {cs : ClassId × ClassId × ClassId} {ad : Nat → Nat} {h : mH} {k : Nat} (ht : tg k = 100) : wE cs ad h k = .inl (cs.1, ln k, .inl (h k)) := by
  unfold wE; rw [ht]; rfl
theorem wE_boo {cs : ClassId × ClassId × ClassId} {ad : Nat → Nat} {h : mH} {k : Nat} (ht : tg k = 101) : wE cs ad h k = .inl (cs.2.1, ln k, .inl (h k)) := by
  unfold wE; rw [ht]; rfl
theorem wE_row {cs : ClassId × ClassId × ClassId} {ad : Nat → Nat} {h : mH} {k : Nat} (ht : tg k = 102) : wE cs ad h k = .inl (cs.2.2, ln k, .inr (.inr (.inr (.inr (fun i => some (ad (rf k i))))))) := by
  unfold wE; rw [ht]; rfl
theorem wF_get {ad : Nat → Nat} {h : mH} {k j t : Nat} (ht : tg k = t) (hj : j < NN t) : (wF ad h k)[j]? = some (if fk t j = 2 then .ref (ad (rf k j)) else .int (h k j)) := by
  unfold wF
  rw [ht, List.getElem?_map, List.getElem?_range hj]
  rfl
theorem wF_len {ad : Nat → Nat} {h : mH} {k t : Nat} (ht : tg k = t) : (wF ad h k).length = NN t := by
  unfold wF; rw [ht]; simp
theorem wF_set {ad : Nat → Nat} {h : mH} {k j t : Nat} {x : Int32} (ht : tg k = t) (hj : j < NN t) (hf : ¬ fk t j = 2) : (wF ad h k).set j (.int x) = wF ad (mPut h k (upd (h k) j x)) k := by
  apply List.ext_getElem?
  intro i
  rw [List.getElem?_set]
  by_cases e1 : j = i
  · subst e1
    rw [if_pos rfl, wF_len ht, if_pos hj, wF_get ht hj, if_neg hf, mPut_self]
    simp [upd]
  · rw [if_neg e1]
    rcases Nat.lt_or_ge i (NN t) with q | q
    · rw [wF_get ht q, wF_get ht q, mPut_self]
      simp [upd, Ne.symm e1, show ¬ i = j from fun z => e1 z.symm]
    · simp [wF, ht, q]
theorem wD {cs : ClassId × ClassId × ClassId} {ad : Nat → Nat} {h : mH} (hinj : ∀ i j, i < 68 → j < 68 → ad i = ad j → i = j) : va_D (wA ad) (wL cs ad h) := by
  have ge : ∀ {i : Nat} {q : Nat × va_E}, (wL cs ad h)[i]? = some q → i < 68 ∧ q.1 = ad i := by
    intro i q hq
    rcases Nat.lt_or_ge i 68 with z | z
    · rw [wL_get z] at hq; cases hq; exact ⟨z, rfl⟩
    · simp [wL, z] at hq
  exact ⟨fun i j p q hp hq e => hinj i j (ge hp).1 (ge hq).1 (by rw [← (ge hp).2, ← (ge hq).2]; exact e), fun k q hk => ⟨k, (ge hk).1, (ge hk).2⟩⟩
def clOf (t : Nat) : vw_C := (ownS t, TT t, NN t)
theorem vwCl_at {t : Nat} (h2 : 2 ≤ t) (h6 : t ≤ 6) : vwCl[t - 2]? = some (clOf t) := by
  rcases (show t = 2 ∨ t = 3 ∨ t = 4 ∨ t = 5 ∨ t = 6 by omega) with rfl | rfl | rfl | rfl | rfl <;> rfl
theorem kU {t : Nat} (h2 : 2 ≤ t) (h6 : t ≤ 6) : ∀ w ∈ u_ws (ownS t) (TT t) (NN t), w ∈ mW := by
  rcases (show t = 2 ∨ t = 3 ∨ t = 4 ∨ t = 5 ∨ t = 6 by omega) with rfl | rfl | rfl | rfl | rfl
  · exact fun w hw => (kU2 w hw).m
  · exact fun w hw => (kU3 w hw).m
  · exact fun w hw => (kU4 w hw).m
  · exact fun w hw => (kU5 w hw).m
  · exact fun w hw => (kU6 w hw).m
theorem kTy {t : Nat} (h2 : 2 ≤ t) (h6 : t ≤ 6) : ∀ k, k < NN t → parseFieldDescriptor (TT t k).2.2.1 = some (tyT t k) := by
  rcases (show t = 2 ∨ t = 3 ∨ t = 4 ∨ t = 5 ∨ t = 6 by omega) with rfl | rfl | rfl | rfl | rfl
  · exact tyX2_ok
  · exact tyX3_ok
  · exact tyX4_ok
  · exact tyX5_ok
  · exact tyX6_ok
theorem kNm {t : Nat} (h2 : 2 ≤ t) (h6 : t ≤ 6) : ∀ a, a < NN t → ∀ b, b < NN t → a ≠ b → (TT t a).2.1 ≠ (TT t b).2.1 := by
  rcases (show t = 2 ∨ t = 3 ∨ t = 4 ∨ t = 5 ∨ t = 6 by omega) with rfl | rfl | rfl | rfl | rfl
  · exact nmX2
  · exact nmX3
  · exact nmX4
  · exact nmX5
  · exact nmX6
theorem kT0 {t : Nat} (h2 : 2 ≤ t) (h6 : t ≤ 6) : ∀ k, k < NN t → (TT t k).1 = ownS t ∧ (fk t k = 0 → (TT t k).2.2.2 = false ∧ (TT t k).2.2.1 = "I") ∧ (fk t k = 1 → (TT t k).2.2.2 = false ∧ (TT t k).2.2.1 = "Z") := by
  rcases (show t = 2 ∨ t = 3 ∨ t = 4 ∨ t = 5 ∨ t = 6 by omega) with rfl | rfl | rfl | rfl | rfl
  · show ∀ k, k < 3 → _; decide +kernel
  · show ∀ k, k < 10 → _; decide +kernel
  · show ∀ k, k < 2 → _; decide +kernel
  · show ∀ k, k < 9 → _; decide +kernel
  · show ∀ k, k < 13 → _; decide +kernel
section FIN
variable {C : mC} {K : mK} {Q : Option Value → mH → Prop} {pc : Nat} {ls : List Value} {h : mH}
theorem fin_gN {n k : Nat} {z : Nat × List Value × List Value × mH} (hs : fin C K Q pc ls h (gN n k z)) : n = k ∧ K z.1 z.2.1 z.2.2.1 z.2.2.2 := by
  unfold gN at hs
  split at hs
  · rename_i e; exact ⟨e, hs⟩
  · exact hs.elim
theorem fin_gJ {n k pc' : Nat} {off : Int} {ls' st' : List Value} {h' : mH} (hs : fin C K Q pc ls h (gJ n k pc' off ls' st' h')) : n = k ∧ ∃ t : Nat, (pc' : Int) + off = (t : Int) ∧ K t ls' st' h' := by
  unfold gJ at hs
  split at hs
  · rename_i e; exact ⟨e.1, _, (Int.toNat_of_nonneg e.2).symm, hs⟩
  · exact hs.elim
theorem fin_i1 {st : List Value} {f : Int32 → List Value → Option mR} (hs : fin C K Q pc ls h (o_i1 st f)) : ∃ x r, st = .int x :: r ∧ fin C K Q pc ls h (f x r) := by
  unfold o_i1 at hs
  split at hs
  · exact ⟨_, _, rfl, hs⟩
  · exact hs.elim
theorem fin_i2 {st : List Value} {f : Int32 → Int32 → List Value → Option mR} (hs : fin C K Q pc ls h (o_i2 st f)) : ∃ x y r, st = .int y :: .int x :: r ∧ fin C K Q pc ls h (f x y r) := by
  unfold o_i2 at hs
  split at hs
  · exact ⟨_, _, _, rfl, hs⟩
  · exact hs.elim
theorem fin_l1 {st : List Value} {f : Int64 → List Value → Option mR} (hs : fin C K Q pc ls h (o_l1 st f)) : ∃ x r, st = .long x :: r ∧ fin C K Q pc ls h (f x r) := by
  unfold o_l1 at hs
  split at hs
  · exact ⟨_, _, rfl, hs⟩
  · exact hs.elim
theorem fin_l2 {st : List Value} {f : Int64 → Int64 → List Value → Option mR} (hs : fin C K Q pc ls h (o_l2 st f)) : ∃ x y r, st = .long y :: .long x :: r ∧ fin C K Q pc ls h (f x y r) := by
  unfold o_l2 at hs
  split at hs
  · exact ⟨_, _, _, rfl, hs⟩
  · exact hs.elim
theorem fin_r1 {st : List Value} {f : Nat → List Value → Option mR} (hs : fin C K Q pc ls h (o_r1 st f)) : ∃ a r, st = .ref a :: r ∧ fin C K Q pc ls h (f a r) := by
  unfold o_r1 at hs
  split at hs
  · exact ⟨_, _, rfl, hs⟩
  · exact hs.elim
theorem fin_ri {st : List Value} {f : Nat → Int32 → List Value → Option mR} (hs : fin C K Q pc ls h (o_ri st f)) : ∃ a i r, st = .int i :: .ref a :: r ∧ fin C K Q pc ls h (f a i r) := by
  unfold o_ri at hs
  split at hs
  · exact ⟨_, _, _, rfl, hs⟩
  · exact hs.elim
theorem fin_ir {st : List Value} {f : Nat → Int32 → List Value → Option mR} (hs : fin C K Q pc ls h (o_ir st f)) : ∃ a x r, st = .int x :: .ref a :: r ∧ fin C K Q pc ls h (f a x r) := by
  unfold o_ir at hs
  split at hs
  · exact ⟨_, _, _, rfl, hs⟩
  · exact hs.elim
theorem fin_rii {st : List Value} {f : Nat → Int32 → Int32 → List Value → Option mR} (hs : fin C K Q pc ls h (o_rii st f)) : ∃ a i x r, st = .int x :: .int i :: .ref a :: r ∧ fin C K Q pc ls h (f a i x r) := by
  unfold o_rii at hs
  split at hs
  · exact ⟨_, _, _, _, rfl, hs⟩
  · exact hs.elim
theorem fin_v1 {st : List Value} {f : Value → List Value → Option mR} (hs : fin C K Q pc ls h (o_v1 st f)) : ∃ v r, st = v :: r ∧ v.category = 1 ∧ fin C K Q pc ls h (f v r) := by
  unfold o_v1 at hs
  split at hs
  · split at hs
    · rename_i e; exact ⟨_, _, rfl, e, hs⟩
    · exact hs.elim
  · exact hs.elim
theorem fin_v2 {st : List Value} {f : Value → Value → List Value → Option mR} (hs : fin C K Q pc ls h (o_v2 st f)) : ∃ v w r, st = v :: w :: r ∧ (v.category = 1 ∧ w.category = 1) ∧ fin C K Q pc ls h (f v w r) := by
  unfold o_v2 at hs
  split at hs
  · split at hs
    · rename_i e; exact ⟨_, _, _, rfl, e, hs⟩
    · exact hs.elim
  · exact hs.elim
theorem fin_li {l2 : List Value} {i : Nat} {f : Int32 → Option mR} (hs : fin C K Q pc ls h (o_li l2 i f)) : ∃ x, l2[i]? = some (.int x) ∧ fin C K Q pc ls h (f x) := by
  unfold o_li at hs
  split at hs
  · rename_i e; exact ⟨_, e, hs⟩
  · exact hs.elim
theorem fin_ll {l2 : List Value} {i : Nat} {f : Int64 → Option mR} (hs : fin C K Q pc ls h (o_ll l2 i f)) : ∃ x, l2[i]? = some (.long x) ∧ fin C K Q pc ls h (f x) := by
  unfold o_ll at hs
  split at hs
  · rename_i e; exact ⟨_, e, hs⟩
  · exact hs.elim
theorem fin_lr {l2 : List Value} {i : Nat} {f : Nat → Option mR} (hs : fin C K Q pc ls h (o_lr l2 i f)) : ∃ x, l2[i]? = some (.ref x) ∧ fin C K Q pc ls h (f x) := by
  unfold o_lr at hs
  split at hs
  · rename_i e; exact ⟨_, e, hs⟩
  · exact hs.elim
theorem fin_if {c : Prop} [Decidable c] {r : Option mR} (hs : fin C K Q pc ls h (if c then r else none)) : c ∧ fin C K Q pc ls h r := by
  split at hs
  · rename_i e; exact ⟨e, hs⟩
  · exact hs.elim
theorem fin_ifn {c : Prop} [Decidable c] {r : Option mR} (hs : fin C K Q pc ls h (if c then none else r)) : ¬ c ∧ fin C K Q pc ls h r := by
  split at hs
  · exact hs.elim
  · rename_i e; exact ⟨e, hs⟩
theorem fin_cv {E : mE} {i : Nat} {st : List Value} (hs : fin C K Q pc ls h (x_cv E i st)) : ∃ i' n E' b r, mlk E.1 i = some (i', 0, n, E') ∧ st.drop n = .ref b :: r ∧ tg b = E'.1 ∧ cats r ≤ 8 ∧ ∃ v h', C E' (.ref b :: (st.take n).reverse) h v h' ∧ K (pc + 3) ls (v.toList ++ r) h' := by
  unfold x_cv at hs
  split at hs
  · rename_i i' n E' e
    split at hs
    · rename_i b r e2
      obtain ⟨⟨e3, e4⟩, hs⟩ := fin_if hs
      exact ⟨i', n, E', b, r, e, e2, e3, e4, hs⟩
    · exact hs.elim
  · exact hs.elim
end FIN
section LVR
variable {ad : Nat → Nat} {fv : Value} {lsm : Array Slot} {n : Nat}
def lvl (ad : Nat → Nat) (fv : Value) (ls : List Value) : List (Nat × Value) := (List.range ls.length).filterMap (fun i => match ls[i]? with
  | some v => if v = mU then none else some (i, cnc ad fv v)
  | none => none)
def lvR (ad : Nat → Nat) (fv : Value) (lsm : Array Slot) (n : Nat) (ls : List Value) : Prop := ls.length = n ∧ lv_has lsm n (lvl ad fv ls)
theorem lvl_mem {ls : List Value} {i : Nat} {v : Value} (h : ls[i]? = some v) (hu : ¬ v = mU) : (i, cnc ad fv v) ∈ lvl ad fv ls := by
  unfold lvl
  refine List.mem_filterMap.mpr ⟨i, List.mem_range.mpr (List.getElem?_eq_some_iff.mp h).1, ?_⟩
  rw [h]
  simp only [hu, if_false]
theorem lvl_of {ls : List Value} {q : Nat × Value} (h : q ∈ lvl ad fv ls) : ∃ v, ls[q.1]? = some v ∧ ¬ v = mU ∧ q.2 = cnc ad fv v := by
  unfold lvl at h
  obtain ⟨i, hi, hq⟩ := List.mem_filterMap.mp h
  cases e : ls[i]? with
  | none => rw [e] at hq; cases hq
  | some v =>
    rw [e] at hq
    by_cases hu : v = mU
    · simp only [hu, if_true] at hq; cases hq
    · simp only [hu, if_false] at hq
      cases hq
      exact ⟨v, e, hu, rfl⟩
theorem lvR.at {ls : List Value} (h : lvR ad fv lsm n ls) {i : Nat} {v : Value} (hi : ls[i]? = some v) (hu : ¬ v = mU) : lsm[i]? = some (.val (cnc ad fv v)) := h.2.2.2 _ (lvl_mem hi hu)
theorem lv_has_sub {l l' : List (Nat × Value)} (h : lv_has lsm n l) (hs : ∀ q ∈ l', q ∈ l) : lv_has lsm n l' := ⟨h.1, h.2.1, fun q hq => h.2.2 q (hs q hq)⟩
theorem lvR.set1 {ls : List Value} {i : Nat} {v : Value} {lsm' : Array Slot} (hfv : fv = .null ∨ ∃ a, fv = .ref a) (hlen : ls.length = n) (hg : ∀ u, ls[i - 1]? = some u → i = 0 ∨ u.category = 1) (h : lv_has lsm' n ((i, cnc ad fv v) :: (lvl ad fv ls).filter (fun q => !(q.1 == i) && !(q.1 + 1 == i && q.2.category == 2)))) : lvR ad fv lsm' n (ls.set i v) := by
  refine ⟨by rw [List.length_set]; exact hlen, lv_has_sub h (fun q hq => ?_)⟩
  obtain ⟨u, hu, hm, e⟩ := lvl_of hq
  obtain ⟨j, w⟩ := q
  dsimp only at hu e
  subst e
  rw [List.getElem?_set] at hu
  by_cases e1 : i = j
  · subst e1
    rw [if_pos rfl] at hu
    split at hu
    · cases hu; exact List.mem_cons_self
    · cases hu
  · rw [if_neg e1] at hu
    refine List.mem_cons_of_mem _ (List.mem_filter.mpr ⟨lvl_mem hu hm, ?_⟩)
    have h1 : ¬ j = i := fun z => e1 z.symm
    simp only [beq_iff_eq, h1, Bool.and_eq_true, Bool.not_eq_true', Bool.and_eq_false_iff, cnc_cat hfv]
    refine ⟨by simpa using h1, ?_⟩
    by_cases e2 : j + 1 = i
    · right
      rcases hg u (by rw [← hu, show i - 1 = j by omega]) with z | z
      · omega
      · simp [z]
    · left; simpa using e2
theorem lvR.set2 {ls : List Value} {i : Nat} {v : Int64} {lsm' : Array Slot} (hfv : fv = .null ∨ ∃ a, fv = .ref a) (hlen : ls.length = n) (hg : ∀ u, ls[i - 1]? = some u → i = 0 ∨ u.category = 1) (h : lv_has lsm' n ((i, Value.long v) :: (lvl ad fv ls).filter (fun q => !(q.1 == i) && (!(q.1 == i + 1) && !(q.1 + 1 == i && q.2.category == 2))))) : lvR ad fv lsm' n ((ls.set i (.long v)).set (i + 1) mU) := by
  refine ⟨by rw [List.length_set, List.length_set]; exact hlen, lv_has_sub h (fun q hq => ?_)⟩
  obtain ⟨u, hu, hm, e⟩ := lvl_of hq
  obtain ⟨j, w⟩ := q
  dsimp only at hu e
  subst e
  rw [List.getElem?_set] at hu
  by_cases e0 : i + 1 = j
  · subst e0
    rw [if_pos rfl] at hu
    split at hu
    · cases hu; exact absurd rfl hm
    · cases hu
  rw [if_neg e0, List.getElem?_set] at hu
  by_cases e1 : i = j
  · subst e1
    rw [if_pos rfl] at hu
    split at hu
    · cases hu; exact List.mem_cons_self
    · cases hu
  · rw [if_neg e1] at hu
    refine List.mem_cons_of_mem _ (List.mem_filter.mpr ⟨lvl_mem hu hm, ?_⟩)
    have h1 : ¬ j = i := fun z => e1 z.symm
    have h2 : ¬ j = i + 1 := fun z => e0 z.symm
    simp only [Bool.and_eq_true, Bool.not_eq_true', Bool.and_eq_false_iff, cnc_cat hfv]
    refine ⟨by simpa using h1, by simpa using h2, ?_⟩
    by_cases e2 : j + 1 = i
    · right
      rcases hg u (by rw [← hu, show i - 1 = j by omega]) with z | z
      · omega
      · simp [z]
    · left; simpa using e2
theorem lvR.wd {E : mE} {ls : List Value} {i : Nat} (hcat : E.2.1 = false → ∀ v ∈ ls, v.category = 1) (hg : g1 E ls i = true) : ∀ u, ls[i - 1]? = some u → i = 0 ∨ u.category = 1 := by
  intro u hu
  unfold g1 at hg
  cases e : E.2.1 with
  | false => exact Or.inr (hcat e u (List.mem_of_getElem? hu))
  | true =>
    rw [e] at hg
    simp [hu] at hg
    exact hg
theorem entL_len (as : List Value) (hfv : fv = .null ∨ ∃ a, fv = .ref a) : (lg_sl (as.map (cnc ad fv))).length = (entL as).length := by
  induction as with
  | nil => rfl
  | cons v vs ih =>
    simp only [lg_sl, List.map_cons, List.flatMap_cons, List.length_append] at ih ⊢
    rw [cnc_cat hfv, ih, entL]
    split <;> simp <;> omega
theorem lv_args_ent (hfv : fv = .null ∨ ∃ a, fv = .ref a) : ∀ (as : List Value) (o k : Nat) (j : Nat) (v : Value), (entL as ++ List.replicate k mU)[j]? = some v → ¬ v = mU → (o + j, cnc ad fv v) ∈ lv_args o (as.map (cnc ad fv))
  | [], o, k, j, v, h, hu => by
    simp only [entL, List.nil_append] at h
    exact absurd (List.eq_of_mem_replicate (List.mem_of_getElem? h)) hu
  | a :: as, o, k, j, v, h, hu => by
    rw [List.map_cons, lv_args, cnc_cat hfv]
    rw [entL] at h
    by_cases hc : a.category = 2
    · rw [if_pos hc] at h ⊢
      match j, h with
      | 0, h => simp at h; subst h; exact List.mem_cons_self
      | 1, h => simp at h; exact absurd h.symm hu
      | j + 2, h =>
        simp at h
        have := lv_args_ent hfv as (o + 2) k j v h hu
        rw [show o + 2 + j = o + (j + 2) by omega] at this
        exact List.mem_cons_of_mem _ this
    · rw [if_neg hc] at h ⊢
      match j, h with
      | 0, h => simp at h; subst h; exact List.mem_cons_self
      | j + 1, h =>
        simp at h
        have := lv_args_ent hfv as (o + 1) k j v h hu
        rw [show o + 1 + j = o + (j + 1) by omega] at this
        exact List.mem_cons_of_mem _ this
theorem lvR.entry {E : mE} {as : List Value} (hfv : fv = .null ∨ ∃ a, fv = .ref a) (hle : (entL as).length ≤ eL E) : lvR ad fv ((lg_sl (as.map (cnc ad fv)) ++ List.replicate (eL E - (lg_sl (as.map (cnc ad fv))).length) Slot.unset).toArray) (eL E) (ent E as) := by
  refine ⟨?_, lv_has_sub (lv_entry (as.map (cnc ad fv)) (by rw [entL_len as hfv]; exact hle)) (fun q hq => ?_)⟩
  · unfold ent; simp; unfold eL at hle ⊢; omega
  · obtain ⟨v, h1, h2, h3⟩ := lvl_of hq
    obtain ⟨j, w⟩ := q
    dsimp only at h1 h3
    subst h3
    have := lv_args_ent (ad := ad) hfv as 0 _ j v h1 h2
    rw [Nat.zero_add] at this
    exact this
end LVR
