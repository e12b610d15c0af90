/-! what the Statement gives of the start: the text constants, the two statics, the nest's words -/
def tmS (i : Nat) : Term := .string "CopyOfACopy$Text" (siL.getD i 0)
set_option maxRecDepth 100000 in
set_option maxHeartbeats 4000000 in
theorem ent_S {args : Array Value} {s : State} {A : Nat → Prop} (h : (Jvm.Cond.and given_1 narrow_1).before args s = true) (hA : ∀ a : Nat, a < s.heap.size → ¬ A a) : ∃ aK aV : Nat → Nat, vk_S 7 stL byL aK aV A s s.heap ∧ ∀ i : Nat, i < 7 → (tmS i).eval args s none [] s = some (.ref (aK i)) := by
  have hs := flat_of_before _ h
  refine vk_Sof (tm := tmS) (by decide) ?_ ?_ ?_ ?_ ?_ ?_ hA
  · intro i hi
    match i, hi with
    | 0, _ => exact hs _ (by decide +kernel)
    | 1, _ => exact hs _ (by decide +kernel)
    | 2, _ => exact hs _ (by decide +kernel)
    | 3, _ => exact hs _ (by decide +kernel)
    | 4, _ => exact hs _ (by decide +kernel)
    | 5, _ => exact hs _ (by decide +kernel)
    | 6, _ => exact hs _ (by decide +kernel)
  · intro i hi
    match i, hi with
    | 0, _ => exact hs _ (by decide +kernel)
    | 1, _ => exact hs _ (by decide +kernel)
    | 2, _ => exact hs _ (by decide +kernel)
    | 3, _ => exact hs _ (by decide +kernel)
    | 4, _ => exact hs _ (by decide +kernel)
    | 5, _ => exact hs _ (by decide +kernel)
    | 6, _ => exact hs _ (by decide +kernel)
  · intro i hi
    match i, hi with
    | 0, _ => exact hs _ (by decide +kernel)
    | 1, _ => exact hs _ (by decide +kernel)
    | 2, _ => exact hs _ (by decide +kernel)
    | 3, _ => exact hs _ (by decide +kernel)
    | 4, _ => exact hs _ (by decide +kernel)
    | 5, _ => exact hs _ (by decide +kernel)
    | 6, _ => exact hs _ (by decide +kernel)
  · intro i hi
    match i, hi with
    | 0, _ => exact hs _ (by decide +kernel)
    | 1, _ => exact hs _ (by decide +kernel)
    | 2, _ => exact hs _ (by decide +kernel)
    | 3, _ => exact hs _ (by decide +kernel)
    | 4, _ => exact hs _ (by decide +kernel)
    | 5, _ => exact hs _ (by decide +kernel)
    | 6, _ => exact hs _ (by decide +kernel)
  · intro i hi j hj
    match i, hi with
    | 0, _ =>
      match j, hj with
      | 0, _ => exact hs _ (by decide +kernel)
      | 1, _ => exact hs _ (by decide +kernel)
      | 2, _ => exact hs _ (by decide +kernel)
      | 3, _ => exact hs _ (by decide +kernel)
      | 4, _ => exact hs _ (by decide +kernel)
      | 5, _ => exact hs _ (by decide +kernel)
      | 6, _ => exact hs _ (by decide +kernel)
      | 7, _ => exact hs _ (by decide +kernel)
      | 8, _ => exact hs _ (by decide +kernel)
      | 9, _ => exact hs _ (by decide +kernel)
      | 10, _ => exact hs _ (by decide +kernel)
    | 1, _ =>
      match j, hj with
      | 0, _ => exact hs _ (by decide +kernel)
      | 1, _ => exact hs _ (by decide +kernel)
      | 2, _ => exact hs _ (by decide +kernel)
    | 2, _ =>
      match j, hj with
      | 0, _ => exact hs _ (by decide +kernel)
      | 1, _ => exact hs _ (by decide +kernel)
      | 2, _ => exact hs _ (by decide +kernel)
    | 3, _ =>
      match j, hj with
      | 0, _ => exact hs _ (by decide +kernel)
      | 1, _ => exact hs _ (by decide +kernel)
      | 2, _ => exact hs _ (by decide +kernel)
      | 3, _ => exact hs _ (by decide +kernel)
    | 4, _ =>
      match j, hj with
      | 0, _ => exact hs _ (by decide +kernel)
      | 1, _ => exact hs _ (by decide +kernel)
    | 5, _ => exact absurd hj (Nat.not_lt_zero j)
    | 6, _ =>
      match j, hj with
      | 0, _ => exact hs _ (by decide +kernel)
      | 1, _ => exact hs _ (by decide +kernel)
      | 2, _ => exact hs _ (by decide +kernel)
      | 3, _ => exact hs _ (by decide +kernel)
      | 4, _ => exact hs _ (by decide +kernel)
      | 5, _ => exact hs _ (by decide +kernel)
  · intro i j hi hj hne
    match i, hi, j, hj, hne with
    | 0, _, 0, _, hne => exact absurd rfl hne
    | 0, _, 1, _, _ => first | exact Or.inl (hs _ (by decide +kernel)) | exact Or.inr (hs _ (by decide +kernel))
    | 0, _, 2, _, _ => first | exact Or.inl (hs _ (by decide +kernel)) | exact Or.inr (hs _ (by decide +kernel))
    | 0, _, 3, _, _ => first | exact Or.inl (hs _ (by decide +kernel)) | exact Or.inr (hs _ (by decide +kernel))
    | 0, _, 4, _, _ => first | exact Or.inl (hs _ (by decide +kernel)) | exact Or.inr (hs _ (by decide +kernel))
    | 0, _, 5, _, _ => first | exact Or.inl (hs _ (by decide +kernel)) | exact Or.inr (hs _ (by decide +kernel))
    | 0, _, 6, _, _ => first | exact Or.inl (hs _ (by decide +kernel)) | exact Or.inr (hs _ (by decide +kernel))
    | 1, _, 0, _, _ => first | exact Or.inl (hs _ (by decide +kernel)) | exact Or.inr (hs _ (by decide +kernel))
    | 1, _, 1, _, hne => exact absurd rfl hne
    | 1, _, 2, _, _ => first | exact Or.inl (hs _ (by decide +kernel)) | exact Or.inr (hs _ (by decide +kernel))
    | 1, _, 3, _, _ => first | exact Or.inl (hs _ (by decide +kernel)) | exact Or.inr (hs _ (by decide +kernel))
    | 1, _, 4, _, _ => first | exact Or.inl (hs _ (by decide +kernel)) | exact Or.inr (hs _ (by decide +kernel))
    | 1, _, 5, _, _ => first | exact Or.inl (hs _ (by decide +kernel)) | exact Or.inr (hs _ (by decide +kernel))
    | 1, _, 6, _, _ => first | exact Or.inl (hs _ (by decide +kernel)) | exact Or.inr (hs _ (by decide +kernel))
    | 2, _, 0, _, _ => first | exact Or.inl (hs _ (by decide +kernel)) | exact Or.inr (hs _ (by decide +kernel))
    | 2, _, 1, _, _ => first | exact Or.inl (hs _ (by decide +kernel)) | exact Or.inr (hs _ (by decide +kernel))
    | 2, _, 2, _, hne => exact absurd rfl hne
    | 2, _, 3, _, _ => first | exact Or.inl (hs _ (by decide +kernel)) | exact Or.inr (hs _ (by decide +kernel))
    | 2, _, 4, _, _ => first | exact Or.inl (hs _ (by decide +kernel)) | exact Or.inr (hs _ (by decide +kernel))
    | 2, _, 5, _, _ => first | exact Or.inl (hs _ (by decide +kernel)) | exact Or.inr (hs _ (by decide +kernel))
    | 2, _, 6, _, _ => first | exact Or.inl (hs _ (by decide +kernel)) | exact Or.inr (hs _ (by decide +kernel))
    | 3, _, 0, _, _ => first | exact Or.inl (hs _ (by decide +kernel)) | exact Or.inr (hs _ (by decide +kernel))
    | 3, _, 1, _, _ => first | exact Or.inl (hs _ (by decide +kernel)) | exact Or.inr (hs _ (by decide +kernel))
    | 3, _, 2, _, _ => first | exact Or.inl (hs _ (by decide +kernel)) | exact Or.inr (hs _ (by decide +kernel))
    | 3, _, 3, _, hne => exact absurd rfl hne
    | 3, _, 4, _, _ => first | exact Or.inl (hs _ (by decide +kernel)) | exact Or.inr (hs _ (by decide +kernel))
    | 3, _, 5, _, _ => first | exact Or.inl (hs _ (by decide +kernel)) | exact Or.inr (hs _ (by decide +kernel))
    | 3, _, 6, _, _ => first | exact Or.inl (hs _ (by decide +kernel)) | exact Or.inr (hs _ (by decide +kernel))
    | 4, _, 0, _, _ => first | exact Or.inl (hs _ (by decide +kernel)) | exact Or.inr (hs _ (by decide +kernel))
    | 4, _, 1, _, _ => first | exact Or.inl (hs _ (by decide +kernel)) | exact Or.inr (hs _ (by decide +kernel))
    | 4, _, 2, _, _ => first | exact Or.inl (hs _ (by decide +kernel)) | exact Or.inr (hs _ (by decide +kernel))
    | 4, _, 3, _, _ => first | exact Or.inl (hs _ (by decide +kernel)) | exact Or.inr (hs _ (by decide +kernel))
    | 4, _, 4, _, hne => exact absurd rfl hne
    | 4, _, 5, _, _ => first | exact Or.inl (hs _ (by decide +kernel)) | exact Or.inr (hs _ (by decide +kernel))
    | 4, _, 6, _, _ => first | exact Or.inl (hs _ (by decide +kernel)) | exact Or.inr (hs _ (by decide +kernel))
    | 5, _, 0, _, _ => first | exact Or.inl (hs _ (by decide +kernel)) | exact Or.inr (hs _ (by decide +kernel))
    | 5, _, 1, _, _ => first | exact Or.inl (hs _ (by decide +kernel)) | exact Or.inr (hs _ (by decide +kernel))
    | 5, _, 2, _, _ => first | exact Or.inl (hs _ (by decide +kernel)) | exact Or.inr (hs _ (by decide +kernel))
    | 5, _, 3, _, _ => first | exact Or.inl (hs _ (by decide +kernel)) | exact Or.inr (hs _ (by decide +kernel))
    | 5, _, 4, _, _ => first | exact Or.inl (hs _ (by decide +kernel)) | exact Or.inr (hs _ (by decide +kernel))
    | 5, _, 5, _, hne => exact absurd rfl hne
    | 5, _, 6, _, _ => first | exact Or.inl (hs _ (by decide +kernel)) | exact Or.inr (hs _ (by decide +kernel))
    | 6, _, 0, _, _ => first | exact Or.inl (hs _ (by decide +kernel)) | exact Or.inr (hs _ (by decide +kernel))
    | 6, _, 1, _, _ => first | exact Or.inl (hs _ (by decide +kernel)) | exact Or.inr (hs _ (by decide +kernel))
    | 6, _, 2, _, _ => first | exact Or.inl (hs _ (by decide +kernel)) | exact Or.inr (hs _ (by decide +kernel))
    | 6, _, 3, _, _ => first | exact Or.inl (hs _ (by decide +kernel)) | exact Or.inr (hs _ (by decide +kernel))
    | 6, _, 4, _, _ => first | exact Or.inl (hs _ (by decide +kernel)) | exact Or.inr (hs _ (by decide +kernel))
    | 6, _, 5, _, _ => first | exact Or.inl (hs _ (by decide +kernel)) | exact Or.inr (hs _ (by decide +kernel))
    | 6, _, 6, _, hne => exact absurd rfl hne
set_option maxRecDepth 100000 in
theorem ent_F {args : Array Value} {s : State} (h : (Jvm.Cond.and given_1 narrow_1).before args s = true) (hts : ∀ w ∈ lw_tbl, w.before args s = true) {D : va_G} {cs : ClassId × ClassId × ClassId} (hK : va_K D vwCl (wT cs) s) : ∃ (kc : Nat → Nat) (fv : Value), (fv = .null ∨ ∃ a, fv = .ref a) ∧ wFx D cs (adK s.heap.size kc) fv s s.heap := by
  have hs := flat_of_before _ h
  have hA : ∀ a : Nat, a < s.heap.size → ¬ (fun q => ∃ k, k < 68 ∧ q = s.heap.size + k) a := fun a ha z => by
    obtain ⟨k, _, e⟩ := z
    have e : a = s.heap.size + k := e
    omega
  obtain ⟨aK, aV, hS, hE⟩ := ent_S (A := fun q => ∃ k, k < 68 ∧ q = s.heap.size + k) h hA
  have hAB : ∀ (kc : Nat → Nat) (q : Nat), wA (adK s.heap.size kc) q → ∃ k, k < 68 ∧ q = s.heap.size + k := fun kc q z => by
    obtain ⟨k, hk, e⟩ := z
    refine ⟨k, hk, ?_⟩
    rw [e]
    unfold adK
    rw [if_pos hk]
  have hA2 : ∀ (kc : Nat → Nat) (a : Nat), a < s.heap.size → ¬ wA (adK s.heap.size kc) a := fun kc a ha z => hA a ha (hAB kc a z)
  have e1 : ∀ i, i < 7 → adK s.heap.size (fun k => if k < 110 then aK (k - 100) else aV (k - 110)) (100 + i) = aK i := fun i hi => by
    unfold adK
    rw [if_neg (by omega)]
    show (if 100 + i < 110 then aK (100 + i - 100) else aV (100 + i - 110)) = aK i
    rw [if_pos (by omega), show 100 + i - 100 = i by omega]
  have e2 : ∀ i, i < 7 → adK s.heap.size (fun k => if k < 110 then aK (k - 100) else aV (k - 110)) (110 + i) = aV i := fun i hi => by
    unfold adK
    rw [if_neg (by omega)]
    show (if 110 + i < 110 then aK (110 + i - 100) else aV (110 + i - 110)) = aV i
    rw [if_neg (by omega), show 110 + i - 110 = i by omega]
  have hZ0 := fun kc => va_Zqof (A := wA (adK s.heap.size kc)) (hts (.laysStatic "jdk/internal/util/Preconditions" "SIOOBE_FORMATTER" "Ljava/util/function/BiFunction;") (lw_m1 (List.mem_of_getElem? (i := 213) rfl))) (hts (.initialized "jdk/internal/util/Preconditions") (lw_m1 (List.mem_of_getElem? (i := 9) rfl))) (hs _ (by decide +kernel)) (hA2 kc)
  have hZ1 := fun kc => va_Zof (A := wA (adK s.heap.size kc)) (hts (.laysStatic "java/lang/String" "COMPACT_STRINGS" "Z") (lw_m1 (List.mem_of_getElem? (i := 197) rfl))) (hts (.initialized "java/lang/String") (lw_m1 (List.mem_of_getElem? (i := 7) rfl))) (va_eqi (z := 1) (hs _ (by decide +kernel))) (hA2 kc)
  have hS2 : vk_S 7 stL byL (fun i => adK s.heap.size (fun k => if k < 110 then aK (k - 100) else aV (k - 110)) (100 + i)) (fun i => adK s.heap.size (fun k => if k < 110 then aK (k - 100) else aV (k - 110)) (110 + i)) (wA (adK s.heap.size (fun k => if k < 110 then aK (k - 100) else aV (k - 110)))) s s.heap := by
    have g := hS.narrow (hAB (fun k => if k < 110 then aK (k - 100) else aV (k - 110)))
    refine ⟨fun i hi => ?_, fun i j hi hj e => ?_⟩
    · have := g.1 i hi
      rw [← e1 i hi, ← e2 i hi] at this
      exact this
    · refine g.2 i j hi hj ?_
      have e : adK s.heap.size (fun k => if k < 110 then aK (k - 100) else aV (k - 110)) (100 + i) = adK s.heap.size (fun k => if k < 110 then aK (k - 100) else aV (k - 110)) (100 + j) := e
      rw [e1 i hi, e1 j hj] at e
      exact e
  have hR : ∀ j, j < 7 → vk_R (ownS 4) (siL.getD j 0) (txL.getD j "") (adK s.heap.size (fun k => if k < 110 then aK (k - 100) else aV (k - 110)) (100 + j)) s := fun j hj => by
    rw [e1 j hj]
    refine vk_R.of (A := args) ?_ (hE j hj)
    match j, hj with
    | 0, _ => exact hts _ (lw_m1 (List.mem_of_getElem? (i := 178) rfl))
    | 1, _ => exact hts _ (lw_m1 (List.mem_of_getElem? (i := 179) rfl))
    | 2, _ => exact hts _ (lw_m1 (List.mem_of_getElem? (i := 180) rfl))
    | 3, _ => exact hts _ (lw_m1 (List.mem_of_getElem? (i := 181) rfl))
    | 4, _ => exact hts _ (lw_m1 (List.mem_of_getElem? (i := 182) rfl))
    | 5, _ => exact hts _ (lw_m1 (List.mem_of_getElem? (i := 183) rfl))
    | 6, _ => exact hts _ (lw_m1 (List.mem_of_getElem? (i := 239) rfl))
  have hN : ∀ w ∈ nestW, va_Nw w s := fun w hw => by
    simp only [nestW, List.mem_cons, List.not_mem_nil, or_false] at hw
    rcases hw with rfl | rfl | rfl | rfl
    · exact va_Nw.of rfl (hts _ (lw_m3 (List.mem_of_getElem? (i := 43) rfl)))
    · exact va_Nw.of rfl (hts _ (lw_m3 (List.mem_of_getElem? (i := 73) rfl)))
    · exact va_Nw.of rfl (hts _ (lw_m3 (List.mem_of_getElem? (i := 166) rfl)))
    · exact va_Nw.of rfl (hts _ (lw_m4 (List.mem_of_getElem? (i := 2) rfl)))
  rcases hZ0 (fun k => if k < 110 then aK (k - 100) else aV (k - 110)) with z | ⟨t, z⟩
  · exact ⟨_, .null, Or.inl rfl, hK, hS2, hR, hZ1 _, z, hN⟩
  · exact ⟨_, .ref t, Or.inr ⟨t, rfl⟩, hK, hS2, hR, hZ1 _, z, hN⟩
