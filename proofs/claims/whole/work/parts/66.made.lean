/-! the cells made are the small machine's cells -/
def adK (n : Nat) (kc : Nat → Nat) (k : Nat) : Nat := if k < 68 then n + k else kc k
theorem at_extq {D : va_G} {a N : Nat} {cA : ClassId} {f g : Nat → Option Nat} {H : Heap} (h : va_at D vwCl (a, .inl (cA, N, .inr (.inr (.inr (.inr f))))) H) (he : ∀ i, i < N → f i = g i) : va_at D vwCl (a, .inl (cA, N, .inr (.inr (.inr (.inr g))))) H := by
  have h : H[a]? = some (vp_cell cA (N, .inr (.inr (.inr (.inr f))))) := h
  show H[a]? = some (vp_cell cA (N, .inr (.inr (.inr (.inr g)))))
  rw [h, vp_cell_q, vp_cell_q]
  refine congrArg some ?_
  unfold arrV
  refine congrArg (fun z => ({ cls := cA, slots := z, vm := .none } : Cell)) ?_
  apply Array.ext
  · simp
  · intro q h1 h2
    simp only [Array.size_ofFn] at h1
    simp only [Array.getElem_ofFn]
    rw [he q h1]
set_option maxRecDepth 100000 in
set_option maxHeartbeats 4000000 in
theorem made5 {D : va_G} {cs : ClassId × ClassId × ClassId} {n : Nat} {kc : Nat → Nat} {H : Heap} : ∀ k, k < 59 → va_at D vwCl (n + k, iE5 cs n k) H → va_at D vwCl (adK n kc k, wE cs (adK n kc) h0 k) H := by
  intro k hk h
  match k, hk with
  | 0, _ => exact h
  | 1, _ => exact h
  | 2, _ => exact h
  | 3, _ => exact at_extq (f := fun i => some (n + 1 + (2 + 1 + i))) h (fun i hi => by
    match i, hi with
    | 0, _ => rfl
    | 1, _ => rfl
    | 2, _ => rfl
    | 3, _ => rfl
    | 4, _ => rfl
    | 5, _ => rfl
    | 6, _ => rfl
    | 7, _ => rfl
    | 8, _ => rfl
    | 9, _ => rfl)
  | 4, _ => exact h
  | 5, _ => exact h
  | 6, _ => exact h
  | 7, _ => exact h
  | 8, _ => exact h
  | 9, _ => exact h
  | 10, _ => exact h
  | 11, _ => exact h
  | 12, _ => exact h
  | 13, _ => exact h
  | 14, _ => exact h
  | 15, _ => exact h
  | 16, _ => exact h
  | 17, _ => exact h
  | 18, _ => exact h
  | 19, _ => exact h
  | 20, _ => exact at_extq (f := fun i => some (n + 18 + (2 + 1 + i))) h (fun i hi => by
    match i, hi with
    | 0, _ => rfl
    | 1, _ => rfl
    | 2, _ => rfl
    | 3, _ => rfl
    | 4, _ => rfl
    | 5, _ => rfl
    | 6, _ => rfl
    | 7, _ => rfl
    | 8, _ => rfl
    | 9, _ => rfl)
  | 21, _ => exact h
  | 22, _ => exact h
  | 23, _ => exact h
  | 24, _ => exact h
  | 25, _ => exact h
  | 26, _ => exact h
  | 27, _ => exact h
  | 28, _ => exact h
  | 29, _ => exact h
  | 30, _ => exact h
  | 31, _ => exact h
  | 32, _ => exact h
  | 33, _ => exact h
  | 34, _ => exact h
  | 35, _ => exact h
  | 36, _ => exact h
  | 37, _ => exact at_extq (f := fun i => some (n + 35 + (2 + 1 + i))) h (fun i hi => by
    match i, hi with
    | 0, _ => rfl
    | 1, _ => rfl
    | 2, _ => rfl
    | 3, _ => rfl
    | 4, _ => rfl
    | 5, _ => rfl
    | 6, _ => rfl
    | 7, _ => rfl
    | 8, _ => rfl
    | 9, _ => rfl)
  | 38, _ => exact h
  | 39, _ => exact h
  | 40, _ => exact h
  | 41, _ => exact h
  | 42, _ => exact h
  | 43, _ => exact h
  | 44, _ => exact h
  | 45, _ => exact h
  | 46, _ => exact h
  | 47, _ => exact h
  | 48, _ => exact h
  | 49, _ => exact h
  | 50, _ => exact h
  | 51, _ => exact h
  | 52, _ => exact h
  | 53, _ => exact h
  | 54, _ => exact h
  | 55, _ => exact h
  | 56, _ => exact h
  | 57, _ => exact h
  | 58, _ => exact h
  | k + 59, hk => exact absurd hk (by omega)
set_option maxRecDepth 100000 in
set_option maxHeartbeats 4000000 in
theorem made6 {D : va_G} {cs : ClassId × ClassId × ClassId} {n : Nat} {kc : Nat → Nat} {H : Heap} : ∀ k, k < 9 → va_at D vwCl (n + 59 + k, iE6 cs (n + 59) k) H → va_at D vwCl (adK n kc (59 + k), wE cs (adK n kc) h0 (59 + k)) H := by
  intro k hk h
  match k, hk with
  | 0, _ => exact h
  | 1, _ => exact h
  | 2, _ => exact h
  | 3, _ => exact h
  | 4, _ => exact h
  | 5, _ => exact h
  | 6, _ => exact h
  | 7, _ => exact h
  | 8, _ => exact h
theorem made {D : va_G} {cs : ClassId × ClassId × ClassId} {n : Nat} {kc : Nat → Nat} {E : Nat → va_E} {H : Heap} (h : bP D n 68 E H) (h1 : ∀ k, k < 59 → E k = iE5 cs n k) (h2 : ∀ k, k < 9 → E (59 + k) = iE6 cs (n + 59) k) : va_P D vwCl (wL cs (adK n kc) h0) H := by
  intro k q hq
  have hk : k < 68 := by
    have := (List.getElem?_eq_some_iff.mp hq).1
    simpa [wL] using this
  rw [wL_get hk] at hq
  cases hq
  have g := h.2 k hk
  rcases Nat.lt_or_ge k 59 with c | c
  · rw [h1 k c] at g
    exact made5 k c g
  · obtain ⟨i, rfl⟩ : ∃ i, k = 59 + i := ⟨k - 59, by omega⟩
    rw [h2 i (by omega), ← Nat.add_assoc] at g
    exact made6 i (by omega) g
