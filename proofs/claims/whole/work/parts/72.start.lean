set_option maxRecDepth 100000 in
set_option maxHeartbeats 4000000 in
/-- THE LAW, from its entry -/
theorem whole_start {p : Program} {e : Env} {s : State} {m : MethodId} {below : List Frame} {meth : Method} {c : Code} (l : Launch) (hflags : l.flags = flags0) {b L : Nat} {xs : Nat → Int32} (hL : L ≤ 3072) (C0 : lw_At p s m meth c b L xs) : W p l e room_1 s m #[Value.ref b] below meth c s.heap [] 0 0 (lw_Z below #[Value.ref b] s) (entryFrame m ([Value.ref b] : List Value).toArray 4) := by
  obtain ⟨hx, hb, hr, hml, hown, hts, hX, hbl, hlocks, hgv⟩ := id C0
  have hw : ∀ {w : Cond}, inW w → w.before #[Value.ref b] s = true := fun h => hts _ h.1
  obtain ⟨D, cs, hK, hO⟩ := ent_K hts
  obtain ⟨kc, fv, hfv, F⟩ := ent_F hgv hts hK
  have hU : ∀ t, 2 ≤ t → t ≤ 6 → ∀ w ∈ u_ws (ownS t) (TT t) (NN t), w ∈ lw_tbl := fun t h2 h6 w h => (List.mem_filter.mp (kU h2 h6 w h)).1
  have hS : va_S (fun q : Nat => s.heap.size ≤ q) s.heap s.heap [] := va_S.rf
  have hP : bP D s.heap.size 0 (fun _ => .inl (cs.1, 0, .inl (fun _ => 0))) s.heap := ⟨rfl, fun k hk => absurd hk (Nat.not_lt_zero k)⟩
  have hl := lv_entry ([.ref b]) (n := 4) (Nat.le_of_ble_eq_true rfl)
  rw [lg_entry_eq]
  generalize (lg_sl ([.ref b]) ++ List.replicate (4 - (lg_sl ([.ref b])).length) Slot.unset).toArray = ls at hl ⊢
  have hl : lv_has ls 4 [(0, .ref b)] := hl
  refine b_new (t := 5) (fs := [.null, .null, .null, .int 0, .null, .null, .null, .int 0, .null]) hx hb (by decide) (by decide) hts (hU 5 (by decide) (by decide)) hown (hw iwC_RL_7) (hw iwI_RX5) (hw iwN_RX5) hK hP hS (fun j hj => by revert j; decide +kernel) (Nat.le_of_ble_eq_true rfl) (Nat.le_of_ble_eq_true rfl) dL_law_0 (fun H hP hS => ?_)
  refine W.widen (k := 1) (n := 9) (Nat.le_of_ble_eq_true rfl) (Nat.le_of_ble_eq_true rfl) ?_
  refine lv_dup hx hb dL_law_3 rfl ?_
  refine b_init (k := 0) (t := 5) (fs := [.null, .null, .null, .int 0, .null, .null, .null, .int 0, .null]) (cN := 59) (E1 := iE5 cs (s.heap.size + 0)) ⟨hx, hb, hml, hown, hts⟩ (i_X5 l D cs (s.heap.size + 0)) (cwI 0 hts (goodTW iwK_yX5_init) rfl rfl rfl (hw iwN_RX5) (hw iwM_RL_9) (hw iwV_yX5_init) rfl (by decide +kernel) ⟨Nat.le_of_ble_eq_true rfl, Nat.le_of_ble_eq_true rfl⟩) hK hO hP hS rfl hl.1 (lv_room (Nat.le_of_ble_eq_true rfl)) dL_law_4 ⟨Nat.le_of_ble_eq_true rfl, Nat.le_of_ble_eq_true rfl⟩ (fun H locs hP hS => ?_)
  refine W.widen (k := 59) (n := 459) (Nat.le_of_ble_eq_true rfl) (Nat.le_of_ble_eq_true rfl) ?_
  refine lv_astore_n (lv' := [(1, .ref (s.heap.size + 0)), (0, .ref b)]) hx hb dL_law_7 rfl hl (by decide) rfl (fun ls hl => ?_)
  have hP : bP D s.heap.size 59 _ H := hP
  refine b_new (t := 6) (fs := [.null, .null, .null, .int 0, .null, .null, .null, .int 0, .int 0, .null, .int 0, .null, .int 0]) hx hb (by decide) (by decide) hts (hU 6 (by decide) (by decide)) hown (hw iwC_RL_10) (hw iwI_RX6) (hw iwN_RX6) hK hP hS (fun j hj => by revert j; decide +kernel) (Nat.le_of_ble_eq_true rfl) (Nat.le_of_ble_eq_true rfl) dL_law_8 (fun H hP hS => ?_)
  refine W.widen (k := 60) (n := 472) (Nat.le_of_ble_eq_true rfl) (Nat.le_of_ble_eq_true rfl) ?_
  refine lv_dup hx hb dL_law_11 rfl ?_
  refine b_init (k := 59) (t := 6) (fs := [.null, .null, .null, .int 0, .null, .null, .null, .int 0, .int 0, .null, .int 0, .null, .int 0]) (cN := 9) (E1 := iE6 cs (s.heap.size + 59)) ⟨hx, hb, hml, hown, hts⟩ (i_X6 l D cs (s.heap.size + 59)) (cwI 0 hts (goodTW iwK_yX6_init) rfl rfl rfl (hw iwN_RX6) (hw iwM_RL_12) (hw iwV_yX6_init) rfl (by decide +kernel) ⟨Nat.le_of_ble_eq_true rfl, Nat.le_of_ble_eq_true rfl⟩) hK hO hP hS rfl hl.1 (lv_room (Nat.le_of_ble_eq_true rfl)) dL_law_12 ⟨Nat.le_of_ble_eq_true rfl, Nat.le_of_ble_eq_true rfl⟩ (fun H locs hP hS => ?_)
  refine W.widen (k := 68) (n := 864) (Nat.le_of_ble_eq_true rfl) (Nat.le_of_ble_eq_true rfl) ?_
  refine lv_astore_n (lv' := [(2, .ref (s.heap.size + 59)), (1, .ref (s.heap.size + 0)), (0, .ref b)]) hx hb dL_law_15 rfl hl (by decide) rfl (fun ls hl => ?_)
  refine lv_iconst (v := 0) hx hb dL_law_16 (by decide) ?_
  refine lv_istore_n (lv' := [(3, .int 0), (2, .ref (s.heap.size + 59)), (1, .ref (s.heap.size + 0)), (0, .ref b)]) hx hb dL_law_17 rfl hl (by decide) rfl (fun ls hl => ?_)
  have hP : bP D s.heap.size 68 _ H := hP
  have hM := made (kc := kc) (cs := cs) hP (fun k hk => by
    unfold eS eU
    rw [if_pos hk, if_neg (by omega)]
    show (if k < 0 then _ else iE5 cs (s.heap.size + 0) (k - 0)) = _
    rw [if_neg (Nat.not_lt_zero k)]
    try rfl) (fun k hk => by
    unfold eS
    rw [if_neg (by omega), Nat.add_sub_cancel_left])
  have hl2 : lv_has ls 4 [(0, .ref b), (1, .ref (adK s.heap.size kc 0)), (2, .ref (adK s.heap.size kc 59)), (3, .int (nI 0))] := lv_sub hl [3, 2, 1, 0] rfl
  exact law_loop hL C0 hfv F (L + 1) 0 (Nat.zero_le L) (by omega) h0 h0_inv H locs hM hS ls hl2
