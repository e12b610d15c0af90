/-! what the tables give of the classes and of the classes of arrays -/
theorem ent_K {args : Array Value} {s : State} (hts : ∀ w ∈ lw_tbl, w.before args s = true) : ∃ (D : va_G) (cs : ClassId × ClassId × ClassId), va_K D vwCl (wT cs) s ∧ aov s := by
  have hw : ∀ {w : Cond}, inW w → w.before args s = true := fun h => hts _ h.1
  have hU : ∀ t, 2 ≤ t → t ≤ 6 → ∀ w ∈ u_ws (ownS t) (TT t) (NN t), w ∈ lw_tbl := fun t h2 h6 w h => (List.mem_filter.mp (kU h2 h6 w h)).1
  obtain ⟨c2, i2, k2⟩ := u_known (C := ownS 2) (T := TT 2) (N := NN 2) (n := 3) hts (hU 2 (by decide) (by decide)) (hw iwI_RX2)
  obtain ⟨c3, i3, k3⟩ := u_known (C := ownS 3) (T := TT 3) (N := NN 3) (n := 10) hts (hU 3 (by decide) (by decide)) (hw iwI_RX3)
  obtain ⟨c4, i4, k4⟩ := u_known (C := ownS 4) (T := TT 4) (N := NN 4) (n := 2) hts (hU 4 (by decide) (by decide)) (hw iwI_RX4)
  obtain ⟨c5, i5, k5⟩ := u_known (C := ownS 5) (T := TT 5) (N := NN 5) (n := 9) hts (hU 5 (by decide) (by decide)) (hw iwI_RX5)
  obtain ⟨c6, i6, k6⟩ := u_known (C := ownS 6) (T := TT 6) (N := NN 6) (n := 13) hts (hU 6 (by decide) (by decide)) (hw iwI_RX6)
  obtain ⟨cI, kI, pI, hnI, hkI, hqI⟩ := Cond.arrayClass_spec (hw iwA_int)
  obtain ⟨cB, kB, pB, hnB, hkB, hqB⟩ := Cond.arrayClass_spec (hw iwA_bool)
  obtain ⟨pG, cG, kG, -, hnG, hkG, hqG⟩ := mg_over (hts _ iwO)
  refine ⟨(fun k => if k = 0 then c2 else if k = 1 then c3 else if k = 2 then c4 else if k = 3 then c5 else c6, fun k => if k = 0 then i2 else if k = 1 then i3 else if k = 2 then i4 else if k = 3 then i5 else i6), (cI, cB, cG), ⟨?_, ?_⟩, show (Cond.arrayOver (.array .int)).before #[] s = true from hts _ iwO⟩
  · intro k q hq
    have hk : k < 5 := (List.getElem?_eq_some_iff.mp hq).1
    match k, hk, hq with
    | 0, _, hq =>
      obtain rfl : clOf 2 = q := Option.some.inj hq
      exact k2
    | 1, _, hq =>
      obtain rfl : clOf 3 = q := Option.some.inj hq
      exact k3
    | 2, _, hq =>
      obtain rfl : clOf 4 = q := Option.some.inj hq
      exact k4
    | 3, _, hq =>
      obtain rfl : clOf 5 = q := Option.some.inj hq
      exact k5
    | 4, _, hq =>
      obtain rfl : clOf 6 = q := Option.some.inj hq
      exact k6
    | k + 5, hk, _ => exact absurd hk (by omega)
  · intro k q hq
    have hk : k < 3 := (List.getElem?_eq_some_iff.mp hq).1
    match k, hk, hq with
    | 0, _, hq =>
      obtain rfl : (cI, FieldType.int) = q := Option.some.inj hq
      exact ⟨fun n z => ⟨fun k h => (by cases h), kI, hkI, pI, hqI⟩, hnI⟩
    | 1, _, hq =>
      obtain rfl : (cB, FieldType.boolean) = q := Option.some.inj hq
      exact ⟨fun n z => ⟨fun k h => (by cases h), kB, hkB, pB, hqB⟩, hnB⟩
    | 2, _, hq =>
      obtain rfl : (cG, FieldType.array .int) = q := Option.some.inj hq
      exact ⟨fun n z => ⟨fun k h => (by cases h), kG, hkG, pG, hqG⟩, hnG⟩
    | k + 3, hk, _ => exact absurd hk (by omega)
/-! the law's loop -/
theorem sw63 (x : Int32) : ∃ j, j < 64 ∧ x &&& 63 = nI j := by
  have h : ∀ b : BitVec 32, ∃ j, j < 64 ∧ b &&& 63#32 = BitVec.ofNat 32 j := fun b => ⟨(b &&& 63#32).toNat, by rw [BitVec.toNat_and]; exact Nat.lt_of_le_of_lt Nat.and_le_right (by decide), ((BitVec.ofNat_toNat 32 (b &&& 63#32)).trans (BitVec.setWidth_eq _)).symm⟩
  obtain ⟨j, hj, e⟩ := h x.toBitVec
  exact ⟨j, hj, Int32.toBitVec_inj.mp e⟩
theorem lp_c {i L : Nat} (hi : i ≤ 4000) (hL : L ≤ 3072) : (Int32.ofNat L - 6 < nI i) ∨ i + 6 ≤ L := by
  rcases Nat.lt_or_ge L 6 with q | q
  · left
    have h1 : ∀ L, L < 6 → (Int32.ofNat L - 6).toInt < 0 := by decide +kernel
    have h2 := h1 L q
    rw [Int32.lt_iff_toInt_lt, nI_toInt (by omega)]
    omega
  · obtain ⟨k, rfl⟩ : ∃ k, L = k + 6 := ⟨L - 6, by omega⟩
    have e : Int32.ofNat (k + 6) - 6 = nI k := by
      show nI (k + 6) - nI 6 = nI k
      rw [← nI_add, Int32.add_sub_cancel]
    rw [e, nI_ltI (by omega) (by omega)]
    omega
theorem in_add {i j L : Nat} (hj : j ≤ 5) (hi : i + 6 ≤ L) (hL : L ≤ 3072) : vp_in (nI i + nI j) L := by
  rw [nI_add]
  exact vp_in_nI (by omega) (by omega)
theorem law_loop {p : Program} {l : Launch} {e : Env} {s : State} {m : MethodId} {below : List Frame} {meth : Method} {c : Code} {b L : Nat} {xs : Nat → Int32} {D : va_G} {cs : ClassId × ClassId × ClassId} {kc : Nat → Nat} {fv : Value} (hL : L ≤ 3072) (C0 : lw_At p s m meth c b L xs) (hfv : fv = .null ∨ ∃ a, fv = .ref a) (F : wFx D cs (adK s.heap.size kc) fv s s.heap) :
    ∀ (n i : Nat), i ≤ L → L + 1 ≤ i + n → ∀ (h : mH), Inv h → ∀ (H : Heap) (locs : List Loc), va_P D vwCl (wL cs (adK s.heap.size kc) h) H → va_S (fun q : Nat => s.heap.size ≤ q) s.heap H locs → ∀ (ls : Array Slot), lv_has ls 4 [(0, .ref b), (1, .ref (adK s.heap.size kc 0)), (2, .ref (adK s.heap.size kc 59)), (3, .int (nI i))] → W p l e room_1 s m #[Value.ref b] below meth c H locs 68 864 (lw_Z below #[Value.ref b] s) (F0 m 18 ls []) := by
  obtain ⟨hx, hb, hr, hml, hown, hts, hX, hbl, hlocks, hgv⟩ := C0
  have hbA : ¬ (fun q : Nat => s.heap.size ≤ q) b := Nat.not_le.mpr hbl
  intro n
  induction n with
  | zero =>
    intro i h1 h2
    exact absurd h2 (by omega)
  | succ n ih =>
    intro i hi hn h I H locs hP hS ls hl
    refine lv_iload_n hx hb dL_law_18 rfl (lv_at hl 3 rfl) ?_
    refine lv_aload_n hx hb dL_law_19 rfl (lv_at hl 0 rfl) ?_
    refine va_slen hx hb hX hbl hbA hS dL_law_20 ?_
    refine lv_bipush (v := 6) hx hb dL_law_21 (by decide) ?_
    refine lv_isub hx hb dL_law_23 ?_
    refine lv_icmp_gt (tgt := 1241) hx hb dL_law_24 (by decide) (fun c1 => ?_) (fun c1 => ?_)
    · refine lv_iconst (v := 1) hx hb dL_law_1241 (by decide) ?_
      refine va_forget (fun q hq => hS.2.2 q hq) ?_
      refine W.widen (k := 600000) (n := 7302250) (Nat.le_of_ble_eq_true rfl) (Nat.le_of_ble_eq_true rfl) ?_
      exact lw_ret hx hb hr hlocks dL_law_1242
    · have hi6 : i + 6 ≤ L := by
        rcases lp_c (i := i) (L := L) (by omega) hL with q | q
        · exact absurd q c1
        · exact q
      have kk : ∀ (h2 : mH) (H1 : Heap) (locs1 : List Loc), Inv h2 → va_P D vwCl (wL cs (adK s.heap.size kc) h2) H1 → va_S (fun q : Nat => s.heap.size ≤ q) s.heap H1 locs1 → W p l e room_1 s m #[Value.ref b] below meth c H1 locs1 68 864 (lw_Z below #[Value.ref b] s) (F0 m 1235 ls []) := fun h2 H1 locs1 I2 hP2 hS2 => by
        refine lv_iinc (v := nI (i + 6)) (lv' := [(3, .int (nI (i + 6))), (0, .ref b), (1, .ref (adK s.heap.size kc 0)), (2, .ref (adK s.heap.size kc 59))]) hx hb dL_law_1235 hl (k := 3) rfl (by rw [show Int32.ofInt 6 = nI 6 by decide +kernel]; exact nI_add i 6) (by decide) rfl (fun ls hl => ?_)
        refine lv_goto (tgt := 18) hx hb dL_law_1238 (by decide) ?_
        exact ih (i + 6) hi6 (by omega) h2 I2 H1 locs1 hP2 hS2 ls (lv_sub hl [1, 2, 3, 0] rfl)
      refine lv_aload_n hx hb dL_law_27 rfl (lv_at hl 0 rfl) ?_
      refine lv_iload_n hx hb dL_law_28 rfl (lv_at hl 3 rfl) ?_
      refine va_sld hx hb hX hbl hbA hS (vp_in_nI (show i < L by omega) (by omega)) dL_law_29 ?_
      refine lv_bipush (v := 63) hx hb dL_law_30 (by decide) ?_
      refine lv_iand hx hb dL_law_32 ?_
      obtain ⟨j, hj, ej⟩ := sw63 (xs (nI i).toNatClampNeg)
      rw [ej]
      rcases Nat.lt_or_ge j 38 with q | q
      · refine lc_all (x3 := nI i) q hx hb hml hown hts hX hbl hfv F I hP hS hl (fun z hz => ?_) (Nat.le_of_ble_eq_true rfl) (Nat.le_of_ble_eq_true rfl) kk
        rcases hz with rfl | rfl | rfl | rfl | rfl
        · exact in_add (j := 1) (by omega) hi6 hL
        · exact in_add (j := 2) (by omega) hi6 hL
        · exact in_add (j := 3) (by omega) hi6 hL
        · exact in_add (j := 4) (by omega) hi6 hL
        · exact in_add (j := 5) (by omega) hi6 hL
      · refine lv_tableOut (tgt := 1235) hx hb dL_law_33 (Or.inr ?_) (by decide) (kk h H locs I hP hS)
        rw [nI_toInt (by omega)]
        omega
