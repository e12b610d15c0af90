set_option maxHeartbeats 4000000 in
theorem sim_step {p : Program} {l : Launch} {e : Env} {d : Nat} {s : State} {m : MethodId} {args : Array Value} {below : List Frame} {meth : Method} {c : Code} {D : va_G} {cs : ClassId × ClassId × ClassId} {ad : Nat → Nat} {fv : Value} {E : mE} {Q : Option Value → mH → Prop}
    (hfv : fv = .null ∨ ∃ a, fv = .ref a) (hinj : ∀ i j, i < 68 → j < 68 → ad i = ad j → i = j)
    (IH : ∀ (E : mE) (as : List Value) (h : mH) (r : Option Value) (h' : mH), okE E → Cal d E as h r h' → mMet l D cs ad fv d E as h r h')
    (hx : p.tables.exec = Jvm.exec) (hb : c.code = eC E) (hml : c.maxLocals = eL E) (hr : meth.sig.returnType = eR E) (hown : s.vm.findClass (ownS E.1) = some m.cls) (hts : ∀ w ∈ mW, w.before args s = true) (hlocks : meth.locks = false) (F : wFx D cs ad fv s s.heap)
    {pc : Nat} {ls st : List Value} {h : mH} (hs : stp (Cal d) (wPd p l e d s m args below meth c D cs ad fv E Q) Q E pc ls st h) : wPd p l e d s m args below meth c D cs ad fv E Q pc ls st h := by
  intro hcat H locs lsm hP hS hL
  have hK : va_K D vwCl (wT cs) s := F.1
  have hD : va_D (wA ad) (wL cs ad h) := wD hinj
  unfold stp nxt at hs
  cases hd : decode (eC E) pc with
  | error z =>
    have hd' : decode E.2.2.2.1 pc = .error z := hd
    rw [hd'] at hs; exact hs.elim
  | ok z =>
  obtain ⟨i, n⟩ := z
  have hd' : decode E.2.2.2.1 pc = .ok (i, n) := hd
  rw [hd'] at hs
  dsimp only at hs
  cases i with
  | iconst v =>
    replace hs := fin_gN hs; obtain ⟨rfl, hs⟩ := hs
    exact lv_iconst hx hb hd rfl (hs hcat H locs lsm hP hS hL)
  | bipush v =>
    replace hs := fin_gN hs; obtain ⟨rfl, hs⟩ := hs
    exact lv_bipush hx hb hd rfl (hs hcat H locs lsm hP hS hL)
  | sipush v =>
    replace hs := fin_gN hs; obtain ⟨rfl, hs⟩ := hs
    exact lv_sipush hx hb hd rfl (hs hcat H locs lsm hP hS hL)
  | lconst v =>
    replace hs := fin_gN hs; obtain ⟨rfl, hs⟩ := hs
    exact lv_lconst hx hb hd rfl (hs hcat H locs lsm hP hS hL)
  | ldc i =>
    replace hs : fin _ _ Q pc ls h (x_ldc E i pc ls st h n) := hs
    unfold x_ldc at hs
    split at hs
    · rename_i i' v ec
      replace hs := fin_gN hs; obtain ⟨rfl, hs⟩ := hs
      obtain ⟨ok, rfl⟩ := clk_ok ec
      exact lv_ldc hx hb hown (hts _ (show inW _ from ok).m) hd (hs hcat H locs lsm hP hS hL)
    · rename_i i' v ec
      replace hs := fin_gN hs; obtain ⟨rfl, hs⟩ := hs
      obtain ⟨ok, rfl⟩ := clk_ok ec
      obtain ⟨c4, j, hj, rfl, hsi⟩ := ok
      have h3 := F.2.2.1 j hj
      rw [hsi] at h3
      rw [c4] at hown
      refine va_ldcS hx hb hown h3 hd ?_
      have := hs hcat H locs lsm hP hS hL
      dsimp only at this
      rw [mapr] at this
      exact this
    · exact hs.elim
  | ldc_w i =>
    replace hs : fin _ _ Q pc ls h (x_ldw E i pc ls st h n) := hs
    unfold x_ldw at hs
    split at hs
    · rename_i i' v ec
      replace hs := fin_gN hs; obtain ⟨rfl, hs⟩ := hs
      obtain ⟨ok, rfl⟩ := clk_ok ec
      exact lv_ldcw hx hb hown (hts _ (show inW _ from ok).m) hd (hs hcat H locs lsm hP hS hL)
    · exact hs.elim
  | ldc2_w i =>
    replace hs : fin _ _ Q pc ls h (x_ld2 E i pc ls st h n) := hs
    unfold x_ld2 at hs
    split at hs
    · rename_i i' v ec
      replace hs := fin_gN hs; obtain ⟨rfl, hs⟩ := hs
      obtain ⟨ok, rfl⟩ := clk_ok ec
      exact lv_ldc2 hx hb hown (hts _ (show inW _ from ok).m) hd (hs hcat H locs lsm hP hS hL)
    · exact hs.elim
  | iload_n k =>
    replace hs := fin_li hs; obtain ⟨x, hl, hs⟩ := hs
    replace hs := fin_gN hs; obtain ⟨rfl, hs⟩ := hs
    exact lv_iload_n hx hb hd rfl (hL.at hl mU_i) (hs hcat H locs lsm hP hS hL)
  | iload k =>
    replace hs := fin_li hs; obtain ⟨x, hl, hs⟩ := hs
    replace hs := fin_gN hs; obtain ⟨rfl, hs⟩ := hs
    exact lv_iload hx hb hd (hL.at hl mU_i) (hs hcat H locs lsm hP hS hL)
  | lload_n k =>
    replace hs := fin_ll hs; obtain ⟨x, hl, hs⟩ := hs
    replace hs := fin_gN hs; obtain ⟨rfl, hs⟩ := hs
    exact lv_lload_n hx hb hd rfl (hL.at hl mU_l) (hs hcat H locs lsm hP hS hL)
  | lload k =>
    replace hs := fin_ll hs; obtain ⟨x, hl, hs⟩ := hs
    replace hs := fin_gN hs; obtain ⟨rfl, hs⟩ := hs
    exact lv_lload hx hb hd (hL.at hl mU_l) (hs hcat H locs lsm hP hS hL)
  | aload_n k =>
    replace hs := fin_lr hs; obtain ⟨x, hl, hs⟩ := hs
    replace hs := fin_gN hs; obtain ⟨rfl, hs⟩ := hs
    have h1 := hL.at hl mU_r
    rw [cnc_ref] at h1
    refine lv_aload_n hx hb hd rfl h1 ?_
    have := hs hcat H locs lsm hP hS hL
    rw [mapr] at this
    exact this
  | aload k =>
    replace hs := fin_lr hs; obtain ⟨x, hl, hs⟩ := hs
    replace hs := fin_gN hs; obtain ⟨rfl, hs⟩ := hs
    have h1 := hL.at hl mU_r
    rw [cnc_ref] at h1
    refine lv_aload hx hb hd h1 ?_
    have := hs hcat H locs lsm hP hS hL
    rw [mapr] at this
    exact this
  | istore_n k =>
    replace hs := fin_i1 hs; obtain ⟨x, r, rfl, hs⟩ := hs
    unfold sti at hs
    replace hs := fin_if hs; obtain ⟨⟨hi, hg⟩, hs⟩ := hs
    replace hs := fin_gN hs; obtain ⟨rfl, hs⟩ := hs
    exact lv_istore_n hx hb hd rfl hL.2 (by rw [← hL.1]; exact hi) rfl (fun lsm' h' => hs (cat_set hcat (fun _ => rfl)) H locs lsm' hP hS (lvR.set1 hfv hL.1 (lvR.wd hcat hg) h'))
  | istore k =>
    replace hs := fin_i1 hs; obtain ⟨x, r, rfl, hs⟩ := hs
    unfold sti at hs
    replace hs := fin_if hs; obtain ⟨⟨hi, hg⟩, hs⟩ := hs
    replace hs := fin_gN hs; obtain ⟨rfl, hs⟩ := hs
    exact lv_istore hx hb hd hL.2 (by rw [← hL.1]; exact hi) rfl (fun lsm' h' => hs (cat_set hcat (fun _ => rfl)) H locs lsm' hP hS (lvR.set1 hfv hL.1 (lvR.wd hcat hg) h'))
  | astore_n k =>
    replace hs := fin_r1 hs; obtain ⟨x, r, rfl, hs⟩ := hs
    unfold sti at hs
    replace hs := fin_if hs; obtain ⟨⟨hi, hg⟩, hs⟩ := hs
    replace hs := fin_gN hs; obtain ⟨rfl, hs⟩ := hs
    rw [mapr]
    exact lv_astore_n hx hb hd rfl hL.2 (by rw [← hL.1]; exact hi) rfl (fun lsm' h' => hs (cat_set hcat (fun _ => rfl)) H locs lsm' hP hS (lvR.set1 hfv hL.1 (lvR.wd hcat hg) (by rw [cnc_ref]; exact h')))
  | astore k =>
    replace hs := fin_r1 hs; obtain ⟨x, r, rfl, hs⟩ := hs
    unfold sti at hs
    replace hs := fin_if hs; obtain ⟨⟨hi, hg⟩, hs⟩ := hs
    replace hs := fin_gN hs; obtain ⟨rfl, hs⟩ := hs
    rw [mapr]
    exact lv_astore hx hb hd hL.2 (by rw [← hL.1]; exact hi) rfl (fun lsm' h' => hs (cat_set hcat (fun _ => rfl)) H locs lsm' hP hS (lvR.set1 hfv hL.1 (lvR.wd hcat hg) (by rw [cnc_ref]; exact h')))
  | lstore_n k =>
    replace hs := fin_l1 hs; obtain ⟨x, r, rfl, hs⟩ := hs
    unfold stl at hs
    replace hs := fin_if hs; obtain ⟨⟨hlg, hi, hg⟩, hs⟩ := hs
    replace hs := fin_gN hs; obtain ⟨rfl, hs⟩ := hs
    exact lv_lstore_n hx hb hd rfl hL.2 (by rw [← hL.1]; exact hi) rfl (fun lsm' h' => hs (fun z => by rw [hlg] at z; cases z) H locs lsm' hP hS (lvR.set2 hfv hL.1 (lvR.wd hcat hg) h'))
  | lstore k =>
    replace hs := fin_l1 hs; obtain ⟨x, r, rfl, hs⟩ := hs
    unfold stl at hs
    replace hs := fin_if hs; obtain ⟨⟨hlg, hi, hg⟩, hs⟩ := hs
    replace hs := fin_gN hs; obtain ⟨rfl, hs⟩ := hs
    exact lv_lstore hx hb hd hL.2 (by rw [← hL.1]; exact hi) rfl (fun lsm' h' => hs (fun z => by rw [hlg] at z; cases z) H locs lsm' hP hS (lvR.set2 hfv hL.1 (lvR.wd hcat hg) h'))
  | iinc k v =>
    replace hs := fin_li hs; obtain ⟨x, hl, hs⟩ := hs
    unfold sti at hs
    replace hs := fin_if hs; obtain ⟨⟨hi, hg⟩, hs⟩ := hs
    replace hs := fin_gN hs; obtain ⟨rfl, hs⟩ := hs
    obtain ⟨q, hq⟩ := List.getElem?_of_mem (lvl_mem (ad := ad) (fv := fv) hl mU_i)
    exact lv_iinc hx hb hd hL.2 hq rfl (by rw [← hL.1]; exact hi) rfl (fun lsm' h' => hs (cat_set hcat (fun _ => rfl)) H locs lsm' hP hS (lvR.set1 hfv hL.1 (lvR.wd hcat hg) h'))
  | iadd => replace hs := fin_i2 hs; obtain ⟨x, y, r, rfl, hs⟩ := hs; replace hs := fin_gN hs; obtain ⟨rfl, hs⟩ := hs; exact lv_iadd hx hb hd (hs hcat H locs lsm hP hS hL)
  | isub => replace hs := fin_i2 hs; obtain ⟨x, y, r, rfl, hs⟩ := hs; replace hs := fin_gN hs; obtain ⟨rfl, hs⟩ := hs; exact lv_isub hx hb hd (hs hcat H locs lsm hP hS hL)
  | imul => replace hs := fin_i2 hs; obtain ⟨x, y, r, rfl, hs⟩ := hs; replace hs := fin_gN hs; obtain ⟨rfl, hs⟩ := hs; exact lv_imul hx hb hd (hs hcat H locs lsm hP hS hL)
  | iand => replace hs := fin_i2 hs; obtain ⟨x, y, r, rfl, hs⟩ := hs; replace hs := fin_gN hs; obtain ⟨rfl, hs⟩ := hs; exact lv_iand hx hb hd (hs hcat H locs lsm hP hS hL)
  | ior => replace hs := fin_i2 hs; obtain ⟨x, y, r, rfl, hs⟩ := hs; replace hs := fin_gN hs; obtain ⟨rfl, hs⟩ := hs; exact lv_ior hx hb hd (hs hcat H locs lsm hP hS hL)
  | ixor => replace hs := fin_i2 hs; obtain ⟨x, y, r, rfl, hs⟩ := hs; replace hs := fin_gN hs; obtain ⟨rfl, hs⟩ := hs; exact lv_ixor hx hb hd (hs hcat H locs lsm hP hS hL)
  | ishl => replace hs := fin_i2 hs; obtain ⟨x, y, r, rfl, hs⟩ := hs; replace hs := fin_gN hs; obtain ⟨rfl, hs⟩ := hs; exact lv_ishl hx hb hd (hs hcat H locs lsm hP hS hL)
  | ishr => replace hs := fin_i2 hs; obtain ⟨x, y, r, rfl, hs⟩ := hs; replace hs := fin_gN hs; obtain ⟨rfl, hs⟩ := hs; exact lv_ishr hx hb hd (hs hcat H locs lsm hP hS hL)
  | iushr => replace hs := fin_i2 hs; obtain ⟨x, y, r, rfl, hs⟩ := hs; replace hs := fin_gN hs; obtain ⟨rfl, hs⟩ := hs; exact lv_iushr hx hb hd rfl (hs hcat H locs lsm hP hS hL)
  | idiv => replace hs := fin_i2 hs; obtain ⟨x, y, r, rfl, hs⟩ := hs; replace hs := fin_ifn hs; obtain ⟨hne, hs⟩ := hs; replace hs := fin_gN hs; obtain ⟨rfl, hs⟩ := hs; exact lv_idiv hx hb hd hne (hs hcat H locs lsm hP hS hL)
  | irem => replace hs := fin_i2 hs; obtain ⟨x, y, r, rfl, hs⟩ := hs; replace hs := fin_ifn hs; obtain ⟨hne, hs⟩ := hs; replace hs := fin_gN hs; obtain ⟨rfl, hs⟩ := hs; exact lv_irem hx hb hd hne (hs hcat H locs lsm hP hS hL)
  | ineg => replace hs := fin_i1 hs; obtain ⟨x, r, rfl, hs⟩ := hs; replace hs := fin_gN hs; obtain ⟨rfl, hs⟩ := hs; exact lv_ineg hx hb hd (hs hcat H locs lsm hP hS hL)
  | i2l => replace hs := fin_i1 hs; obtain ⟨x, r, rfl, hs⟩ := hs; replace hs := fin_gN hs; obtain ⟨rfl, hs⟩ := hs; exact lv_i2l hx hb hd rfl (hs hcat H locs lsm hP hS hL)
  | i2b => replace hs := fin_i1 hs; obtain ⟨x, r, rfl, hs⟩ := hs; replace hs := fin_gN hs; obtain ⟨rfl, hs⟩ := hs; exact lv_i2b hx hb hd rfl (hs hcat H locs lsm hP hS hL)
  | i2c => replace hs := fin_i1 hs; obtain ⟨x, r, rfl, hs⟩ := hs; replace hs := fin_gN hs; obtain ⟨rfl, hs⟩ := hs; exact lv_i2c hx hb hd rfl (hs hcat H locs lsm hP hS hL)
  | ladd => replace hs := fin_l2 hs; obtain ⟨x, y, r, rfl, hs⟩ := hs; replace hs := fin_gN hs; obtain ⟨rfl, hs⟩ := hs; exact lv_ladd hx hb hd (hs hcat H locs lsm hP hS hL)
  | lsub => replace hs := fin_l2 hs; obtain ⟨x, y, r, rfl, hs⟩ := hs; replace hs := fin_gN hs; obtain ⟨rfl, hs⟩ := hs; exact lv_lsub hx hb hd (hs hcat H locs lsm hP hS hL)
  | lmul => replace hs := fin_l2 hs; obtain ⟨x, y, r, rfl, hs⟩ := hs; replace hs := fin_gN hs; obtain ⟨rfl, hs⟩ := hs; exact lv_lmul hx hb hd (hs hcat H locs lsm hP hS hL)
  | ldiv => replace hs := fin_l2 hs; obtain ⟨x, y, r, rfl, hs⟩ := hs; replace hs := fin_ifn hs; obtain ⟨hne, hs⟩ := hs; replace hs := fin_gN hs; obtain ⟨rfl, hs⟩ := hs; exact lv_ldiv hx hb hd hne (hs hcat H locs lsm hP hS hL)
  | lrem => replace hs := fin_l2 hs; obtain ⟨x, y, r, rfl, hs⟩ := hs; replace hs := fin_ifn hs; obtain ⟨hne, hs⟩ := hs; replace hs := fin_gN hs; obtain ⟨rfl, hs⟩ := hs; exact lv_lrem hx hb hd hne (hs hcat H locs lsm hP hS hL)
  | lcmp => replace hs := fin_l2 hs; obtain ⟨x, y, r, rfl, hs⟩ := hs; replace hs := fin_gN hs; obtain ⟨rfl, hs⟩ := hs; exact W.lcmp hx hb hd (hs hcat H locs lsm hP hS hL)
  | dup => replace hs := fin_v1 hs; obtain ⟨v, r, rfl, hv, hs⟩ := hs; replace hs := fin_gN hs; obtain ⟨rfl, hs⟩ := hs; exact lv_dup hx hb hd (by rw [cnc_cat hfv]; exact hv) (hs hcat H locs lsm hP hS hL)
  | pop => replace hs := fin_v1 hs; obtain ⟨v, r, rfl, hv, hs⟩ := hs; replace hs := fin_gN hs; obtain ⟨rfl, hs⟩ := hs; exact lv_pop hx hb hd (by rw [cnc_cat hfv]; exact hv) (hs hcat H locs lsm hP hS hL)
  | dup2 => replace hs := fin_v2 hs; obtain ⟨v, w, r, rfl, hv, hs⟩ := hs; replace hs := fin_gN hs; obtain ⟨rfl, hs⟩ := hs; exact lv_dup2_11 hx hb hd (by rw [cnc_cat hfv]; exact hv.1) (by rw [cnc_cat hfv]; exact hv.2) (hs hcat H locs lsm hP hS hL)
  | ifCond cd off =>
    replace hs := fin_i1 hs; obtain ⟨x, r, rfl, hs⟩ := hs
    replace hs := fin_if hs; obtain ⟨h0, hs⟩ := hs
    by_cases q : cnd cd x 0 = true
    · rw [if_pos q] at hs
      replace hs := fin_gJ hs; obtain ⟨rfl, t, ht, hs⟩ := hs
      exact lv_ifc hx hb hd ht (by rw [if_pos q]; exact hs hcat H locs lsm hP hS hL)
    · rw [if_neg q] at hs
      replace hs := fin_gN hs; obtain ⟨rfl, hs⟩ := hs
      exact lv_ifc hx hb hd (Int.toNat_of_nonneg h0).symm (by rw [if_neg q]; exact hs hcat H locs lsm hP hS hL)
  | if_icmp cd off =>
    replace hs := fin_i2 hs; obtain ⟨x, y, r, rfl, hs⟩ := hs
    replace hs := fin_if hs; obtain ⟨h0, hs⟩ := hs
    by_cases q : cnd cd x y = true
    · rw [if_pos q] at hs
      replace hs := fin_gJ hs; obtain ⟨rfl, t, ht, hs⟩ := hs
      exact lv_icmpc hx hb hd ht (by rw [if_pos q]; exact hs hcat H locs lsm hP hS hL)
    · rw [if_neg q] at hs
      replace hs := fin_gN hs; obtain ⟨rfl, hs⟩ := hs
      exact lv_icmpc hx hb hd (Int.toNat_of_nonneg h0).symm (by rw [if_neg q]; exact hs hcat H locs lsm hP hS hL)
  | goto off =>
    replace hs := fin_gJ hs; obtain ⟨rfl, t, ht, hs⟩ := hs
    exact lv_goto hx hb hd ht (hs hcat H locs lsm hP hS hL)
  | tableswitch dflt lo hi offs =>
    replace hs := fin_i1 hs; obtain ⟨x, r, rfl, hs⟩ := hs
    cases ho : x_ts lo hi dflt offs x with
    | none => rw [ho] at hs; exact hs.elim
    | some off =>
      rw [ho] at hs
      replace hs := fin_gJ hs; obtain ⟨-, t, ht, hs⟩ := hs
      unfold x_ts at ho
      split at ho
      · rename_i q
        cases ho
        exact lv_tableOut hx hb hd q ht (hs hcat H locs lsm hP hS hL)
      · rename_i q
        exact lv_tableIn hx hb hd (fun z => q (Or.inl z)) (fun z => q (Or.inr z)) ho ht (hs hcat H locs lsm hP hS hL)
  | lookupswitch dflt ps =>
    replace hs := fin_i1 hs; obtain ⟨x, r, rfl, hs⟩ := hs
    replace hs := fin_if hs; obtain ⟨hp, hs⟩ := hs
    replace hs := fin_gJ hs; obtain ⟨-, t, ht, hs⟩ := hs
    exact lv_lookup hx hb hd hp rfl ht (hs hcat H locs lsm hP hS hL)
  | getfield i =>
    replace hs := fin_if hs; obtain ⟨rfl, hs⟩ := hs
    unfold x_gf at hs
    split at hs
    · rename_i i' t k ty ef
      obtain ⟨ok, rfl⟩ := flk_ok ef
      replace hs := fin_r1 hs; obtain ⟨a, r, rfl, hs⟩ := hs
      replace hs := fin_if hs; obtain ⟨ht, hs⟩ := hs
      have hs := hs hcat H locs lsm hP hS hL
      rcases ok with ⟨⟨h2, h6, hk, hf, h3⟩, hw⟩ | ⟨e, hw⟩ | ⟨e, hw⟩
      · dsimp only at h2 h6 hk hf h3 hw
        have ha : a < 68 := tg_lt ht (by omega)
        rw [mapr]
        refine va_get (C := ownS t) (T := TT t) (N := NN t) (ci := t - 2) (ref := ownS t) hx hb hts (kU h2 h6) hown hK hP a (by rw [wL_get ha, wE_obj ht h6]) (vwCl_at h2 h6) k hk (hts _ hw.m) (fun x hx' => by rw [(kT0 h2 h6 k hk).1] at hx'; exact hx') (wF_get ht hk) hd ?_
        dsimp only at hs
        rw [List.map_cons] at hs
        by_cases q : ty = 2
        · rw [if_pos q, cnc_ref] at hs
          rw [hf, if_pos q]
          exact hs
        · rw [if_neg q, if_neg (by omega)] at hs
          rw [hf, if_neg q]
          exact hs
      · cases e
        obtain ⟨j, hj, rfl⟩ := tg_10 ht
        rw [mapr]
        refine vk_getf hx hb (F.2.1.1 j hj).2.2.1 hS hown (hts _ hw.m) (fun x hx' => hx') hd ?_
        dsimp only at hs
        have e2 : rf (100 + j) 0 = 110 + j := by unfold rf; rw [if_neg (by omega)]; omega
        rw [if_pos rfl, e2, mapr] at hs
        exact hs
      · cases e
        obtain ⟨j, hj, rfl⟩ := tg_10 ht
        rw [mapr]
        exact vk_getf hx hb (F.2.1.1 j hj).2.1 hS hown (hts _ hw.m) (fun x hx' => hx') hd hs
    · exact hs.elim
  | putfield i =>
    replace hs := fin_if hs; obtain ⟨rfl, hs⟩ := hs
    unfold x_pf at hs
    split at hs
    · rename_i i' t k ty ef
      obtain ⟨ok, rfl⟩ := flk_ok ef
      replace hs := fin_ir hs; obtain ⟨a, x, r, rfl, hs⟩ := hs
      replace hs := fin_if hs; obtain ⟨⟨ht, hty⟩, hs⟩ := hs
      rcases ok with ⟨⟨h2, h6, hk, hf, h3⟩, hw⟩ | ⟨e, hw⟩ | ⟨e, hw⟩
      · dsimp only at h2 h6 hk hf h3 hw
        have ha : a < 68 := tg_lt ht (by omega)
        have hnf : ¬ fk t k = 2 := by rw [hf]; rcases hty with q | q <;> omega
        show W _ _ _ _ _ _ _ _ _ _ _ _ _ _ _ (F0 m pc lsm (.int x :: cnc ad fv (.ref a) :: r.map (cnc ad fv)))
        rw [cnc_ref]
        have fin : (TT t k).2.2.2 = false := hty.elim (fun q => ((kT0 h2 h6 k hk).2.1 (by rw [hf]; exact q)).1) (fun q => ((kT0 h2 h6 k hk).2.2 (by rw [hf]; exact q.1)).1)
        have hall : ∃ fty : FieldType, parseFieldDescriptor (TT t k).2.2.1 = some fty ∧ narrow fty (.int x) = .int x ∧ fits fty (.int x) = true := by
          rcases hty with q | ⟨q, q2⟩
          · exact ⟨.int, by rw [((kT0 h2 h6 k hk).2.1 (by rw [hf]; exact q)).2]; decide +kernel, rfl, rfl⟩
          · exact ⟨.boolean, by rw [((kT0 h2 h6 k hk).2.2 (by rw [hf]; exact q)).2]; decide +kernel, by rcases q2 with rfl | rfl <;> rfl, by rcases q2 with rfl | rfl <;> rfl⟩
        obtain ⟨fty, hd1, hd2, hd3⟩ := hall
        refine va_put (C := ownS t) (T := TT t) (N := NN t) (ci := t - 2) (ref := ownS t) hx hb hts (kU h2 h6) (tyT t) (kTy h2 h6) (kNm h2 h6) hown hK hP hD hS a (by rw [wL_get ha, wE_obj ht h6]) (vwCl_at h2 h6) k hk (hts _ hw.m) (fun x hx' => by rw [(kT0 h2 h6 k hk).1] at hx'; exact hx') fin hd1 hd2 hd3 (by rw [wF_len ht]; exact hk) hd (fun H1 locs1 hP1 _ hS1 => ?_)
        rw [wF_set ht hk hnf, wL_set ha (wE_obj ht h6)] at hP1
        exact hs hcat H1 locs1 lsm hP1 hS1 hL
      · cases e; omega
      · cases e; omega
    · exact hs.elim
  | getstatic i =>
    replace hs := fin_if hs; obtain ⟨rfl, hs⟩ := hs
    unfold x_gs at hs
    split at hs
    · rename_i q
      obtain ⟨q1, rfl⟩ := q
      rw [q1] at hown
      exact va_gets hx hb F.2.2.2.1 hS hown (hts _ kG38.m) (fun x hx' => hx') hd (hs hcat H locs lsm hP hS hL)
    · split at hs
      · rename_i q
        obtain ⟨q1, rfl⟩ := q
        rw [q1] at hown
        exact va_gets hx hb F.2.2.2.2.1 hS hown (hts _ kG1053.m) (fun x hx' => hx') hd (hs hcat H locs lsm hP hS hL)
      · exact hs.elim
  | iaload =>
    replace hs := fin_ri hs; obtain ⟨a, i, r, rfl, hs⟩ := hs
    replace hs := fin_if hs; obtain ⟨⟨ht, hin⟩, hs⟩ := hs
    replace hs := fin_gN hs; obtain ⟨rfl, hs⟩ := hs
    have ha : a < 68 := tg_lt ht (by omega)
    show W _ _ _ _ _ _ _ _ _ _ _ _ _ _ _ (F0 m pc lsm (.int i :: cnc ad fv (.ref a) :: r.map (cnc ad fv)))
    rw [cnc_ref]
    exact va_iald hx hb hK hP a 0 (by rw [wL_get ha, wE_int ht]) rfl hin hd (hs hcat H locs lsm hP hS hL)
  | baload =>
    replace hs := fin_ri hs; obtain ⟨a, i, r, rfl, hs⟩ := hs
    show W _ _ _ _ _ _ _ _ _ _ _ _ _ _ _ (F0 m pc lsm (.int i :: cnc ad fv (.ref a) :: r.map (cnc ad fv)))
    split at hs
    · rename_i q
      obtain ⟨ht, hin⟩ := q
      replace hs := fin_gN hs; obtain ⟨rfl, hs⟩ := hs
      have ha : a < 68 := tg_lt ht (by omega)
      rw [cnc_ref]
      exact va_zald hx hb hK hP a 1 (by rw [wL_get ha, wE_boo ht]) rfl hin hd (hs hcat H locs lsm hP hS hL)
    · replace hs := fin_if hs; obtain ⟨⟨ht, hin⟩, hs⟩ := hs
      replace hs := fin_gN hs; obtain ⟨rfl, hs⟩ := hs
      obtain ⟨j, hj, rfl⟩ := tg_103 ht
      rw [cnc_ref]
      have e2 : ln (110 + j) = stL.getD j 0 := by unfold ln; rw [if_neg (by omega), show 110 + j - 110 = j by omega]
      rw [e2] at hin
      refine va_tb hx hb (F.2.1.1 j hj).2.2.2 hS hin rfl hd ?_
      have hs := hs hcat H locs lsm hP hS hL
      unfold byt at hs
      rw [show 110 + j - 110 = j by omega] at hs
      exact hs
  | aaload =>
    replace hs := fin_ri hs; obtain ⟨a, i, r, rfl, hs⟩ := hs
    replace hs := fin_if hs; obtain ⟨⟨ht, hin⟩, hs⟩ := hs
    replace hs := fin_gN hs; obtain ⟨rfl, hs⟩ := hs
    have ha : a < 68 := tg_lt ht (by omega)
    show W _ _ _ _ _ _ _ _ _ _ _ _ _ _ _ (F0 m pc lsm (.int i :: cnc ad fv (.ref a) :: r.map (cnc ad fv)))
    rw [cnc_ref]
    have hget : (wL cs ad h)[a]? = some (ad a, .inl (cs.2.2, ln a, .inr (.inr (.inr (.inr (fun i => some (ad (rf a i)))))))) := by rw [wL_get ha, wE_row ht]
    have hlt : i.toNatClampNeg < ln a := Nat.not_le.mp fun q => hin (Or.inr q)
    refine W.aald (v := .ref (ad (rf a i.toNatClampNeg))) (ty := .array .int) hx hb (hP a _ hget) ((hK.2 2 _ rfl).1 (ln a) (fun j => va_rf (some (ad (rf a j))))) rfl (fun q => by cases q) (by show ¬ (i < 0 ∨ (arrV _ _ _).slots.size ≤ _); rw [arrV_size]; exact hin) (by show (arrV _ _ _).slots[_]? = _; rw [arrV_read _ _ hlt]; rfl) rfl rfl hd ?_
    have hs := hs hcat H locs lsm hP hS hL
    dsimp only at hs
    rw [mapr] at hs
    exact hs
  | iastore =>
    replace hs := fin_rii hs; obtain ⟨a, i, x, r, rfl, hs⟩ := hs
    replace hs := fin_if hs; obtain ⟨⟨ht, hin⟩, hs⟩ := hs
    replace hs := fin_gN hs; obtain ⟨rfl, hs⟩ := hs
    have ha : a < 68 := tg_lt ht (by omega)
    show W _ _ _ _ _ _ _ _ _ _ _ _ _ _ _ (F0 m pc lsm (.int x :: .int i :: cnc ad fv (.ref a) :: r.map (cnc ad fv)))
    rw [cnc_ref]
    refine va_iast hx hb hK hP hD hS a 0 (by rw [wL_get ha, wE_int ht]) rfl hin hd (fun H1 locs1 hP1 _ hS1 => ?_)
    rw [wL_set (f := upd (h a) i.toNatClampNeg x) ha (by rw [wE_int ht, mPut_self])] at hP1
    exact hs hcat H1 locs1 lsm hP1 hS1 hL
  | bastore =>
    replace hs := fin_rii hs; obtain ⟨a, i, x, r, rfl, hs⟩ := hs
    replace hs := fin_if hs; obtain ⟨⟨ht, hx01, hin⟩, hs⟩ := hs
    replace hs := fin_gN hs; obtain ⟨rfl, hs⟩ := hs
    have ha : a < 68 := tg_lt ht (by omega)
    show W _ _ _ _ _ _ _ _ _ _ _ _ _ _ _ (F0 m pc lsm (.int x :: .int i :: cnc ad fv (.ref a) :: r.map (cnc ad fv)))
    rw [cnc_ref]
    refine va_zast hx hb hK hP hD hS a 1 (by rw [wL_get ha, wE_boo ht]) rfl hin hd (fun H1 locs1 hP1 _ hS1 => ?_)
    have ex : vp_nar .boolean x = x := by rcases hx01 with rfl | rfl <;> rfl
    rw [ex, wL_set (f := upd (h a) i.toNatClampNeg x) ha (by rw [wE_boo ht, mPut_self])] at hP1
    exact hs hcat H1 locs1 lsm hP1 hS1 hL
  | arraylength =>
    replace hs := fin_r1 hs; obtain ⟨a, r, rfl, hs⟩ := hs
    replace hs := fin_if hs; obtain ⟨ht, hs⟩ := hs
    replace hs := fin_gN hs; obtain ⟨rfl, hs⟩ := hs
    have hs := hs hcat H locs lsm hP hS hL
    rcases tg_arr ht with q | q | q | q
    · have ha : a < 68 := tg_lt q (by omega)
      rw [mapr]
      exact va_alen (x := (ln a, .inl (h a))) hx hb hK hP a 0 ((wL_get ha).trans (by rw [wE_int q])) rfl rfl hd hs
    · have ha : a < 68 := tg_lt q (by omega)
      rw [mapr]
      exact va_alen (x := (ln a, .inl (h a))) hx hb hK hP a 1 ((wL_get ha).trans (by rw [wE_boo q])) rfl rfl hd hs
    · have ha : a < 68 := tg_lt q (by omega)
      rw [mapr]
      exact va_alen (x := (ln a, .inr (.inr (.inr (.inr (fun i => some (ad (rf a i)))))))) hx hb hK hP a 2 ((wL_get ha).trans (by rw [wE_row q])) rfl rfl hd hs
    · obtain ⟨j, hj, rfl⟩ := tg_103 q
      rw [mapr]
      have e2 : ln (110 + j) = stL.getD j 0 := by unfold ln; rw [if_neg (by omega), show 110 + j - 110 = j by omega]
      exact va_tlen hx hb (F.2.1.1 j hj).2.2.2 hS (by rw [← e2]) hd hs
  | invokevirtual i =>
    replace hs := fin_if hs; obtain ⟨rfl, hs⟩ := hs
    replace hs := fin_cv hs; obtain ⟨i', nn, E', b, r, hm, hdr, htg, hcr, v, h', hC, hs⟩ := hs
    obtain ⟨okl, rfl⟩ := mlk_ok hm
    obtain ⟨hcls, hE', hnp, hlk, hin, hsel⟩ := okl
    have hst : st = st.take nn ++ .ref b :: r := by rw [← hdr, List.take_append_drop]
    have hlen : nn < st.length := by
      have h1 := congrArg List.length hdr
      rw [List.length_drop, List.length_cons] at h1
      omega
    have hM := IH E' _ h v h' hE' hC
    obtain ⟨pl, hcode, hini, hcl, hne, hL21⟩ := hE'
    have hrecv : ∃ cellB : Cell, H[ad b]? = some cellB ∧ cellB.vm.isStatics = false ∧ s.vm.findClass (eY E').cls = some cellB.cls := by
      rw [hcl]
      rcases hcls with ⟨h2, h6⟩ | h10
      · exact va_recv hK hP (vwCl_at h2 h6) (by rw [wL_get (tg_lt htg (by omega)), wE_obj htg h6])
      · rw [h10] at htg
        obtain ⟨j, hj, rfl⟩ := tg_10 htg
        rw [h10]
        exact vk_recv (adK := fun i => ad (100 + i)) F.2.1 hj hS
    have hstm : st.map (cnc ad fv) = (((st.take nn).reverse).map (cnc ad fv)).reverse ++ .ref (ad b) :: r.map (cnc ad fv) := by
      rw [← List.map_reverse, List.reverse_reverse]
      conv => lhs; rw [hst]
      rw [List.map_append, mapr]
    refine mm_call (va_runV (As := ((st.take nn).reverse).map (cnc ad fv)) (rest := r.map (cnc ad fv)) (b := ad b) (C := (eY E').cls) ⟨hx, hb, hml, hown, hts⟩ hM
      ⟨callB_of nn hts (goodMW hcode) rfl rfl rfl (hts _ hini.m) (hts _ hlk.m) ⟨hne.1, hne.2, hnp⟩ ⟨Nat.le_refl _, ?_⟩, hts _ hin.m, hts _ hsel.m⟩
      ⟨mPc_blind, hrecv, fun U hU hW => ⟨?_, by rw [hU]; exact hP, by rw [hU]; exact F.warm hW hS⟩⟩ rfl ?_ hL.2.1 hstm (lv_room (by rw [cats_map hfv]; exact hcr)) hd ⟨Nat.le_refl _, Nat.le_refl _⟩) (fun _ z => z) hS (fun r2 h2 H1 locs1 hq hP1 hS1 => ?_)
    · show 8 + (eL E' + 11) + 40 * d ≤ 40 * (d + 1)
      omega
    · rw [mapr]
    · rw [List.length_map, List.length_reverse, List.length_take]; omega
    · obtain ⟨rfl, rfl⟩ := hq
      have := hs hcat H1 locs1 lsm hP1 hS1 hL
      rw [mapv] at this
      exact this
  | invokestatic i =>
    replace hs := fin_if hs; obtain ⟨rfl, hs⟩ := hs
    unfold x_cs at hs
    split at hs
    · rename_i i' nn E' hm
      replace hs := fin_if hs; obtain ⟨⟨hlen, hcr⟩, v, h', hC, hs⟩ := hs
      obtain ⟨okl, rfl⟩ := mlk_ok hm
      obtain ⟨hE', hnp, hlk, hstt⟩ := okl
      have hM := IH E' _ h v h' hE' hC
      obtain ⟨pl, hcode, hini, hcl, hne, hL21⟩ := hE'
      have hstm : st.map (cnc ad fv) = (((st.take nn).reverse).map (cnc ad fv)).reverse ++ (st.drop nn).map (cnc ad fv) := by
        rw [← List.map_reverse, List.reverse_reverse, ← List.map_append, List.take_append_drop]
      refine mm_call (va_runS (As := ((st.take nn).reverse).map (cnc ad fv)) (rest := (st.drop nn).map (cnc ad fv)) ⟨hx, hb, hml, hown, hts⟩ hM
        ⟨callB_of nn hts (goodMW hcode) rfl rfl rfl (hts _ hini.m) (hts _ hlk.m) ⟨hne.1, hne.2, hnp⟩ ⟨Nat.le_refl _, ?_⟩, hts _ hstt.m⟩
        ⟨mPc_blind, fun U hU hW => ⟨rfl, by rw [hU]; exact hP, by rw [hU]; exact F.warm hW hS⟩⟩ rfl ?_ hL.2.1 hstm (lv_room (by rw [cats_map hfv]; exact hcr)) hd ⟨Nat.le_refl _, Nat.le_refl _⟩) (fun _ z => z) hS (fun r2 h2 H1 locs1 hq hP1 hS1 => ?_)
      · show 8 + (eL E' + 11) + 40 * d ≤ 40 * (d + 1)
        omega
      · rw [List.length_map, List.length_reverse, List.length_take]; omega
      · obtain ⟨rfl, rfl⟩ := hq
        have := hs hcat H1 locs1 lsm hP1 hS1 hL
        dsimp only at this
        rw [mapv] at this
        exact this
    · rename_i i' nn E' hm
      replace hs := fin_if hs; obtain ⟨⟨hlen, hcr⟩, v, h', hC, hs⟩ := hs
      obtain ⟨okl, rfl⟩ := mlk_ok hm
      obtain ⟨hE', hnp, hlk, hstt⟩ := okl
      have hM := IH E' _ h v h' hE' hC
      obtain ⟨pl, hcode, hini, hcl, hne, hL21⟩ := hE'
      have hstm : st.map (cnc ad fv) = (((st.take nn).reverse).map (cnc ad fv)).reverse ++ (st.drop nn).map (cnc ad fv) := by
        rw [← List.map_reverse, List.reverse_reverse, ← List.map_append, List.take_append_drop]
      refine mm_call (va_runSN (As := ((st.take nn).reverse).map (cnc ad fv)) (rest := (st.drop nn).map (cnc ad fv)) ⟨hx, hb, hml, hown, hts⟩ hM
        ⟨va_cnB nn hts (goodMW hcode) rfl rfl rfl (F.2.2.2.2.2 _ hlk) (hts _ hini.m) ⟨hne.1, hne.2, hnp⟩ ⟨Nat.le_refl _, ?_⟩, hts _ hstt.m, trivial⟩
        ⟨mPc_blind, fun U hU hW => ⟨rfl, by rw [hU]; exact hP, by rw [hU]; exact F.warm hW hS⟩⟩ rfl ?_ hL.2.1 hstm (lv_room (by rw [cats_map hfv]; exact hcr)) hd ⟨Nat.le_refl _, Nat.le_refl _⟩) (fun _ z => z) hS (fun r2 h2 H1 locs1 hq hP1 hS1 => ?_)
      · show 8 + (eL E' + 11) + 40 * d ≤ 40 * (d + 1)
        omega
      · rw [List.length_map, List.length_reverse, List.length_take]; omega
      · obtain ⟨rfl, rfl⟩ := hq
        have := hs hcat H1 locs1 lsm hP1 hS1 hL
        dsimp only at this
        rw [mapv] at this
        exact this
    · rename_i i' x1 x2 hm
      obtain ⟨okl, rfl⟩ := mlk_ok hm
      obtain ⟨o1, o2, o3, o4⟩ := okl
      split at hs
      · rename_i n dp a sp b r
        replace hs := fin_if hs; obtain ⟨⟨ta, tb, h1, h2, h3, h4, h5, hcr⟩, hs⟩ := hs
        have ha : a < 68 := tg_lt ta (by omega)
        have hb' : b < 68 := tg_lt tb (by omega)
        show W _ _ _ _ _ _ _ _ _ _ _ _ _ _ _ (F0 m pc lsm (.int n :: .int dp :: cnc ad fv (.ref a) :: .int sp :: cnc ad fv (.ref b) :: r.map (cnc ad fv)))
        rw [cnc_ref, cnc_ref]
        refine va_copyi hx hb (hml.trans hL.2.1.symm) hown (hts _ o1.m) (hts _ o2.m) (hts _ o3.m) (hts _ o4.m) hK hP hD hS b a 0 0 (by rw [wL_get hb', wE_int tb]) (by rw [wL_get ha, wE_int ta]) rfl rfl rfl h1 h2 h3 h4 h5 (fun _ _ => rfl) (Nat.succ_le_succ (Nat.zero_le d)) ?_ hd (fun H1 locs1 hP1 _ hS1 => ?_)
        · rw [cats_map hfv]
          show cats r + ((5 + 2) + 11) ≤ 40 * (d + 1)
          omega
        · rw [wL_set (f := va_cpy (h b) (h a) sp.toNatClampNeg dp.toNatClampNeg n.toNatClampNeg) ha (by rw [wE_int ta, mPut_self])] at hP1
          exact hs hcat H1 locs1 lsm hP1 hS1 hL
      · exact hs.elim
    · rename_i i' x1 x2 hm
      obtain ⟨okl, rfl⟩ := mlk_ok hm
      obtain ⟨o1, o2, o3, o4⟩ := okl
      replace hs := fin_i2 hs; obtain ⟨x, y, r, rfl, hs⟩ := hs
      replace hs := fin_if hs; obtain ⟨hcr, hs⟩ := hs
      exact va_mmax hx hb (hml.trans hL.2.1.symm) hown (hts _ o1.m) (hts _ o2.m) (hts _ o3.m) (hts _ o4.m) (Nat.succ_le_succ (Nat.zero_le d)) (by rw [cats_map hfv]; show cats r + 13 ≤ 40 * (d + 1); omega) (Nat.le_refl _) (Nat.le_refl _) hd (hs hcat H locs lsm hP hS hL)
    · rename_i i' x1 x2 hm
      obtain ⟨okl, rfl⟩ := mlk_ok hm
      obtain ⟨o1, o2, o3, o4⟩ := okl
      replace hs := fin_i2 hs; obtain ⟨x, y, r, rfl, hs⟩ := hs
      replace hs := fin_if hs; obtain ⟨hcr, hs⟩ := hs
      exact va_mmin hx hb (hml.trans hL.2.1.symm) hown (hts _ o1.m) (hts _ o2.m) (hts _ o3.m) (hts _ o4.m) (Nat.succ_le_succ (Nat.zero_le d)) (by rw [cats_map hfv]; show cats r + 13 ≤ 40 * (d + 1); omega) (Nat.le_refl _) (Nat.le_refl _) hd (hs hcat H locs lsm hP hS hL)
    · rename_i i' x1 x2 hm
      obtain ⟨okl, rfl⟩ := mlk_ok hm
      obtain ⟨o1, o2, o3, o4⟩ := okl
      replace hs := fin_i1 hs; obtain ⟨x, r, rfl, hs⟩ := hs
      replace hs := fin_if hs; obtain ⟨hcr, hs⟩ := hs
      exact va_mabs hx hb (hml.trans hL.2.1.symm) hown (hts _ o1.m) (hts _ o2.m) (hts _ o3.m) (hts _ o4.m) (Nat.succ_le_succ (Nat.zero_le d)) (by rw [cats_map hfv]; show cats r + 13 ≤ 40 * (d + 1); omega) (Nat.le_refl _) (Nat.le_refl _) hd (hs hcat H locs lsm hP hS hL)
    · rename_i i' x1 x2 hm
      obtain ⟨okl, rfl⟩ := mlk_ok hm
      obtain ⟨o1, o2, o3, o4⟩ := okl
      replace hs := fin_l2 hs; obtain ⟨x, y, r, rfl, hs⟩ := hs
      replace hs := fin_if hs; obtain ⟨hcr, hs⟩ := hs
      exact va_mmax_long hx hb (hml.trans hL.2.1.symm) hown (hts _ o1.m) (hts _ o2.m) (hts _ o3.m) (hts _ o4.m) (Nat.succ_le_succ (Nat.zero_le d)) (by rw [cats_map hfv]; show cats r + 15 ≤ 40 * (d + 1); omega) (Nat.le_refl _) (Nat.le_refl _) hd (hs hcat H locs lsm hP hS hL)
    · exact hs.elim
  | ireturn =>
    replace hs := fin_if hs; obtain ⟨rfl, hs⟩ := hs
    unfold x_ir at hs
    split at hs
    · rename_i v ty er
      replace hs := fin_if hs; obtain ⟨hn, hs⟩ := hs
      exact W.zret hx hb (hr.trans er) hn (fun t ht hW => ⟨⟨some (.int v), h, rfl, hs, by rw [ht]; exact hP⟩, hS.F ht⟩) hS.2.2 hd hlocks
    · exact hs.elim
  | lreturn =>
    replace hs := fin_if hs; obtain ⟨rfl, hs⟩ := hs
    unfold x_lr at hs
    split at hs
    · rename_i v er
      exact W.lret hx hb (hr.trans er) (fun t ht hW => ⟨⟨some (.long v), h, rfl, hs, by rw [ht]; exact hP⟩, hS.F ht⟩) hS.2.2 hd hlocks
    · exact hs.elim
  | areturn =>
    replace hs := fin_if hs; obtain ⟨rfl, hs⟩ := hs
    unfold x_ar at hs
    split at hs
    · rename_i v cn er
      exact W.aret hx hb (hr.trans er) (Or.inl ⟨_, rfl⟩) (Or.inr ⟨_, rfl⟩) (fun t ht hW => ⟨⟨some (.ref v), h, rfl, hs, by rw [ht]; exact hP⟩, hS.F ht⟩) hS.2.2 hd hlocks
    · exact hs.elim
  | return_ =>
    replace hs := fin_if hs; obtain ⟨rfl, hs⟩ := hs
    unfold x_vr at hs
    split at hs
    · rename_i er
      exact W.vret hx hb (hr.trans er) (fun t ht hW => ⟨⟨none, h, rfl, hs, by rw [ht]; exact hP⟩, hS.F ht⟩) hS.2.2 hd hlocks
    · exact hs.elim
  | _ => exact (show False from hs).elim
/-- what the small machine answers the machine answers -/
theorem sim {l : Launch} {D : va_G} {cs : ClassId × ClassId × ClassId} {ad : Nat → Nat} {fv : Value} (hfv : fv = .null ∨ ∃ a, fv = .ref a) (hinj : ∀ i j, i < 68 → j < 68 → ad i = ad j → i = j) : ∀ (d : Nat) (E : mE) (as : List Value) (h : mH) (r : Option Value) (h' : mH), okE E → Cal d E as h r h' → mMet l D cs ad fv d E as h r h'
  | 0, _, _, _, _, _, _, hc => hc.elim
  | d + 1, E, as, h, r, h', hE, hc => by
    obtain ⟨ho, hw⟩ := hc
    unfold eOk at ho
    rw [Bool.and_eq_true, decide_eq_true_eq] at ho
    refine Met.ofW (cc := eC E) (maxL := eL E) (ret := eR E) hE.1 rfl ?_
    intro p e s m args below meth c s₁ B hml hv
    obtain ⟨rfl, hP, F⟩ := hv
    have hts := atoms_spec (ws := .code (eY E) (eC E) (eL E) (eR E) :: mW) B.pre
    have hown : s.vm.findClass (ownS E.1) = some m.cls := by rw [← hE.2.2.2.1]; exact findClass_of_methodNamed B.named
    have hs := hw (wPd p l e d s m (List.map (cnc ad fv) as).toArray below meth c D cs ad fv E (fun r' h'' => r' = r ∧ h'' = h')) (fun pc ls st h hs => sim_step hfv hinj (sim hfv hinj d) B.exec B.bytes hml B.returns hown (fun w hw => hts w (List.mem_cons_of_mem _ hw)) B.notSynchronized F hs)
    rw [lg_entry_eq]
    refine hs (fun e1 v hv => ?_) s.heap [] _ hP va_S.rf (lvR.entry hfv ho.1)
    rw [e1] at ho
    unfold ent at hv
    rcases List.mem_append.mp hv with q | q
    · have h2 := ho.2
      simp only [Bool.false_or] at h2
      have h3 := List.all_eq_true.mp h2
      have key : ∀ (as : List Value), (∀ x ∈ as, (x.category == 1) = true) → ∀ v ∈ entL as, v.category = 1 := by
        intro as
        induction as with
        | nil => intro _ v hv; cases hv
        | cons a as ih =>
          intro ha v hv
          have h1 : a.category = 1 := by simpa using ha a List.mem_cons_self
          rw [entL, if_neg (by omega)] at hv
          rcases List.mem_cons.mp hv with z | z
          · rw [z]; exact h1
          · exact ih (fun x hx => ha x (List.mem_cons_of_mem _ hx)) v z
      exact key as h3 v q
    · rw [List.eq_of_mem_replicate q]; rfl
