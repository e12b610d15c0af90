/-! what each method leaves is a state again; class and reference answer alike -/
section GDS
variable {S : St}
theorem gdS.mk1 (G : gdS S) {σ : Nat → Int32} {K M : Nat} (g : gdN σ K M) : gdS (σ, S.2) := ⟨⟨K, M, g⟩, G.2⟩
theorem gp_letter (c : Int32) (G : gdS S) : gdS (f_letter c S).2 := by
  unfold f_letter
  split
  · exact rfz_gd G _
  split
  · exact rfz_gd G _
  · rename_i c0 c1
    have c1 : ¬ 255 < c ∧ S.2.2.1.1 < 96 := by
      refine ⟨fun z => c1 (Or.inl z), ?_⟩
      exact Classical.not_not.mp (fun z => c1 (Or.inr z))
    obtain ⟨n, lc, en, L⟩ := G.2.2.1
    have n96 := L.1
    have hn : n < 96 := by
      have := c1.2
      rw [en, show (96 : Int32) = nI 96 from rfl, nlt (by omega) (by omega)] at this
      exact this
    obtain ⟨j, _, j2, rfl⟩ : ∃ j, 0 ≤ j ∧ j ≤ 255 ∧ c = nI j := oub_in (a := 0) (b := 255) (by omega) (by omega) (by unfold oub; rw [if_neg (show ¬ c < nI 0 from c0), if_neg (show ¬ nI 255 < c from c1.1)])
    refine ⟨G.1, G.2.1, ⟨n + 1, fun i => if i = n then j else lc i, ?_, by omega, fun i hi => ?_⟩, G.2.2.2⟩
    · show S.2.2.1.1 + 1 = nI (n + 1)
      rw [en, nI_1]
    · show (if i = n then j else lc i) < 256 ∧ upd S.2.2.1.2 (xN S.2.2.1.1) (nI j) i = nI (if i = n then j else lc i)
      rw [en, xN_n (by omega), upd_at]
      by_cases c : i = n
      · rw [if_pos c, if_pos c]; exact ⟨by omega, rfl⟩
      · rw [if_neg c, if_neg c]; exact L.2 i (by omega)
theorem gp_lock (G : gdS S) : gdS (f_lock S).2 := by
  obtain ⟨n, lc, en, L⟩ := G.2.2.1
  have n96 := L.1
  obtain ⟨K, M, g⟩ := G.1
  have L0 : ∃ n lc, (0 : Int32) = nI n ∧ gdL S.2.2.1.2 n lc := ⟨0, lc, rfl, by omega, fun i hi => by omega⟩
  unfold f_lock
  rw [en, xN_n (by omega)]
  cases em : mis (lcN S.2.2.1.2) n with
  | some p => exact ⟨G.1, G.2.1, L0, G.2.2.2⟩
  | none =>
    refine ⟨?_, G.2.1, L0, G.2.2.2⟩
    cases eh : (hap (lcN S.2.2.1.2) n (n + 1) 0 0 S.1).2 with
    | none => exact ⟨K, M, g⟩
    | some τ =>
      obtain ⟨K', M', g'⟩ := hap_gd g (mis_n em) eh
      exact ⟨K', M', g'⟩
theorem o99 {v : Int32} (h : oub v 0 99 = 0) : is99 v := by
  obtain ⟨n, _, h2, e⟩ := oub_in (a := 0) (b := 99) (by omega) (by omega) h
  exact ⟨n, h2, e⟩
theorem gp_sets (x v : Int32) (G : gdS S) : gdS (f_sets x v S).2 := by
  obtain ⟨K, M, g⟩ := G.1
  unfold f_sets
  split
  · rename_i c
    obtain ⟨t, ht, rfl⟩ := ik5t c
    split
    · rename_i o
      exact G.mk1 (gd_h g (by rw [xN_n (by omega)]; exact Or.inl (by omega)) (o99 o))
    · exact rfz_gd G _
  · exact rfz_gd G _
theorem gp_slack (v : Int32) (G : gdS S) : gdS (f_slack v S).2 := by
  obtain ⟨K, M, g⟩ := G.1
  unfold f_slack
  split
  · rename_i o
    obtain ⟨n, _, h2, e⟩ := oub_in (a := 0) (b := 9) (by omega) (by omega) o
    exact G.mk1 (gd_o g (Or.inr (Or.inl ⟨rfl, n, h2, e⟩)))
  · exact rfz_gd G _
theorem gp_files (x t v : Int32) (G : gdS S) : gdS (f_files x t v S).2 := by
  obtain ⟨K, M, g⟩ := G.1
  have k10 := g.k10
  unfold f_files
  rw [g.s0]
  split
  · rename_i c
    obtain ⟨k, hk, rfl⟩ := ikt (by omega) c
    split
    · rename_i c2
      obtain ⟨u, hu, rfl⟩ := ik5t c2
      split
      · rename_i o
        exact G.mk1 (gd_h g (by rw [xN_n (by omega), xN_n (by omega)]; exact Or.inr (by omega)) (o99 o))
      · exact rfz_gd G _
    · exact rfz_gd G _
  · exact rfz_gd G _
theorem gp_turn (x q v : Int32) (G : gdS S) : gdS (f_turn x q v S).2 := by
  obtain ⟨K, M, g⟩ := G.1
  have m5 := g.m5
  unfold f_turn
  rw [g.s1]
  split
  · rename_i c
    obtain ⟨k, hk, rfl⟩ := ikt (by omega) c
    split
    · rename_i c2
      obtain ⟨u, hu, rfl⟩ := ik6t c2
      split
      · rename_i o
        obtain ⟨n, _, h2, e⟩ := oub_in (a := 0) (b := 9) (by omega) (by omega) o
        rw [xN_n (by omega)]
        exact G.mk1 (gd_o (gd_o g (Or.inr (Or.inr (Or.inr (Or.inl ⟨by omega, by omega, by omega, u, hu, rfl⟩))))) (Or.inr (Or.inr (Or.inr (Or.inr ⟨by omega, by omega, by omega, n, h2, e⟩)))))
      · exact rfz_gd G _
    · exact rfz_gd G _
  · exact rfz_gd G _
theorem gp_cut (x y : Int32) (G : gdS S) : gdS (f_cut x y S).2 := by
  obtain ⟨K, M, g⟩ := G.1
  have k10 := g.k10
  unfold f_cut
  rw [g.s0, gdkN g]
  split
  · rename_i c
    obtain ⟨k, hk, rfl⟩ := ikt (by omega) c
    split
    · split
      · exact rfz_gd G _
      · split
        · rename_i c4
          rw [show (10 : Int32) = nI 10 from rfl, nlt (by omega) (by omega)] at c4
          rw [xN_n (by omega)]
          exact G.mk1 (cutS_gd g c4 hk)
        · exact rfz_gd G _
    · exact rfz_gd G _
  · exact rfz_gd G _
theorem gp_uses (x n : Int32) (G : gdS S) : gdS (f_uses x n S).2 := by
  obtain ⟨K, M, g⟩ := G.1
  have k10 := g.k10
  unfold f_uses
  rw [g.s0]
  split
  · rename_i c
    obtain ⟨k, hk, rfl⟩ := ikt (by omega) c
    split
    · exact rfz_gd G _
    · rename_i n1
      split
      · exact rfz_gd G _
      · rename_i n9
        split
        · exact rfz_gd G _
        · rename_i u9
          split
          · exact rfz_gd G _
          · obtain ⟨nn, n2, n3, rfl⟩ : ∃ nn, 1 ≤ nn ∧ nn ≤ 99 ∧ n = nI nn := oub_in (a := 1) (b := 99) (by omega) (by omega) (by unfold oub; rw [if_neg (show ¬ n < nI 1 from n1), if_neg (show ¬ nI 99 < n from n9)])
            rw [xN_n (by omega)]
            exact G.mk1 (usd_gd g (by omega) (by omega) u9)
  · exact rfz_gd G _
theorem gp_snaps (x : Int32) (G : gdS S) : gdS (f_snaps x S).2 := by
  obtain ⟨K, M, g⟩ := G.1
  have k10 := g.k10
  unfold f_snaps
  rw [g.s0]
  split
  · rename_i c
    obtain ⟨k, hk, rfl⟩ := ikt (by omega) c
    split
    · exact rfz_gd G _
    · rw [xN_n (by omega)]
      exact G.mk1 (gd_o g (Or.inr (Or.inr (Or.inl ⟨by omega, by omega, by omega, Or.inr rfl⟩))))
  · exact rfz_gd G _
theorem gp_row (v : Int32) (G : gdS S) : gdS (f_row v S).2 := by
  obtain ⟨r, r12, er⟩ := G.2.2.2
  unfold f_row
  split
  · exact rfz_gd G _
  split
  · exact rfz_gd G _
  split
  · exact rfz_gd G _
  · rename_i c
    have c : S.2.2.2.1.1 < 12 := Classical.not_not.mp c
    rw [er, show (12 : Int32) = nI 12 from rfl, nlt (by omega) (by omega)] at c
    refine ⟨G.1, G.2.1, G.2.2.1, r + 1, by omega, ?_⟩
    show S.2.2.2.1.1 + 1 = nI (r + 1)
    rw [er, nI_1]
theorem gp_judge (x : Int32) (G : gdS S) : gdS (f_judge x S).2 := by
  unfold f_judge
  split
  · exact ⟨G.1, G.2.1, G.2.2.1, 0, by omega, rfl⟩
  · exact rfz_gd G _
theorem gp_clear (G : gdS S) : gdS (f_clear S).2 := ⟨G.1, G.2.1, G.2.2.1, 0, by omega, rfl⟩
theorem gp_image (G : gdS S) : gdS (f_image S).2 := ⟨G.1, Or.inr ⟨rfl, G.1⟩, G.2.2⟩
theorem gp_on (G : gdS S) : gdS (f_on S).2 := by
  unfold f_on
  split
  · exact rfz_gd G _
  · rename_i c
    rcases G.2.1 with z | ⟨z, g⟩
    · exact absurd z c
    · exact ⟨g, G.2⟩
theorem gp_pin (x : Int32) (G : gdS S) : gdS (f_pin x S).2 := by unfold f_pin; repeat' split
                                                                 all_goals first | exact G | exact rfz_gd G _
theorem gp_key (x w : Int32) (G : gdS S) : gdS (f_key x w S).2 := by unfold f_key; repeat' split
                                                                     all_goals first | exact G | exact rfz_gd G _
theorem gp_machine (x w : Int32) (G : gdS S) : gdS (f_machine x w S).2 := by unfold f_machine; repeat' split
                                                                             all_goals first | exact G | exact rfz_gd G _
theorem gp_opening (G : gdS S) : gdS (f_opening S).2 := G
theorem gp_family (x w : Int32) (G : gdS S) : gdS (f_family x w S).2 := by unfold f_family; repeat' split
                                                                           all_goals first | exact G | exact rfz_gd G _
theorem gp_common (x w : Int32) (G : gdS S) : gdS (f_common x w S).2 := by unfold f_common; repeat' split
                                                                           all_goals first | exact G | exact rfz_gd G _
theorem gp_nearest (G : gdS S) : gdS (f_nearest S).2 := G
theorem gp_next (w : Int32) (G : gdS S) : gdS (f_next w S).2 := by unfold f_next; repeat' split
                                                                   all_goals first | exact G | exact rfz_gd G _
theorem gp_inRow (x y w : Int32) (G : gdS S) : gdS (f_inRow x y w S).2 := by unfold f_inRow; repeat' split
                                                                             all_goals first | exact G | exact rfz_gd G _
theorem gp_lasts (x : Int32) (G : gdS S) : gdS (f_lasts x S).2 := by unfold f_lasts; repeat' split
                                                                     all_goals first | exact G | exact rfz_gd G _
theorem gp_fit (x : Int32) (G : gdS S) : gdS (f_fit x S).2 := by unfold f_fit; repeat' split
                                                                 all_goals first | exact G | exact rfz_gd G _
theorem gp_anew (x : Int32) (G : gdS S) : gdS (f_anew x S).2 := by unfold f_anew; repeat' split
                                                                   all_goals first | exact G | exact rfz_gd G _
theorem gp_first (x y : Int32) (G : gdS S) : gdS (f_first x y S).2 := by unfold f_first; repeat' split
                                                                         all_goals first | exact G | exact rfz_gd G _
theorem gp_unlike (x y : Int32) (G : gdS S) : gdS (f_unlike x y S).2 := by unfold f_unlike; repeat' split
                                                                           all_goals first | exact G | exact rfz_gd G _
theorem gp_mend (x : Int32) (G : gdS S) : gdS (f_mend x S).2 := by unfold f_mend; repeat' split
                                                                   all_goals first | exact G | exact rfz_gd G _
theorem gp_line (x : Int32) (G : gdS S) : gdS (f_line x S).2 := by unfold f_line; repeat' split
                                                                   all_goals first | exact G | exact rfz_gd G _
theorem gp_bestLine (G : gdS S) : gdS (f_bestLine S).2 := G
theorem gp_ask (x : Int32) (G : gdS S) : gdS (f_ask x S).2 := by unfold f_ask; repeat' split
                                                                 all_goals first | exact G | exact rfz_gd G _
theorem gp_spare (G : gdS S) : gdS (f_spare S).2 := G
theorem gp_slip (x y n t p : Int32) (G : gdS S) : gdS (f_slip x y n t p S).2 := by unfold f_slip; repeat' split
                                                                                   all_goals first | exact G | exact rfz_gd G _
theorem gp_two (x y : Int32) (G : gdS S) : gdS (f_two x y S).2 := by unfold f_two; repeat' split
                                                                     all_goals first | exact G | exact rfz_gd G _
theorem gp_which (x y w : Int32) (G : gdS S) : gdS (f_which x y w S).2 := by unfold f_which; repeat' split
                                                                             all_goals first | exact G | exact rfz_gd G _
theorem gp_lots (x y w : Int32) (G : gdS S) : gdS (f_lots x y w S).2 := by unfold f_lots; repeat' split
                                                                           all_goals first | exact G | exact rfz_gd G _
theorem gp_count (w : Int32) (G : gdS S) : gdS (f_count w S).2 := by unfold f_count; repeat' split
                                                                     all_goals first | exact G | exact rfz_gd G _
end GDS
theorem mS_frC {h h' : mH} (f : frC h h') : mS h' = mS h := by
  unfold mS mv
  rw [f 59 (by omega), f 60 (by omega), f 61 (by omega), f 63 (by omega), f 64 (by omega), f 65 (by omega)]
theorem cS_frR {h h' : mH} (f : frR h h') : cS h' = cS h := by
  unfold cS
  rw [f 0 (by omega), f 55 (by omega), f 56 (by omega), f 57 (by omega), f 58 (by omega), cv_congr (s := 1) (fun c h1 h2 => f c (by omega)), cv_congr (s := 35) (fun c h1 h2 => f c (by omega))]
/-- both hold the same -/
def Inv (h : mH) : Prop := cS h = mS h ∧ gdS (cS h)
def Pr (Ec Er : mE) (as : List Value) : Prop := ∀ h, Inv h → ∃ v h1 h2, Cal 11 Ec (.ref 0 :: as) h (some v) h1 ∧ Cal 11 Er (.ref 59 :: as) h1 (some v) h2 ∧ Inv h2
theorem pair {Ec Er : mE} {as : List Value} {f : St → Value × St} (hc : KC Ec as f) (hr : KR Er as f) (hg : ∀ S, gdS S → gdS (f S).2) : Pr Ec Er as := by
  intro h I
  obtain ⟨h1, ⟨a1, a2⟩, a3⟩ := hc h I.2
  have e1 : mS h1 = cS h := by rw [mS_frC a2]; exact I.1.symm
  obtain ⟨h2, ⟨b1, b2⟩, b3⟩ := hr h1 (by rw [e1]; exact I.2)
  rw [e1] at b1 b3
  refine ⟨_, h1, h2, a3, b3, ?_, ?_⟩
  · rw [cS_frR b2, a1, b1]
  · rw [cS_frR b2, a1]; exact hg _ I.2
theorem pr_letter (c : Int32) : Pr eX5_letter eX6_letter [.int c] := pair (c_letter c) (r_letter c) (fun S G => gp_letter c G)
theorem pr_lock : Pr eX5_lock eX6_lock [] := pair (c_lock) (r_lock) (fun S G => gp_lock G)
theorem pr_pin (x : Int32) : Pr eX5_pin eX6_pin [.int x] := pair (c_pin x) (r_pin x) (fun S G => gp_pin x G)
theorem pr_key (x w : Int32) : Pr eX5_key eX6_key [.int x, .int w] := pair (c_key x w) (r_key x w) (fun S G => gp_key x w G)
theorem pr_machine (x w : Int32) : Pr eX5_machine eX6_machine [.int x, .int w] := pair (c_machine x w) (r_machine x w) (fun S G => gp_machine x w G)
theorem pr_sets (x v : Int32) : Pr eX5_sets eX6_sets [.int x, .int v] := pair (c_sets x v) (r_sets x v) (fun S G => gp_sets x v G)
theorem pr_slack (v : Int32) : Pr eX5_slack eX6_slack [.int v] := pair (c_slack v) (r_slack v) (fun S G => gp_slack v G)
theorem pr_files (x t v : Int32) : Pr eX5_files eX6_files [.int x, .int t, .int v] := pair (c_files x t v) (r_files x t v) (fun S G => gp_files x t v G)
theorem pr_turn (x q v : Int32) : Pr eX5_turn eX6_turn [.int x, .int q, .int v] := pair (c_turn x q v) (r_turn x q v) (fun S G => gp_turn x q v G)
theorem pr_cut (x y : Int32) : Pr eX5_cut eX6_cut [.int x, .int y] := pair (c_cut x y) (r_cut x y) (fun S G => gp_cut x y G)
theorem pr_uses (x n : Int32) : Pr eX5_uses eX6_uses [.int x, .int n] := pair (c_uses x n) (r_uses x n) (fun S G => gp_uses x n G)
theorem pr_snaps (x : Int32) : Pr eX5_snaps eX6_snaps [.int x] := pair (c_snaps x) (r_snaps x) (fun S G => gp_snaps x G)
theorem pr_opening : Pr eX5_opening eX6_opening [] := pair (c_opening) (r_opening) (fun S G => gp_opening G)
theorem pr_family (x w : Int32) : Pr eX5_family eX6_family [.int x, .int w] := pair (c_family x w) (r_family x w) (fun S G => gp_family x w G)
theorem pr_common (x y : Int32) : Pr eX5_common eX6_common [.int x, .int y] := pair (c_common x y) (r_common x y) (fun S G => gp_common x y G)
theorem pr_nearest : Pr eX5_nearest eX6_nearest [] := pair (c_nearest) (r_nearest) (fun S G => gp_nearest G)
theorem pr_next (w : Int32) : Pr eX5_next eX6_next [.int w] := pair (c_next w) (r_next w) (fun S G => gp_next w G)
theorem pr_inRow (x y w : Int32) : Pr eX5_inRow eX6_inRow [.int x, .int y, .int w] := pair (c_inRow x y w) (r_inRow x y w) (fun S G => gp_inRow x y w G)
theorem pr_lasts (x : Int32) : Pr eX5_lasts eX6_lasts [.int x] := pair (c_lasts x) (r_lasts x) (fun S G => gp_lasts x G)
theorem pr_fit (x : Int32) : Pr eX5_fit eX6_fit [.int x] := pair (c_fit x) (r_fit x) (fun S G => gp_fit x G)
theorem pr_anew (t : Int32) : Pr eX5_anew eX6_anew [.int t] := pair (c_anew t) (r_anew t) (fun S G => gp_anew t G)
theorem pr_first (n t : Int32) : Pr eX5_first eX6_first [.int n, .int t] := pair (c_first n t) (r_first n t) (fun S G => gp_first n t G)
theorem pr_unlike (n x : Int32) : Pr eX5_unlike eX6_unlike [.int n, .int x] := pair (c_unlike n x) (r_unlike n x) (fun S G => gp_unlike n x G)
theorem pr_mend (x : Int32) : Pr eX5_mend eX6_mend [.int x] := pair (c_mend x) (r_mend x) (fun S G => gp_mend x G)
theorem pr_line (x : Int32) : Pr eX5_line eX6_line [.int x] := pair (c_line x) (r_line x) (fun S G => gp_line x G)
theorem pr_bestLine : Pr eX5_bestLine eX6_bestLine [] := pair (c_bestLine) (r_bestLine) (fun S G => gp_bestLine G)
theorem pr_ask (x : Int32) : Pr eX5_ask eX6_ask [.int x] := pair (c_ask x) (r_ask x) (fun S G => gp_ask x G)
theorem pr_spare : Pr eX5_spare eX6_spare [] := pair (c_spare) (r_spare) (fun S G => gp_spare G)
theorem pr_slip (x y n t p : Int32) : Pr eX5_slip eX6_slip [.int x, .int y, .int n, .int t, .int p] := pair (c_slip x y n t p) (r_slip x y n t p) (fun S G => gp_slip x y n t p G)
theorem pr_two (x t : Int32) : Pr eX5_two eX6_two [.int x, .int t] := pair (c_two x t) (r_two x t) (fun S G => gp_two x t G)
theorem pr_which (x v w : Int32) : Pr eX5_which eX6_which [.int x, .int v, .int w] := pair (c_which x v w) (r_which x v w) (fun S G => gp_which x v w G)
theorem pr_row (v : Int32) : Pr eX5_row eX6_row [.int v] := pair (c_row v) (r_row v) (fun S G => gp_row v G)
theorem pr_judge (x : Int32) : Pr eX5_judge eX6_judge [.int x] := pair (c_judge x) (r_judge x) (fun S G => gp_judge x G)
theorem pr_clear : Pr eX5_clear eX6_clear [] := pair (c_clear) (r_clear) (fun S G => gp_clear G)
theorem pr_lots (n z w : Int32) : Pr eX5_lots eX6_lots [.int n, .int z, .int w] := pair (c_lots n z w) (r_lots n z w) (fun S G => gp_lots n z w G)
theorem pr_image : Pr eX5_image eX6_image [] := pair (c_image) (r_image) (fun S G => gp_image G)
theorem pr_on : Pr eX5_on eX6_on [] := pair (c_on) (r_on) (fun S G => gp_on G)
theorem pr_count (w : Int32) : Pr eX5_count eX6_count [.int w] := pair (c_count w) (r_count w) (fun S G => gp_count w G)
