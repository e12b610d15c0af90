def PrF (g : Value → Prop) (Ec Er : mE) (as : List Value) : Prop := ∀ h, Inv h → ∃ v h1 h2, g v ∧ Cal 11 Ec (.ref 0 :: as) h (some v) h1 ∧ Cal 11 Er (.ref 59 :: as) h1 (some v) h2 ∧ Inv h2
def isI (v : Value) : Prop := ∃ x : Int32, v = .int x
def isJ (v : Value) : Prop := ∃ x : Int64, v = .long x
theorem pairF {g : Value → Prop} {Ec Er : mE} {as : List Value} {f : St → Value × St} (hc : KC Ec as f) (hr : KR Er as f) (hg : ∀ S, gdS S → gdS (f S).2) (hf : ∀ S, g (f S).1) : PrF g Ec Er as := by
  intro h I
  obtain ⟨h1, ⟨a1, a2⟩, a3⟩ := hc h I.2
  have e1 : mS h1 = cS h := by rw [mS_frC a2]; exact I.1.symm
  obtain ⟨h2, ⟨b1, b2⟩, b3⟩ := hr h1 (by rw [e1]; exact I.2)
  rw [e1] at b1 b3
  refine ⟨_, h1, h2, hf _, a3, b3, ?_, ?_⟩
  · rw [cS_frR b2, a1, b1]
  · rw [cS_frR b2, a1]; exact hg _ I.2
theorem fi_letter (c : Int32) (S : St) : isI (f_letter c S).1 := by
  unfold f_letter bno
  repeat' split
  all_goals exact ⟨_, rfl⟩
theorem pf_letter (c : Int32) : PrF isI eX5_letter eX6_letter [.int c] := pairF (c_letter c) (r_letter c) (fun S G => gp_letter c G) (fi_letter c)
theorem fi_lock (S : St) : isI (f_lock S).1 := by
  unfold f_lock
  repeat' split
  all_goals exact ⟨_, rfl⟩
theorem pf_lock : PrF isI eX5_lock eX6_lock [] := pairF (c_lock) (r_lock) (fun S G => gp_lock G) (fi_lock)
theorem fi_pin (x : Int32) (S : St) : isI (f_pin x S).1 := by
  unfold f_pin bno
  repeat' split
  all_goals exact ⟨_, rfl⟩
theorem pf_pin (x : Int32) : PrF isI eX5_pin eX6_pin [.int x] := pairF (c_pin x) (r_pin x) (fun S G => gp_pin x G) (fi_pin x)
theorem fi_key (x w : Int32) (S : St) : isI (f_key x w S).1 := by
  unfold f_key bno
  repeat' split
  all_goals exact ⟨_, rfl⟩
theorem pf_key (x w : Int32) : PrF isI eX5_key eX6_key [.int x, .int w] := pairF (c_key x w) (r_key x w) (fun S G => gp_key x w G) (fi_key x w)
theorem fi_machine (x w : Int32) (S : St) : isI (f_machine x w S).1 := by
  unfold f_machine bno
  repeat' split
  all_goals exact ⟨_, rfl⟩
theorem pf_machine (x w : Int32) : PrF isI eX5_machine eX6_machine [.int x, .int w] := pairF (c_machine x w) (r_machine x w) (fun S G => gp_machine x w G) (fi_machine x w)
theorem fi_sets (x v : Int32) (S : St) : isI (f_sets x v S).1 := by
  unfold f_sets bno
  repeat' split
  all_goals exact ⟨_, rfl⟩
theorem pf_sets (x v : Int32) : PrF isI eX5_sets eX6_sets [.int x, .int v] := pairF (c_sets x v) (r_sets x v) (fun S G => gp_sets x v G) (fi_sets x v)
theorem fi_slack (v : Int32) (S : St) : isI (f_slack v S).1 := by
  unfold f_slack bno
  repeat' split
  all_goals exact ⟨_, rfl⟩
theorem pf_slack (v : Int32) : PrF isI eX5_slack eX6_slack [.int v] := pairF (c_slack v) (r_slack v) (fun S G => gp_slack v G) (fi_slack v)
theorem fi_files (x t v : Int32) (S : St) : isI (f_files x t v S).1 := by
  unfold f_files bno
  repeat' split
  all_goals exact ⟨_, rfl⟩
theorem pf_files (x t v : Int32) : PrF isI eX5_files eX6_files [.int x, .int t, .int v] := pairF (c_files x t v) (r_files x t v) (fun S G => gp_files x t v G) (fi_files x t v)
theorem fi_turn (x q v : Int32) (S : St) : isI (f_turn x q v S).1 := by
  unfold f_turn bno
  repeat' split
  all_goals exact ⟨_, rfl⟩
theorem pf_turn (x q v : Int32) : PrF isI eX5_turn eX6_turn [.int x, .int q, .int v] := pairF (c_turn x q v) (r_turn x q v) (fun S G => gp_turn x q v G) (fi_turn x q v)
theorem fi_cut (x y : Int32) (S : St) : isI (f_cut x y S).1 := by
  unfold f_cut bno
  repeat' split
  all_goals exact ⟨_, rfl⟩
theorem pf_cut (x y : Int32) : PrF isI eX5_cut eX6_cut [.int x, .int y] := pairF (c_cut x y) (r_cut x y) (fun S G => gp_cut x y G) (fi_cut x y)
theorem fi_uses (x n : Int32) (S : St) : isI (f_uses x n S).1 := by
  unfold f_uses bno
  repeat' split
  all_goals exact ⟨_, rfl⟩
theorem pf_uses (x n : Int32) : PrF isI eX5_uses eX6_uses [.int x, .int n] := pairF (c_uses x n) (r_uses x n) (fun S G => gp_uses x n G) (fi_uses x n)
theorem fi_snaps (x : Int32) (S : St) : isI (f_snaps x S).1 := by
  unfold f_snaps bno
  repeat' split
  all_goals exact ⟨_, rfl⟩
theorem pf_snaps (x : Int32) : PrF isI eX5_snaps eX6_snaps [.int x] := pairF (c_snaps x) (r_snaps x) (fun S G => gp_snaps x G) (fi_snaps x)
theorem fi_opening (S : St) : isI (f_opening S).1 := by
  unfold f_opening
  repeat' split
  all_goals exact ⟨_, rfl⟩
theorem pf_opening : PrF isI eX5_opening eX6_opening [] := pairF (c_opening) (r_opening) (fun S G => gp_opening G) (fi_opening)
theorem fi_family (x w : Int32) (S : St) : isI (f_family x w S).1 := by
  unfold f_family bno
  repeat' split
  all_goals exact ⟨_, rfl⟩
theorem pf_family (x w : Int32) : PrF isI eX5_family eX6_family [.int x, .int w] := pairF (c_family x w) (r_family x w) (fun S G => gp_family x w G) (fi_family x w)
theorem fi_common (x y : Int32) (S : St) : isI (f_common x y S).1 := by
  unfold f_common bno
  repeat' split
  all_goals exact ⟨_, rfl⟩
theorem pf_common (x y : Int32) : PrF isI eX5_common eX6_common [.int x, .int y] := pairF (c_common x y) (r_common x y) (fun S G => gp_common x y G) (fi_common x y)
theorem fi_nearest (S : St) : isI (f_nearest S).1 := by
  unfold f_nearest
  repeat' split
  all_goals exact ⟨_, rfl⟩
theorem pf_nearest : PrF isI eX5_nearest eX6_nearest [] := pairF (c_nearest) (r_nearest) (fun S G => gp_nearest G) (fi_nearest)
theorem fi_next (w : Int32) (S : St) : isI (f_next w S).1 := by
  unfold f_next bno
  repeat' split
  all_goals exact ⟨_, rfl⟩
theorem pf_next (w : Int32) : PrF isI eX5_next eX6_next [.int w] := pairF (c_next w) (r_next w) (fun S G => gp_next w G) (fi_next w)
theorem fi_inRow (x y w : Int32) (S : St) : isI (f_inRow x y w S).1 := by
  unfold f_inRow bno
  repeat' split
  all_goals exact ⟨_, rfl⟩
theorem pf_inRow (x y w : Int32) : PrF isI eX5_inRow eX6_inRow [.int x, .int y, .int w] := pairF (c_inRow x y w) (r_inRow x y w) (fun S G => gp_inRow x y w G) (fi_inRow x y w)
theorem fi_lasts (x : Int32) (S : St) : isI (f_lasts x S).1 := by
  unfold f_lasts bno
  repeat' split
  all_goals exact ⟨_, rfl⟩
theorem pf_lasts (x : Int32) : PrF isI eX5_lasts eX6_lasts [.int x] := pairF (c_lasts x) (r_lasts x) (fun S G => gp_lasts x G) (fi_lasts x)
theorem fi_fit (x : Int32) (S : St) : isI (f_fit x S).1 := by
  unfold f_fit bno
  repeat' split
  all_goals exact ⟨_, rfl⟩
theorem pf_fit (x : Int32) : PrF isI eX5_fit eX6_fit [.int x] := pairF (c_fit x) (r_fit x) (fun S G => gp_fit x G) (fi_fit x)
theorem fi_anew (t : Int32) (S : St) : isI (f_anew t S).1 := by
  unfold f_anew bno
  repeat' split
  all_goals exact ⟨_, rfl⟩
theorem pf_anew (t : Int32) : PrF isI eX5_anew eX6_anew [.int t] := pairF (c_anew t) (r_anew t) (fun S G => gp_anew t G) (fi_anew t)
theorem fi_first (n t : Int32) (S : St) : isI (f_first n t S).1 := by
  unfold f_first bno
  repeat' split
  all_goals exact ⟨_, rfl⟩
theorem pf_first (n t : Int32) : PrF isI eX5_first eX6_first [.int n, .int t] := pairF (c_first n t) (r_first n t) (fun S G => gp_first n t G) (fi_first n t)
theorem fi_unlike (n x : Int32) (S : St) : isI (f_unlike n x S).1 := by
  unfold f_unlike bno
  repeat' split
  all_goals exact ⟨_, rfl⟩
theorem pf_unlike (n x : Int32) : PrF isI eX5_unlike eX6_unlike [.int n, .int x] := pairF (c_unlike n x) (r_unlike n x) (fun S G => gp_unlike n x G) (fi_unlike n x)
theorem fi_mend (x : Int32) (S : St) : isI (f_mend x S).1 := by
  unfold f_mend
  repeat' split
  all_goals exact ⟨_, rfl⟩
theorem pf_mend (x : Int32) : PrF isI eX5_mend eX6_mend [.int x] := pairF (c_mend x) (r_mend x) (fun S G => gp_mend x G) (fi_mend x)
theorem fi_line (x : Int32) (S : St) : isI (f_line x S).1 := by
  unfold f_line bno
  repeat' split
  all_goals exact ⟨_, rfl⟩
theorem pf_line (x : Int32) : PrF isI eX5_line eX6_line [.int x] := pairF (c_line x) (r_line x) (fun S G => gp_line x G) (fi_line x)
theorem fi_bestLine (S : St) : isI (f_bestLine S).1 := by
  unfold f_bestLine
  repeat' split
  all_goals exact ⟨_, rfl⟩
theorem pf_bestLine : PrF isI eX5_bestLine eX6_bestLine [] := pairF (c_bestLine) (r_bestLine) (fun S G => gp_bestLine G) (fi_bestLine)
theorem fi_ask (x : Int32) (S : St) : isI (f_ask x S).1 := by
  unfold f_ask bno
  repeat' split
  all_goals exact ⟨_, rfl⟩
theorem pf_ask (x : Int32) : PrF isI eX5_ask eX6_ask [.int x] := pairF (c_ask x) (r_ask x) (fun S G => gp_ask x G) (fi_ask x)
theorem fi_spare (S : St) : isI (f_spare S).1 := by
  unfold f_spare
  repeat' split
  all_goals exact ⟨_, rfl⟩
theorem pf_spare : PrF isI eX5_spare eX6_spare [] := pairF (c_spare) (r_spare) (fun S G => gp_spare G) (fi_spare)
theorem fi_slip (x y n t p : Int32) (S : St) : isJ (f_slip x y n t p S).1 := by
  unfold f_slip bnl
  repeat' split
  all_goals exact ⟨_, rfl⟩
theorem pf_slip (x y n t p : Int32) : PrF isJ eX5_slip eX6_slip [.int x, .int y, .int n, .int t, .int p] := pairF (c_slip x y n t p) (r_slip x y n t p) (fun S G => gp_slip x y n t p G) (fi_slip x y n t p)
theorem fi_two (x t : Int32) (S : St) : isI (f_two x t S).1 := by
  unfold f_two bno
  repeat' split
  all_goals exact ⟨_, rfl⟩
theorem pf_two (x t : Int32) : PrF isI eX5_two eX6_two [.int x, .int t] := pairF (c_two x t) (r_two x t) (fun S G => gp_two x t G) (fi_two x t)
theorem fi_which (x v w : Int32) (S : St) : isI (f_which x v w S).1 := by
  unfold f_which bno
  repeat' split
  all_goals exact ⟨_, rfl⟩
theorem pf_which (x v w : Int32) : PrF isI eX5_which eX6_which [.int x, .int v, .int w] := pairF (c_which x v w) (r_which x v w) (fun S G => gp_which x v w G) (fi_which x v w)
theorem fi_row (v : Int32) (S : St) : isI (f_row v S).1 := by
  unfold f_row bno
  repeat' split
  all_goals exact ⟨_, rfl⟩
theorem pf_row (v : Int32) : PrF isI eX5_row eX6_row [.int v] := pairF (c_row v) (r_row v) (fun S G => gp_row v G) (fi_row v)
theorem fi_judge (x : Int32) (S : St) : isI (f_judge x S).1 := by
  unfold f_judge bno
  repeat' split
  all_goals exact ⟨_, rfl⟩
theorem pf_judge (x : Int32) : PrF isI eX5_judge eX6_judge [.int x] := pairF (c_judge x) (r_judge x) (fun S G => gp_judge x G) (fi_judge x)
theorem fi_clear (S : St) : isI (f_clear S).1 := by
  unfold f_clear
  repeat' split
  all_goals exact ⟨_, rfl⟩
theorem pf_clear : PrF isI eX5_clear eX6_clear [] := pairF (c_clear) (r_clear) (fun S G => gp_clear G) (fi_clear)
theorem fi_lots (n z w : Int32) (S : St) : isI (f_lots n z w S).1 := by
  unfold f_lots bno
  repeat' split
  all_goals exact ⟨_, rfl⟩
theorem pf_lots (n z w : Int32) : PrF isI eX5_lots eX6_lots [.int n, .int z, .int w] := pairF (c_lots n z w) (r_lots n z w) (fun S G => gp_lots n z w G) (fi_lots n z w)
theorem fi_image (S : St) : isI (f_image S).1 := by
  unfold f_image
  repeat' split
  all_goals exact ⟨_, rfl⟩
theorem pf_image : PrF isI eX5_image eX6_image [] := pairF (c_image) (r_image) (fun S G => gp_image G) (fi_image)
theorem fi_on (S : St) : isI (f_on S).1 := by
  unfold f_on bno
  repeat' split
  all_goals exact ⟨_, rfl⟩
theorem pf_on : PrF isI eX5_on eX6_on [] := pairF (c_on) (r_on) (fun S G => gp_on G) (fi_on)
theorem fi_count (w : Int32) (S : St) : isI (f_count w S).1 := by
  unfold f_count
  repeat' split
  all_goals exact ⟨_, rfl⟩
theorem pf_count (w : Int32) : PrF isI eX5_count eX6_count [.int w] := pairF (c_count w) (r_count w) (fun S G => gp_count w G) (fi_count w)
