/-! what each method answers and leaves, of the state alone -/
def bno (c : Int32) (S : St) : Value × St := (.int c, rfz S c)
def xN (x : Int32) : Nat := x.toNatClampNeg
def f_letter (c : Int32) (S : St) : Value × St := if c < 0 then bno (-4) S else if 255 < c ∨ ¬ S.2.2.1.1 < 96 then bno (-6) S else (.int (S.2.2.1.1 + 1), (S.1, S.2.1, (S.2.2.1.1 + 1, upd S.2.2.1.2 (xN S.2.2.1.1) c), S.2.2.2))
def lcN (L : Nat → Int32) (i : Nat) : Nat := (L i).toNatClampNeg
def f_lock (S : St) : Value × St := match mis (lcN S.2.2.1.2) (xN S.2.2.1.1) with
  | some p => (.int (-1000 - nI p), (S.1, S.2.1, (0, S.2.2.1.2), S.2.2.2))
  | none => (.int (hap (lcN S.2.2.1.2) (xN S.2.2.1.1) (xN S.2.2.1.1 + 1) 0 0 S.1).1, ((hap (lcN S.2.2.1.2) (xN S.2.2.1.1) (xN S.2.2.1.1 + 1) 0 0 S.1).2.getD S.1, S.2.1, (0, S.2.2.1.2), S.2.2.2))
def f_pin (x : Int32) (S : St) : Value × St := if ik x 5 then (.int (S.1 (4 + xN x)), S) else bno (-1) S
def f_key (x w : Int32) (S : St) : Value × St := if ik x (S.1 0) then (if ik w 5 then (.int (S.1 (9 + 7 * xN x + xN w)), S) else if w = 5 then (.int (S.1 (9 + 7 * xN x + 5)), S) else if w = 6 then (.int (S.1 (9 + 7 * xN x + 6)), S) else if w = 7 then (.int (bz (opb S.1 (xN x))), S) else if w = 8 then (.int (wgk S.1 (xN x)), S) else if w = 9 then (.int (nI (wst (rowF S.1 (xN x)) (pinF S.1) 4)), S) else bno (-2) S) else bno (-1) S
def f_machine (x w : Int32) (S : St) : Value × St := if ik x (S.1 1) then (if i01 w then (if w = 0 then (.int (S.1 (79 + 2 * xN x)), S) else (.int (S.1 (79 + 2 * xN x + 1)), S)) else bno (-2) S) else bno (-1) S
def f_sets (x v : Int32) (S : St) : Value × St := if ik x 5 then (if oub v 0 99 = 0 then (.int (S.1 (4 + xN x)), (upd S.1 (4 + xN x) v, S.2)) else bno (oub v 0 99) S) else bno (-1) S
def f_slack (v : Int32) (S : St) : Value × St := if oub v 0 9 = 0 then (.int (S.1 3), (upd S.1 3 v, S.2)) else bno (oub v 0 9) S
def f_files (x t v : Int32) (S : St) : Value × St := if ik x (S.1 0) then (if ik t 5 then (if oub v 0 99 = 0 then (.int (S.1 (9 + 7 * xN x + xN t)), (upd S.1 (9 + 7 * xN x + xN t) v, S.2)) else bno (oub v 0 99) S) else bno (-1) S) else bno (-1) S
def f_turn (x q v : Int32) (S : St) : Value × St := if ik x (S.1 1) then (if ik q 6 then (if oub v 0 9 = 0 then (.int (10 * S.1 (79 + 2 * xN x) + S.1 (79 + 2 * xN x + 1)), (upd (upd S.1 (79 + 2 * xN x) q) (79 + 2 * xN x + 1) v, S.2)) else bno (oub v 0 9) S) else bno (-2) S) else bno (-1) S
def f_cut (x y : Int32) (S : St) : Value × St := if ik x (S.1 0) then (if ik y (S.1 1) then (if snb S.1 (xN x) then bno (-3) S else if S.1 0 < 10 then (.int (S.1 0), (cutS S.1 (kN S.1) (xN x) (xN y), S.2)) else bno (-6) S) else bno (-1) S) else bno (-1) S
def f_uses (x n : Int32) (S : St) : Value × St := if ik x (S.1 0) then (if n < 1 then bno (-4) S else if 99 < n then bno (-6) S else if 9999 < S.1 2 + n then bno (-6) S else if snb S.1 (xN x) then bno (-3) S else (.int (bz (opb (usd S.1 (xN x) n) (xN x))), (usd S.1 (xN x) n, S.2))) else bno (-1) S
def f_snaps (x : Int32) (S : St) : Value × St := if ik x (S.1 0) then (if snb S.1 (xN x) then bno (-3) S else (.int (nI (ct (fun i => !snb (upd S.1 (9 + 7 * xN x + 6) 1) i) (kN S.1))), (upd S.1 (9 + 7 * xN x + 6) 1, S.2))) else bno (-1) S
def f_opening (S : St) : Value × St := (.int (nI (nb (opb S.1) (kN S.1))), S)
def f_family (x w : Int32) (S : St) : Value × St := if ik x (S.1 0) then (if w = 0 then (.int (nI (dep S.1 9 (xN x))), S) else if w = 1 then (.int (nI (rot S.1 9 (xN x))), S) else if w = 2 then (.int (nI (ct (chd S.1 (xN x)) (kN S.1))), S) else if w = 3 then (.int (nI (nb (fun a => heir S.1 a (xN x)) (kN S.1))), S) else bno (-2) S) else bno (-1) S
def f_common (x y : Int32) (S : St) : Value × St := if ik x (S.1 0) then (if ik y (S.1 0) then (.int (on (cmn S.1 (xN y) 10 (xN x))), S) else bno (-1) S) else bno (-1) S
def f_nearest (S : St) : Value × St := (.int (on (bst (fun k => !snb S.1 k) (wgk S.1) (kN S.1))), S)
def f_next (w : Int32) (S : St) : Value × St := if i01 w then (.int (nxA S.1 (kN S.1) (mN S.1) (decide (w = 1))), S) else bno (-2) S
def f_inRow (x y w : Int32) (S : St) : Value × St := if ik x (S.1 0) then (if ik y (S.1 1) then (if i01 w then (if w = 0 then (.int (ond 30 (fst (rwP S.1 (xN x) (xN y)) 0 30)), S) else (.int (rwT S.1 (xN x) (xN y) (fst (rwP S.1 (xN x) (xN y)) 0 30)), S)) else bno (-2) S) else bno (-1) S) else bno (-1) S
def f_lasts (x : Int32) (S : St) : Value × St := if ik x (S.1 0) then (.int (on (fst (ltP S.1 (xN x)) 0 1000)), S) else bno (-1) S
def ftA (f p : Nat → Int32) : Int32 := ap (f (wst f p 4)) (p (wst f p 4))
def f_fit (x : Int32) (S : St) : Value × St := if ik x (S.1 0) then (.int (ftA (rowF S.1 (xN x)) (pinF S.1)), S) else bno (-1) S
def f_anew (t : Int32) (S : St) : Value × St := if t = -1 then (.int (nI (oaw S.1 (kN S.1))), S) else if ik t 5 then (.int (nI (anw S.1 (kN S.1) (xN t))), S) else bno (-1) S
def f_first (n t : Int32) (S : St) : Value × St := if oub n 1 (nI (2 ^ kN S.1 - 1)) = 0 then (if ik t 5 then (.int (jcode (mid S.1 (kN S.1) (xN n) (xN t))), S) else bno (-1) S) else bno (oub n 1 (nI (2 ^ kN S.1 - 1))) S
def f_unlike (n x : Int32) (S : St) : Value × St := if oub n 1 (nI (2 ^ kN S.1 - 1)) = 0 then (if ik x (S.1 0) then (.int (nI (ct (ulk S.1 (kN S.1) (xN n) (xN x)) 5)), S) else bno (-1) S) else bno (oub n 1 (nI (2 ^ kN S.1 - 1))) S
def f_mend (x : Int32) (S : St) : Value × St := if ik x (S.1 0) then (.int (mnd S.1 (xN x)), S) else (.int (1000000000 - (-1)), rfz S (-1))
def f_line (x : Int32) (S : St) : Value × St := if ik x (S.1 0) then (.int (nI (lin S.1 (kN S.1) (xN x))), S) else bno (-1) S
def f_bestLine (S : St) : Value × St := (.int (on (bsm (isR S.1) (lin S.1 (kN S.1)) (kN S.1))), S)
def f_ask (x : Int32) (S : St) : Value × St := if ik x (S.1 0) then (.int (on (bst (nea S.1 (xN x)) (wgk S.1) (kN S.1))), S) else bno (-1) S
def f_spare (S : St) : Value × St := (.int (spA S.1 (kN S.1)), S)
def bnl (c : Int32) (S : St) : Value × St := (.long (4000000000000000000 - c.toInt64), rfz S c)
def f_slip (x y n t p : Int32) (S : St) : Value × St := if ik x (S.1 0) then (if ik y (S.1 1) then (if n < 0 then bnl (-4) S else if t < 2 then bnl (-4) S else if 6 < n then bnl (-6) S else if 20 < t then bnl (-6) S else if i01 p then (if p = 0 then (.long (lN (slN S.1 (xN x) (xN y) (xN n) (xN t) / Nat.gcd (slN S.1 (xN x) (xN y) (xN n) (xN t)) (xN t ^ xN n))), S) else (.long (lN (xN t ^ xN n / Nat.gcd (slN S.1 (xN x) (xN y) (xN n) (xN t)) (xN t ^ xN n))), S)) else bnl (-2) S) else bnl (-1) S) else bnl (-1) S
def f_two (x t : Int32) (S : St) : Value × St := if ik x (S.1 0) then (if ik t 5 then (.int (on (fst (spP S.1 (mN S.1) (S.1 (9 + 7 * xN x + xN t)) (xN t)) 0 (10 * mN S.1))), S) else bno (-1) S) else bno (-1) S
def f_which (x v w : Int32) (S : St) : Value × St := if ik x (S.1 0) then (if oub v 0 9 = 0 then (if i01 w then (if S.2.2.2.1.1 = 5 then (if w = 0 then (.int (nI (nb (mtc S.1 (xN x) S.2.2.2.1.2) (mN S.1))), S) else (.int (nI (nb (ktc S.1 (xN x) v S.2.2.2.1.2) 6)), S)) else bno (-3) S) else bno (-2) S) else bno (oub v 0 9) S) else bno (-1) S
def f_row (v : Int32) (S : St) : Value × St := if v < 0 then bno (-4) S else if 99 < v then bno (-6) S else if ¬ S.2.2.2.1.1 < 12 then bno (-6) S else (.int (S.2.2.2.1.1 + 1), (S.1, S.2.1, S.2.2.1, (S.2.2.2.1.1 + 1, upd S.2.2.2.1.2 (xN S.2.2.2.1.1) v), S.2.2.2.2))
def jdP (σ : Nat → Int32) (k : Nat) (R : Nat → Int32) (i : Nat) : Bool := !decide (i < 5) || !decide (R i = σ (9 + 7 * k + i))
def f_judge (x : Int32) (S : St) : Value × St := if ik x (S.1 0) then (.int (on (fst (jdP S.1 (xN x) S.2.2.2.1.2) 0 (xN S.2.2.2.1.1))), (S.1, S.2.1, S.2.2.1, (0, S.2.2.2.1.2), S.2.2.2.2)) else bno (-1) S
def f_clear (S : St) : Value × St := (.int S.2.2.2.1.1, (S.1, S.2.1, S.2.2.1, (0, S.2.2.2.1.2), S.2.2.2.2))
def f_lots (n z w : Int32) (S : St) : Value × St := if oub n 1 20 = 0 then (if i01 w then (if S.1 0 = 0 then bno (-3) S else if S.1 1 = 0 then bno (-3) S else (.int (ltA S.1 (kN S.1) (mN S.1) (xN n) z (decide (w = 1))), S)) else bno (-2) S) else bno (oub n 1 20) S
def f_image (S : St) : Value × St := (.int (S.1 2), (S.1, (1, S.1), S.2.2))
def f_on (S : St) : Value × St := if S.2.1.1 = 0 then bno (-3) S else (.int (S.2.1.2 2), (S.2.1.2, S.2))
def f_count (w : Int32) (S : St) : Value × St := if w = 0 then (.int (S.1 0), S) else if w = 1 then (.int (S.1 1), S) else if w = 2 then (.int (S.1 2), S) else if w = 3 then (.int (S.1 3), S) else if w = 4 then (.int (nI (nb (snb S.1) (kN S.1))), S) else if w = 5 then (.int (nI (ct (opb S.1) (kN S.1))), S) else if w = 6 then (.int S.2.2.2.1.1, S) else if w = 7 then (.int S.2.2.1.1, S) else if w < 11 then (.int (-9), S) else if 16 < w then (.int (-9), S) else (.int (S.2.2.2.2 (xN (w - 10))), S)
section CSP
variable {h : mH}
theorem cS_1 : (cS h).1 = cv 1 h := rfl
theorem cS_if : (cS h).2.1.1 = h 0 3 := rfl
theorem cS_im : (cS h).2.1.2 = cI (h 0 3) (cv 35 h) := rfl
theorem cS_ln : (cS h).2.2.1.1 = h 55 1 := rfl
theorem cS_l : (cS h).2.2.1.2 = h 56 := rfl
theorem cS_rn : (cS h).2.2.2.1.1 = h 0 7 := rfl
theorem cS_r : (cS h).2.2.2.1.2 = h 57 := rfl
theorem cS_q : (cS h).2.2.2.2 = h 58 := rfl
end CSP
theorem xN_n {k : Nat} (h : k < 100000) : xN (nI k) = k := nI_clamp (by omega)
theorem ik5t {x : Int32} (hi : ik x 5 = true) : ∃ k, k < 5 ∧ x = nI k := ikt (n := 5) (by omega) hi
theorem ik6t {x : Int32} (hi : ik x 6 = true) : ∃ k, k < 6 ∧ x = nI k := ikt (n := 6) (by omega) hi
theorem i01t {w : Int32} (h : i01 w = true) : w = 0 ∨ w = 1 := by
  unfold i01 at h; simp at h; exact h
theorem wst_cg {f g p q : Nat → Int32} (hf : ∀ t, t < 5 → f t = g t) (hp : ∀ t, t < 5 → p t = q t) : wst f p 4 = wst g q 4 := by
  have key : ∀ t, t ≤ 4 → wst f p t = wst g q t := by
    intro t
    induction t with
    | zero => intro _; rfl
    | succ t ih =>
      intro h
      have h1 := ih (by omega)
      have h2 := wst_le g q t
      rw [wst, wst, h1, hf (wst g q t) (by omega), hp (wst g q t) (by omega), hf (t + 1) (by omega), hp (t + 1) (by omega)]
  exact key 4 (by omega)
theorem gdN.s0' {s K M : Nat} {h : mH} (G : gdN (cv s h) K M) : h s 2 = nI K := G.s0
