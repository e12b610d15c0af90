/-! steps of the small machine, to rewrite with -/
def jab (x : Int32) : Int32 := if 0 ≤ x then x else 0 - x
def jmx (x y : Int32) : Int32 := if x < y then y else x
def jmn (x y : Int32) : Int32 := if y < x then y else x
def jml (x y : Int64) : Int64 := if y < x then x else y
def jrm (x y : Int32) : Int32 := x - x / y * y
def jrl (x y : Int64) : Int64 := x - x / y * y
section STP
variable {d : Nat} {E : mE} {Q : Option Value → mH → Prop} {pc n : Nat} {ls st : List Value} {h : mH} {i : Instr}
theorem nxt_d (hd : decode (eC E) pc = .ok (i, n)) : nxt E pc ls st h = nx E pc ls st h n i := by
  unfold nxt
  rw [show decode E.2.2.2.1 pc = .ok (i, n) from hd]
theorem WP_iconst {v : Int} {x : Int32} (hd : decode (eC E) pc = .ok (.iconst v, 1)) (hv : Int32.ofInt v = x) : WP d E Q pc ls st h = WP d E Q (pc + 1) ls (.int x :: st) h := by
  subst hv; exact WP_of (z := (_, _, _, _)) ((nxt_d hd).trans rfl)
theorem WP_bipush {v : Int} {x : Int32} (hd : decode (eC E) pc = .ok (.bipush v, 2)) (hv : (Int8.ofInt v).toInt32 = x) : WP d E Q pc ls st h = WP d E Q (pc + 2) ls (.int x :: st) h := by
  subst hv; exact WP_of (z := (_, _, _, _)) ((nxt_d hd).trans rfl)
theorem WP_sipush {v : Int} {x : Int32} (hd : decode (eC E) pc = .ok (.sipush v, 3)) (hv : (Int16.ofInt v).toInt32 = x) : WP d E Q pc ls st h = WP d E Q (pc + 3) ls (.int x :: st) h := by
  subst hv; exact WP_of (z := (_, _, _, _)) ((nxt_d hd).trans rfl)
theorem WP_lconst {v : Fin 2} {x : Int64} (hd : decode (eC E) pc = .ok (.lconst v, 1)) (hv : Int64.ofNat v = x) : WP d E Q pc ls st h = WP d E Q (pc + 1) ls (.long x :: st) h := by
  subst hv; exact WP_of (z := (_, _, _, _)) ((nxt_d hd).trans rfl)
theorem WP_ldci {k j : Nat} {x : Int32} (hd : decode (eC E) pc = .ok (.ldc k, 2)) (hc : clk E.1 k = some (j, .int x)) : WP d E Q pc ls st h = WP d E Q (pc + 2) ls (.int x :: st) h :=
  WP_of (z := (_, _, _, _)) ((nxt_d hd).trans (show x_ldc E k pc ls st h 2 = _ by unfold x_ldc; rw [hc]; rfl))
theorem WP_ldcr {k j x : Nat} (hd : decode (eC E) pc = .ok (.ldc k, 2)) (hc : clk E.1 k = some (j, .ref x)) : WP d E Q pc ls st h = WP d E Q (pc + 2) ls (.ref x :: st) h :=
  WP_of (z := (_, _, _, _)) ((nxt_d hd).trans (show x_ldc E k pc ls st h 2 = _ by unfold x_ldc; rw [hc]; rfl))
theorem WP_ldcw {k j : Nat} {x : Int32} (hd : decode (eC E) pc = .ok (.ldc_w k, 3)) (hc : clk E.1 k = some (j, .int x)) : WP d E Q pc ls st h = WP d E Q (pc + 3) ls (.int x :: st) h :=
  WP_of (z := (_, _, _, _)) ((nxt_d hd).trans (show x_ldw E k pc ls st h 3 = _ by unfold x_ldw; rw [hc]; rfl))
theorem WP_ldc2 {k j : Nat} {x : Int64} (hd : decode (eC E) pc = .ok (.ldc2_w k, 3)) (hc : clk E.1 k = some (j, .long x)) : WP d E Q pc ls st h = WP d E Q (pc + 3) ls (.long x :: st) h :=
  WP_of (z := (_, _, _, _)) ((nxt_d hd).trans (show x_ld2 E k pc ls st h 3 = _ by unfold x_ld2; rw [hc]; rfl))
theorem WP_iload_n {k : Fin 4} {x : Int32} (hd : decode (eC E) pc = .ok (.iload_n k, 1)) (hl : ls[k.val]? = some (.int x)) : WP d E Q pc ls st h = WP d E Q (pc + 1) ls (.int x :: st) h :=
  WP_of (z := (_, _, _, _)) ((nxt_d hd).trans (show o_li ls k _ = _ by unfold o_li; rw [hl]; rfl))
theorem WP_iload {k : Nat} {x : Int32} (hd : decode (eC E) pc = .ok (.iload k, 2)) (hl : ls[k]? = some (.int x)) : WP d E Q pc ls st h = WP d E Q (pc + 2) ls (.int x :: st) h :=
  WP_of (z := (_, _, _, _)) ((nxt_d hd).trans (show o_li ls k _ = _ by unfold o_li; rw [hl]; rfl))
theorem WP_lload_n {k : Fin 4} {x : Int64} (hd : decode (eC E) pc = .ok (.lload_n k, 1)) (hl : ls[k.val]? = some (.long x)) : WP d E Q pc ls st h = WP d E Q (pc + 1) ls (.long x :: st) h :=
  WP_of (z := (_, _, _, _)) ((nxt_d hd).trans (show o_ll ls k _ = _ by unfold o_ll; rw [hl]; rfl))
theorem WP_lload {k : Nat} {x : Int64} (hd : decode (eC E) pc = .ok (.lload k, 2)) (hl : ls[k]? = some (.long x)) : WP d E Q pc ls st h = WP d E Q (pc + 2) ls (.long x :: st) h :=
  WP_of (z := (_, _, _, _)) ((nxt_d hd).trans (show o_ll ls k _ = _ by unfold o_ll; rw [hl]; rfl))
theorem WP_aload_n {k : Fin 4} {x : Nat} (hd : decode (eC E) pc = .ok (.aload_n k, 1)) (hl : ls[k.val]? = some (.ref x)) : WP d E Q pc ls st h = WP d E Q (pc + 1) ls (.ref x :: st) h :=
  WP_of (z := (_, _, _, _)) ((nxt_d hd).trans (show o_lr ls k _ = _ by unfold o_lr; rw [hl]; rfl))
theorem WP_aload {k : Nat} {x : Nat} (hd : decode (eC E) pc = .ok (.aload k, 2)) (hl : ls[k]? = some (.ref x)) : WP d E Q pc ls st h = WP d E Q (pc + 2) ls (.ref x :: st) h :=
  WP_of (z := (_, _, _, _)) ((nxt_d hd).trans (show o_lr ls k _ = _ by unfold o_lr; rw [hl]; rfl))
theorem sti_ok {k i : Nat} {v : Value} {r ls' : List Value} (hi : i < ls.length) (hg : g1 E ls i = true) (hl : ls.set i v = ls') : sti E k k pc i ls v r h = some (.inl (pc + k, ls', r, h)) := by
  subst hl; unfold sti; rw [if_pos ⟨hi, hg⟩]; unfold gN; rw [if_pos rfl]
theorem stl_ok {k i : Nat} {v : Int64} {r ls' : List Value} (hg : E.2.1 = true ∧ i + 1 < ls.length ∧ g1 E ls i = true) (hl : (ls.set i (.long v)).set (i + 1) mU = ls') : stl E k k pc i ls v r h = some (.inl (pc + k, ls', r, h)) := by
  subst hl; unfold stl; rw [if_pos hg]; unfold gN; rw [if_pos rfl]
theorem WP_istore_n {k : Fin 4} {x : Int32} {ls' : List Value} (hd : decode (eC E) pc = .ok (.istore_n k, 1)) (hi : k.val < ls.length) (hg : g1 E ls k.val = true) (hl : ls.set k.val (.int x) = ls') : WP d E Q pc ls (.int x :: st) h = WP d E Q (pc + 1) ls' st h :=
  WP_of (z := (_, _, _, _)) ((nxt_d hd).trans (sti_ok hi hg hl))
theorem WP_istore {k : Nat} {x : Int32} {ls' : List Value} (hd : decode (eC E) pc = .ok (.istore k, 2)) (hi : k < ls.length) (hg : g1 E ls k = true) (hl : ls.set k (.int x) = ls') : WP d E Q pc ls (.int x :: st) h = WP d E Q (pc + 2) ls' st h :=
  WP_of (z := (_, _, _, _)) ((nxt_d hd).trans (sti_ok hi hg hl))
theorem WP_astore_n {k : Fin 4} {x : Nat} {ls' : List Value} (hd : decode (eC E) pc = .ok (.astore_n k, 1)) (hi : k.val < ls.length) (hg : g1 E ls k.val = true) (hl : ls.set k.val (.ref x) = ls') : WP d E Q pc ls (.ref x :: st) h = WP d E Q (pc + 1) ls' st h :=
  WP_of (z := (_, _, _, _)) ((nxt_d hd).trans (sti_ok hi hg hl))
theorem WP_astore {k : Nat} {x : Nat} {ls' : List Value} (hd : decode (eC E) pc = .ok (.astore k, 2)) (hi : k < ls.length) (hg : g1 E ls k = true) (hl : ls.set k (.ref x) = ls') : WP d E Q pc ls (.ref x :: st) h = WP d E Q (pc + 2) ls' st h :=
  WP_of (z := (_, _, _, _)) ((nxt_d hd).trans (sti_ok hi hg hl))
theorem WP_lstore_n {k : Fin 4} {x : Int64} {ls' : List Value} (hd : decode (eC E) pc = .ok (.lstore_n k, 1)) (hg : E.2.1 = true ∧ k.val + 1 < ls.length ∧ g1 E ls k.val = true) (hl : (ls.set k.val (.long x)).set (k.val + 1) mU = ls') : WP d E Q pc ls (.long x :: st) h = WP d E Q (pc + 1) ls' st h :=
  WP_of (z := (_, _, _, _)) ((nxt_d hd).trans (stl_ok hg hl))
theorem WP_lstore {k : Nat} {x : Int64} {ls' : List Value} (hd : decode (eC E) pc = .ok (.lstore k, 2)) (hg : E.2.1 = true ∧ k + 1 < ls.length ∧ g1 E ls k = true) (hl : (ls.set k (.long x)).set (k + 1) mU = ls') : WP d E Q pc ls (.long x :: st) h = WP d E Q (pc + 2) ls' st h :=
  WP_of (z := (_, _, _, _)) ((nxt_d hd).trans (stl_ok hg hl))
theorem WP_iinc {k : Nat} {v : Int} {x y : Int32} {ls' : List Value} (hd : decode (eC E) pc = .ok (.iinc k v, 3)) (hx : ls[k]? = some (.int x)) (hv : Int32.ofInt v = y) (hi : k < ls.length) (hg : g1 E ls k = true) (hl : ls.set k (.int (x + y)) = ls') : WP d E Q pc ls st h = WP d E Q (pc + 3) ls' st h := by
  subst hv
  exact WP_of (z := (_, _, _, _)) ((nxt_d hd).trans (show o_li ls k _ = _ by unfold o_li; rw [hx]; exact sti_ok hi hg hl))
theorem WP_iadd {x y : Int32} (hd : decode (eC E) pc = .ok (.iadd, 1)) : WP d E Q pc ls (.int y :: .int x :: st) h = WP d E Q (pc + 1) ls (.int (x + y) :: st) h := WP_of (z := (_, _, _, _)) ((nxt_d hd).trans rfl)
theorem WP_isub {x y : Int32} (hd : decode (eC E) pc = .ok (.isub, 1)) : WP d E Q pc ls (.int y :: .int x :: st) h = WP d E Q (pc + 1) ls (.int (x - y) :: st) h := WP_of (z := (_, _, _, _)) ((nxt_d hd).trans rfl)
theorem WP_imul {x y : Int32} (hd : decode (eC E) pc = .ok (.imul, 1)) : WP d E Q pc ls (.int y :: .int x :: st) h = WP d E Q (pc + 1) ls (.int (x * y) :: st) h := WP_of (z := (_, _, _, _)) ((nxt_d hd).trans rfl)
theorem WP_iand {x y : Int32} (hd : decode (eC E) pc = .ok (.iand, 1)) : WP d E Q pc ls (.int y :: .int x :: st) h = WP d E Q (pc + 1) ls (.int (x &&& y) :: st) h := WP_of (z := (_, _, _, _)) ((nxt_d hd).trans rfl)
theorem WP_ior {x y : Int32} (hd : decode (eC E) pc = .ok (.ior, 1)) : WP d E Q pc ls (.int y :: .int x :: st) h = WP d E Q (pc + 1) ls (.int (x ||| y) :: st) h := WP_of (z := (_, _, _, _)) ((nxt_d hd).trans rfl)
theorem WP_ixor {x y : Int32} (hd : decode (eC E) pc = .ok (.ixor, 1)) : WP d E Q pc ls (.int y :: .int x :: st) h = WP d E Q (pc + 1) ls (.int (x ^^^ y) :: st) h := WP_of (z := (_, _, _, _)) ((nxt_d hd).trans rfl)
theorem WP_ishl {x y : Int32} (hd : decode (eC E) pc = .ok (.ishl, 1)) : WP d E Q pc ls (.int y :: .int x :: st) h = WP d E Q (pc + 1) ls (.int (x <<< (y &&& 31)) :: st) h := WP_of (z := (_, _, _, _)) ((nxt_d hd).trans rfl)
theorem WP_ishr {x y : Int32} (hd : decode (eC E) pc = .ok (.ishr, 1)) : WP d E Q pc ls (.int y :: .int x :: st) h = WP d E Q (pc + 1) ls (.int (x >>> (y &&& 31)) :: st) h := WP_of (z := (_, _, _, _)) ((nxt_d hd).trans rfl)
def iush (x y : Int32) : Int32 := (x.toUInt32 >>> (y.toUInt32 &&& Int32.toUInt32 31)).toInt32
theorem WP_iushr {x y : Int32} (hd : decode (eC E) pc = .ok (.iushr, 1)) : WP d E Q pc ls (.int y :: .int x :: st) h = WP d E Q (pc + 1) ls (.int (iush x y) :: st) h := WP_of (z := (_, _, _, _)) ((nxt_d hd).trans rfl)
theorem WP_idiv {x y : Int32} (hd : decode (eC E) pc = .ok (.idiv, 1)) (hy : ¬ y = 0) : WP d E Q pc ls (.int y :: .int x :: st) h = WP d E Q (pc + 1) ls (.int (x / y) :: st) h := WP_of (z := (_, _, _, _)) ((nxt_d hd).trans (show (if y = 0 then none else _) = _ by rw [if_neg hy]; rfl))
theorem WP_irem {x y : Int32} (hd : decode (eC E) pc = .ok (.irem, 1)) : WP d E Q pc ls (.int y :: .int x :: st) h = (¬ y = 0 ∧ WP d E Q (pc + 1) ls (.int (jrm x y) :: st) h) := by
  have e1 : nxt E pc ls (.int y :: .int x :: st) h = (if y = 0 then none else some (.inl (pc + 1, ls, .int (jrm x y) :: st, h))) := (nxt_d hd).trans rfl
  by_cases hy : y = 0
  · rw [if_pos hy] at e1
    rw [WP_none e1]; simp only [hy, not_true_eq_false, false_and]
  · rw [if_neg hy] at e1
    rw [WP_of e1]; simp only [hy, not_false_eq_true, true_and]
theorem WP_ineg {x : Int32} (hd : decode (eC E) pc = .ok (.ineg, 1)) : WP d E Q pc ls (.int x :: st) h = WP d E Q (pc + 1) ls (.int (-x) :: st) h := WP_of (z := (_, _, _, _)) ((nxt_d hd).trans rfl)
theorem WP_i2l {x : Int32} (hd : decode (eC E) pc = .ok (.i2l, 1)) : WP d E Q pc ls (.int x :: st) h = WP d E Q (pc + 1) ls (.long x.toInt64 :: st) h := WP_of (z := (_, _, _, _)) ((nxt_d hd).trans rfl)
theorem WP_i2b {x : Int32} (hd : decode (eC E) pc = .ok (.i2b, 1)) : WP d E Q pc ls (.int x :: st) h = WP d E Q (pc + 1) ls (.int x.toInt8.toInt32 :: st) h := WP_of (z := (_, _, _, _)) ((nxt_d hd).trans rfl)
theorem WP_i2c {x : Int32} (hd : decode (eC E) pc = .ok (.i2c, 1)) : WP d E Q pc ls (.int x :: st) h = WP d E Q (pc + 1) ls (.int (x.toUInt32 % 65536).toInt32 :: st) h := WP_of (z := (_, _, _, _)) ((nxt_d hd).trans rfl)
theorem WP_ladd {x y : Int64} (hd : decode (eC E) pc = .ok (.ladd, 1)) : WP d E Q pc ls (.long y :: .long x :: st) h = WP d E Q (pc + 1) ls (.long (x + y) :: st) h := WP_of (z := (_, _, _, _)) ((nxt_d hd).trans rfl)
theorem WP_lsub {x y : Int64} (hd : decode (eC E) pc = .ok (.lsub, 1)) : WP d E Q pc ls (.long y :: .long x :: st) h = WP d E Q (pc + 1) ls (.long (x - y) :: st) h := WP_of (z := (_, _, _, _)) ((nxt_d hd).trans rfl)
theorem WP_lmul {x y : Int64} (hd : decode (eC E) pc = .ok (.lmul, 1)) : WP d E Q pc ls (.long y :: .long x :: st) h = WP d E Q (pc + 1) ls (.long (x * y) :: st) h := WP_of (z := (_, _, _, _)) ((nxt_d hd).trans rfl)
theorem WP_ldiv {x y : Int64} (hd : decode (eC E) pc = .ok (.ldiv, 1)) : WP d E Q pc ls (.long y :: .long x :: st) h = (¬ y = 0 ∧ WP d E Q (pc + 1) ls (.long (x / y) :: st) h) := by
  have e1 : nxt E pc ls (.long y :: .long x :: st) h = (if y = 0 then none else some (.inl (pc + 1, ls, .long (x / y) :: st, h))) := (nxt_d hd).trans rfl
  by_cases hy : y = 0
  · rw [if_pos hy] at e1
    rw [WP_none e1]; simp only [hy, not_true_eq_false, false_and]
  · rw [if_neg hy] at e1
    rw [WP_of e1]; simp only [hy, not_false_eq_true, true_and]
theorem WP_lrem {x y : Int64} (hd : decode (eC E) pc = .ok (.lrem, 1)) : WP d E Q pc ls (.long y :: .long x :: st) h = (¬ y = 0 ∧ WP d E Q (pc + 1) ls (.long (jrl x y) :: st) h) := by
  have e1 : nxt E pc ls (.long y :: .long x :: st) h = (if y = 0 then none else some (.inl (pc + 1, ls, .long (jrl x y) :: st, h))) := (nxt_d hd).trans rfl
  by_cases hy : y = 0
  · rw [if_pos hy] at e1
    rw [WP_none e1]; simp only [hy, not_true_eq_false, false_and]
  · rw [if_neg hy] at e1
    rw [WP_of e1]; simp only [hy, not_false_eq_true, true_and]
theorem WP_lcmp {x y : Int64} (hd : decode (eC E) pc = .ok (.lcmp, 1)) : WP d E Q pc ls (.long y :: .long x :: st) h = WP d E Q (pc + 1) ls (.int (lg_cmp x y) :: st) h := WP_of (z := (_, _, _, _)) ((nxt_d hd).trans rfl)
theorem WP_dup {v : Value} (hd : decode (eC E) pc = .ok (.dup, 1)) (hv : v.category = 1) : WP d E Q pc ls (v :: st) h = WP d E Q (pc + 1) ls (v :: v :: st) h := WP_of (z := (_, _, _, _)) ((nxt_d hd).trans (show (if v.category = 1 then _ else none) = _ by rw [if_pos hv]; rfl))
theorem WP_pop {v : Value} (hd : decode (eC E) pc = .ok (.pop, 1)) (hv : v.category = 1) : WP d E Q pc ls (v :: st) h = WP d E Q (pc + 1) ls st h := WP_of (z := (_, _, _, _)) ((nxt_d hd).trans (show (if v.category = 1 then _ else none) = _ by rw [if_pos hv]; rfl))
theorem WP_dup2 {v w : Value} (hd : decode (eC E) pc = .ok (.dup2, 1)) (hv : v.category = 1 ∧ w.category = 1) : WP d E Q pc ls (v :: w :: st) h = WP d E Q (pc + 1) ls (v :: w :: v :: w :: st) h := WP_of (z := (_, _, _, _)) ((nxt_d hd).trans (show (if v.category = 1 ∧ w.category = 1 then _ else none) = _ by rw [if_pos hv]; rfl))
theorem gJ_ok {k pc' t : Nat} {off : Int} {ls' st' : List Value} {h' : mH} (ht : (pc' : Int) + off = (t : Int)) : gJ k k pc' off ls' st' h' = some (.inl (t, ls', st', h')) := by
  unfold gJ; rw [if_pos ⟨rfl, by omega⟩, ht]; rfl
theorem WP_goto {off : Int} {t : Nat} (hd : decode (eC E) pc = .ok (.goto off, 3)) (ht : (pc : Int) + off = (t : Int)) : WP d E Q pc ls st h = WP d E Q t ls st h := WP_of (z := (_, _, _, _)) ((nxt_d hd).trans (gJ_ok ht))
theorem WP_if {cd : ClassFile.Cond} {x : Int32} {off : Int} {t : Nat} {c : Prop} [Decidable c] (hd : decode (eC E) pc = .ok (.ifCond cd off, 3)) (ht : (pc : Int) + off = (t : Int)) (hc : cnd cd x 0 = decide c) : WP d E Q pc ls (.int x :: st) h = if c then WP d E Q t ls st h else WP d E Q (pc + 3) ls st h := by
  have e1 : nxt E pc ls (.int x :: st) h = (if 0 ≤ (pc : Int) + off then (if cnd cd x 0 = true then gJ 3 3 pc off ls st h else gN 3 3 (pc + 3, ls, st, h)) else none) := nxt_d hd
  rw [if_pos (by omega), hc] at e1
  by_cases q : c
  · rw [if_pos (decide_eq_true q), gJ_ok ht] at e1
    rw [if_pos q, WP_of (z := (_, _, _, _)) e1]
  · rw [if_neg (by rw [decide_eq_true_eq]; exact q)] at e1
    rw [if_neg q, WP_of (z := (_, _, _, _)) (e1.trans rfl)]
theorem WP_icmp {cd : ClassFile.Cond} {x y : Int32} {off : Int} {t : Nat} {c : Prop} [Decidable c] (hd : decode (eC E) pc = .ok (.if_icmp cd off, 3)) (ht : (pc : Int) + off = (t : Int)) (hc : cnd cd x y = decide c) : WP d E Q pc ls (.int y :: .int x :: st) h = if c then WP d E Q t ls st h else WP d E Q (pc + 3) ls st h := by
  have e1 : nxt E pc ls (.int y :: .int x :: st) h = (if 0 ≤ (pc : Int) + off then (if cnd cd x y = true then gJ 3 3 pc off ls st h else gN 3 3 (pc + 3, ls, st, h)) else none) := nxt_d hd
  rw [if_pos (by omega), hc] at e1
  by_cases q : c
  · rw [if_pos (decide_eq_true q), gJ_ok ht] at e1
    rw [if_pos q, WP_of (z := (_, _, _, _)) e1]
  · rw [if_neg (by rw [decide_eq_true_eq]; exact q)] at e1
    rw [if_neg q, WP_of (z := (_, _, _, _)) (e1.trans rfl)]
def swP (x : Int32) : Int → List Nat → Nat → (Nat → Prop) → Prop
  | _, [], td, K => K td
  | lo, t :: ts, td, K => if x = Int32.ofInt lo then K t else swP x (lo + 1) ts td K
theorem swP_out {x : Int32} {td : Nat} {K : Nat → Prop} : ∀ (ts : List Nat) (lo : Int), -2147483648 ≤ lo → lo + ts.length ≤ 2147483648 → (x.toInt < lo ∨ lo + ts.length ≤ x.toInt) → swP x lo ts td K = K td
  | [], _, _, _, _ => rfl
  | t :: ts, lo, h1, h2, h3 => by
    rw [List.length_cons] at h2 h3
    rw [swP, if_neg, swP_out ts (lo + 1) (by omega) (by omega) (by omega)]
    intro e
    rw [e, Int32.toInt_ofInt_of_le (by omega) (by omega)] at h3
    omega
theorem swP_in {x : Int32} {td t : Nat} {K : Nat → Prop} : ∀ (ts : List Nat) (lo : Int) (k : Nat), -2147483648 ≤ lo → lo + ts.length ≤ 2147483648 → x.toInt = lo + k → ts[k]? = some t → swP x lo ts td K = K t
  | [], _, _, _, _, _, h4 => by simp at h4
  | t0 :: ts, lo, 0, h1, h2, h3, h4 => by
    rw [swP, if_pos]
    · simp at h4; rw [h4]
    · rw [List.length_cons] at h2
      apply Int32.toInt_inj.mp
      rw [Int32.toInt_ofInt_of_le (by omega) (by omega)]
      omega
  | t0 :: ts, lo, k + 1, h1, h2, h3, h4 => by
    rw [List.length_cons] at h2
    rw [swP, if_neg, swP_in ts (lo + 1) k (by omega) (by omega) (by omega) (by simpa using h4)]
    intro e
    rw [e, Int32.toInt_ofInt_of_le (by omega) (by have := (List.getElem?_eq_some_iff.mp h4).1; rw [List.length_cons] at this; omega)] at h3
    omega
theorem WP_tsw {dflt lo hi : Int} {offs : Array Int} {len td : Nat} {ts : List Nat} {x : Int32} (hd : decode (eC E) pc = .ok (.tableswitch dflt lo hi offs, len)) (h1 : offs.toList = ts.map (fun t : Nat => (t : Int) - pc)) (h2 : hi + 1 = lo + ts.length) (h3 : -2147483648 ≤ lo ∧ lo + ts.length ≤ 2147483648) (h4 : (pc : Int) + dflt = (td : Int)) : WP d E Q pc ls (.int x :: st) h = swP x lo ts td (fun t => WP d E Q t ls st h) := by
  have e1 : nxt E pc ls (.int x :: st) h = (match x_ts lo hi dflt offs x with
    | some off => gJ len len pc off ls st h
    | none => none) := nxt_d hd
  unfold x_ts at e1
  by_cases q : x.toInt < lo ∨ hi < x.toInt
  · rw [if_pos q] at e1
    dsimp only at e1
    rw [gJ_ok h4] at e1
    rw [WP_of (z := (_, _, _, _)) e1, swP_out ts lo h3.1 h3.2 (by omega)]
  · rw [if_neg q] at e1
    obtain ⟨k, hk⟩ : ∃ k : Nat, x.toInt = lo + k := ⟨(x.toInt - lo).toNat, by omega⟩
    have hkl : k < ts.length := by omega
    obtain ⟨t, ht⟩ : ∃ t, ts[k]? = some t := ⟨ts[k], List.getElem?_eq_getElem hkl⟩
    have e2 : offs[(x.toInt - lo).toNat]? = some ((t : Int) - pc) := by
      rw [show (x.toInt - lo).toNat = k by omega, ← Array.getElem?_toList, h1, List.getElem?_map, ht]
      rfl
    rw [e2] at e1
    dsimp only at e1
    rw [gJ_ok (t := t) (by omega)] at e1
    rw [WP_of (z := (_, _, _, _)) e1, swP_in ts lo k h3.1 h3.2 hk ht]
def slP (x : Int32) : List (Int × Nat) → Nat → (Nat → Prop) → Prop
  | [], td, K => K td
  | (k, t) :: ts, td, K => if x = Int32.ofInt k then K t else slP x ts td K
theorem slP_eq {x : Int32} {td : Nat} {dflt : Int} {K : Nat → Prop} {pc : Nat} (hd : (pc : Int) + dflt = (td : Int)) : ∀ (ts : List (Int × Nat)), (∀ q ∈ ts, -2147483648 ≤ q.1 ∧ q.1 < 2147483648) → ∃ t : Nat, (pc : Int) + Op.lookupswitch.offset (ts.map (fun q : Int × Nat => (q.1, (q.2 : Int) - pc))) dflt x.toInt = (t : Int) ∧ slP x ts td K = K t
  | [], _ => ⟨td, hd, rfl⟩
  | (k, t) :: ts, hb => by
    have hk := hb (k, t) List.mem_cons_self
    rw [List.map_cons, slP]
    by_cases e : x = Int32.ofInt k
    · refine ⟨t, ?_, by rw [if_pos e]⟩
      unfold Op.lookupswitch.offset
      rw [if_pos (by rw [e, Int32.toInt_ofInt_of_le hk.1 hk.2])]
      dsimp only; omega
    · obtain ⟨t2, h2, h3⟩ := slP_eq hd ts (fun q hq => hb q (List.mem_cons_of_mem _ hq))
      refine ⟨t2, ?_, by rw [if_neg e]; exact h3⟩
      unfold Op.lookupswitch.offset
      rw [if_neg (fun z => e (Int32.toInt_inj.mp (by rw [Int32.toInt_ofInt_of_le hk.1 hk.2]; exact z.symm)))]
      exact h2
theorem WP_lsw {dflt : Int} {ps : Array (Int × Int)} {len td : Nat} {ts : List (Int × Nat)} {x : Int32} (hd : decode (eC E) pc = .ok (.lookupswitch dflt ps, len)) (h0 : (ps.toList.zip (ps.toList.drop 1)).all (fun (a, next) => a.1 < next.1) = true) (h1 : ps.toList = ts.map (fun q : Int × Nat => (q.1, (q.2 : Int) - pc))) (h3 : ∀ q ∈ ts, -2147483648 ≤ q.1 ∧ q.1 < 2147483648) (h4 : (pc : Int) + dflt = (td : Int)) : WP d E Q pc ls (.int x :: st) h = slP x ts td (fun t => WP d E Q t ls st h) := by
  have e1 : nxt E pc ls (.int x :: st) h = (if (ps.toList.zip (ps.toList.drop 1)).all (fun (a, next) => a.1 < next.1) = true then gJ len len pc (Op.lookupswitch.offset ps.toList dflt x.toInt) ls st h else none) := nxt_d hd
  rw [if_pos h0, h1] at e1
  obtain ⟨t, h2, h5⟩ := slP_eq (x := x) (K := fun t => WP d E Q t ls st h) h4 ts h3
  rw [gJ_ok h2] at e1
  rw [WP_of (z := (_, _, _, _)) e1, h5]
theorem WP_ofc {c : Prop} [Decidable c] {z : Nat × List Value × List Value × mH} (e : nxt E pc ls st h = (if c then some (.inl z) else none)) : WP d E Q pc ls st h = (c ∧ WP d E Q z.1 z.2.1 z.2.2.1 z.2.2.2) := by
  by_cases q : c
  · rw [if_pos q] at e; rw [WP_of e]; simp [q]
  · rw [if_neg q] at e; rw [WP_none e]; simp [q]
theorem WP_gfi {k j t f ty a : Nat} (hd : decode (eC E) pc = .ok (.getfield k, 3)) (hf : flk E.1 k = some (j, t, f, ty)) (hty : ty = 0 ∨ ty = 1) : WP d E Q pc ls (.ref a :: st) h = (tg a = t ∧ WP d E Q (pc + 3) ls (.int (h a f) :: st) h) := by
  refine WP_ofc (z := (pc + 3, ls, .int (h a f) :: st, h)) ((nxt_d hd).trans (show x_gf E k pc ls (.ref a :: st) h = _ by unfold x_gf; rw [hf]; rcases hty with rfl | rfl <;> rfl))
theorem WP_gfr {k j t f a : Nat} (hd : decode (eC E) pc = .ok (.getfield k, 3)) (hf : flk E.1 k = some (j, t, f, 2)) : WP d E Q pc ls (.ref a :: st) h = (tg a = t ∧ WP d E Q (pc + 3) ls (.ref (rf a f) :: st) h) := by
  refine WP_ofc (z := (pc + 3, ls, .ref (rf a f) :: st, h)) ((nxt_d hd).trans (show x_gf E k pc ls (.ref a :: st) h = _ by unfold x_gf; rw [hf]; rfl))
theorem WP_gfc {k j t f a : Nat} (hd : decode (eC E) pc = .ok (.getfield k, 3)) (hf : flk E.1 k = some (j, t, f, 3)) : WP d E Q pc ls (.ref a :: st) h = (tg a = t ∧ WP d E Q (pc + 3) ls (.int 0 :: st) h) := by
  refine WP_ofc (z := (pc + 3, ls, .int 0 :: st, h)) ((nxt_d hd).trans (show x_gf E k pc ls (.ref a :: st) h = _ by unfold x_gf; rw [hf]; rfl))
theorem WP_pfi {k j t f a : Nat} {x : Int32} (hd : decode (eC E) pc = .ok (.putfield k, 3)) (hf : flk E.1 k = some (j, t, f, 0)) : WP d E Q pc ls (.int x :: .ref a :: st) h = (tg a = t ∧ WP d E Q (pc + 3) ls st (mPut h a (upd (h a) f x))) := by
  have e1 : nxt E pc ls (.int x :: .ref a :: st) h = (if tg a = t ∧ (0 = 0 ∨ 0 = 1 ∧ (x = 0 ∨ x = 1)) then some (.inl (pc + 3, ls, st, mPut h a (upd (h a) f x))) else none) := (nxt_d hd).trans (show x_pf E k pc ls (.int x :: .ref a :: st) h = _ by unfold x_pf; rw [hf]; rfl)
  rw [WP_ofc e1]
  simp
theorem WP_pfz {k j t f a : Nat} {x : Int32} (hd : decode (eC E) pc = .ok (.putfield k, 3)) (hf : flk E.1 k = some (j, t, f, 1)) (hx : x = 0 ∨ x = 1) : WP d E Q pc ls (.int x :: .ref a :: st) h = (tg a = t ∧ WP d E Q (pc + 3) ls st (mPut h a (upd (h a) f x))) := by
  have e1 : nxt E pc ls (.int x :: .ref a :: st) h = (if tg a = t ∧ (1 = 0 ∨ 1 = 1 ∧ (x = 0 ∨ x = 1)) then some (.inl (pc + 3, ls, st, mPut h a (upd (h a) f x))) else none) := (nxt_d hd).trans (show x_pf E k pc ls (.int x :: .ref a :: st) h = _ by unfold x_pf; rw [hf]; rfl)
  rw [WP_ofc e1]
  simp [hx]
theorem WP_gs38 (hd : decode (eC E) pc = .ok (.getstatic 38, 3)) (hE : E.1 = 10) : WP d E Q pc ls st h = WP d E Q (pc + 3) ls (.int 1 :: st) h := WP_of (z := (_, _, _, _)) ((nxt_d hd).trans (show x_gs E 38 pc ls st h = _ by unfold x_gs; rw [if_pos ⟨hE, rfl⟩]))
theorem WP_gs1053 (hd : decode (eC E) pc = .ok (.getstatic 1053, 3)) (hE : E.1 = 10) : WP d E Q pc ls st h = WP d E Q (pc + 3) ls (.retAddr 0 :: st) h := WP_of (z := (_, _, _, _)) ((nxt_d hd).trans (show x_gs E 1053 pc ls st h = _ by unfold x_gs; rw [if_neg (fun z => absurd z.2 (by decide)), if_pos ⟨hE, rfl⟩]))
theorem WP_iald {a : Nat} {x : Int32} (hd : decode (eC E) pc = .ok (.iaload, 1)) : WP d E Q pc ls (.int x :: .ref a :: st) h = (tg a = 100 ∧ vp_in x (ln a) ∧ WP d E Q (pc + 1) ls (.int (h a x.toNatClampNeg) :: st) h) := by
  rw [WP_ofc (c := tg a = 100 ∧ ¬ (x < 0 ∨ ln a ≤ x.toNatClampNeg)) (z := (pc + 1, ls, .int (h a x.toNatClampNeg) :: st, h)) ((nxt_d hd).trans rfl)]
  simp only [vp_in, and_assoc]
theorem WP_bald {a : Nat} {x : Int32} (hd : decode (eC E) pc = .ok (.baload, 1)) : WP d E Q pc ls (.int x :: .ref a :: st) h = (vp_in x (ln a) ∧ if tg a = 101 then WP d E Q (pc + 1) ls (.int (h a x.toNatClampNeg) :: st) h else (tg a = 103 ∧ WP d E Q (pc + 1) ls (.int (byt a x.toNatClampNeg) :: st) h)) := by
  have e1 : nxt E pc ls (.int x :: .ref a :: st) h = (if tg a = 101 ∧ ¬ (x < 0 ∨ ln a ≤ x.toNatClampNeg) then some (.inl (pc + 1, ls, .int (h a x.toNatClampNeg) :: st, h)) else if tg a = 103 ∧ ¬ (x < 0 ∨ ln a ≤ x.toNatClampNeg) then some (.inl (pc + 1, ls, .int (byt a x.toNatClampNeg) :: st, h)) else none) := (nxt_d hd).trans rfl
  by_cases q : tg a = 101
  · simp only [q, true_and, Nat.reduceEqDiff, false_and, if_false] at e1
    rw [WP_ofc e1, if_pos q]
    rfl
  · simp only [q, false_and, if_false] at e1
    rw [WP_ofc e1, if_neg q]
    simp only [vp_in]
    exact propext ⟨fun z => ⟨z.1.2, z.1.1, z.2⟩, fun z => ⟨⟨z.2.1, z.1⟩, z.2.2⟩⟩
theorem WP_aald {a : Nat} {x : Int32} (hd : decode (eC E) pc = .ok (.aaload, 1)) : WP d E Q pc ls (.int x :: .ref a :: st) h = (tg a = 102 ∧ vp_in x (ln a) ∧ WP d E Q (pc + 1) ls (.ref (rf a x.toNatClampNeg) :: st) h) := by
  rw [WP_ofc (c := tg a = 102 ∧ ¬ (x < 0 ∨ ln a ≤ x.toNatClampNeg)) (z := (pc + 1, ls, .ref (rf a x.toNatClampNeg) :: st, h)) ((nxt_d hd).trans rfl)]
  simp only [vp_in, and_assoc]
theorem WP_iast {a : Nat} {x y : Int32} (hd : decode (eC E) pc = .ok (.iastore, 1)) : WP d E Q pc ls (.int y :: .int x :: .ref a :: st) h = (tg a = 100 ∧ vp_in x (ln a) ∧ WP d E Q (pc + 1) ls st (mPut h a (upd (h a) x.toNatClampNeg y))) := by
  rw [WP_ofc (c := tg a = 100 ∧ ¬ (x < 0 ∨ ln a ≤ x.toNatClampNeg)) (z := (pc + 1, ls, st, mPut h a (upd (h a) x.toNatClampNeg y))) ((nxt_d hd).trans rfl)]
  simp only [vp_in, and_assoc]
theorem WP_bast {a : Nat} {x y : Int32} (hd : decode (eC E) pc = .ok (.bastore, 1)) : WP d E Q pc ls (.int y :: .int x :: .ref a :: st) h = (tg a = 101 ∧ (y = 0 ∨ y = 1) ∧ vp_in x (ln a) ∧ WP d E Q (pc + 1) ls st (mPut h a (upd (h a) x.toNatClampNeg y))) := by
  rw [WP_ofc (c := tg a = 101 ∧ (y = 0 ∨ y = 1) ∧ ¬ (x < 0 ∨ ln a ≤ x.toNatClampNeg)) (z := (pc + 1, ls, st, mPut h a (upd (h a) x.toNatClampNeg y))) ((nxt_d hd).trans rfl)]
  simp only [vp_in, and_assoc]
theorem WP_alen {a : Nat} (hd : decode (eC E) pc = .ok (.arraylength, 1)) : WP d E Q pc ls (.ref a :: st) h = (100 ≤ tg a ∧ WP d E Q (pc + 1) ls (.int (Int32.ofNat (ln a)) :: st) h) :=
  WP_ofc (z := (pc + 1, ls, .int (Int32.ofNat (ln a)) :: st, h)) ((nxt_d hd).trans rfl)
theorem WP_cv {k j nn b : Nat} {E' : mE} {r as : List Value} (hd : decode (eC E) pc = .ok (.invokevirtual k, 3)) (hm : mlk E.1 k = some (j, 0, nn, E')) (hs : st.drop nn = .ref b :: r) (ha : (st.take nn).reverse = as) (hc : cats r ≤ 8) : WP d E Q pc ls st h = (tg b = E'.1 ∧ ∃ v h', Cal d E' (.ref b :: as) h v h' ∧ WP d E Q (pc + 3) ls (v.toList ++ r) h') := by
  subst ha
  have e1 : nxt E pc ls st h = (if tg b = E'.1 ∧ cats r ≤ 8 then some (.inr (.inl (E', .ref b :: (st.take nn).reverse, r))) else none) := (nxt_d hd).trans (show x_cv E k st = _ by unfold x_cv; simp only [hm, hs])
  by_cases q : tg b = E'.1
  · rw [if_pos ⟨q, hc⟩] at e1
    rw [WP_call e1]
    simp only [q, true_and]
  · rw [if_neg (fun z => q z.1)] at e1
    rw [WP_none e1]
    simp only [q, false_and]
theorem WP_cs {k j kd nn : Nat} {E' : mE} {r as : List Value} (hd : decode (eC E) pc = .ok (.invokestatic k, 3)) (hm : mlk E.1 k = some (j, kd, nn, E')) (hk : kd = 1 ∨ kd = 2) (hl : nn ≤ st.length) (hs : st.drop nn = r) (ha : (st.take nn).reverse = as) (hc : cats r ≤ 8) : WP d E Q pc ls st h = ∃ v h', Cal d E' as h v h' ∧ WP d E Q (pc + 3) ls (v.toList ++ r) h' := by
  subst ha; subst hs
  have e1 : nxt E pc ls st h = some (.inr (.inl (E', (st.take nn).reverse, st.drop nn))) := (nxt_d hd).trans (show x_cs E k pc ls st h = _ by
    unfold x_cs; rw [hm]
    rcases hk with rfl | rfl <;> exact if_pos ⟨hl, hc⟩)
  rw [WP_call e1]
theorem WP_mx {k j x1 : Nat} {x2 : mE} {x y : Int32} (hd : decode (eC E) pc = .ok (.invokestatic k, 3)) (hm : mlk E.1 k = some (j, 4, x1, x2)) (hc : cats st ≤ 8) : WP d E Q pc ls (.int y :: .int x :: st) h = WP d E Q (pc + 3) ls (.int (jmx x y) :: st) h := WP_of (z := (_, _, _, _)) ((nxt_d hd).trans (show x_cs E k pc ls (.int y :: .int x :: st) h = _ by unfold x_cs; rw [hm]; exact if_pos hc))
theorem WP_mn {k j x1 : Nat} {x2 : mE} {x y : Int32} (hd : decode (eC E) pc = .ok (.invokestatic k, 3)) (hm : mlk E.1 k = some (j, 5, x1, x2)) (hc : cats st ≤ 8) : WP d E Q pc ls (.int y :: .int x :: st) h = WP d E Q (pc + 3) ls (.int (jmn x y) :: st) h := WP_of (z := (_, _, _, _)) ((nxt_d hd).trans (show x_cs E k pc ls (.int y :: .int x :: st) h = _ by unfold x_cs; rw [hm]; exact if_pos hc))
theorem WP_mb {k j x1 : Nat} {x2 : mE} {x : Int32} (hd : decode (eC E) pc = .ok (.invokestatic k, 3)) (hm : mlk E.1 k = some (j, 6, x1, x2)) (hc : cats st ≤ 8) : WP d E Q pc ls (.int x :: st) h = WP d E Q (pc + 3) ls (.int (jab x) :: st) h := WP_of (z := (_, _, _, _)) ((nxt_d hd).trans (show x_cs E k pc ls (.int x :: st) h = _ by unfold x_cs; rw [hm]; exact if_pos hc))
theorem WP_ml {k j x1 : Nat} {x2 : mE} {x y : Int64} (hd : decode (eC E) pc = .ok (.invokestatic k, 3)) (hm : mlk E.1 k = some (j, 7, x1, x2)) (hc : cats st ≤ 8) : WP d E Q pc ls (.long y :: .long x :: st) h = WP d E Q (pc + 3) ls (.long (jml x y) :: st) h := WP_of (z := (_, _, _, _)) ((nxt_d hd).trans (show x_cs E k pc ls (.long y :: .long x :: st) h = _ by unfold x_cs; rw [hm]; exact if_pos hc))
theorem WP_ac {k j x1 a b : Nat} {x2 : mE} {n dp sp : Int32} (hd : decode (eC E) pc = .ok (.invokestatic k, 3)) (hm : mlk E.1 k = some (j, 3, x1, x2)) (hc : cats st ≤ 8) (h1 : ¬ sp < 0 ∧ ¬ dp < 0 ∧ ¬ n < 0) : WP d E Q pc ls (.int n :: .int dp :: .ref a :: .int sp :: .ref b :: st) h = ((tg a = 100 ∧ tg b = 100 ∧ sp.toNatClampNeg + n.toNatClampNeg ≤ ln b ∧ dp.toNatClampNeg + n.toNatClampNeg ≤ ln a) ∧ WP d E Q (pc + 3) ls st (mPut h a (va_cpy (h b) (h a) sp.toNatClampNeg dp.toNatClampNeg n.toNatClampNeg))) := by
  rw [WP_ofc (c := tg a = 100 ∧ tg b = 100 ∧ ¬ sp < 0 ∧ ¬ dp < 0 ∧ ¬ n < 0 ∧ sp.toNatClampNeg + n.toNatClampNeg ≤ ln b ∧ dp.toNatClampNeg + n.toNatClampNeg ≤ ln a ∧ cats st ≤ 8) (z := (pc + 3, ls, st, mPut h a (va_cpy (h b) (h a) sp.toNatClampNeg dp.toNatClampNeg n.toNatClampNeg))) ((nxt_d hd).trans (show x_cs E k pc ls (.int n :: .int dp :: .ref a :: .int sp :: .ref b :: st) h = _ by unfold x_cs; rw [hm]; rfl))]
  obtain ⟨q1, q2, q3⟩ := h1
  exact propext ⟨fun z => ⟨⟨z.1.1, z.1.2.1, z.1.2.2.2.2.2.1, z.1.2.2.2.2.2.2.1⟩, z.2⟩, fun z => ⟨⟨z.1.1, z.1.2.1, q1, q2, q3, z.1.2.2.1, z.1.2.2.2, hc⟩, z.2⟩⟩
theorem WP_ir {v : Int32} (hd : decode (eC E) pc = .ok (.ireturn, 1)) (hr : eR E = some .int) : WP d E Q pc ls [.int v] h = Q (some (.int v)) h := WP_ret ((nxt_d hd).trans (show x_ir E [.int v] = _ by unfold x_ir; rw [show E.2.2.2.2.2 = some .int from hr]; exact if_pos rfl))
theorem WP_zr {v : Int32} {ty : FieldType} (hd : decode (eC E) pc = .ok (.ireturn, 1)) (hr : eR E = some ty) : WP d E Q pc ls [.int v] h = (narrow ty (.int v) = .int v ∧ Q (some (.int v)) h) := by
  have e1 : nxt E pc ls [.int v] h = (if narrow ty (.int v) = .int v then some (.inr (.inr (some (.int v)))) else none) := (nxt_d hd).trans (show x_ir E [.int v] = _ by unfold x_ir; rw [show E.2.2.2.2.2 = some ty from hr])
  by_cases q : narrow ty (.int v) = .int v
  · rw [if_pos q] at e1; rw [WP_ret e1]; simp only [q, true_and]
  · rw [if_neg q] at e1; rw [WP_none e1]; simp only [q, false_and]
theorem WP_lr {v : Int64} (hd : decode (eC E) pc = .ok (.lreturn, 1)) (hr : eR E = some .long) : WP d E Q pc ls [.long v] h = Q (some (.long v)) h := WP_ret ((nxt_d hd).trans (show x_lr E [.long v] = _ by unfold x_lr; rw [show E.2.2.2.2.2 = some .long from hr]))
theorem WP_ar {v : Nat} {n : String} (hd : decode (eC E) pc = .ok (.areturn, 1)) (hr : eR E = some (.object n)) : WP d E Q pc ls [.ref v] h = Q (some (.ref v)) h := WP_ret ((nxt_d hd).trans (show x_ar E [.ref v] = _ by unfold x_ar; rw [show E.2.2.2.2.2 = some (.object n) from hr]))
theorem WP_vr (hd : decode (eC E) pc = .ok (.return_, 1)) (hr : eR E = none) : WP d E Q pc ls [] h = Q none h := WP_ret ((nxt_d hd).trans (show x_vr E [] = _ by unfold x_vr; rw [show E.2.2.2.2.2 = none from hr]))
end STP
