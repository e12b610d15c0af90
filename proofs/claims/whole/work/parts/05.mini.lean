/-! THE SMALL MACHINE: the claim's own code over a world of 68 cells whose references never change; h k j: the number in place j of cell k -/
abbrev mH : Type := Nat → Nat → Int32
def mU : Value := .float 0
def mPut (h : mH) (a : Nat) (f : Nat → Int32) : mH := fun b => if b = a then f else h b
def tgL : List Nat := [5, 3, 100, 102, 100, 100, 100, 100, 100, 100, 100, 100, 100, 100, 100, 101, 100, 100, 3, 100, 102, 100, 100, 100, 100, 100, 100, 100, 100, 100, 100, 100, 101, 100, 100, 3, 100, 102, 100, 100, 100, 100, 100, 100, 100, 100, 100, 100, 100, 101, 100, 100, 2, 100, 100, 4, 100, 100, 100, 6, 100, 100, 100, 100, 100, 100, 100, 100]
def lnL : List Nat := [0, 0, 5, 10, 5, 5, 5, 5, 5, 5, 5, 5, 5, 5, 10, 10, 5, 5, 0, 5, 10, 5, 5, 5, 5, 5, 5, 5, 5, 5, 5, 10, 10, 5, 5, 0, 5, 10, 5, 5, 5, 5, 5, 5, 5, 5, 5, 5, 10, 10, 5, 5, 0, 5, 10, 0, 96, 12, 7, 0, 89, 89, 89, 96, 12, 7, 5, 5]
def rfL : List (List Nat) := [[1, 18, 35, 0, 52, 55, 57, 0, 58], [2, 0, 0, 3, 14, 15, 0, 16, 17, 0], [], [4, 5, 6, 7, 8, 9, 10, 11, 12, 13], [], [], [], [], [], [], [], [], [], [], [], [], [], [], [19, 0, 0, 20, 31, 32, 0, 33, 34, 0], [], [21, 22, 23, 24, 25, 26, 27, 28, 29, 30], [], [], [], [], [], [], [], [], [], [], [], [], [], [], [36, 0, 0, 37, 48, 49, 0, 50, 51, 0], [], [38, 39, 40, 41, 42, 43, 44, 45, 46, 47], [], [], [], [], [], [], [], [], [], [], [], [], [], [], [53, 54, 0], [], [], [56, 0], [], [], [], [60, 61, 62, 0, 63, 64, 65, 0, 0, 66, 0, 67, 0], [], [], [], [], [], [], [], []]
def stL : List Nat := [11, 3, 3, 4, 2, 0, 6]
def byL : List (List Int32) := [[48, 48, 48, 48, 48, 48, 48, 48, 48, 48, 59], [107, 48, 59], [48, 48, 59], [48, 48, 48, 59], [48, 59], [], [109, 104, 119, 114, 115, 103]]
/-- what a cell is: 2 Mind, 3 Shop, 4 Text, 5 CopyOfACopy, 6 the reference, 10 a text constant, 100 int[], 101 boolean[], 102 int[][], 103 a text's bytes -/
def tg (k : Nat) : Nat := if k < 68 then tgL.getD k 0 else if k < 100 then 0 else if k < 107 then 10 else if k < 110 then 0 else if k < 117 then 103 else 0
def ln (k : Nat) : Nat := if k < 68 then lnL.getD k 0 else stL.getD (k - 110) 0
def rf (a k : Nat) : Nat := if a < 68 then (rfL.getD a []).getD k 0 else a + 10
def byt (a i : Nat) : Int32 := (byL.getD (a - 110) []).getD i 0

abbrev mR : Type := (Nat × List Value × List Value × mH) ⊕ (mE × List Value × List Value) ⊕ Option Value
def gN (n k : Nat) (s : Nat × List Value × List Value × mH) : Option mR := if n = k then some (.inl s) else none
def gJ (n k pc : Nat) (off : Int) (ls st : List Value) (h : mH) : Option mR := if n = k ∧ 0 ≤ (pc : Int) + off then some (.inl (((pc : Int) + off).toNat, ls, st, h)) else none
def o_i1 (st : List Value) (f : Int32 → List Value → Option mR) : Option mR := match st with
  | .int x :: r => f x r
  | _ => none
def o_i2 (st : List Value) (f : Int32 → Int32 → List Value → Option mR) : Option mR := match st with
  | .int y :: .int x :: r => f x y r
  | _ => none
def o_l1 (st : List Value) (f : Int64 → List Value → Option mR) : Option mR := match st with
  | .long x :: r => f x r
  | _ => none
def o_l2 (st : List Value) (f : Int64 → Int64 → List Value → Option mR) : Option mR := match st with
  | .long y :: .long x :: r => f x y r
  | _ => none
def o_r1 (st : List Value) (f : Nat → List Value → Option mR) : Option mR := match st with
  | .ref a :: r => f a r
  | _ => none
def o_ri (st : List Value) (f : Nat → Int32 → List Value → Option mR) : Option mR := match st with
  | .int i :: .ref a :: r => f a i r
  | _ => none
def o_rii (st : List Value) (f : Nat → Int32 → Int32 → List Value → Option mR) : Option mR := match st with
  | .int x :: .int i :: .ref a :: r => f a i x r
  | _ => none
def o_ir (st : List Value) (f : Nat → Int32 → List Value → Option mR) : Option mR := match st with
  | .int x :: .ref a :: r => f a x r
  | _ => none
def o_v1 (st : List Value) (f : Value → List Value → Option mR) : Option mR := match st with
  | v :: r => if v.category = 1 then f v r else none
  | _ => none
def o_v2 (st : List Value) (f : Value → Value → List Value → Option mR) : Option mR := match st with
  | v :: w :: r => if v.category = 1 ∧ w.category = 1 then f v w r else none
  | _ => none
def o_li (ls : List Value) (i : Nat) (f : Int32 → Option mR) : Option mR := match ls[i]? with
  | some (.int x) => f x
  | _ => none
def o_ll (ls : List Value) (i : Nat) (f : Int64 → Option mR) : Option mR := match ls[i]? with
  | some (.long x) => f x
  | _ => none
def o_lr (ls : List Value) (i : Nat) (f : Nat → Option mR) : Option mR := match ls[i]? with
  | some (.ref x) => f x
  | _ => none
def cnd : ClassFile.Cond → Int32 → Int32 → Bool
  | .eq, x, y => decide (x = y)
  | .ne, x, y => decide (¬ x = y)
  | .lt, x, y => decide (x < y)
  | .ge, x, y => decide (y ≤ x)
  | .gt, x, y => decide (y < x)
  | .le, x, y => decide (x ≤ y)
def cats (st : List Value) : Nat := (st.map fun v => v.category).sum
/-- no long stands right ahead of local i -/
def g1 (E : mE) (ls : List Value) (i : Nat) : Bool := !E.2.1 || i == 0 || (ls.getD (i - 1) mU).category == 1
def sti (E : mE) (n k pc i : Nat) (ls : List Value) (v : Value) (r : List Value) (h : mH) : Option mR := if i < ls.length ∧ g1 E ls i = true then gN n k (pc + k, ls.set i v, r, h) else none
def stl (E : mE) (n k pc i : Nat) (ls : List Value) (v : Int64) (r : List Value) (h : mH) : Option mR := if E.2.1 = true ∧ i + 1 < ls.length ∧ g1 E ls i = true then gN n k (pc + k, (ls.set i (.long v)).set (i + 1) mU, r, h) else none
def x_cv (E : mE) (i : Nat) (st : List Value) : Option mR := match mlk E.1 i with
  | some (_, 0, n, E') => match st.drop n with
    | .ref b :: r => if tg b = E'.1 ∧ cats r ≤ 8 then some (.inr (.inl (E', .ref b :: (st.take n).reverse, r))) else none
    | _ => none
  | _ => none
def x_cs (E : mE) (i pc : Nat) (ls st : List Value) (h : mH) : Option mR := match mlk E.1 i with
  | some (_, 1, n, E') => if n ≤ st.length ∧ cats (st.drop n) ≤ 8 then some (.inr (.inl (E', (st.take n).reverse, st.drop n))) else none
  | some (_, 2, n, E') => if n ≤ st.length ∧ cats (st.drop n) ≤ 8 then some (.inr (.inl (E', (st.take n).reverse, st.drop n))) else none
  | some (_, 3, _, _) => match st with
    | .int n :: .int dp :: .ref a :: .int sp :: .ref b :: r => if tg a = 100 ∧ tg b = 100 ∧ ¬ sp < 0 ∧ ¬ dp < 0 ∧ ¬ n < 0 ∧ sp.toNatClampNeg + n.toNatClampNeg ≤ ln b ∧ dp.toNatClampNeg + n.toNatClampNeg ≤ ln a ∧ cats r ≤ 8 then some (.inl (pc + 3, ls, r, mPut h a (va_cpy (h b) (h a) sp.toNatClampNeg dp.toNatClampNeg n.toNatClampNeg))) else none
    | _ => none
  | some (_, 4, _, _) => o_i2 st fun x y r => if cats r ≤ 8 then some (.inl (pc + 3, ls, .int (if x < y then y else x) :: r, h)) else none
  | some (_, 5, _, _) => o_i2 st fun x y r => if cats r ≤ 8 then some (.inl (pc + 3, ls, .int (if y < x then y else x) :: r, h)) else none
  | some (_, 6, _, _) => o_i1 st fun x r => if cats r ≤ 8 then some (.inl (pc + 3, ls, .int (if 0 ≤ x then x else 0 - x) :: r, h)) else none
  | some (_, 7, _, _) => o_l2 st fun x y r => if cats r ≤ 8 then some (.inl (pc + 3, ls, .long (if y < x then x else y) :: r, h)) else none
  | _ => none
def x_gf (E : mE) (i pc : Nat) (ls st : List Value) (h : mH) : Option mR := match flk E.1 i with
  | some (_, t, k, ty) => o_r1 st fun a r => if tg a = t then some (.inl (pc + 3, ls, (if ty = 2 then .ref (rf a k) else if ty = 3 then .int 0 else .int (h a k)) :: r, h)) else none
  | _ => none
def x_pf (E : mE) (i pc : Nat) (ls st : List Value) (h : mH) : Option mR := match flk E.1 i with
  | some (_, t, k, ty) => o_ir st fun a x r => if tg a = t ∧ (ty = 0 ∨ ty = 1 ∧ (x = 0 ∨ x = 1)) then some (.inl (pc + 3, ls, r, mPut h a (upd (h a) k x))) else none
  | _ => none
def x_gs (E : mE) (i pc : Nat) (ls st : List Value) (h : mH) : Option mR := if E.1 = 10 ∧ i = 38 then some (.inl (pc + 3, ls, .int 1 :: st, h)) else if E.1 = 10 ∧ i = 1053 then some (.inl (pc + 3, ls, Value.retAddr 0 :: st, h)) else none
def x_ts (lo hi dflt : Int) (offs : Array Int) (x : Int32) : Option Int := if x.toInt < lo ∨ hi < x.toInt then some dflt else offs[(x.toInt - lo).toNat]?
def x_ir (E : mE) (st : List Value) : Option mR := match st, E.2.2.2.2.2 with
  | [.int v], some ty => if narrow ty (.int v) = .int v then some (.inr (.inr (some (.int v)))) else none
  | _, _ => none
def x_lr (E : mE) (st : List Value) : Option mR := match st, E.2.2.2.2.2 with
  | [.long v], some .long => some (.inr (.inr (some (.long v))))
  | _, _ => none
def x_ar (E : mE) (st : List Value) : Option mR := match st, E.2.2.2.2.2 with
  | [.ref v], some (.object _) => some (.inr (.inr (some (.ref v))))
  | _, _ => none
def x_vr (E : mE) (st : List Value) : Option mR := match st, E.2.2.2.2.2 with
  | [], none => some (.inr (.inr none))
  | _, _ => none
def x_ldc (E : mE) (i pc : Nat) (ls st : List Value) (h : mH) (n : Nat) : Option mR := match clk E.1 i with
  | some (_, .int v) => gN n 2 (pc + 2, ls, .int v :: st, h)
  | some (_, .ref v) => gN n 2 (pc + 2, ls, .ref v :: st, h)
  | _ => none
def x_ldw (E : mE) (i pc : Nat) (ls st : List Value) (h : mH) (n : Nat) : Option mR := match clk E.1 i with
  | some (_, .int v) => gN n 3 (pc + 3, ls, .int v :: st, h)
  | _ => none
def x_ld2 (E : mE) (i pc : Nat) (ls st : List Value) (h : mH) (n : Nat) : Option mR := match clk E.1 i with
  | some (_, .long v) => gN n 3 (pc + 3, ls, .long v :: st, h)
  | _ => none
def nx (E : mE) (pc : Nat) (ls st : List Value) (h : mH) (n : Nat) : Instr → Option mR
  | .iconst v => gN n 1 (pc + 1, ls, .int (Int32.ofInt v) :: st, h)
  | .bipush v => gN n 2 (pc + 2, ls, .int (Int8.ofInt v).toInt32 :: st, h)
  | .sipush v => gN n 3 (pc + 3, ls, .int (Int16.ofInt v).toInt32 :: st, h)
  | .lconst v => gN n 1 (pc + 1, ls, .long (Int64.ofNat v) :: st, h)
  | .ldc i => x_ldc E i pc ls st h n
  | .ldc_w i => x_ldw E i pc ls st h n
  | .ldc2_w i => x_ld2 E i pc ls st h n
  | .iload_n k => o_li ls k fun x => gN n 1 (pc + 1, ls, .int x :: st, h)
  | .iload k => o_li ls k fun x => gN n 2 (pc + 2, ls, .int x :: st, h)
  | .lload_n k => o_ll ls k fun x => gN n 1 (pc + 1, ls, .long x :: st, h)
  | .lload k => o_ll ls k fun x => gN n 2 (pc + 2, ls, .long x :: st, h)
  | .aload_n k => o_lr ls k fun x => gN n 1 (pc + 1, ls, .ref x :: st, h)
  | .aload k => o_lr ls k fun x => gN n 2 (pc + 2, ls, .ref x :: st, h)
  | .istore_n k => o_i1 st fun x r => sti E n 1 pc k ls (.int x) r h
  | .istore k => o_i1 st fun x r => sti E n 2 pc k ls (.int x) r h
  | .astore_n k => o_r1 st fun x r => sti E n 1 pc k ls (.ref x) r h
  | .astore k => o_r1 st fun x r => sti E n 2 pc k ls (.ref x) r h
  | .lstore_n k => o_l1 st fun x r => stl E n 1 pc k ls x r h
  | .lstore k => o_l1 st fun x r => stl E n 2 pc k ls x r h
  | .iinc k v => o_li ls k fun x => sti E n 3 pc k ls (.int (x + Int32.ofInt v)) st h
  | .iadd => o_i2 st fun x y r => gN n 1 (pc + 1, ls, .int (x + y) :: r, h)
  | .isub => o_i2 st fun x y r => gN n 1 (pc + 1, ls, .int (x - y) :: r, h)
  | .imul => o_i2 st fun x y r => gN n 1 (pc + 1, ls, .int (x * y) :: r, h)
  | .iand => o_i2 st fun x y r => gN n 1 (pc + 1, ls, .int (x &&& y) :: r, h)
  | .ior => o_i2 st fun x y r => gN n 1 (pc + 1, ls, .int (x ||| y) :: r, h)
  | .ixor => o_i2 st fun x y r => gN n 1 (pc + 1, ls, .int (x ^^^ y) :: r, h)
  | .ishl => o_i2 st fun x y r => gN n 1 (pc + 1, ls, .int (x <<< (y &&& 31)) :: r, h)
  | .ishr => o_i2 st fun x y r => gN n 1 (pc + 1, ls, .int (x >>> (y &&& 31)) :: r, h)
  | .iushr => o_i2 st fun x y r => gN n 1 (pc + 1, ls, .int ((x.toUInt32 >>> (y.toUInt32 &&& Int32.toUInt32 31)).toInt32) :: r, h)
  | .idiv => o_i2 st fun x y r => if y = 0 then none else gN n 1 (pc + 1, ls, .int (x / y) :: r, h)
  | .irem => o_i2 st fun x y r => if y = 0 then none else gN n 1 (pc + 1, ls, .int (x - x / y * y) :: r, h)
  | .ineg => o_i1 st fun x r => gN n 1 (pc + 1, ls, .int (-x) :: r, h)
  | .i2l => o_i1 st fun x r => gN n 1 (pc + 1, ls, .long x.toInt64 :: r, h)
  | .i2b => o_i1 st fun x r => gN n 1 (pc + 1, ls, .int x.toInt8.toInt32 :: r, h)
  | .i2c => o_i1 st fun x r => gN n 1 (pc + 1, ls, .int (x.toUInt32 % 65536).toInt32 :: r, h)
  | .ladd => o_l2 st fun x y r => gN n 1 (pc + 1, ls, .long (x + y) :: r, h)
  | .lsub => o_l2 st fun x y r => gN n 1 (pc + 1, ls, .long (x - y) :: r, h)
  | .lmul => o_l2 st fun x y r => gN n 1 (pc + 1, ls, .long (x * y) :: r, h)
  | .ldiv => o_l2 st fun x y r => if y = 0 then none else gN n 1 (pc + 1, ls, .long (x / y) :: r, h)
  | .lrem => o_l2 st fun x y r => if y = 0 then none else gN n 1 (pc + 1, ls, .long (x - x / y * y) :: r, h)
  | .lcmp => o_l2 st fun x y r => gN n 1 (pc + 1, ls, .int (lg_cmp x y) :: r, h)
  | .dup => o_v1 st fun v r => gN n 1 (pc + 1, ls, v :: v :: r, h)
  | .pop => o_v1 st fun _ r => gN n 1 (pc + 1, ls, r, h)
  | .dup2 => o_v2 st fun v w r => gN n 1 (pc + 1, ls, v :: w :: v :: w :: r, h)
  | .ifCond c off => o_i1 st fun x r => if 0 ≤ (pc : Int) + off then (if cnd c x 0 = true then gJ n 3 pc off ls r h else gN n 3 (pc + 3, ls, r, h)) else none
  | .if_icmp c off => o_i2 st fun x y r => if 0 ≤ (pc : Int) + off then (if cnd c x y = true then gJ n 3 pc off ls r h else gN n 3 (pc + 3, ls, r, h)) else none
  | .goto off => gJ n 3 pc off ls st h
  | .tableswitch dflt lo hi offs => o_i1 st fun x r => match x_ts lo hi dflt offs x with
    | some off => gJ n n pc off ls r h
    | none => none
  | .lookupswitch dflt ps => o_i1 st fun x r => if (ps.toList.zip (ps.toList.drop 1)).all (fun (a, next) => a.1 < next.1) = true then gJ n n pc (Op.lookupswitch.offset ps.toList dflt x.toInt) ls r h else none
  | .getfield i => if n = 3 then x_gf E i pc ls st h else none
  | .putfield i => if n = 3 then x_pf E i pc ls st h else none
  | .getstatic i => if n = 3 then x_gs E i pc ls st h else none
  | .iaload => o_ri st fun a i r => if tg a = 100 ∧ ¬ (i < 0 ∨ ln a ≤ i.toNatClampNeg) then gN n 1 (pc + 1, ls, .int (h a i.toNatClampNeg) :: r, h) else none
  | .baload => o_ri st fun a i r => if tg a = 101 ∧ ¬ (i < 0 ∨ ln a ≤ i.toNatClampNeg) then gN n 1 (pc + 1, ls, .int (h a i.toNatClampNeg) :: r, h) else if tg a = 103 ∧ ¬ (i < 0 ∨ ln a ≤ i.toNatClampNeg) then gN n 1 (pc + 1, ls, .int (byt a i.toNatClampNeg) :: r, h) else none
  | .aaload => o_ri st fun a i r => if tg a = 102 ∧ ¬ (i < 0 ∨ ln a ≤ i.toNatClampNeg) then gN n 1 (pc + 1, ls, .ref (rf a i.toNatClampNeg) :: r, h) else none
  | .iastore => o_rii st fun a i x r => if tg a = 100 ∧ ¬ (i < 0 ∨ ln a ≤ i.toNatClampNeg) then gN n 1 (pc + 1, ls, r, mPut h a (upd (h a) i.toNatClampNeg x)) else none
  | .bastore => o_rii st fun a i x r => if tg a = 101 ∧ (x = 0 ∨ x = 1) ∧ ¬ (i < 0 ∨ ln a ≤ i.toNatClampNeg) then gN n 1 (pc + 1, ls, r, mPut h a (upd (h a) i.toNatClampNeg x)) else none
  | .arraylength => o_r1 st fun a r => if 100 ≤ tg a then gN n 1 (pc + 1, ls, .int (Int32.ofNat (ln a)) :: r, h) else none
  | .invokevirtual i => if n = 3 then x_cv E i st else none
  | .invokestatic i => if n = 3 then x_cs E i pc ls st h else none
  | .ireturn => if n = 1 then x_ir E st else none
  | .lreturn => if n = 1 then x_lr E st else none
  | .areturn => if n = 1 then x_ar E st else none
  | .return_ => if n = 1 then x_vr E st else none
  | _ => none
def nxt (E : mE) (pc : Nat) (ls st : List Value) (h : mH) : Option mR := match decode E.2.2.2.1 pc with
  | .ok (i, n) => nx E pc ls st h n i
  | .error _ => none
abbrev mC : Type := mE → List Value → mH → Option Value → mH → Prop
abbrev mK : Type := Nat → List Value → List Value → mH → Prop
def fin (C : mC) (K : mK) (Q : Option Value → mH → Prop) (pc : Nat) (ls : List Value) (h : mH) : Option mR → Prop
  | none => False
  | some (.inl z) => K z.1 z.2.1 z.2.2.1 z.2.2.2
  | some (.inr (.inl z)) => ∃ v h', C z.1 z.2.1 h v h' ∧ K (pc + 3) ls (v.toList ++ z.2.2) h'
  | some (.inr (.inr v)) => Q v h
def stp (C : mC) (K : mK) (Q : Option Value → mH → Prop) (E : mE) (pc : Nat) (ls st : List Value) (h : mH) : Prop := fin C K Q pc ls h (nxt E pc ls st h)
/-- the least relation that the steps close -/
def WPx (C : mC) (E : mE) (Q : Option Value → mH → Prop) (pc : Nat) (ls st : List Value) (h : mH) : Prop :=
  ∀ P : mK, (∀ pc ls st h, stp C P Q E pc ls st h → P pc ls st h) → P pc ls st h
def entL : List Value → List Value
  | [] => []
  | v :: vs => if v.category = 2 then v :: mU :: entL vs else v :: entL vs
def ent (E : mE) (as : List Value) : List Value := entL as ++ List.replicate (E.2.2.2.2.1 - (entL as).length) mU
def eOk (E : mE) (as : List Value) : Bool := decide ((entL as).length ≤ E.2.2.2.2.1) && (E.2.1 || as.all (fun v => v.category == 1))
def Cal : Nat → mC
  | 0 => fun _ _ _ _ _ => False
  | d + 1 => fun E as h r h' => eOk E as = true ∧ WPx (Cal d) E (fun r' h'' => r' = r ∧ h'' = h') 0 (ent E as) [] h
def WP (d : Nat) (E : mE) (Q : Option Value → mH → Prop) (pc : Nat) (ls st : List Value) (h : mH) : Prop := WPx (Cal d) E Q pc ls st h
theorem stp_mono {C : mC} {K K' : mK} {Q : Option Value → mH → Prop} {E : mE} {pc : Nat} {ls st : List Value} {h : mH} (hk : ∀ a b c d, K a b c d → K' a b c d) (hs : stp C K Q E pc ls st h) : stp C K' Q E pc ls st h := by
  unfold stp at hs ⊢
  generalize nxt E pc ls st h = z at hs ⊢
  match z, hs with
  | some (.inl z), hs => exact hk _ _ _ _ hs
  | some (.inr (.inl z)), hs => obtain ⟨v, h', a, b⟩ := hs; exact ⟨v, h', a, hk _ _ _ _ b⟩
  | some (.inr (.inr v)), hs => exact hs
theorem WPx_fold {C : mC} {E : mE} {Q : Option Value → mH → Prop} {pc : Nat} {ls st : List Value} {h : mH} (hs : stp C (WPx C E Q) Q E pc ls st h) : WPx C E Q pc ls st h := by
  intro P hP
  exact hP _ _ _ _ (stp_mono (fun a b c d hw => hw P hP) hs)
theorem WPx_unfold {C : mC} {E : mE} {Q : Option Value → mH → Prop} {pc : Nat} {ls st : List Value} {h : mH} (hw : WPx C E Q pc ls st h) : stp C (WPx C E Q) Q E pc ls st h :=
  hw (fun pc ls st h => stp C (WPx C E Q) Q E pc ls st h) (fun _ _ _ _ hs => stp_mono (fun _ _ _ _ => WPx_fold) hs)
theorem WP_eq (d : Nat) (E : mE) (Q : Option Value → mH → Prop) (pc : Nat) (ls st : List Value) (h : mH) : WP d E Q pc ls st h = stp (Cal d) (WP d E Q) Q E pc ls st h := propext ⟨WPx_unfold, WPx_fold⟩
theorem WP_of {d : Nat} {E : mE} {Q : Option Value → mH → Prop} {pc : Nat} {ls st : List Value} {h : mH} {z : Nat × List Value × List Value × mH} (e : nxt E pc ls st h = some (.inl z)) : WP d E Q pc ls st h = WP d E Q z.1 z.2.1 z.2.2.1 z.2.2.2 := by
  rw [WP_eq, stp, e]; rfl
theorem WP_call {d : Nat} {E : mE} {Q : Option Value → mH → Prop} {pc : Nat} {ls st : List Value} {h : mH} {z : mE × List Value × List Value} (e : nxt E pc ls st h = some (.inr (.inl z))) : WP d E Q pc ls st h = ∃ v h', Cal d z.1 z.2.1 h v h' ∧ WP d E Q (pc + 3) ls (v.toList ++ z.2.2) h' := by
  rw [WP_eq, stp, e]; rfl
theorem WP_ret {d : Nat} {E : mE} {Q : Option Value → mH → Prop} {pc : Nat} {ls st : List Value} {h : mH} {v : Option Value} (e : nxt E pc ls st h = some (.inr (.inr v))) : WP d E Q pc ls st h = Q v h := by
  rw [WP_eq, stp, e]; rfl
theorem WP_none {d : Nat} {E : mE} {Q : Option Value → mH → Prop} {pc : Nat} {ls st : List Value} {h : mH} (e : nxt E pc ls st h = none) : WP d E Q pc ls st h = False := by
  rw [WP_eq, stp, e]; rfl
theorem Cal_succ (d : Nat) (E : mE) (as : List Value) (h : mH) (r : Option Value) (h' : mH) : Cal (d + 1) E as h r h' = (eOk E as = true ∧ WP d E (fun r' h'' => r' = r ∧ h'' = h') 0 (ent E as) [] h) := rfl
theorem WPx_post {C : mC} {E : mE} {Q Q' : Option Value → mH → Prop} (hq : ∀ r h, Q r h → Q' r h) {pc : Nat} {ls st : List Value} {h : mH} (hw : WPx C E Q pc ls st h) : WPx C E Q' pc ls st h := by
  refine hw (fun pc ls st h => WPx C E Q' pc ls st h) (fun pc ls st h hs => WPx_fold ?_)
  unfold stp at hs ⊢
  generalize nxt E pc ls st h = z at hs ⊢
  match z, hs with
  | some (.inl z), hs => exact hs
  | some (.inr (.inl z)), hs => exact hs
  | some (.inr (.inr v)), hs => exact hq _ _ hs
/-- what one run answers every run answers -/
theorem WPx_det {C1 C2 : mC} (hC : ∀ E as h r h' r2 h2, C1 E as h r h' → C2 E as h r2 h2 → r = r2 ∧ h' = h2) {E : mE} {Q1 Q2 : Option Value → mH → Prop} {pc : Nat} {ls st : List Value} {h : mH} (h1 : WPx C1 E Q1 pc ls st h) (h2 : WPx C2 E Q2 pc ls st h) : ∃ r h', Q1 r h' ∧ Q2 r h' := by
  refine h1 (fun pc ls st h => WPx C2 E Q2 pc ls st h → ∃ r h', Q1 r h' ∧ Q2 r h') (fun pc ls st h hs hw => ?_) h2
  have hw := WPx_unfold hw
  unfold stp at hs hw
  generalize nxt E pc ls st h = z at hs hw
  match z, hs, hw with
  | some (.inl z), hs, hw => exact hs hw
  | some (.inr (.inl z)), hs, hw =>
    obtain ⟨v, h', a, b⟩ := hs
    obtain ⟨v2, h2', a2, b2⟩ := hw
    obtain ⟨e1, e2⟩ := hC _ _ _ _ _ _ _ a a2
    subst e1; subst e2
    exact b b2
  | some (.inr (.inr v)), hs, hw => exact ⟨_, _, hs, hw⟩
theorem Cal_det : ∀ (d d2 : Nat) (E : mE) (as : List Value) (h : mH) (r : Option Value) (h' : mH) (r2 : Option Value) (h2 : mH), Cal d E as h r h' → Cal d2 E as h r2 h2 → r = r2 ∧ h' = h2
  | 0, _, _, _, _, _, _, _, _, h1, _ => h1.elim
  | d + 1, 0, _, _, _, _, _, _, _, _, h2 => h2.elim
  | d + 1, d2 + 1, E, as, h, r, h', r2, h2, a, b => by
    obtain ⟨x, y, ⟨e1, e2⟩, e3, e4⟩ := WPx_det (Cal_det d d2) a.2 b.2
    exact ⟨e1.symm.trans e3, e2.symm.trans e4⟩
/-- a contract, to rewrite with -/
theorem Cal_iff {d : Nat} {E : mE} {as : List Value} {h : mH} {r : Option Value} {h' : mH} (hc : Cal d E as h r h') (r2 : Option Value) (h2 : mH) : Cal d E as h r2 h2 ↔ r2 = r ∧ h2 = h' := by
  constructor
  · intro hx
    obtain ⟨e1, e2⟩ := Cal_det _ _ _ _ _ _ _ _ _ hx hc
    exact ⟨e1, e2⟩
  · rintro ⟨rfl, rfl⟩
    exact hc
/-- out of a walk -/
theorem Cal_of {d : Nat} {E : mE} {as : List Value} {h : mH} {r : Option Value} {h' : mH} (ho : eOk E as = true) (hw : ∀ Q : Option Value → mH → Prop, Q r h' → WP d E Q 0 (ent E as) [] h) : Cal (d + 1) E as h r h' := ⟨ho, hw _ ⟨rfl, rfl⟩⟩
theorem Cal_mono : ∀ (d : Nat) (E : mE) (as : List Value) (h : mH) (r : Option Value) (h' : mH), Cal d E as h r h' → Cal (d + 1) E as h r h'
  | 0, _, _, _, _, _, h1 => h1.elim
  | d + 1, E, as, h, r, h', a => by
    refine ⟨a.1, ?_⟩
    refine a.2 (fun pc ls st h => WPx (Cal (d + 1)) E (fun r' h'' => r' = r ∧ h'' = h') pc ls st h) (fun pc ls st h hs => WPx_fold ?_)
    unfold stp at hs ⊢
    generalize nxt E pc ls st h = z at hs ⊢
    match z, hs with
    | some (.inl z), hs => exact hs
    | some (.inr (.inl z)), hs =>
      obtain ⟨v, h', a, b⟩ := hs
      exact ⟨v, h', Cal_mono d _ _ _ _ _ a, b⟩
    | some (.inr (.inr v)), hs => exact hs
theorem Cal_up {d E as h r h'} (hc : Cal d E as h r h') : ∀ k, Cal (d + k) E as h r h'
  | 0 => hc
  | k + 1 => Cal_mono _ _ _ _ _ _ (Cal_up hc k)
theorem Cal_le {d d' : Nat} {E as h r h'} (hc : Cal d E as h r h') (hd : d ≤ d') : Cal d' E as h r h' := by
  obtain ⟨k, rfl⟩ := Nat.exists_eq_add_of_le hd
  exact Cal_up hc k
