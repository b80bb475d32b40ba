/-! The abstract machine: values, cells, memory; one step with what follows as a predicate. -/
-- int, long, reference to a cell of ours by its number (none: null), a row that stands outside and is only read
abbrev xm_V : Type := Int32 ⊕ (Int64 ⊕ (Option Nat ⊕ Nat))
-- a field of an object: a number (it stands in the contents), or a reference
abbrev xm_F : Type := Option (Option Nat)
-- shape of a cell: a row (0 int, 1 long, 2 boolean; its length), or an object (the number of its kind, its fields)
abbrev xm_T : Type := (Nat × Nat) ⊕ (Nat × List xm_F)
-- memory: shapes; ints and booleans by cell and place; longs by cell and place
abbrev xm_M : Type := List xm_T × (Nat → Nat → Int32) × (Nat → Nat → Int64)
abbrev xm_L : Type := List (Option xm_V)
abbrev xm_K : Type := Nat → xm_L → List xm_V → xm_M → Nat → Nat → Prop
abbrev xv_i (x : Int32) : xm_V := Sum.inl x
abbrev xv_l (x : Int64) : xm_V := Sum.inr (Sum.inl x)
abbrev xv_r (k : Nat) : xm_V := Sum.inr (Sum.inr (Sum.inl (some k)))
abbrev xv_n : xm_V := Sum.inr (Sum.inr (Sum.inl none))
abbrev xv_x (k : Nat) : xm_V := Sum.inr (Sum.inr (Sum.inr k))
abbrev xt_r (t n : Nat) : xm_T := Sum.inl (t, n)
abbrev xt_o (ci : Nat) (fs : List xm_F) : xm_T := Sum.inr (ci, fs)
-- a method: instructions with the place behind; constants; fields (kind of object, place, type: 0 int, 2 reference, 3 boolean, 12 reference that is written once, 22 such a one elsewhere); what 'new' makes; statics; calls that are one step (1 arraycopy of longs, 2 Object(); at 0 stands 9 for a method <init>)
abbrev xm_Y : Type := (Nat → Option (Jvm.ClassFile.Instr × Nat)) × (Nat → Option xm_V) × (Nat → Option (Nat × Nat × Nat)) × (Nat → Option (Nat × List xm_F)) × (Nat → Option Nat) × (Nat → Nat)
def xm_cat : xm_V → Nat
  | Sum.inr (Sum.inl _) => 2
  | _ => 1
def xm_c8 (st : List xm_V) : Bool := Nat.ble ((st.map xm_cat).sum) 8
def xu_2 {α : Type} (f : Nat → Nat → α) (k j : Nat) (x : α) : Nat → Nat → α := fun a b => if a = k then (if b = j then x else f a b) else f a b
def xz_2 {α : Type} (f : Nat → Nat → α) (k : Nat) (z : α) : Nat → Nat → α := fun a b => if a = k then z else f a b
def xc_y {α : Type} (f : Nat → Nat → α) (k : Nat) (g : Nat → α) : Nat → Nat → α := fun a b => if a = k then g b else f a b
-- a place of the locals is written: a long ahead of it is broken; behind a long the next place is gone
def xm_brk (loc : xm_L) (i : Nat) : xm_L := match i with
  | 0 => loc
  | j + 1 => match loc[j]? with
    | some (some (Sum.inr (Sum.inl _))) => loc.set j none
    | _ => loc
def xm_st1 (loc : xm_L) (i : Nat) (v : xm_V) : xm_L := (xm_brk loc i).set i (some v)
def xm_st2 (loc : xm_L) (i : Nat) (v : xm_V) : xm_L := ((xm_brk loc i).set i (some v)).set (i + 1) none
def xm_fv (I : Nat → Nat → Int32) (k j : Nat) : xm_F → xm_V
  | none => xv_i (I k j)
  | some none => xv_n
  | some (some q) => xv_r q
def xm_c1 (c : Jvm.ClassFile.Cond) (x : Int32) : Prop := match c with
  | .eq => x = 0
  | .ne => ¬ x = 0
  | .lt => x < 0
  | .ge => 0 ≤ x
  | .gt => 0 < x
  | .le => x ≤ 0
def xm_c2 (c : Jvm.ClassFile.Cond) (x y : Int32) : Prop := match c with
  | .eq => x = y
  | .ne => ¬ x = y
  | .lt => x < y
  | .ge => y ≤ x
  | .gt => y < x
  | .le => x ≤ y
-- lengths of instructions (0: a switch)
def xm_len (i : Jvm.ClassFile.Instr) : Nat := match i with
  | .bipush _ => 2
  | .ldc _ => 2
  | .iload _ => 2
  | .lload _ => 2
  | .aload _ => 2
  | .istore _ => 2
  | .lstore _ => 2
  | .astore _ => 2
  | .newarray _ => 2
  | .sipush _ => 3
  | .ldc2_w _ => 3
  | .iinc _ _ => 3
  | .goto _ => 3
  | .ifCond _ _ => 3
  | .if_icmp _ _ => 3
  | .getfield _ => 3
  | .putfield _ => 3
  | .getstatic _ => 3
  | .new _ => 3
  | .invokevirtual _ => 3
  | .invokestatic _ => 3
  | .invokespecial _ => 3
  | .tableswitch _ _ _ _ => 0
  | .lookupswitch _ _ => 0
  | _ => 1
-- a method's instructions by place, in runs: (first place behind the run, its instructions with the place behind each)
abbrev xm_I : Type := Nat × Jvm.ClassFile.Instr × Nat
def xm_in (pc : Nat) : List xm_I → Option (Jvm.ClassFile.Instr × Nat)
  | [] => none
  | q :: r => bif Nat.beq q.1 pc then some q.2 else xm_in pc r
def xm_tb (pc : Nat) : List (Nat × List xm_I) → Option (Jvm.ClassFile.Instr × Nat)
  | [] => none
  | q :: r => bif Nat.blt pc q.1 then xm_in pc q.2 else xm_tb pc r
-- the one step
def xm_s1 (Y : xm_Y) (xt : Nat → Nat × (Nat → Int32)) (nL : Nat) (pc : Nat) (loc : xm_L) (st : List xm_V) (M : xm_M) (nc ns : Nat) (K : xm_K) : Prop :=
  ∃ (i : Jvm.ClassFile.Instr) (pn : Nat), Y.1 pc = some (i, pn) ∧ (match i with
    | .iconst n => K pn loc (xv_i (Int32.ofInt n) :: st) M nc ns
    | .bipush n => K pn loc (xv_i (Int8.ofInt n).toInt32 :: st) M nc ns
    | .sipush n => K pn loc (xv_i (Int16.ofInt n).toInt32 :: st) M nc ns
    | .lconst n => K pn loc (xv_l (Int64.ofNat (n : Nat)) :: st) M nc ns
    | .ldc ix => ∃ v, Y.2.1 ix = some (xv_i v) ∧ K pn loc (xv_i v :: st) M nc ns
    | .ldc2_w ix => ∃ v, Y.2.1 ix = some (xv_l v) ∧ K pn loc (xv_l v :: st) M nc ns
    | .iload k => ∃ x, loc[k]? = some (some (xv_i x)) ∧ K pn loc (xv_i x :: st) M nc ns
    | .iload_n k => ∃ x, loc[(k : Nat)]? = some (some (xv_i x)) ∧ K pn loc (xv_i x :: st) M nc ns
    | .lload k => ∃ x, loc[k]? = some (some (xv_l x)) ∧ K pn loc (xv_l x :: st) M nc ns
    | .lload_n k => ∃ x, loc[(k : Nat)]? = some (some (xv_l x)) ∧ K pn loc (xv_l x :: st) M nc ns
    | .aload k => (∃ q, loc[k]? = some (some (xv_r q)) ∧ K pn loc (xv_r q :: st) M nc ns) ∨ (∃ q, loc[k]? = some (some (xv_x q)) ∧ K pn loc (xv_x q :: st) M nc ns)
    | .aload_n k => (∃ q, loc[(k : Nat)]? = some (some (xv_r q)) ∧ K pn loc (xv_r q :: st) M nc ns) ∨ (∃ q, loc[(k : Nat)]? = some (some (xv_x q)) ∧ K pn loc (xv_x q :: st) M nc ns)
    | .istore k => ∃ x r, st = xv_i x :: r ∧ k < nL ∧ K pn (xm_st1 loc k (xv_i x)) r M nc ns
    | .istore_n k => ∃ x r, st = xv_i x :: r ∧ (k : Nat) < nL ∧ K pn (xm_st1 loc k (xv_i x)) r M nc ns
    | .lstore k => ∃ x r, st = xv_l x :: r ∧ k + 1 < nL ∧ K pn (xm_st2 loc k (xv_l x)) r M nc ns
    | .lstore_n k => ∃ x r, st = xv_l x :: r ∧ (k : Nat) + 1 < nL ∧ K pn (xm_st2 loc k (xv_l x)) r M nc ns
    | .astore k => ∃ x r, st = xv_r x :: r ∧ k < nL ∧ K pn (xm_st1 loc k (xv_r x)) r M nc ns
    | .astore_n k => ∃ x r, st = xv_r x :: r ∧ (k : Nat) < nL ∧ K pn (xm_st1 loc k (xv_r x)) r M nc ns
    | .iinc k n => ∃ x, loc[k]? = some (some (xv_i x)) ∧ k < nL ∧ K pn (xm_st1 loc k (xv_i (x + Int32.ofInt n))) st M nc ns
    | .iadd => ∃ x y r, st = xv_i y :: xv_i x :: r ∧ K pn loc (xv_i (x + y) :: r) M nc ns
    | .isub => ∃ x y r, st = xv_i y :: xv_i x :: r ∧ K pn loc (xv_i (x - y) :: r) M nc ns
    | .imul => ∃ x y r, st = xv_i y :: xv_i x :: r ∧ K pn loc (xv_i (x * y) :: r) M nc ns
    | .idiv => ∃ x y r, st = xv_i y :: xv_i x :: r ∧ ¬ y = 0 ∧ K pn loc (xv_i (x / y) :: r) M nc ns
    | .iand => ∃ x y r, st = xv_i y :: xv_i x :: r ∧ K pn loc (xv_i (x &&& y) :: r) M nc ns
    | .ior => ∃ x y r, st = xv_i y :: xv_i x :: r ∧ K pn loc (xv_i (x ||| y) :: r) M nc ns
    | .ixor => ∃ x y r, st = xv_i y :: xv_i x :: r ∧ K pn loc (xv_i (x ^^^ y) :: r) M nc ns
    | .ishl => ∃ x y r, st = xv_i y :: xv_i x :: r ∧ K pn loc (xv_i (x <<< (y &&& 31)) :: r) M nc ns
    | .ishr => ∃ x y r, st = xv_i y :: xv_i x :: r ∧ K pn loc (xv_i (x >>> (y &&& 31)) :: r) M nc ns
    | .ladd => ∃ x y r, st = xv_l y :: xv_l x :: r ∧ K pn loc (xv_l (x + y) :: r) M nc ns
    | .lsub => ∃ x y r, st = xv_l y :: xv_l x :: r ∧ K pn loc (xv_l (x - y) :: r) M nc ns
    | .land => ∃ x y r, st = xv_l y :: xv_l x :: r ∧ K pn loc (xv_l (x &&& y) :: r) M nc ns
    | .lor => ∃ x y r, st = xv_l y :: xv_l x :: r ∧ K pn loc (xv_l (x ||| y) :: r) M nc ns
    | .lshl => ∃ x y r, st = xv_i y :: xv_l x :: r ∧ K pn loc (xv_l (x <<< (y.toInt64 &&& 63)) :: r) M nc ns
    | .lshr => ∃ x y r, st = xv_i y :: xv_l x :: r ∧ K pn loc (xv_l (x >>> (y.toInt64 &&& 63)) :: r) M nc ns
    | .lcmp => ∃ x y r, st = xv_l y :: xv_l x :: r ∧ K pn loc (xv_i (lg_cmp x y) :: r) M nc ns
    | .i2l => ∃ x r, st = xv_i x :: r ∧ K pn loc (xv_l x.toInt64 :: r) M nc ns
    | .l2i => ∃ x r, st = xv_l x :: r ∧ K pn loc (xv_i x.toInt32 :: r) M nc ns
    | .dup => ∃ v r, st = v :: r ∧ xm_cat v = 1 ∧ K pn loc (v :: v :: r) M nc ns
    | .pop => ∃ v r, st = v :: r ∧ xm_cat v = 1 ∧ K pn loc r M nc ns
    | .dup2 => ∃ v w r, st = v :: w :: r ∧ xm_cat v = 1 ∧ xm_cat w = 1 ∧ K pn loc (v :: w :: v :: w :: r) M nc ns
    | .goto off => ∃ t : Nat, (pc : Int) + off = (t : Int) ∧ K t loc st M nc ns
    | .ifCond c off => ∃ (x : Int32) (r : List xm_V) (t : Nat), st = xv_i x :: r ∧ (pc : Int) + off = (t : Int) ∧ (xm_c1 c x → K t loc r M nc ns) ∧ (¬ xm_c1 c x → K pn loc r M nc ns)
    | .if_icmp c off => ∃ (x y : Int32) (r : List xm_V) (t : Nat), st = xv_i y :: xv_i x :: r ∧ (pc : Int) + off = (t : Int) ∧ (xm_c2 c x y → K t loc r M nc ns) ∧ (¬ xm_c2 c x y → K pn loc r M nc ns)
    | .tableswitch d lo hi os => ∃ (x : Int32) (r : List xm_V), st = xv_i x :: r ∧
        ((∃ t : Nat, (x.toInt < lo ∨ hi < x.toInt) ∧ (pc : Int) + d = (t : Int) ∧ K t loc r M nc ns) ∨
         (∃ (off : Int) (t : Nat), (¬ x.toInt < lo ∧ ¬ hi < x.toInt) ∧ os[(x.toInt - lo).toNat]? = some off ∧ (pc : Int) + off = (t : Int) ∧ K t loc r M nc ns))
    | .iaload => (∃ i k n r, st = xv_i i :: xv_r k :: r ∧ M.1[k]? = some (xt_r 0 n) ∧ vp_in i n ∧ K pn loc (xv_i (M.2.1 k i.toNatClampNeg) :: r) M nc ns) ∨
        (∃ i q r, st = xv_i i :: xv_x q :: r ∧ vp_in i (xt q).1 ∧ K pn loc (xv_i ((xt q).2 i.toNatClampNeg) :: r) M nc ns)
    | .baload => ∃ i k n r, st = xv_i i :: xv_r k :: r ∧ M.1[k]? = some (xt_r 2 n) ∧ vp_in i n ∧ K pn loc (xv_i (M.2.1 k i.toNatClampNeg) :: r) M nc ns
    | .laload => ∃ i k n r, st = xv_i i :: xv_r k :: r ∧ M.1[k]? = some (xt_r 1 n) ∧ vp_in i n ∧ K pn loc (xv_l (M.2.2 k i.toNatClampNeg) :: r) M nc ns
    | .iastore => ∃ i x k n r, st = xv_i x :: xv_i i :: xv_r k :: r ∧ M.1[k]? = some (xt_r 0 n) ∧ vp_in i n ∧ K pn loc r (M.1, xu_2 M.2.1 k i.toNatClampNeg x, M.2.2) nc ns
    | .bastore => ∃ i x k n r, st = xv_i x :: xv_i i :: xv_r k :: r ∧ M.1[k]? = some (xt_r 2 n) ∧ vp_in i n ∧ (x = 0 ∨ x = 1) ∧ K pn loc r (M.1, xu_2 M.2.1 k i.toNatClampNeg x, M.2.2) nc ns
    | .lastore => ∃ i x k n r, st = xv_l x :: xv_i i :: xv_r k :: r ∧ M.1[k]? = some (xt_r 1 n) ∧ vp_in i n ∧ K pn loc r (M.1, M.2.1, xu_2 M.2.2 k i.toNatClampNeg x) nc ns
    | .arraylength => (∃ k t n r, st = xv_r k :: r ∧ M.1[k]? = some (xt_r t n) ∧ t < 3 ∧ K pn loc (xv_i (nI n) :: r) M nc ns) ∨
        (∃ q r, st = xv_x q :: r ∧ K pn loc (xv_i (nI (xt q).1) :: r) M nc ns)
    | .getfield ix => ∃ ci j ty k fs f r, Y.2.2.1 ix = some (ci, j, ty) ∧ st = xv_r k :: r ∧ M.1[k]? = some (xt_o ci fs) ∧ fs[j]? = some f ∧ K pn loc (xm_fv M.2.1 k j f :: r) M nc ns
    | .putfield ix => (∃ ci j ty k fs x r, Y.2.2.1 ix = some (ci, j, ty) ∧ st = xv_i x :: xv_r k :: r ∧ M.1[k]? = some (xt_o ci fs) ∧ fs[j]? = some none ∧ (ty = 0 ∨ (ty = 3 ∧ (x = 0 ∨ x = 1))) ∧ K pn loc r (M.1, xu_2 M.2.1 k j x, M.2.2) nc ns) ∨
        (∃ ci j t k fs q o r, Y.2.2.1 ix = some (ci, j, t) ∧ (t = 2 ∨ (t = 12 ∧ Y.2.2.2.2.2 0 = 9)) ∧ st = xv_r q :: xv_r k :: r ∧ M.1[k]? = some (xt_o ci fs) ∧ fs[j]? = some (some o) ∧ K pn loc r (M.1.set k (xt_o ci (fs.set j (some (some q)))), M.2.1, M.2.2) nc ns)
    | .getstatic ix => ∃ q, Y.2.2.2.2.1 ix = some q ∧ K pn loc (xv_x q :: st) M nc ns
    | .new ix => ∃ ci fs, Y.2.2.2.1 ix = some (ci, fs) ∧ K pn loc (xv_r M.1.length :: st) (M.1 ++ [xt_o ci fs], xz_2 M.2.1 M.1.length 0, M.2.2) (nc + 1) (ns + fs.length)
    | .newarray ty => ∃ (t : Nat) (n : Int32) (N : Nat) (r : List xm_V), st = xv_i n :: r ∧ ¬ n < 0 ∧ n.toNatClampNeg = N ∧ N ≤ 67108864 ∧ ((ty = .int ∧ t = 0) ∨ (ty = .long ∧ t = 1) ∨ (ty = .boolean ∧ t = 2)) ∧
        K pn loc (xv_r M.1.length :: r) (M.1 ++ [xt_r t N], xz_2 M.2.1 M.1.length 0, xz_2 M.2.2 M.1.length 0) (nc + 1) (ns + N)
    | .invokespecial ix => Y.2.2.2.2.2 ix = 2 ∧ ∃ k r, st = xv_r k :: r ∧ xm_c8 r = true ∧ K pn loc r M nc ns
    | .invokestatic ix => Y.2.2.2.2.2 ix = 1 ∧ ∃ (n dp sp : Int32) (kd ks nd n0 : Nat) (r : List xm_V), st = xv_i n :: xv_i dp :: xv_r kd :: xv_i sp :: xv_r ks :: r ∧ M.1[ks]? = some (xt_r 1 n0) ∧ M.1[kd]? = some (xt_r 1 nd) ∧ ¬ sp < 0 ∧ ¬ dp < 0 ∧ ¬ n < 0 ∧ sp.toNatClampNeg + n.toNatClampNeg ≤ n0 ∧ dp.toNatClampNeg + n.toNatClampNeg ≤ nd ∧ ks ≠ kd ∧ xm_c8 r = true ∧
        K pn loc r (M.1, M.2.1, xc_y M.2.2 kd (va_cpy (M.2.2 ks) (M.2.2 kd) sp.toNatClampNeg dp.toNatClampNeg n.toNatClampNeg)) nc ns
    | _ => False)
