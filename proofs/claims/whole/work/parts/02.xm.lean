/-! The abstract machine: values, cells, memory; one step with what follows as a predicate. -/
-- int, long, reference to a cell of ours by its number (none: null), a row that stands outside and is only read
abbrev xm_V : Type := Int32 ⊕ (Int64 ⊕ (Option Nat ⊕ Nat))
-- a field of an object: a number (it stands in the contents), or a reference
abbrev xm_F : Type := Option (Option Nat)
-- shape of a cell: a row (0 int, 1 long, 2 boolean; its length), or an object (the number of its kind, its fields)
abbrev xm_T : Type := (Nat × Nat) ⊕ (Nat × List xm_F)
-- memory: shapes; ints and booleans by cell and place; longs by cell and place
abbrev xm_M : Type := List xm_T × (Nat → Nat → Int32) × (Nat → Nat → Int64)
abbrev xm_L : Type := List (Option xm_V)
abbrev xm_K : Type := Nat → xm_L → List xm_V → xm_M → Nat → Nat → Prop
abbrev xv_i (x : Int32) : xm_V := Sum.inl x
abbrev xv_l (x : Int64) : xm_V := Sum.inr (Sum.inl x)
abbrev xv_r (k : Nat) : xm_V := Sum.inr (Sum.inr (Sum.inl (some k)))
abbrev xv_n : xm_V := Sum.inr (Sum.inr (Sum.inl none))
abbrev xv_x (k : Nat) : xm_V := Sum.inr (Sum.inr (Sum.inr k))
abbrev xt_r (t n : Nat) : xm_T := Sum.inl (t, n)
abbrev xt_o (ci : Nat) (fs : List xm_F) : xm_T := Sum.inr (ci, fs)
-- a method: instructions with the place behind; constants; fields (kind of object, place, type: 0 int, 2 reference, 3 boolean, 12 reference that is written once, 22 such a one elsewhere); what 'new' makes; statics; calls that are one step (1 arraycopy of longs, 2 Object(), 3 Math.min; at 0 stands 9 for a method <init>)
abbrev xm_Y : Type := (Nat → Option (Jvm.ClassFile.Instr × Nat)) × (Nat → Option xm_V) × (Nat → Option (Nat × Nat × Nat)) × (Nat → Option (Nat × List xm_F)) × (Nat → Option Nat) × (Nat → Nat)
def xm_cat : xm_V → Nat
  | Sum.inr (Sum.inl _) => 2
  | _ => 1
def xm_c8 (st : List xm_V) : Bool := Nat.ble ((st.map xm_cat).sum) 8
def xu_2 {α : Type} (f : Nat → Nat → α) (k j : Nat) (x : α) : Nat → Nat → α := fun a b => if a = k then (if b = j then x else f a b) else f a b
def xz_2 {α : Type} (f : Nat → Nat → α) (k : Nat) (z : α) : Nat → Nat → α := fun a b => if a = k then z else f a b
def xc_y {α : Type} (f : Nat → Nat → α) (k : Nat) (g : Nat → α) : Nat → Nat → α := fun a b => if a = k then g b else f a b
-- a place of the locals is written: a long ahead of it is broken; behind a long the next place is gone
def xm_brk (loc : xm_L) (i : Nat) : xm_L := match i with
  | 0 => loc
  | j + 1 => match loc[j]? with
    | some (some (Sum.inr (Sum.inl _))) => loc.set j none
    | _ => loc
def xm_st1 (loc : xm_L) (i : Nat) (v : xm_V) : xm_L := (xm_brk loc i).set i (some v)
def xm_st2 (loc : xm_L) (i : Nat) (v : xm_V) : xm_L := ((xm_brk loc i).set i (some v)).set (i + 1) none
def xm_fv (I : Nat → Nat → Int32) (k j : Nat) : xm_F → xm_V
  | none => xv_i (I k j)
  | some none => xv_n
  | some (some q) => xv_r q
def xm_c1 (c : Jvm.ClassFile.Cond) (x : Int32) : Prop := match c with
  | .eq => x = 0
  | .ne => ¬ x = 0
  | .lt => x < 0
  | .ge => 0 ≤ x
  | .gt => 0 < x
  | .le => x ≤ 0
def xm_c2 (c : Jvm.ClassFile.Cond) (x y : Int32) : Prop := match c with
  | .eq => x = y
  | .ne => ¬ x = y
  | .lt => x < y
  | .ge => y ≤ x
  | .gt => y < x
  | .le => x ≤ y
-- lengths of instructions (0: a switch)
def xm_len (i : Jvm.ClassFile.Instr) : Nat := match i with
  | .bipush _ => 2
  | .ldc _ => 2
  | .iload _ => 2
  | .lload _ => 2
  | .aload _ => 2
  | .istore _ => 2
  | .lstore _ => 2
  | .astore _ => 2
  | .newarray _ => 2
  | .sipush _ => 3
  | .ldc2_w _ => 3
  | .iinc _ _ => 3
  | .goto _ => 3
  | .ifCond _ _ => 3
  | .if_icmp _ _ => 3
  | .getfield _ => 3
  | .putfield _ => 3
  | .getstatic _ => 3
  | .new _ => 3
  | .invokevirtual _ => 3
  | .invokestatic _ => 3
  | .invokespecial _ => 3
  | .tableswitch _ _ _ _ => 0
  | .lookupswitch _ _ => 0
  | _ => 1
-- a method's instructions by place, in runs: (first place behind the run, its instructions with the place behind each)
abbrev xm_I : Type := Nat × Jvm.ClassFile.Instr × Nat
def xm_in (pc : Nat) : List xm_I → Option (Jvm.ClassFile.Instr × Nat)
  | [] => none
  | q :: r => bif Nat.beq q.1 pc then some q.2 else xm_in pc r
def xm_tb (pc : Nat) : List (Nat × List xm_I) → Option (Jvm.ClassFile.Instr × Nat)
  | [] => none
  | q :: r => bif Nat.blt pc q.1 then xm_in pc q.2 else xm_tb pc r
-- the one step, by forms
def xm_sA (Y : xm_Y) (xt : Nat → Nat × (Nat → Int32)) (nL : Nat) (pc : Nat) (loc : xm_L) (st : List xm_V) (M : xm_M) (nc ns : Nat) (K : xm_K) : Prop :=
  (∃ (n : Int) (pn : Nat), Y.1 pc = some (.iconst n, pn) ∧ K pn loc (xv_i (Int32.ofInt n) :: st) M nc ns) ∨
  (∃ (n : Int) (pn : Nat), Y.1 pc = some (.bipush n, pn) ∧ K pn loc (xv_i (Int8.ofInt n).toInt32 :: st) M nc ns) ∨
  (∃ (n : Int) (pn : Nat), Y.1 pc = some (.sipush n, pn) ∧ K pn loc (xv_i (Int16.ofInt n).toInt32 :: st) M nc ns) ∨
  (∃ (n : Fin 2) (pn : Nat), Y.1 pc = some (.lconst n, pn) ∧ K pn loc (xv_l (Int64.ofNat (n : Nat)) :: st) M nc ns) ∨
  (∃ (ix : Nat) (v : Int32) (pn : Nat), Y.1 pc = some (.ldc ix, pn) ∧ Y.2.1 ix = some (xv_i v) ∧ K pn loc (xv_i v :: st) M nc ns) ∨
  (∃ (ix : Nat) (v : Int64) (pn : Nat), Y.1 pc = some (.ldc2_w ix, pn) ∧ Y.2.1 ix = some (xv_l v) ∧ K pn loc (xv_l v :: st) M nc ns) ∨
  (∃ (k : Nat) (x : Int32) (pn : Nat), Y.1 pc = some (.iload k, pn) ∧ loc[k]? = some (some (xv_i x)) ∧ K pn loc (xv_i x :: st) M nc ns) ∨
  (∃ (k : Fin 4) (x : Int32) (pn : Nat), Y.1 pc = some (.iload_n k, pn) ∧ loc[(k : Nat)]? = some (some (xv_i x)) ∧ K pn loc (xv_i x :: st) M nc ns) ∨
  (∃ (k : Nat) (x : Int64) (pn : Nat), Y.1 pc = some (.lload k, pn) ∧ loc[k]? = some (some (xv_l x)) ∧ K pn loc (xv_l x :: st) M nc ns) ∨
  (∃ (k : Fin 4) (x : Int64) (pn : Nat), Y.1 pc = some (.lload_n k, pn) ∧ loc[(k : Nat)]? = some (some (xv_l x)) ∧ K pn loc (xv_l x :: st) M nc ns) ∨
  (∃ (k : Nat) (q : Nat) (pn : Nat), Y.1 pc = some (.aload k, pn) ∧ loc[k]? = some (some (xv_r q)) ∧ K pn loc (xv_r q :: st) M nc ns) ∨
  (∃ (k : Fin 4) (q : Nat) (pn : Nat), Y.1 pc = some (.aload_n k, pn) ∧ loc[(k : Nat)]? = some (some (xv_r q)) ∧ K pn loc (xv_r q :: st) M nc ns) ∨
  (∃ (k : Nat) (q : Nat) (pn : Nat), Y.1 pc = some (.aload k, pn) ∧ loc[k]? = some (some (xv_x q)) ∧ K pn loc (xv_x q :: st) M nc ns) ∨
  (∃ (k : Fin 4) (q : Nat) (pn : Nat), Y.1 pc = some (.aload_n k, pn) ∧ loc[(k : Nat)]? = some (some (xv_x q)) ∧ K pn loc (xv_x q :: st) M nc ns)
def xm_sB (Y : xm_Y) (xt : Nat → Nat × (Nat → Int32)) (nL : Nat) (pc : Nat) (loc : xm_L) (st : List xm_V) (M : xm_M) (nc ns : Nat) (K : xm_K) : Prop :=
  (∃ (k : Nat) (x : Int32) (r : List xm_V) (pn : Nat), Y.1 pc = some (.istore k, pn) ∧ st = xv_i x :: r ∧ k < nL ∧ K pn (xm_st1 loc k (xv_i x)) r M nc ns) ∨
  (∃ (k : Fin 4) (x : Int32) (r : List xm_V) (pn : Nat), Y.1 pc = some (.istore_n k, pn) ∧ st = xv_i x :: r ∧ (k : Nat) < nL ∧ K pn (xm_st1 loc k (xv_i x)) r M nc ns) ∨
  (∃ (k : Nat) (x : Int64) (r : List xm_V) (pn : Nat), Y.1 pc = some (.lstore k, pn) ∧ st = xv_l x :: r ∧ k + 1 < nL ∧ K pn (xm_st2 loc k (xv_l x)) r M nc ns) ∨
  (∃ (k : Fin 4) (x : Int64) (r : List xm_V) (pn : Nat), Y.1 pc = some (.lstore_n k, pn) ∧ st = xv_l x :: r ∧ (k : Nat) + 1 < nL ∧ K pn (xm_st2 loc k (xv_l x)) r M nc ns) ∨
  (∃ (k : Nat) (x : Nat) (r : List xm_V) (pn : Nat), Y.1 pc = some (.astore k, pn) ∧ st = xv_r x :: r ∧ k < nL ∧ K pn (xm_st1 loc k (xv_r x)) r M nc ns) ∨
  (∃ (k : Fin 4) (x : Nat) (r : List xm_V) (pn : Nat), Y.1 pc = some (.astore_n k, pn) ∧ st = xv_r x :: r ∧ (k : Nat) < nL ∧ K pn (xm_st1 loc k (xv_r x)) r M nc ns) ∨
  (∃ (k : Nat) (n : Int) (x : Int32) (pn : Nat), Y.1 pc = some (.iinc k n, pn) ∧ loc[k]? = some (some (xv_i x)) ∧ k < nL ∧ K pn (xm_st1 loc k (xv_i (x + Int32.ofInt n))) st M nc ns)
def xm_sC (Y : xm_Y) (xt : Nat → Nat × (Nat → Int32)) (nL : Nat) (pc : Nat) (loc : xm_L) (st : List xm_V) (M : xm_M) (nc ns : Nat) (K : xm_K) : Prop :=
  (∃ (x : Int32) (y : Int32) (r : List xm_V) (pn : Nat), Y.1 pc = some (.iadd, pn) ∧ st = xv_i y :: xv_i x :: r ∧ K pn loc (xv_i (x + y) :: r) M nc ns) ∨
  (∃ (x : Int32) (y : Int32) (r : List xm_V) (pn : Nat), Y.1 pc = some (.isub, pn) ∧ st = xv_i y :: xv_i x :: r ∧ K pn loc (xv_i (x - y) :: r) M nc ns) ∨
  (∃ (x : Int32) (y : Int32) (r : List xm_V) (pn : Nat), Y.1 pc = some (.imul, pn) ∧ st = xv_i y :: xv_i x :: r ∧ K pn loc (xv_i (x * y) :: r) M nc ns) ∨
  (∃ (x : Int32) (y : Int32) (r : List xm_V) (pn : Nat), Y.1 pc = some (.iand, pn) ∧ st = xv_i y :: xv_i x :: r ∧ K pn loc (xv_i (x &&& y) :: r) M nc ns) ∨
  (∃ (x : Int32) (y : Int32) (r : List xm_V) (pn : Nat), Y.1 pc = some (.ior, pn) ∧ st = xv_i y :: xv_i x :: r ∧ K pn loc (xv_i (x ||| y) :: r) M nc ns) ∨
  (∃ (x : Int32) (y : Int32) (r : List xm_V) (pn : Nat), Y.1 pc = some (.ixor, pn) ∧ st = xv_i y :: xv_i x :: r ∧ K pn loc (xv_i (x ^^^ y) :: r) M nc ns) ∨
  (∃ (x : Int32) (y : Int32) (r : List xm_V) (pn : Nat), Y.1 pc = some (.ishl, pn) ∧ st = xv_i y :: xv_i x :: r ∧ K pn loc (xv_i (x <<< (y &&& 31)) :: r) M nc ns) ∨
  (∃ (x : Int32) (y : Int32) (r : List xm_V) (pn : Nat), Y.1 pc = some (.ishr, pn) ∧ st = xv_i y :: xv_i x :: r ∧ K pn loc (xv_i (x >>> (y &&& 31)) :: r) M nc ns) ∨
  (∃ (x : Int32) (y : Int32) (r : List xm_V) (pn : Nat), Y.1 pc = some (.idiv, pn) ∧ st = xv_i y :: xv_i x :: r ∧ ¬ y = 0 ∧ K pn loc (xv_i (x / y) :: r) M nc ns) ∨
  (∃ (x : Int64) (y : Int64) (r : List xm_V) (pn : Nat), Y.1 pc = some (.ladd, pn) ∧ st = xv_l y :: xv_l x :: r ∧ K pn loc (xv_l (x + y) :: r) M nc ns) ∨
  (∃ (x : Int64) (y : Int64) (r : List xm_V) (pn : Nat), Y.1 pc = some (.lsub, pn) ∧ st = xv_l y :: xv_l x :: r ∧ K pn loc (xv_l (x - y) :: r) M nc ns) ∨
  (∃ (x : Int64) (y : Int64) (r : List xm_V) (pn : Nat), Y.1 pc = some (.land, pn) ∧ st = xv_l y :: xv_l x :: r ∧ K pn loc (xv_l (x &&& y) :: r) M nc ns) ∨
  (∃ (x : Int64) (y : Int64) (r : List xm_V) (pn : Nat), Y.1 pc = some (.lor, pn) ∧ st = xv_l y :: xv_l x :: r ∧ K pn loc (xv_l (x ||| y) :: r) M nc ns) ∨
  (∃ (x : Int64) (y : Int64) (r : List xm_V) (pn : Nat), Y.1 pc = some (.lcmp, pn) ∧ st = xv_l y :: xv_l x :: r ∧ K pn loc (xv_i (lg_cmp x y) :: r) M nc ns) ∨
  (∃ (x : Int64) (y : Int32) (r : List xm_V) (pn : Nat), Y.1 pc = some (.lshl, pn) ∧ st = xv_i y :: xv_l x :: r ∧ K pn loc (xv_l (x <<< (y.toInt64 &&& 63)) :: r) M nc ns) ∨
  (∃ (x : Int64) (y : Int32) (r : List xm_V) (pn : Nat), Y.1 pc = some (.lshr, pn) ∧ st = xv_i y :: xv_l x :: r ∧ K pn loc (xv_l (x >>> (y.toInt64 &&& 63)) :: r) M nc ns) ∨
  (∃ (x : Int32) (r : List xm_V) (pn : Nat), Y.1 pc = some (.i2l, pn) ∧ st = xv_i x :: r ∧ K pn loc (xv_l x.toInt64 :: r) M nc ns) ∨
  (∃ (x : Int64) (r : List xm_V) (pn : Nat), Y.1 pc = some (.l2i, pn) ∧ st = xv_l x :: r ∧ K pn loc (xv_i x.toInt32 :: r) M nc ns)
def xm_sD (Y : xm_Y) (xt : Nat → Nat × (Nat → Int32)) (nL : Nat) (pc : Nat) (loc : xm_L) (st : List xm_V) (M : xm_M) (nc ns : Nat) (K : xm_K) : Prop :=
  (∃ (v : xm_V) (r : List xm_V) (pn : Nat), Y.1 pc = some (.dup, pn) ∧ st = v :: r ∧ xm_cat v = 1 ∧ K pn loc (v :: v :: r) M nc ns) ∨
  (∃ (v : xm_V) (r : List xm_V) (pn : Nat), Y.1 pc = some (.pop, pn) ∧ st = v :: r ∧ xm_cat v = 1 ∧ K pn loc r M nc ns) ∨
  (∃ (v : xm_V) (w : xm_V) (r : List xm_V) (pn : Nat), Y.1 pc = some (.dup2, pn) ∧ st = v :: w :: r ∧ xm_cat v = 1 ∧ xm_cat w = 1 ∧ K pn loc (v :: w :: v :: w :: r) M nc ns) ∨
  (∃ (off : Int) (t : Nat) (pn : Nat), Y.1 pc = some (.goto off, pn) ∧ (pc : Int) + off = (t : Int) ∧ K t loc st M nc ns) ∨
  (∃ (c : Jvm.ClassFile.Cond) (off : Int) (x : Int32) (r : List xm_V) (t : Nat) (pn : Nat), Y.1 pc = some (.ifCond c off, pn) ∧ st = xv_i x :: r ∧ (pc : Int) + off = (t : Int) ∧ (xm_c1 c x → K t loc r M nc ns) ∧ (¬ xm_c1 c x → K pn loc r M nc ns)) ∨
  (∃ (c : Jvm.ClassFile.Cond) (off : Int) (x : Int32) (y : Int32) (r : List xm_V) (t : Nat) (pn : Nat), Y.1 pc = some (.if_icmp c off, pn) ∧ st = xv_i y :: xv_i x :: r ∧ (pc : Int) + off = (t : Int) ∧ (xm_c2 c x y → K t loc r M nc ns) ∧ (¬ xm_c2 c x y → K pn loc r M nc ns)) ∨
  (∃ (df : Int) (lo : Int) (up : Int) (os : Array Int) (x : Int32) (r : List xm_V) (t : Nat) (pn : Nat), Y.1 pc = some (.tableswitch df lo up os, pn) ∧ st = xv_i x :: r ∧ (x.toInt < lo ∨ up < x.toInt) ∧ (pc : Int) + df = (t : Int) ∧ K t loc r M nc ns) ∨
  (∃ (df : Int) (lo : Int) (up : Int) (os : Array Int) (x : Int32) (r : List xm_V) (off : Int) (t : Nat) (pn : Nat), Y.1 pc = some (.tableswitch df lo up os, pn) ∧ st = xv_i x :: r ∧ ¬ x.toInt < lo ∧ ¬ up < x.toInt ∧ os[(x.toInt - lo).toNat]? = some off ∧ (pc : Int) + off = (t : Int) ∧ K t loc r M nc ns)
def xm_sE (Y : xm_Y) (xt : Nat → Nat × (Nat → Int32)) (nL : Nat) (pc : Nat) (loc : xm_L) (st : List xm_V) (M : xm_M) (nc ns : Nat) (K : xm_K) : Prop :=
  (∃ (i : Int32) (k : Nat) (n : Nat) (r : List xm_V) (pn : Nat), Y.1 pc = some (.iaload, pn) ∧ st = xv_i i :: xv_r k :: r ∧ M.1[k]? = some (xt_r 0 n) ∧ vp_in i n ∧ K pn loc (xv_i (M.2.1 k i.toNatClampNeg) :: r) M nc ns) ∨
  (∃ (i : Int32) (q : Nat) (r : List xm_V) (pn : Nat), Y.1 pc = some (.iaload, pn) ∧ st = xv_i i :: xv_x q :: r ∧ vp_in i (xt q).1 ∧ K pn loc (xv_i ((xt q).2 i.toNatClampNeg) :: r) M nc ns) ∨
  (∃ (i : Int32) (k : Nat) (n : Nat) (r : List xm_V) (pn : Nat), Y.1 pc = some (.baload, pn) ∧ st = xv_i i :: xv_r k :: r ∧ M.1[k]? = some (xt_r 2 n) ∧ vp_in i n ∧ K pn loc (xv_i (M.2.1 k i.toNatClampNeg) :: r) M nc ns) ∨
  (∃ (i : Int32) (k : Nat) (n : Nat) (r : List xm_V) (pn : Nat), Y.1 pc = some (.laload, pn) ∧ st = xv_i i :: xv_r k :: r ∧ M.1[k]? = some (xt_r 1 n) ∧ vp_in i n ∧ K pn loc (xv_l (M.2.2 k i.toNatClampNeg) :: r) M nc ns) ∨
  (∃ (k : Nat) (t : Nat) (n : Nat) (r : List xm_V) (pn : Nat), Y.1 pc = some (.arraylength, pn) ∧ st = xv_r k :: r ∧ M.1[k]? = some (xt_r t n) ∧ t < 3 ∧ K pn loc (xv_i (nI n) :: r) M nc ns) ∨
  (∃ (q : Nat) (r : List xm_V) (pn : Nat), Y.1 pc = some (.arraylength, pn) ∧ st = xv_x q :: r ∧ K pn loc (xv_i (nI (xt q).1) :: r) M nc ns) ∨
  (∃ (ix : Nat) (ci : Nat) (j : Nat) (ty : Nat) (k : Nat) (fs : List xm_F) (f : xm_F) (r : List xm_V) (pn : Nat), Y.1 pc = some (.getfield ix, pn) ∧ Y.2.2.1 ix = some (ci, j, ty) ∧ st = xv_r k :: r ∧ M.1[k]? = some (xt_o ci fs) ∧ fs[j]? = some f ∧ K pn loc (xm_fv M.2.1 k j f :: r) M nc ns) ∨
  (∃ (ix : Nat) (q : Nat) (pn : Nat), Y.1 pc = some (.getstatic ix, pn) ∧ Y.2.2.2.2.1 ix = some q ∧ K pn loc (xv_x q :: st) M nc ns)
def xm_sF (Y : xm_Y) (xt : Nat → Nat × (Nat → Int32)) (nL : Nat) (pc : Nat) (loc : xm_L) (st : List xm_V) (M : xm_M) (nc ns : Nat) (K : xm_K) : Prop :=
  (∃ (i : Int32) (x : Int32) (k : Nat) (n : Nat) (r : List xm_V) (pn : Nat), Y.1 pc = some (.iastore, pn) ∧ st = xv_i x :: xv_i i :: xv_r k :: r ∧ M.1[k]? = some (xt_r 0 n) ∧ vp_in i n ∧ K pn loc r (M.1, xu_2 M.2.1 k i.toNatClampNeg x, M.2.2) nc ns) ∨
  (∃ (i : Int32) (x : Int32) (k : Nat) (n : Nat) (r : List xm_V) (pn : Nat), Y.1 pc = some (.bastore, pn) ∧ st = xv_i x :: xv_i i :: xv_r k :: r ∧ M.1[k]? = some (xt_r 2 n) ∧ vp_in i n ∧ (x = 0 ∨ x = 1) ∧ K pn loc r (M.1, xu_2 M.2.1 k i.toNatClampNeg x, M.2.2) nc ns) ∨
  (∃ (i : Int32) (x : Int64) (k : Nat) (n : Nat) (r : List xm_V) (pn : Nat), Y.1 pc = some (.lastore, pn) ∧ st = xv_l x :: xv_i i :: xv_r k :: r ∧ M.1[k]? = some (xt_r 1 n) ∧ vp_in i n ∧ K pn loc r (M.1, M.2.1, xu_2 M.2.2 k i.toNatClampNeg x) nc ns) ∨
  (∃ (ix : Nat) (ci : Nat) (j : Nat) (ty : Nat) (k : Nat) (fs : List xm_F) (x : Int32) (r : List xm_V) (pn : Nat), Y.1 pc = some (.putfield ix, pn) ∧ Y.2.2.1 ix = some (ci, j, ty) ∧ st = xv_i x :: xv_r k :: r ∧ M.1[k]? = some (xt_o ci fs) ∧ fs[j]? = some none ∧ (ty = 0 ∨ (ty = 3 ∧ (x = 0 ∨ x = 1))) ∧ K pn loc r (M.1, xu_2 M.2.1 k j x, M.2.2) nc ns) ∨
  (∃ (ix : Nat) (ci : Nat) (j : Nat) (t : Nat) (k : Nat) (fs : List xm_F) (q : Nat) (o : Option Nat) (r : List xm_V) (pn : Nat), Y.1 pc = some (.putfield ix, pn) ∧ Y.2.2.1 ix = some (ci, j, t) ∧ (t = 2 ∨ (t = 12 ∧ Y.2.2.2.2.2 0 = 9)) ∧ st = xv_r q :: xv_r k :: r ∧ M.1[k]? = some (xt_o ci fs) ∧ fs[j]? = some (some o) ∧ K pn loc r (M.1.set k (xt_o ci (fs.set j (some (some q)))), M.2.1, M.2.2) nc ns)
def xm_sG (Y : xm_Y) (xt : Nat → Nat × (Nat → Int32)) (nL : Nat) (pc : Nat) (loc : xm_L) (st : List xm_V) (M : xm_M) (nc ns : Nat) (K : xm_K) : Prop :=
  (∃ (ix : Nat) (ci : Nat) (fs : List xm_F) (pn : Nat), Y.1 pc = some (.new ix, pn) ∧ Y.2.2.2.1 ix = some (ci, fs) ∧ K pn loc (xv_r M.1.length :: st) (M.1 ++ [xt_o ci fs], xz_2 M.2.1 M.1.length 0, M.2.2) (nc + 1) (ns + fs.length)) ∨
  (∃ (n : Int32) (N : Nat) (r : List xm_V) (pn : Nat), Y.1 pc = some (.newarray .int, pn) ∧ st = xv_i n :: r ∧ ¬ n < 0 ∧ n.toNatClampNeg = N ∧ N ≤ 67108864 ∧ K pn loc (xv_r M.1.length :: r) (M.1 ++ [xt_r 0 N], xz_2 M.2.1 M.1.length 0, xz_2 M.2.2 M.1.length 0) (nc + 1) (ns + N)) ∨
  (∃ (n : Int32) (N : Nat) (r : List xm_V) (pn : Nat), Y.1 pc = some (.newarray .long, pn) ∧ st = xv_i n :: r ∧ ¬ n < 0 ∧ n.toNatClampNeg = N ∧ N ≤ 67108864 ∧ K pn loc (xv_r M.1.length :: r) (M.1 ++ [xt_r 1 N], xz_2 M.2.1 M.1.length 0, xz_2 M.2.2 M.1.length 0) (nc + 1) (ns + N)) ∨
  (∃ (n : Int32) (N : Nat) (r : List xm_V) (pn : Nat), Y.1 pc = some (.newarray .boolean, pn) ∧ st = xv_i n :: r ∧ ¬ n < 0 ∧ n.toNatClampNeg = N ∧ N ≤ 67108864 ∧ K pn loc (xv_r M.1.length :: r) (M.1 ++ [xt_r 2 N], xz_2 M.2.1 M.1.length 0, xz_2 M.2.2 M.1.length 0) (nc + 1) (ns + N)) ∨
  (∃ (ix : Nat) (k : Nat) (r : List xm_V) (pn : Nat), Y.1 pc = some (.invokespecial ix, pn) ∧ Y.2.2.2.2.2 ix = 2 ∧ st = xv_r k :: r ∧ xm_c8 r = true ∧ K pn loc r M nc ns) ∨
  (∃ (ix : Nat) (n : Int32) (dp : Int32) (sp : Int32) (kd : Nat) (ks : Nat) (nd : Nat) (n0 : Nat) (r : List xm_V) (pn : Nat), Y.1 pc = some (.invokestatic ix, pn) ∧ Y.2.2.2.2.2 ix = 1 ∧ st = xv_i n :: xv_i dp :: xv_r kd :: xv_i sp :: xv_r ks :: r ∧ M.1[ks]? = some (xt_r 1 n0) ∧ M.1[kd]? = some (xt_r 1 nd) ∧ ¬ sp < 0 ∧ ¬ dp < 0 ∧ ¬ n < 0 ∧ sp.toNatClampNeg + n.toNatClampNeg ≤ n0 ∧ dp.toNatClampNeg + n.toNatClampNeg ≤ nd ∧ ks ≠ kd ∧ xm_c8 r = true ∧ K pn loc r (M.1, M.2.1, xc_y M.2.2 kd (va_cpy (M.2.2 ks) (M.2.2 kd) sp.toNatClampNeg dp.toNatClampNeg n.toNatClampNeg)) nc ns) ∨
  (∃ (ix : Nat) (x : Int32) (y : Int32) (r : List xm_V) (pn : Nat), Y.1 pc = some (.invokestatic ix, pn) ∧ Y.2.2.2.2.2 ix = 3 ∧ st = xv_i y :: xv_i x :: r ∧ xm_c8 r = true ∧ K pn loc (xv_i (if y < x then y else x) :: r) M nc ns)
def xm_s1 (Y : xm_Y) (xt : Nat → Nat × (Nat → Int32)) (nL : Nat) (pc : Nat) (loc : xm_L) (st : List xm_V) (M : xm_M) (nc ns : Nat) (K : xm_K) : Prop := xm_sA Y xt nL pc loc st M nc ns K ∨ xm_sB Y xt nL pc loc st M nc ns K ∨ xm_sC Y xt nL pc loc st M nc ns K ∨ xm_sD Y xt nL pc loc st M nc ns K ∨ xm_sE Y xt nL pc loc st M nc ns K ∨ xm_sF Y xt nL pc loc st M nc ns K ∨ xm_sG Y xt nL pc loc st M nc ns K
