section
/-! The abstract machine: values, cells, memory; one step with what follows as a predicate. -/
-- int, long, reference to a cell of ours by its number (none: null), a row that stands outside and is only read
abbrev xm_V : Type := Int32 ⊕ (Int64 ⊕ (Option Nat ⊕ Nat))
-- a field of an object: a number (it stands in the contents), or a reference
abbrev xm_F : Type := Option (Option Nat)
-- shape of a cell: a row (0 int, 1 long, 2 boolean; its length), or an object (the number of its kind, its fields)
abbrev xm_T : Type := (Nat × Nat) ⊕ (Nat × List xm_F)
-- memory: shapes; ints and booleans by cell and place; longs by cell and place
abbrev xm_M : Type := List xm_T × (Nat → Nat → Int32) × (Nat → Nat → Int64)
abbrev xm_L : Type := List (Option xm_V)
abbrev xm_K : Type := Nat → xm_L → List xm_V → xm_M → Nat → Nat → Prop
abbrev xv_i (x : Int32) : xm_V := Sum.inl x
abbrev xv_l (x : Int64) : xm_V := Sum.inr (Sum.inl x)
abbrev xv_r (k : Nat) : xm_V := Sum.inr (Sum.inr (Sum.inl (some k)))
abbrev xv_n : xm_V := Sum.inr (Sum.inr (Sum.inl none))
abbrev xv_x (k : Nat) : xm_V := Sum.inr (Sum.inr (Sum.inr k))
abbrev xt_r (t n : Nat) : xm_T := Sum.inl (t, n)
abbrev xt_o (ci : Nat) (fs : List xm_F) : xm_T := Sum.inr (ci, fs)
-- a method: instructions with the place behind; constants; fields (kind of object, place, type: 0 int, 2 reference, 3 boolean, 12 reference that is written once, 22 such a one elsewhere); what 'new' makes; statics; calls that are one step (1 arraycopy of longs, 2 Object(); at 0 stands 9 for a method <init>)
abbrev xm_Y : Type := (Nat → Option (Jvm.ClassFile.Instr × Nat)) × (Nat → Option xm_V) × (Nat → Option (Nat × Nat × Nat)) × (Nat → Option (Nat × List xm_F)) × (Nat → Option Nat) × (Nat → Nat)
def xm_cat : xm_V → Nat
  | Sum.inr (Sum.inl _) => 2
  | _ => 1
def xm_c8 (st : List xm_V) : Bool := Nat.ble ((st.map xm_cat).sum) 8
def xu_2 {α : Type} (f : Nat → Nat → α) (k j : Nat) (x : α) : Nat → Nat → α := fun a b => if a = k then (if b = j then x else f a b) else f a b
def xz_2 {α : Type} (f : Nat → Nat → α) (k : Nat) (z : α) : Nat → Nat → α := fun a b => if a = k then z else f a b
def xc_y {α : Type} (f : Nat → Nat → α) (k : Nat) (g : Nat → α) : Nat → Nat → α := fun a b => if a = k then g b else f a b
-- a place of the locals is written: a long ahead of it is broken; behind a long the next place is gone
def xm_brk (loc : xm_L) (i : Nat) : xm_L := match i with
  | 0 => loc
  | j + 1 => match loc[j]? with
    | some (some (Sum.inr (Sum.inl _))) => loc.set j none
    | _ => loc
def xm_st1 (loc : xm_L) (i : Nat) (v : xm_V) : xm_L := (xm_brk loc i).set i (some v)
def xm_st2 (loc : xm_L) (i : Nat) (v : xm_V) : xm_L := ((xm_brk loc i).set i (some v)).set (i + 1) none
def xm_fv (I : Nat → Nat → Int32) (k j : Nat) : xm_F → xm_V
  | none => xv_i (I k j)
  | some none => xv_n
  | some (some q) => xv_r q
def xm_c1 (c : Jvm.ClassFile.Cond) (x : Int32) : Prop := match c with
  | .eq => x = 0
  | .ne => ¬ x = 0
  | .lt => x < 0
  | .ge => 0 ≤ x
  | .gt => 0 < x
  | .le => x ≤ 0
def xm_c2 (c : Jvm.ClassFile.Cond) (x y : Int32) : Prop := match c with
  | .eq => x = y
  | .ne => ¬ x = y
  | .lt => x < y
  | .ge => y ≤ x
  | .gt => y < x
  | .le => x ≤ y
-- lengths of instructions (0: a switch)
def xm_len (i : Jvm.ClassFile.Instr) : Nat := match i with
  | .bipush _ => 2
  | .ldc _ => 2
  | .iload _ => 2
  | .lload _ => 2
  | .aload _ => 2
  | .istore _ => 2
  | .lstore _ => 2
  | .astore _ => 2
  | .newarray _ => 2
  | .sipush _ => 3
  | .ldc2_w _ => 3
  | .iinc _ _ => 3
  | .goto _ => 3
  | .ifCond _ _ => 3
  | .if_icmp _ _ => 3
  | .getfield _ => 3
  | .putfield _ => 3
  | .getstatic _ => 3
  | .new _ => 3
  | .invokevirtual _ => 3
  | .invokestatic _ => 3
  | .invokespecial _ => 3
  | .tableswitch _ _ _ _ => 0
  | .lookupswitch _ _ => 0
  | _ => 1
-- a method's instructions by place, in runs: (first place behind the run, its instructions with the place behind each)
abbrev xm_I : Type := Nat × Jvm.ClassFile.Instr × Nat
def xm_in (pc : Nat) : List xm_I → Option (Jvm.ClassFile.Instr × Nat)
  | [] => none
  | q :: r => bif Nat.beq q.1 pc then some q.2 else xm_in pc r
def xm_tb (pc : Nat) : List (Nat × List xm_I) → Option (Jvm.ClassFile.Instr × Nat)
  | [] => none
  | q :: r => bif Nat.blt pc q.1 then xm_in pc q.2 else xm_tb pc r
-- the one step, by forms
def xm_sA (Y : xm_Y) (xt : Nat → Nat × (Nat → Int32)) (nL : Nat) (pc : Nat) (loc : xm_L) (st : List xm_V) (M : xm_M) (nc ns : Nat) (K : xm_K) : Prop :=
  (∃ (n : Int) (pn : Nat), Y.1 pc = some (.iconst n, pn) ∧ K pn loc (xv_i (Int32.ofInt n) :: st) M nc ns) ∨
  (∃ (n : Int) (pn : Nat), Y.1 pc = some (.bipush n, pn) ∧ K pn loc (xv_i (Int8.ofInt n).toInt32 :: st) M nc ns) ∨
  (∃ (n : Int) (pn : Nat), Y.1 pc = some (.sipush n, pn) ∧ K pn loc (xv_i (Int16.ofInt n).toInt32 :: st) M nc ns) ∨
  (∃ (n : Fin 2) (pn : Nat), Y.1 pc = some (.lconst n, pn) ∧ K pn loc (xv_l (Int64.ofNat (n : Nat)) :: st) M nc ns) ∨
  (∃ (ix : Nat) (v : Int32) (pn : Nat), Y.1 pc = some (.ldc ix, pn) ∧ Y.2.1 ix = some (xv_i v) ∧ K pn loc (xv_i v :: st) M nc ns) ∨
  (∃ (ix : Nat) (v : Int64) (pn : Nat), Y.1 pc = some (.ldc2_w ix, pn) ∧ Y.2.1 ix = some (xv_l v) ∧ K pn loc (xv_l v :: st) M nc ns) ∨
  (∃ (k : Nat) (x : Int32) (pn : Nat), Y.1 pc = some (.iload k, pn) ∧ loc[k]? = some (some (xv_i x)) ∧ K pn loc (xv_i x :: st) M nc ns) ∨
  (∃ (k : Fin 4) (x : Int32) (pn : Nat), Y.1 pc = some (.iload_n k, pn) ∧ loc[(k : Nat)]? = some (some (xv_i x)) ∧ K pn loc (xv_i x :: st) M nc ns) ∨
  (∃ (k : Nat) (x : Int64) (pn : Nat), Y.1 pc = some (.lload k, pn) ∧ loc[k]? = some (some (xv_l x)) ∧ K pn loc (xv_l x :: st) M nc ns) ∨
  (∃ (k : Fin 4) (x : Int64) (pn : Nat), Y.1 pc = some (.lload_n k, pn) ∧ loc[(k : Nat)]? = some (some (xv_l x)) ∧ K pn loc (xv_l x :: st) M nc ns) ∨
  (∃ (k : Nat) (q : Nat) (pn : Nat), Y.1 pc = some (.aload k, pn) ∧ loc[k]? = some (some (xv_r q)) ∧ K pn loc (xv_r q :: st) M nc ns) ∨
  (∃ (k : Fin 4) (q : Nat) (pn : Nat), Y.1 pc = some (.aload_n k, pn) ∧ loc[(k : Nat)]? = some (some (xv_r q)) ∧ K pn loc (xv_r q :: st) M nc ns) ∨
  (∃ (k : Nat) (q : Nat) (pn : Nat), Y.1 pc = some (.aload k, pn) ∧ loc[k]? = some (some (xv_x q)) ∧ K pn loc (xv_x q :: st) M nc ns) ∨
  (∃ (k : Fin 4) (q : Nat) (pn : Nat), Y.1 pc = some (.aload_n k, pn) ∧ loc[(k : Nat)]? = some (some (xv_x q)) ∧ K pn loc (xv_x q :: st) M nc ns)
def xm_sB (Y : xm_Y) (xt : Nat → Nat × (Nat → Int32)) (nL : Nat) (pc : Nat) (loc : xm_L) (st : List xm_V) (M : xm_M) (nc ns : Nat) (K : xm_K) : Prop :=
  (∃ (k : Nat) (x : Int32) (r : List xm_V) (pn : Nat), Y.1 pc = some (.istore k, pn) ∧ st = xv_i x :: r ∧ k < nL ∧ K pn (xm_st1 loc k (xv_i x)) r M nc ns) ∨
  (∃ (k : Fin 4) (x : Int32) (r : List xm_V) (pn : Nat), Y.1 pc = some (.istore_n k, pn) ∧ st = xv_i x :: r ∧ (k : Nat) < nL ∧ K pn (xm_st1 loc k (xv_i x)) r M nc ns) ∨
  (∃ (k : Nat) (x : Int64) (r : List xm_V) (pn : Nat), Y.1 pc = some (.lstore k, pn) ∧ st = xv_l x :: r ∧ k + 1 < nL ∧ K pn (xm_st2 loc k (xv_l x)) r M nc ns) ∨
  (∃ (k : Fin 4) (x : Int64) (r : List xm_V) (pn : Nat), Y.1 pc = some (.lstore_n k, pn) ∧ st = xv_l x :: r ∧ (k : Nat) + 1 < nL ∧ K pn (xm_st2 loc k (xv_l x)) r M nc ns) ∨
  (∃ (k : Nat) (x : Nat) (r : List xm_V) (pn : Nat), Y.1 pc = some (.astore k, pn) ∧ st = xv_r x :: r ∧ k < nL ∧ K pn (xm_st1 loc k (xv_r x)) r M nc ns) ∨
  (∃ (k : Fin 4) (x : Nat) (r : List xm_V) (pn : Nat), Y.1 pc = some (.astore_n k, pn) ∧ st = xv_r x :: r ∧ (k : Nat) < nL ∧ K pn (xm_st1 loc k (xv_r x)) r M nc ns) ∨
  (∃ (k : Nat) (n : Int) (x : Int32) (pn : Nat), Y.1 pc = some (.iinc k n, pn) ∧ loc[k]? = some (some (xv_i x)) ∧ k < nL ∧ K pn (xm_st1 loc k (xv_i (x + Int32.ofInt n))) st M nc ns)
def xm_sC (Y : xm_Y) (xt : Nat → Nat × (Nat → Int32)) (nL : Nat) (pc : Nat) (loc : xm_L) (st : List xm_V) (M : xm_M) (nc ns : Nat) (K : xm_K) : Prop :=
  (∃ (x : Int32) (y : Int32) (r : List xm_V) (pn : Nat), Y.1 pc = some (.iadd, pn) ∧ st = xv_i y :: xv_i x :: r ∧ K pn loc (xv_i (x + y) :: r) M nc ns) ∨
  (∃ (x : Int32) (y : Int32) (r : List xm_V) (pn : Nat), Y.1 pc = some (.isub, pn) ∧ st = xv_i y :: xv_i x :: r ∧ K pn loc (xv_i (x - y) :: r) M nc ns) ∨
  (∃ (x : Int32) (y : Int32) (r : List xm_V) (pn : Nat), Y.1 pc = some (.imul, pn) ∧ st = xv_i y :: xv_i x :: r ∧ K pn loc (xv_i (x * y) :: r) M nc ns) ∨
  (∃ (x : Int32) (y : Int32) (r : List xm_V) (pn : Nat), Y.1 pc = some (.iand, pn) ∧ st = xv_i y :: xv_i x :: r ∧ K pn loc (xv_i (x &&& y) :: r) M nc ns) ∨
  (∃ (x : Int32) (y : Int32) (r : List xm_V) (pn : Nat), Y.1 pc = some (.ior, pn) ∧ st = xv_i y :: xv_i x :: r ∧ K pn loc (xv_i (x ||| y) :: r) M nc ns) ∨
  (∃ (x : Int32) (y : Int32) (r : List xm_V) (pn : Nat), Y.1 pc = some (.ixor, pn) ∧ st = xv_i y :: xv_i x :: r ∧ K pn loc (xv_i (x ^^^ y) :: r) M nc ns) ∨
  (∃ (x : Int32) (y : Int32) (r : List xm_V) (pn : Nat), Y.1 pc = some (.ishl, pn) ∧ st = xv_i y :: xv_i x :: r ∧ K pn loc (xv_i (x <<< (y &&& 31)) :: r) M nc ns) ∨
  (∃ (x : Int32) (y : Int32) (r : List xm_V) (pn : Nat), Y.1 pc = some (.ishr, pn) ∧ st = xv_i y :: xv_i x :: r ∧ K pn loc (xv_i (x >>> (y &&& 31)) :: r) M nc ns) ∨
  (∃ (x : Int32) (y : Int32) (r : List xm_V) (pn : Nat), Y.1 pc = some (.idiv, pn) ∧ st = xv_i y :: xv_i x :: r ∧ ¬ y = 0 ∧ K pn loc (xv_i (x / y) :: r) M nc ns) ∨
  (∃ (x : Int64) (y : Int64) (r : List xm_V) (pn : Nat), Y.1 pc = some (.ladd, pn) ∧ st = xv_l y :: xv_l x :: r ∧ K pn loc (xv_l (x + y) :: r) M nc ns) ∨
  (∃ (x : Int64) (y : Int64) (r : List xm_V) (pn : Nat), Y.1 pc = some (.lsub, pn) ∧ st = xv_l y :: xv_l x :: r ∧ K pn loc (xv_l (x - y) :: r) M nc ns) ∨
  (∃ (x : Int64) (y : Int64) (r : List xm_V) (pn : Nat), Y.1 pc = some (.land, pn) ∧ st = xv_l y :: xv_l x :: r ∧ K pn loc (xv_l (x &&& y) :: r) M nc ns) ∨
  (∃ (x : Int64) (y : Int64) (r : List xm_V) (pn : Nat), Y.1 pc = some (.lor, pn) ∧ st = xv_l y :: xv_l x :: r ∧ K pn loc (xv_l (x ||| y) :: r) M nc ns) ∨
  (∃ (x : Int64) (y : Int64) (r : List xm_V) (pn : Nat), Y.1 pc = some (.lcmp, pn) ∧ st = xv_l y :: xv_l x :: r ∧ K pn loc (xv_i (lg_cmp x y) :: r) M nc ns) ∨
  (∃ (x : Int64) (y : Int32) (r : List xm_V) (pn : Nat), Y.1 pc = some (.lshl, pn) ∧ st = xv_i y :: xv_l x :: r ∧ K pn loc (xv_l (x <<< (y.toInt64 &&& 63)) :: r) M nc ns) ∨
  (∃ (x : Int64) (y : Int32) (r : List xm_V) (pn : Nat), Y.1 pc = some (.lshr, pn) ∧ st = xv_i y :: xv_l x :: r ∧ K pn loc (xv_l (x >>> (y.toInt64 &&& 63)) :: r) M nc ns) ∨
  (∃ (x : Int32) (r : List xm_V) (pn : Nat), Y.1 pc = some (.i2l, pn) ∧ st = xv_i x :: r ∧ K pn loc (xv_l x.toInt64 :: r) M nc ns) ∨
  (∃ (x : Int64) (r : List xm_V) (pn : Nat), Y.1 pc = some (.l2i, pn) ∧ st = xv_l x :: r ∧ K pn loc (xv_i x.toInt32 :: r) M nc ns)
def xm_sD (Y : xm_Y) (xt : Nat → Nat × (Nat → Int32)) (nL : Nat) (pc : Nat) (loc : xm_L) (st : List xm_V) (M : xm_M) (nc ns : Nat) (K : xm_K) : Prop :=
  (∃ (v : xm_V) (r : List xm_V) (pn : Nat), Y.1 pc = some (.dup, pn) ∧ st = v :: r ∧ xm_cat v = 1 ∧ K pn loc (v :: v :: r) M nc ns) ∨
  (∃ (v : xm_V) (r : List xm_V) (pn : Nat), Y.1 pc = some (.pop, pn) ∧ st = v :: r ∧ xm_cat v = 1 ∧ K pn loc r M nc ns) ∨
  (∃ (v : xm_V) (w : xm_V) (r : List xm_V) (pn : Nat), Y.1 pc = some (.dup2, pn) ∧ st = v :: w :: r ∧ xm_cat v = 1 ∧ xm_cat w = 1 ∧ K pn loc (v :: w :: v :: w :: r) M nc ns) ∨
  (∃ (off : Int) (t : Nat) (pn : Nat), Y.1 pc = some (.goto off, pn) ∧ (pc : Int) + off = (t : Int) ∧ K t loc st M nc ns) ∨
  (∃ (c : Jvm.ClassFile.Cond) (off : Int) (x : Int32) (r : List xm_V) (t : Nat) (pn : Nat), Y.1 pc = some (.ifCond c off, pn) ∧ st = xv_i x :: r ∧ (pc : Int) + off = (t : Int) ∧ (xm_c1 c x → K t loc r M nc ns) ∧ (¬ xm_c1 c x → K pn loc r M nc ns)) ∨
  (∃ (c : Jvm.ClassFile.Cond) (off : Int) (x : Int32) (y : Int32) (r : List xm_V) (t : Nat) (pn : Nat), Y.1 pc = some (.if_icmp c off, pn) ∧ st = xv_i y :: xv_i x :: r ∧ (pc : Int) + off = (t : Int) ∧ (xm_c2 c x y → K t loc r M nc ns) ∧ (¬ xm_c2 c x y → K pn loc r M nc ns)) ∨
  (∃ (df : Int) (lo : Int) (up : Int) (os : Array Int) (x : Int32) (r : List xm_V) (t : Nat) (pn : Nat), Y.1 pc = some (.tableswitch df lo up os, pn) ∧ st = xv_i x :: r ∧ (x.toInt < lo ∨ up < x.toInt) ∧ (pc : Int) + df = (t : Int) ∧ K t loc r M nc ns) ∨
  (∃ (df : Int) (lo : Int) (up : Int) (os : Array Int) (x : Int32) (r : List xm_V) (off : Int) (t : Nat) (pn : Nat), Y.1 pc = some (.tableswitch df lo up os, pn) ∧ st = xv_i x :: r ∧ ¬ x.toInt < lo ∧ ¬ up < x.toInt ∧ os[(x.toInt - lo).toNat]? = some off ∧ (pc : Int) + off = (t : Int) ∧ K t loc r M nc ns)
def xm_sE (Y : xm_Y) (xt : Nat → Nat × (Nat → Int32)) (nL : Nat) (pc : Nat) (loc : xm_L) (st : List xm_V) (M : xm_M) (nc ns : Nat) (K : xm_K) : Prop :=
  (∃ (i : Int32) (k : Nat) (n : Nat) (r : List xm_V) (pn : Nat), Y.1 pc = some (.iaload, pn) ∧ st = xv_i i :: xv_r k :: r ∧ M.1[k]? = some (xt_r 0 n) ∧ vp_in i n ∧ K pn loc (xv_i (M.2.1 k i.toNatClampNeg) :: r) M nc ns) ∨
  (∃ (i : Int32) (q : Nat) (r : List xm_V) (pn : Nat), Y.1 pc = some (.iaload, pn) ∧ st = xv_i i :: xv_x q :: r ∧ vp_in i (xt q).1 ∧ K pn loc (xv_i ((xt q).2 i.toNatClampNeg) :: r) M nc ns) ∨
  (∃ (i : Int32) (k : Nat) (n : Nat) (r : List xm_V) (pn : Nat), Y.1 pc = some (.baload, pn) ∧ st = xv_i i :: xv_r k :: r ∧ M.1[k]? = some (xt_r 2 n) ∧ vp_in i n ∧ K pn loc (xv_i (M.2.1 k i.toNatClampNeg) :: r) M nc ns) ∨
  (∃ (i : Int32) (k : Nat) (n : Nat) (r : List xm_V) (pn : Nat), Y.1 pc = some (.laload, pn) ∧ st = xv_i i :: xv_r k :: r ∧ M.1[k]? = some (xt_r 1 n) ∧ vp_in i n ∧ K pn loc (xv_l (M.2.2 k i.toNatClampNeg) :: r) M nc ns) ∨
  (∃ (k : Nat) (t : Nat) (n : Nat) (r : List xm_V) (pn : Nat), Y.1 pc = some (.arraylength, pn) ∧ st = xv_r k :: r ∧ M.1[k]? = some (xt_r t n) ∧ t < 3 ∧ K pn loc (xv_i (nI n) :: r) M nc ns) ∨
  (∃ (q : Nat) (r : List xm_V) (pn : Nat), Y.1 pc = some (.arraylength, pn) ∧ st = xv_x q :: r ∧ K pn loc (xv_i (nI (xt q).1) :: r) M nc ns) ∨
  (∃ (ix : Nat) (ci : Nat) (j : Nat) (ty : Nat) (k : Nat) (fs : List xm_F) (f : xm_F) (r : List xm_V) (pn : Nat), Y.1 pc = some (.getfield ix, pn) ∧ Y.2.2.1 ix = some (ci, j, ty) ∧ st = xv_r k :: r ∧ M.1[k]? = some (xt_o ci fs) ∧ fs[j]? = some f ∧ K pn loc (xm_fv M.2.1 k j f :: r) M nc ns) ∨
  (∃ (ix : Nat) (q : Nat) (pn : Nat), Y.1 pc = some (.getstatic ix, pn) ∧ Y.2.2.2.2.1 ix = some q ∧ K pn loc (xv_x q :: st) M nc ns)
def xm_sF (Y : xm_Y) (xt : Nat → Nat × (Nat → Int32)) (nL : Nat) (pc : Nat) (loc : xm_L) (st : List xm_V) (M : xm_M) (nc ns : Nat) (K : xm_K) : Prop :=
  (∃ (i : Int32) (x : Int32) (k : Nat) (n : Nat) (r : List xm_V) (pn : Nat), Y.1 pc = some (.iastore, pn) ∧ st = xv_i x :: xv_i i :: xv_r k :: r ∧ M.1[k]? = some (xt_r 0 n) ∧ vp_in i n ∧ K pn loc r (M.1, xu_2 M.2.1 k i.toNatClampNeg x, M.2.2) nc ns) ∨
  (∃ (i : Int32) (x : Int32) (k : Nat) (n : Nat) (r : List xm_V) (pn : Nat), Y.1 pc = some (.bastore, pn) ∧ st = xv_i x :: xv_i i :: xv_r k :: r ∧ M.1[k]? = some (xt_r 2 n) ∧ vp_in i n ∧ (x = 0 ∨ x = 1) ∧ K pn loc r (M.1, xu_2 M.2.1 k i.toNatClampNeg x, M.2.2) nc ns) ∨
  (∃ (i : Int32) (x : Int64) (k : Nat) (n : Nat) (r : List xm_V) (pn : Nat), Y.1 pc = some (.lastore, pn) ∧ st = xv_l x :: xv_i i :: xv_r k :: r ∧ M.1[k]? = some (xt_r 1 n) ∧ vp_in i n ∧ K pn loc r (M.1, M.2.1, xu_2 M.2.2 k i.toNatClampNeg x) nc ns) ∨
  (∃ (ix : Nat) (ci : Nat) (j : Nat) (ty : Nat) (k : Nat) (fs : List xm_F) (x : Int32) (r : List xm_V) (pn : Nat), Y.1 pc = some (.putfield ix, pn) ∧ Y.2.2.1 ix = some (ci, j, ty) ∧ st = xv_i x :: xv_r k :: r ∧ M.1[k]? = some (xt_o ci fs) ∧ fs[j]? = some none ∧ (ty = 0 ∨ (ty = 3 ∧ (x = 0 ∨ x = 1))) ∧ K pn loc r (M.1, xu_2 M.2.1 k j x, M.2.2) nc ns) ∨
  (∃ (ix : Nat) (ci : Nat) (j : Nat) (t : Nat) (k : Nat) (fs : List xm_F) (q : Nat) (o : Option Nat) (r : List xm_V) (pn : Nat), Y.1 pc = some (.putfield ix, pn) ∧ Y.2.2.1 ix = some (ci, j, t) ∧ (t = 2 ∨ (t = 12 ∧ Y.2.2.2.2.2 0 = 9)) ∧ st = xv_r q :: xv_r k :: r ∧ M.1[k]? = some (xt_o ci fs) ∧ fs[j]? = some (some o) ∧ K pn loc r (M.1.set k (xt_o ci (fs.set j (some (some q)))), M.2.1, M.2.2) nc ns)
def xm_sG (Y : xm_Y) (xt : Nat → Nat × (Nat → Int32)) (nL : Nat) (pc : Nat) (loc : xm_L) (st : List xm_V) (M : xm_M) (nc ns : Nat) (K : xm_K) : Prop :=
  (∃ (ix : Nat) (ci : Nat) (fs : List xm_F) (pn : Nat), Y.1 pc = some (.new ix, pn) ∧ Y.2.2.2.1 ix = some (ci, fs) ∧ K pn loc (xv_r M.1.length :: st) (M.1 ++ [xt_o ci fs], xz_2 M.2.1 M.1.length 0, M.2.2) (nc + 1) (ns + fs.length)) ∨
  (∃ (n : Int32) (N : Nat) (r : List xm_V) (pn : Nat), Y.1 pc = some (.newarray .int, pn) ∧ st = xv_i n :: r ∧ ¬ n < 0 ∧ n.toNatClampNeg = N ∧ N ≤ 67108864 ∧ K pn loc (xv_r M.1.length :: r) (M.1 ++ [xt_r 0 N], xz_2 M.2.1 M.1.length 0, xz_2 M.2.2 M.1.length 0) (nc + 1) (ns + N)) ∨
  (∃ (n : Int32) (N : Nat) (r : List xm_V) (pn : Nat), Y.1 pc = some (.newarray .long, pn) ∧ st = xv_i n :: r ∧ ¬ n < 0 ∧ n.toNatClampNeg = N ∧ N ≤ 67108864 ∧ K pn loc (xv_r M.1.length :: r) (M.1 ++ [xt_r 1 N], xz_2 M.2.1 M.1.length 0, xz_2 M.2.2 M.1.length 0) (nc + 1) (ns + N)) ∨
  (∃ (n : Int32) (N : Nat) (r : List xm_V) (pn : Nat), Y.1 pc = some (.newarray .boolean, pn) ∧ st = xv_i n :: r ∧ ¬ n < 0 ∧ n.toNatClampNeg = N ∧ N ≤ 67108864 ∧ K pn loc (xv_r M.1.length :: r) (M.1 ++ [xt_r 2 N], xz_2 M.2.1 M.1.length 0, xz_2 M.2.2 M.1.length 0) (nc + 1) (ns + N)) ∨
  (∃ (ix : Nat) (k : Nat) (r : List xm_V) (pn : Nat), Y.1 pc = some (.invokespecial ix, pn) ∧ Y.2.2.2.2.2 ix = 2 ∧ st = xv_r k :: r ∧ xm_c8 r = true ∧ K pn loc r M nc ns) ∨
  (∃ (ix : Nat) (n : Int32) (dp : Int32) (sp : Int32) (kd : Nat) (ks : Nat) (nd : Nat) (n0 : Nat) (r : List xm_V) (pn : Nat), Y.1 pc = some (.invokestatic ix, pn) ∧ Y.2.2.2.2.2 ix = 1 ∧ st = xv_i n :: xv_i dp :: xv_r kd :: xv_i sp :: xv_r ks :: r ∧ M.1[ks]? = some (xt_r 1 n0) ∧ M.1[kd]? = some (xt_r 1 nd) ∧ ¬ sp < 0 ∧ ¬ dp < 0 ∧ ¬ n < 0 ∧ sp.toNatClampNeg + n.toNatClampNeg ≤ n0 ∧ dp.toNatClampNeg + n.toNatClampNeg ≤ nd ∧ ks ≠ kd ∧ xm_c8 r = true ∧ K pn loc r (M.1, M.2.1, xc_y M.2.2 kd (va_cpy (M.2.2 ks) (M.2.2 kd) sp.toNatClampNeg dp.toNatClampNeg n.toNatClampNeg)) nc ns)
def xm_s1 (Y : xm_Y) (xt : Nat → Nat × (Nat → Int32)) (nL : Nat) (pc : Nat) (loc : xm_L) (st : List xm_V) (M : xm_M) (nc ns : Nat) (K : xm_K) : Prop := xm_sA Y xt nL pc loc st M nc ns K ∨ xm_sB Y xt nL pc loc st M nc ns K ∨ xm_sC Y xt nL pc loc st M nc ns K ∨ xm_sD Y xt nL pc loc st M nc ns K ∨ xm_sE Y xt nL pc loc st M nc ns K ∨ xm_sF Y xt nL pc loc st M nc ns K ∨ xm_sG Y xt nL pc loc st M nc ns K
end
section
/-! Pure: 'from here the method comes to its end with Q', as the least predicate that is closed under step, call, return, and forgetting of locals. -/
abbrev xm_P : Type := Option xm_V → xm_M → Prop
-- a program: code, number of locals and kind of answer (0 none, 1 int, 2 long, 3 reference, 4 boolean) of each method; which method a call means, how many values it takes, how it is called (0 virtual, 1 static, 2 special), the receiver's kind
abbrev xm_Pr : Type := (Nat → xm_Y) × (Nat → Nat) × (Nat → Nat) × (Nat → Nat → Option (Nat × Nat × Nat × Nat))
abbrev xm_GT : Type := Nat → Nat → Nat → Nat → xm_P → xm_K
def xm_en : List xm_V → xm_L
  | [] => []
  | v :: r => bif Nat.beq (xm_cat v) 2 then some v :: none :: xm_en r else some v :: xm_en r
def xm_ent (n : Nat) (av : List xm_V) : xm_L := xm_en av ++ List.replicate (n - (xm_en av).length) none
def xm_isCall (Y : xm_Y) (T : List xm_T) (av : List xm_V) (pc ix pn kd ci : Nat) : Prop :=
  (kd = 0 ∧ Y.1 pc = some (.invokevirtual ix, pn) ∧ ∃ k fs as, av = xv_r k :: as ∧ T[k]? = some (xt_o ci fs)) ∨ (kd = 1 ∧ Y.1 pc = some (.invokestatic ix, pn)) ∨ (kd = 2 ∧ Y.1 pc = some (.invokespecial ix, pn) ∧ ∃ k as, av = xv_r k :: as)
theorem xk_V {Y : xm_Y} {T : List xm_T} {as : List xm_V} {fs : List xm_F} {k pc ix pn ci : Nat} (h : Y.1 pc = some (.invokevirtual ix, pn)) (hk : T[k]? = some (xt_o ci fs)) : xm_isCall Y T (xv_r k :: as) pc ix pn 0 ci := Or.inl ⟨rfl, h, _, _, _, rfl, hk⟩
theorem xk_S {Y : xm_Y} {T : List xm_T} {as : List xm_V} {pc ix pn ci : Nat} (h : Y.1 pc = some (.invokestatic ix, pn)) : xm_isCall Y T as pc ix pn 1 ci := Or.inr (Or.inl ⟨rfl, h⟩)
theorem xk_I {Y : xm_Y} {T : List xm_T} {as : List xm_V} {k pc ix pn ci : Nat} (h : Y.1 pc = some (.invokespecial ix, pn)) : xm_isCall Y T (xv_r k :: as) pc ix pn 2 ci := Or.inr (Or.inr ⟨rfl, h, _, _, rfl⟩)
def xm_cS (P : xm_Pr) (xt : Nat → Nat × (Nat → Int32)) (G : xm_GT) : Prop := ∀ (d y C0 S0 : Nat) (Q : xm_P) (pc : Nat) (loc : xm_L) (st : List xm_V) (M : xm_M) (nc ns : Nat),
  ∀ K : xm_K, xm_s1 (P.1 y) xt (P.2.1 y) pc loc st M nc ns K → (∀ a1 a2 a3 a4 a5 a6, K a1 a2 a3 a4 a5 a6 → G d y C0 S0 Q a1 a2 a3 a4 a5 a6) → G d y C0 S0 Q pc loc st M nc ns
def xm_cC (P : xm_Pr) (G : xm_GT) : Prop := ∀ (d y C0 S0 : Nat) (Q : xm_P) (pc : Nat) (loc : xm_L) (M : xm_M) (nc ns ix pn y' kd ci c1 s1 : Nat) (av rest : List xm_V) (Q' : xm_P),
  xm_isCall (P.1 y) M.1 av pc ix pn kd ci → P.2.2.2 y ix = some (y', av.length, kd, ci) → (xm_en av).length ≤ P.2.1 y' → xm_c8 rest = true →
  G d y' c1 s1 Q' 0 (xm_ent (P.2.1 y') av) [] M 0 0 → (∀ r M', Q' r M' → G (d + 1) y C0 S0 Q pn loc (r.toList ++ rest) M' (nc + c1) (ns + s1)) →
  G (d + 1) y C0 S0 Q pc loc (av.reverse ++ rest) M nc ns
def xm_retOk (Y : xm_Y) (k pc : Nat) (r : Option xm_V) : Prop := ∃ pn : Nat, match k, r with
  | 0, none => Y.1 pc = some (.return_, pn)
  | 1, some (Sum.inl _) => Y.1 pc = some (.ireturn, pn)
  | 2, some (Sum.inr (Sum.inl _)) => Y.1 pc = some (.lreturn, pn)
  | 3, some (Sum.inr (Sum.inr (Sum.inl (some _)))) => Y.1 pc = some (.areturn, pn)
  | 4, some (Sum.inl x) => Y.1 pc = some (.ireturn, pn) ∧ (x = 0 ∨ x = 1)
  | _, _ => False
def xm_cR (P : xm_Pr) (G : xm_GT) : Prop := ∀ (d y C0 S0 : Nat) (Q : xm_P) (pc : Nat) (loc : xm_L) (M : xm_M) (nc ns : Nat) (r : Option xm_V),
  xm_retOk (P.1 y) (P.2.2.1 y) pc r → nc ≤ C0 → ns ≤ S0 → Q r M → G d y C0 S0 Q pc loc r.toList M nc ns
-- fewer locals are known
def xm_le : xm_L → xm_L → Prop
  | [], [] => True
  | none :: a, _ :: b => xm_le a b
  | some v :: a, w :: b => w = some v ∧ xm_le a b
  | _, _ => False
def xm_cF (G : xm_GT) : Prop := ∀ (d y C0 S0 : Nat) (Q : xm_P) (pc : Nat) (loc loc' : xm_L) (st : List xm_V) (M : xm_M) (nc ns : Nat),
  xm_le loc' loc → G d y C0 S0 Q pc loc' st M nc ns → G d y C0 S0 Q pc loc st M nc ns
def xm_clo (P : xm_Pr) (xt : Nat → Nat × (Nat → Int32)) (G : xm_GT) : Prop := xm_cS P xt G ∧ xm_cC P G ∧ xm_cR P G ∧ xm_cF G
def xm_Run (P : xm_Pr) (xt : Nat → Nat × (Nat → Int32)) : xm_GT := fun d y C0 S0 Q pc loc st M nc ns => ∀ G : xm_GT, xm_clo P xt G → G d y C0 S0 Q pc loc st M nc ns
section RUN
variable {P : xm_Pr} {xt : Nat → Nat × (Nat → Int32)} {d y C0 S0 : Nat} {Q : xm_P} {pc pn : Nat} {loc : xm_L} {st : List xm_V} {M : xm_M} {nc ns : Nat}
theorem xr_step (h : xm_s1 (P.1 y) xt (P.2.1 y) pc loc st M nc ns (xm_Run P xt d y C0 S0 Q)) : xm_Run P xt d y C0 S0 Q pc loc st M nc ns :=
  fun G hG => hG.1 d y C0 S0 Q pc loc st M nc ns _ h fun a1 a2 a3 a4 a5 a6 k => k G hG
theorem xr_forget {loc' : xm_L} (h : xm_le loc' loc) (k : xm_Run P xt d y C0 S0 Q pc loc' st M nc ns) : xm_Run P xt d y C0 S0 Q pc loc st M nc ns :=
  fun G hG => hG.2.2.2 d y C0 S0 Q pc loc loc' st M nc ns h (k G hG)
theorem xr_call0 {ix y' kd ci c1 s1 : Nat} (av : List xm_V) {rest : List xm_V} {Q' : xm_P} (hi : xm_isCall (P.1 y) M.1 av pc ix pn kd ci) (hc : P.2.2.2 y ix = some (y', av.length, kd, ci)) (hle : (xm_en av).length ≤ P.2.1 y') (h8 : xm_c8 rest = true)
    (hy : xm_Run P xt d y' c1 s1 Q' 0 (xm_ent (P.2.1 y') av) [] M 0 0) (hk : ∀ r M', Q' r M' → xm_Run P xt (d + 1) y C0 S0 Q pn loc (r.toList ++ rest) M' (nc + c1) (ns + s1)) :
    xm_Run P xt (d + 1) y C0 S0 Q pc loc (av.reverse ++ rest) M nc ns :=
  fun G hG => hG.2.1 d y C0 S0 Q pc loc M nc ns ix pn y' kd ci c1 s1 av rest Q' hi hc hle h8 (hy G hG) (fun r M' q => hk r M' q G hG)
theorem xr_ret0 {r : Option xm_V} (hr : xm_retOk (P.1 y) (P.2.2.1 y) pc r) (h1 : nc ≤ C0) (h2 : ns ≤ S0) (hq : Q r M) : xm_Run P xt d y C0 S0 Q pc loc r.toList M nc ns :=
  fun G hG => hG.2.2.1 d y C0 S0 Q pc loc M nc ns r hr h1 h2 hq
-- the end may be weakened
theorem xr_post {Q' : xm_P} (h : xm_Run P xt d y C0 S0 Q pc loc st M nc ns) (hq : ∀ r M, Q r M → Q' r M) : xm_Run P xt d y C0 S0 Q' pc loc st M nc ns :=
  fun G hG => h (fun d y C0 S0 Q pc loc st M nc ns => ∀ Q' : xm_P, (∀ r M, Q r M → Q' r M) → G d y C0 S0 Q' pc loc st M nc ns)
    ⟨fun d y C0 S0 Q pc loc st M nc ns K h hk Q' hq => hG.1 d y C0 S0 Q' pc loc st M nc ns K h fun a1 a2 a3 a4 a5 a6 k => hk a1 a2 a3 a4 a5 a6 k Q' hq,
     fun d y C0 S0 Q pc loc M nc ns ix pn y' kd ci c1 s1 av rest R hi hc hle h8 hy hk Q' hq => hG.2.1 d y C0 S0 Q' pc loc M nc ns ix pn y' kd ci c1 s1 av rest R hi hc hle h8 (hy R fun _ _ q => q) (fun r M' q => hk r M' q Q' hq),
     fun d y C0 S0 Q pc loc M nc ns r hr h1 h2 hq0 Q' hq => hG.2.2.1 d y C0 S0 Q' pc loc M nc ns r hr h1 h2 (hq r M hq0),
     fun d y C0 S0 Q pc loc loc' st M nc ns hl h Q' hq => hG.2.2.2 d y C0 S0 Q' pc loc loc' st M nc ns hl (h Q' hq)⟩ Q' hq
-- more frames do no harm
theorem xr_deep {d' : Nat} (h : xm_Run P xt d y C0 S0 Q pc loc st M nc ns) (hd : d ≤ d') : xm_Run P xt d' y C0 S0 Q pc loc st M nc ns :=
  fun G hG => h (fun d y C0 S0 Q pc loc st M nc ns => ∀ d' : Nat, d ≤ d' → G d' y C0 S0 Q pc loc st M nc ns)
    ⟨fun d y C0 S0 Q pc loc st M nc ns K h hk d' hd => hG.1 d' y C0 S0 Q pc loc st M nc ns K h fun a1 a2 a3 a4 a5 a6 k => hk a1 a2 a3 a4 a5 a6 k d' hd,
     fun d y C0 S0 Q pc loc M nc ns ix pn y' kd ci c1 s1 av rest R hi hc hle h8 hy hk d' hd => by
       cases d' with
       | zero => exact absurd hd (Nat.not_succ_le_zero d)
       | succ d' => exact hG.2.1 d' y C0 S0 Q pc loc M nc ns ix pn y' kd ci c1 s1 av rest R hi hc hle h8 (hy d' (Nat.le_of_succ_le_succ hd)) (fun r M' q => hk r M' q (d' + 1) hd),
     fun d y C0 S0 Q pc loc M nc ns r hr h1 h2 hq0 d' hd => hG.2.2.1 d' y C0 S0 Q pc loc M nc ns r hr h1 h2 hq0,
     fun d y C0 S0 Q pc loc loc' st M nc ns hl h d' hd => hG.2.2.2 d' y C0 S0 Q pc loc loc' st M nc ns hl (h d' hd)⟩ d' hd
theorem xr_iconst {n : Int} (hi : (P.1 y).1 pc = some (.iconst n, pn))  (k : xm_Run P xt d y C0 S0 Q pn loc (xv_i (Int32.ofInt n) :: st) M nc ns) : xm_Run P xt d y C0 S0 Q pc loc st M nc ns := xr_step (Or.inl (Or.inl (⟨_, _, hi, k⟩)))
theorem xr_bipush {n : Int} (hi : (P.1 y).1 pc = some (.bipush n, pn))  (k : xm_Run P xt d y C0 S0 Q pn loc (xv_i (Int8.ofInt n).toInt32 :: st) M nc ns) : xm_Run P xt d y C0 S0 Q pc loc st M nc ns := xr_step (Or.inl (Or.inr (Or.inl (⟨_, _, hi, k⟩))))
theorem xr_sipush {n : Int} (hi : (P.1 y).1 pc = some (.sipush n, pn))  (k : xm_Run P xt d y C0 S0 Q pn loc (xv_i (Int16.ofInt n).toInt32 :: st) M nc ns) : xm_Run P xt d y C0 S0 Q pc loc st M nc ns := xr_step (Or.inl (Or.inr (Or.inr (Or.inl (⟨_, _, hi, k⟩)))))
theorem xr_iconst_ {n : Int} (v : Int32) (hi : (P.1 y).1 pc = some (.iconst n, pn)) (hv : Int32.ofInt n = v) (k : xm_Run P xt d y C0 S0 Q pn loc (xv_i v :: st) M nc ns) : xm_Run P xt d y C0 S0 Q pc loc st M nc ns := by subst hv; exact xr_step (Or.inl (Or.inl (⟨_, _, hi, k⟩)))
theorem xr_bipush_ {n : Int} (v : Int32) (hi : (P.1 y).1 pc = some (.bipush n, pn)) (hv : (Int8.ofInt n).toInt32 = v) (k : xm_Run P xt d y C0 S0 Q pn loc (xv_i v :: st) M nc ns) : xm_Run P xt d y C0 S0 Q pc loc st M nc ns := by subst hv; exact xr_step (Or.inl (Or.inr (Or.inl (⟨_, _, hi, k⟩))))
theorem xr_sipush_ {n : Int} (v : Int32) (hi : (P.1 y).1 pc = some (.sipush n, pn)) (hv : (Int16.ofInt n).toInt32 = v) (k : xm_Run P xt d y C0 S0 Q pn loc (xv_i v :: st) M nc ns) : xm_Run P xt d y C0 S0 Q pc loc st M nc ns := by subst hv; exact xr_step (Or.inl (Or.inr (Or.inr (Or.inl (⟨_, _, hi, k⟩)))))
theorem xr_lconst_ {n : Fin 2} (v : Int64) (hi : (P.1 y).1 pc = some (.lconst n, pn)) (hv : Int64.ofNat (n : Nat) = v) (k : xm_Run P xt d y C0 S0 Q pn loc (xv_l v :: st) M nc ns) : xm_Run P xt d y C0 S0 Q pc loc st M nc ns := by subst hv; exact xr_step (Or.inl (Or.inr (Or.inr (Or.inr (Or.inl (⟨_, _, hi, k⟩))))))
theorem xr_ldc {ix : Nat} {v : Int32} (hi : (P.1 y).1 pc = some (.ldc ix, pn)) (hv : (P.1 y).2.1 ix = some (xv_i v)) (k : xm_Run P xt d y C0 S0 Q pn loc (xv_i v :: st) M nc ns) : xm_Run P xt d y C0 S0 Q pc loc st M nc ns := xr_step (Or.inl (Or.inr (Or.inr (Or.inr (Or.inr (Or.inl (⟨_, _, _, hi, hv, k⟩)))))))
theorem xr_ldc2 {ix : Nat} {v : Int64} (hi : (P.1 y).1 pc = some (.ldc2_w ix, pn)) (hv : (P.1 y).2.1 ix = some (xv_l v)) (k : xm_Run P xt d y C0 S0 Q pn loc (xv_l v :: st) M nc ns) : xm_Run P xt d y C0 S0 Q pc loc st M nc ns := xr_step (Or.inl (Or.inr (Or.inr (Or.inr (Or.inr (Or.inr (Or.inl (⟨_, _, _, hi, hv, k⟩))))))))
theorem xr_iload {a : Nat} {x : Int32} (hi : (P.1 y).1 pc = some (.iload a, pn)) (hl : loc[a]? = some (some (xv_i x))) (k : xm_Run P xt d y C0 S0 Q pn loc (xv_i x :: st) M nc ns) : xm_Run P xt d y C0 S0 Q pc loc st M nc ns := xr_step (Or.inl (Or.inr (Or.inr (Or.inr (Or.inr (Or.inr (Or.inr (Or.inl (⟨_, _, _, hi, hl, k⟩)))))))))
theorem xr_iload_n {a : Fin 4} {x : Int32} (hi : (P.1 y).1 pc = some (.iload_n a, pn)) (hl : loc[(a : Nat)]? = some (some (xv_i x))) (k : xm_Run P xt d y C0 S0 Q pn loc (xv_i x :: st) M nc ns) : xm_Run P xt d y C0 S0 Q pc loc st M nc ns := xr_step (Or.inl (Or.inr (Or.inr (Or.inr (Or.inr (Or.inr (Or.inr (Or.inr (Or.inl (⟨_, _, _, hi, hl, k⟩))))))))))
theorem xr_lload {a : Nat} {x : Int64} (hi : (P.1 y).1 pc = some (.lload a, pn)) (hl : loc[a]? = some (some (xv_l x))) (k : xm_Run P xt d y C0 S0 Q pn loc (xv_l x :: st) M nc ns) : xm_Run P xt d y C0 S0 Q pc loc st M nc ns := xr_step (Or.inl (Or.inr (Or.inr (Or.inr (Or.inr (Or.inr (Or.inr (Or.inr (Or.inr (Or.inl (⟨_, _, _, hi, hl, k⟩)))))))))))
theorem xr_lload_n {a : Fin 4} {x : Int64} (hi : (P.1 y).1 pc = some (.lload_n a, pn)) (hl : loc[(a : Nat)]? = some (some (xv_l x))) (k : xm_Run P xt d y C0 S0 Q pn loc (xv_l x :: st) M nc ns) : xm_Run P xt d y C0 S0 Q pc loc st M nc ns := xr_step (Or.inl (Or.inr (Or.inr (Or.inr (Or.inr (Or.inr (Or.inr (Or.inr (Or.inr (Or.inr (Or.inl (⟨_, _, _, hi, hl, k⟩))))))))))))
theorem xr_aload {a q : Nat} (hi : (P.1 y).1 pc = some (.aload a, pn)) (hl : loc[a]? = some (some (xv_r q))) (k : xm_Run P xt d y C0 S0 Q pn loc (xv_r q :: st) M nc ns) : xm_Run P xt d y C0 S0 Q pc loc st M nc ns := xr_step (Or.inl (Or.inr (Or.inr (Or.inr (Or.inr (Or.inr (Or.inr (Or.inr (Or.inr (Or.inr (Or.inr (Or.inl (⟨_, _, _, hi, hl, k⟩)))))))))))))
theorem xr_aload_n {a : Fin 4} {q : Nat} (hi : (P.1 y).1 pc = some (.aload_n a, pn)) (hl : loc[(a : Nat)]? = some (some (xv_r q))) (k : xm_Run P xt d y C0 S0 Q pn loc (xv_r q :: st) M nc ns) : xm_Run P xt d y C0 S0 Q pc loc st M nc ns := xr_step (Or.inl (Or.inr (Or.inr (Or.inr (Or.inr (Or.inr (Or.inr (Or.inr (Or.inr (Or.inr (Or.inr (Or.inr (Or.inl (⟨_, _, _, hi, hl, k⟩))))))))))))))
theorem xr_aloadx {a q : Nat} (hi : (P.1 y).1 pc = some (.aload a, pn)) (hl : loc[a]? = some (some (xv_x q))) (k : xm_Run P xt d y C0 S0 Q pn loc (xv_x q :: st) M nc ns) : xm_Run P xt d y C0 S0 Q pc loc st M nc ns := xr_step (Or.inl (Or.inr (Or.inr (Or.inr (Or.inr (Or.inr (Or.inr (Or.inr (Or.inr (Or.inr (Or.inr (Or.inr (Or.inr (Or.inl (⟨_, _, _, hi, hl, k⟩)))))))))))))))
theorem xr_aload_nx {a : Fin 4} {q : Nat} (hi : (P.1 y).1 pc = some (.aload_n a, pn)) (hl : loc[(a : Nat)]? = some (some (xv_x q))) (k : xm_Run P xt d y C0 S0 Q pn loc (xv_x q :: st) M nc ns) : xm_Run P xt d y C0 S0 Q pc loc st M nc ns := xr_step (Or.inl (Or.inr (Or.inr (Or.inr (Or.inr (Or.inr (Or.inr (Or.inr (Or.inr (Or.inr (Or.inr (Or.inr (Or.inr (Or.inr ((⟨_, _, _, hi, hl, k⟩))))))))))))))))
theorem xr_istore {a : Nat} {x : Int32} (loc' : xm_L) (hi : (P.1 y).1 pc = some (.istore a, pn)) (hn : a < P.2.1 y) (hl : xm_st1 loc a (xv_i x) = loc') (k : xm_Run P xt d y C0 S0 Q pn loc' st M nc ns) : xm_Run P xt d y C0 S0 Q pc loc (xv_i x :: st) M nc ns := by subst hl; exact xr_step (Or.inr (Or.inl (Or.inl (⟨_, _, _, _, hi, rfl, hn, k⟩))))
theorem xr_istore_n {a : Fin 4} {x : Int32} (loc' : xm_L) (hi : (P.1 y).1 pc = some (.istore_n a, pn)) (hn : (a : Nat) < P.2.1 y) (hl : xm_st1 loc (a : Nat) (xv_i x) = loc') (k : xm_Run P xt d y C0 S0 Q pn loc' st M nc ns) : xm_Run P xt d y C0 S0 Q pc loc (xv_i x :: st) M nc ns := by subst hl; exact xr_step (Or.inr (Or.inl (Or.inr (Or.inl (⟨_, _, _, _, hi, rfl, hn, k⟩)))))
theorem xr_lstore {a : Nat} {x : Int64} (loc' : xm_L) (hi : (P.1 y).1 pc = some (.lstore a, pn)) (hn : a + 1 < P.2.1 y) (hl : xm_st2 loc a (xv_l x) = loc') (k : xm_Run P xt d y C0 S0 Q pn loc' st M nc ns) : xm_Run P xt d y C0 S0 Q pc loc (xv_l x :: st) M nc ns := by subst hl; exact xr_step (Or.inr (Or.inl (Or.inr (Or.inr (Or.inl (⟨_, _, _, _, hi, rfl, hn, k⟩))))))
theorem xr_lstore_n {a : Fin 4} {x : Int64} (loc' : xm_L) (hi : (P.1 y).1 pc = some (.lstore_n a, pn)) (hn : (a : Nat) + 1 < P.2.1 y) (hl : xm_st2 loc (a : Nat) (xv_l x) = loc') (k : xm_Run P xt d y C0 S0 Q pn loc' st M nc ns) : xm_Run P xt d y C0 S0 Q pc loc (xv_l x :: st) M nc ns := by subst hl; exact xr_step (Or.inr (Or.inl (Or.inr (Or.inr (Or.inr (Or.inl (⟨_, _, _, _, hi, rfl, hn, k⟩)))))))
theorem xr_astore {a : Nat} {x : Nat} (loc' : xm_L) (hi : (P.1 y).1 pc = some (.astore a, pn)) (hn : a < P.2.1 y) (hl : xm_st1 loc a (xv_r x) = loc') (k : xm_Run P xt d y C0 S0 Q pn loc' st M nc ns) : xm_Run P xt d y C0 S0 Q pc loc (xv_r x :: st) M nc ns := by subst hl; exact xr_step (Or.inr (Or.inl (Or.inr (Or.inr (Or.inr (Or.inr (Or.inl (⟨_, _, _, _, hi, rfl, hn, k⟩))))))))
theorem xr_astore_n {a : Fin 4} {x : Nat} (loc' : xm_L) (hi : (P.1 y).1 pc = some (.astore_n a, pn)) (hn : (a : Nat) < P.2.1 y) (hl : xm_st1 loc (a : Nat) (xv_r x) = loc') (k : xm_Run P xt d y C0 S0 Q pn loc' st M nc ns) : xm_Run P xt d y C0 S0 Q pc loc (xv_r x :: st) M nc ns := by subst hl; exact xr_step (Or.inr (Or.inl (Or.inr (Or.inr (Or.inr (Or.inr (Or.inr (Or.inl (⟨_, _, _, _, hi, rfl, hn, k⟩)))))))))
theorem xr_iinc {a : Nat} {n : Int} {x : Int32} (v : Int32) (loc' : xm_L) (hi : (P.1 y).1 pc = some (.iinc a n, pn)) (hx : loc[a]? = some (some (xv_i x))) (hv : x + Int32.ofInt n = v) (hn : a < P.2.1 y) (hl : xm_st1 loc a (xv_i v) = loc') (k : xm_Run P xt d y C0 S0 Q pn loc' st M nc ns) : xm_Run P xt d y C0 S0 Q pc loc st M nc ns := by subst hv; subst hl; exact xr_step (Or.inr (Or.inl (Or.inr (Or.inr (Or.inr (Or.inr (Or.inr (Or.inr ((⟨_, _, _, _, hi, hx, hn, k⟩))))))))))
theorem xr_iadd {x z : Int32} (hi : (P.1 y).1 pc = some (.iadd, pn))  (k : xm_Run P xt d y C0 S0 Q pn loc (xv_i (x + z) :: st) M nc ns) : xm_Run P xt d y C0 S0 Q pc loc (xv_i z :: xv_i x :: st) M nc ns := xr_step (Or.inr (Or.inr (Or.inl (Or.inl (⟨_, _, _, _, hi, rfl, k⟩)))))
theorem xr_isub {x z : Int32} (hi : (P.1 y).1 pc = some (.isub, pn))  (k : xm_Run P xt d y C0 S0 Q pn loc (xv_i (x - z) :: st) M nc ns) : xm_Run P xt d y C0 S0 Q pc loc (xv_i z :: xv_i x :: st) M nc ns := xr_step (Or.inr (Or.inr (Or.inl (Or.inr (Or.inl (⟨_, _, _, _, hi, rfl, k⟩))))))
theorem xr_imul {x z : Int32} (hi : (P.1 y).1 pc = some (.imul, pn))  (k : xm_Run P xt d y C0 S0 Q pn loc (xv_i (x * z) :: st) M nc ns) : xm_Run P xt d y C0 S0 Q pc loc (xv_i z :: xv_i x :: st) M nc ns := xr_step (Or.inr (Or.inr (Or.inl (Or.inr (Or.inr (Or.inl (⟨_, _, _, _, hi, rfl, k⟩)))))))
theorem xr_iand {x z : Int32} (hi : (P.1 y).1 pc = some (.iand, pn))  (k : xm_Run P xt d y C0 S0 Q pn loc (xv_i (x &&& z) :: st) M nc ns) : xm_Run P xt d y C0 S0 Q pc loc (xv_i z :: xv_i x :: st) M nc ns := xr_step (Or.inr (Or.inr (Or.inl (Or.inr (Or.inr (Or.inr (Or.inl (⟨_, _, _, _, hi, rfl, k⟩))))))))
theorem xr_ior {x z : Int32} (hi : (P.1 y).1 pc = some (.ior, pn))  (k : xm_Run P xt d y C0 S0 Q pn loc (xv_i (x ||| z) :: st) M nc ns) : xm_Run P xt d y C0 S0 Q pc loc (xv_i z :: xv_i x :: st) M nc ns := xr_step (Or.inr (Or.inr (Or.inl (Or.inr (Or.inr (Or.inr (Or.inr (Or.inl (⟨_, _, _, _, hi, rfl, k⟩)))))))))
theorem xr_ixor {x z : Int32} (hi : (P.1 y).1 pc = some (.ixor, pn))  (k : xm_Run P xt d y C0 S0 Q pn loc (xv_i (x ^^^ z) :: st) M nc ns) : xm_Run P xt d y C0 S0 Q pc loc (xv_i z :: xv_i x :: st) M nc ns := xr_step (Or.inr (Or.inr (Or.inl (Or.inr (Or.inr (Or.inr (Or.inr (Or.inr (Or.inl (⟨_, _, _, _, hi, rfl, k⟩))))))))))
theorem xr_ishl {x z : Int32} (hi : (P.1 y).1 pc = some (.ishl, pn))  (k : xm_Run P xt d y C0 S0 Q pn loc (xv_i (x <<< (z &&& 31)) :: st) M nc ns) : xm_Run P xt d y C0 S0 Q pc loc (xv_i z :: xv_i x :: st) M nc ns := xr_step (Or.inr (Or.inr (Or.inl (Or.inr (Or.inr (Or.inr (Or.inr (Or.inr (Or.inr (Or.inl (⟨_, _, _, _, hi, rfl, k⟩)))))))))))
theorem xr_ishr {x z : Int32} (hi : (P.1 y).1 pc = some (.ishr, pn))  (k : xm_Run P xt d y C0 S0 Q pn loc (xv_i (x >>> (z &&& 31)) :: st) M nc ns) : xm_Run P xt d y C0 S0 Q pc loc (xv_i z :: xv_i x :: st) M nc ns := xr_step (Or.inr (Or.inr (Or.inl (Or.inr (Or.inr (Or.inr (Or.inr (Or.inr (Or.inr (Or.inr (Or.inl (⟨_, _, _, _, hi, rfl, k⟩))))))))))))
theorem xr_idiv {x z : Int32} (hi : (P.1 y).1 pc = some (.idiv, pn)) (h0 : ¬ z = 0) (k : xm_Run P xt d y C0 S0 Q pn loc (xv_i (x / z) :: st) M nc ns) : xm_Run P xt d y C0 S0 Q pc loc (xv_i z :: xv_i x :: st) M nc ns := xr_step (Or.inr (Or.inr (Or.inl (Or.inr (Or.inr (Or.inr (Or.inr (Or.inr (Or.inr (Or.inr (Or.inr (Or.inl (⟨_, _, _, _, hi, rfl, h0, k⟩)))))))))))))
theorem xr_ladd {x z : Int64} (hi : (P.1 y).1 pc = some (.ladd, pn))  (k : xm_Run P xt d y C0 S0 Q pn loc (xv_l (x + z) :: st) M nc ns) : xm_Run P xt d y C0 S0 Q pc loc (xv_l z :: xv_l x :: st) M nc ns := xr_step (Or.inr (Or.inr (Or.inl (Or.inr (Or.inr (Or.inr (Or.inr (Or.inr (Or.inr (Or.inr (Or.inr (Or.inr (Or.inl (⟨_, _, _, _, hi, rfl, k⟩))))))))))))))
theorem xr_lsub {x z : Int64} (hi : (P.1 y).1 pc = some (.lsub, pn))  (k : xm_Run P xt d y C0 S0 Q pn loc (xv_l (x - z) :: st) M nc ns) : xm_Run P xt d y C0 S0 Q pc loc (xv_l z :: xv_l x :: st) M nc ns := xr_step (Or.inr (Or.inr (Or.inl (Or.inr (Or.inr (Or.inr (Or.inr (Or.inr (Or.inr (Or.inr (Or.inr (Or.inr (Or.inr (Or.inl (⟨_, _, _, _, hi, rfl, k⟩)))))))))))))))
theorem xr_land {x z : Int64} (hi : (P.1 y).1 pc = some (.land, pn))  (k : xm_Run P xt d y C0 S0 Q pn loc (xv_l (x &&& z) :: st) M nc ns) : xm_Run P xt d y C0 S0 Q pc loc (xv_l z :: xv_l x :: st) M nc ns := xr_step (Or.inr (Or.inr (Or.inl (Or.inr (Or.inr (Or.inr (Or.inr (Or.inr (Or.inr (Or.inr (Or.inr (Or.inr (Or.inr (Or.inr (Or.inl (⟨_, _, _, _, hi, rfl, k⟩))))))))))))))))
theorem xr_lor {x z : Int64} (hi : (P.1 y).1 pc = some (.lor, pn))  (k : xm_Run P xt d y C0 S0 Q pn loc (xv_l (x ||| z) :: st) M nc ns) : xm_Run P xt d y C0 S0 Q pc loc (xv_l z :: xv_l x :: st) M nc ns := xr_step (Or.inr (Or.inr (Or.inl (Or.inr (Or.inr (Or.inr (Or.inr (Or.inr (Or.inr (Or.inr (Or.inr (Or.inr (Or.inr (Or.inr (Or.inr (Or.inl (⟨_, _, _, _, hi, rfl, k⟩)))))))))))))))))
theorem xr_lcmp {x z : Int64} (hi : (P.1 y).1 pc = some (.lcmp, pn))  (k : xm_Run P xt d y C0 S0 Q pn loc (xv_i (lg_cmp x z) :: st) M nc ns) : xm_Run P xt d y C0 S0 Q pc loc (xv_l z :: xv_l x :: st) M nc ns := xr_step (Or.inr (Or.inr (Or.inl (Or.inr (Or.inr (Or.inr (Or.inr (Or.inr (Or.inr (Or.inr (Or.inr (Or.inr (Or.inr (Or.inr (Or.inr (Or.inr (Or.inl (⟨_, _, _, _, hi, rfl, k⟩))))))))))))))))))
theorem xr_lshl {x : Int64} {z : Int32} (hi : (P.1 y).1 pc = some (.lshl, pn))  (k : xm_Run P xt d y C0 S0 Q pn loc (xv_l (x <<< (z.toInt64 &&& 63)) :: st) M nc ns) : xm_Run P xt d y C0 S0 Q pc loc (xv_i z :: xv_l x :: st) M nc ns := xr_step (Or.inr (Or.inr (Or.inl (Or.inr (Or.inr (Or.inr (Or.inr (Or.inr (Or.inr (Or.inr (Or.inr (Or.inr (Or.inr (Or.inr (Or.inr (Or.inr (Or.inr (Or.inl (⟨_, _, _, _, hi, rfl, k⟩)))))))))))))))))))
theorem xr_lshr {x : Int64} {z : Int32} (hi : (P.1 y).1 pc = some (.lshr, pn))  (k : xm_Run P xt d y C0 S0 Q pn loc (xv_l (x >>> (z.toInt64 &&& 63)) :: st) M nc ns) : xm_Run P xt d y C0 S0 Q pc loc (xv_i z :: xv_l x :: st) M nc ns := xr_step (Or.inr (Or.inr (Or.inl (Or.inr (Or.inr (Or.inr (Or.inr (Or.inr (Or.inr (Or.inr (Or.inr (Or.inr (Or.inr (Or.inr (Or.inr (Or.inr (Or.inr (Or.inr (Or.inl (⟨_, _, _, _, hi, rfl, k⟩))))))))))))))))))))
theorem xr_i2l {x : Int32} (hi : (P.1 y).1 pc = some (.i2l, pn))  (k : xm_Run P xt d y C0 S0 Q pn loc (xv_l x.toInt64 :: st) M nc ns) : xm_Run P xt d y C0 S0 Q pc loc (xv_i x :: st) M nc ns := xr_step (Or.inr (Or.inr (Or.inl (Or.inr (Or.inr (Or.inr (Or.inr (Or.inr (Or.inr (Or.inr (Or.inr (Or.inr (Or.inr (Or.inr (Or.inr (Or.inr (Or.inr (Or.inr (Or.inr (Or.inl (⟨_, _, _, hi, rfl, k⟩)))))))))))))))))))))
theorem xr_l2i {x : Int64} (hi : (P.1 y).1 pc = some (.l2i, pn))  (k : xm_Run P xt d y C0 S0 Q pn loc (xv_i x.toInt32 :: st) M nc ns) : xm_Run P xt d y C0 S0 Q pc loc (xv_l x :: st) M nc ns := xr_step (Or.inr (Or.inr (Or.inl (Or.inr (Or.inr (Or.inr (Or.inr (Or.inr (Or.inr (Or.inr (Or.inr (Or.inr (Or.inr (Or.inr (Or.inr (Or.inr (Or.inr (Or.inr (Or.inr (Or.inr ((⟨_, _, _, hi, rfl, k⟩))))))))))))))))))))))
theorem xr_dup {v : xm_V} (hi : (P.1 y).1 pc = some (.dup, pn)) (hc : xm_cat v = 1) (k : xm_Run P xt d y C0 S0 Q pn loc (v :: v :: st) M nc ns) : xm_Run P xt d y C0 S0 Q pc loc (v :: st) M nc ns := xr_step (Or.inr (Or.inr (Or.inr (Or.inl (Or.inl (⟨_, _, _, hi, rfl, hc, k⟩))))))
theorem xr_pop {v : xm_V} (hi : (P.1 y).1 pc = some (.pop, pn)) (hc : xm_cat v = 1) (k : xm_Run P xt d y C0 S0 Q pn loc st M nc ns) : xm_Run P xt d y C0 S0 Q pc loc (v :: st) M nc ns := xr_step (Or.inr (Or.inr (Or.inr (Or.inl (Or.inr (Or.inl (⟨_, _, _, hi, rfl, hc, k⟩)))))))
theorem xr_dup2 {v w : xm_V} (hi : (P.1 y).1 pc = some (.dup2, pn)) (hc : xm_cat v = 1) (hw : xm_cat w = 1) (k : xm_Run P xt d y C0 S0 Q pn loc (v :: w :: v :: w :: st) M nc ns) : xm_Run P xt d y C0 S0 Q pc loc (v :: w :: st) M nc ns := xr_step (Or.inr (Or.inr (Or.inr (Or.inl (Or.inr (Or.inr (Or.inl (⟨_, _, _, _, hi, rfl, hc, hw, k⟩))))))))
theorem xr_goto {off : Int} (t : Nat) (hi : (P.1 y).1 pc = some (.goto off, pn)) (ht : (pc : Int) + off = (t : Int)) (k : xm_Run P xt d y C0 S0 Q t loc st M nc ns) : xm_Run P xt d y C0 S0 Q pc loc st M nc ns := xr_step (Or.inr (Or.inr (Or.inr (Or.inl (Or.inr (Or.inr (Or.inr (Or.inl (⟨_, _, _, hi, ht, k⟩)))))))))
theorem xr_ift {off : Int} {c : Jvm.ClassFile.Cond} {x : Int32} (t : Nat) (hi : (P.1 y).1 pc = some (.ifCond c off, pn)) (ht : (pc : Int) + off = (t : Int)) (hx : xm_c1 c x) (k : xm_Run P xt d y C0 S0 Q t loc st M nc ns) : xm_Run P xt d y C0 S0 Q pc loc (xv_i x :: st) M nc ns := xr_step (Or.inr (Or.inr (Or.inr (Or.inl (Or.inr (Or.inr (Or.inr (Or.inr (Or.inl (⟨_, _, _, _, _, _, hi, rfl, ht, fun _ => k, fun q => absurd hx q⟩))))))))))
theorem xr_iff {off : Int} {c : Jvm.ClassFile.Cond} {x : Int32} (t : Nat) (hi : (P.1 y).1 pc = some (.ifCond c off, pn)) (ht : (pc : Int) + off = (t : Int)) (hx : ¬ xm_c1 c x) (k : xm_Run P xt d y C0 S0 Q pn loc st M nc ns) : xm_Run P xt d y C0 S0 Q pc loc (xv_i x :: st) M nc ns := xr_step (Or.inr (Or.inr (Or.inr (Or.inl (Or.inr (Or.inr (Or.inr (Or.inr (Or.inl (⟨_, _, _, _, _, _, hi, rfl, ht, fun q => absurd q hx, fun _ => k⟩))))))))))
theorem xr_ict {off : Int} {c : Jvm.ClassFile.Cond} {x z : Int32} (t : Nat) (hi : (P.1 y).1 pc = some (.if_icmp c off, pn)) (ht : (pc : Int) + off = (t : Int)) (hx : xm_c2 c x z) (k : xm_Run P xt d y C0 S0 Q t loc st M nc ns) : xm_Run P xt d y C0 S0 Q pc loc (xv_i z :: xv_i x :: st) M nc ns := xr_step (Or.inr (Or.inr (Or.inr (Or.inl (Or.inr (Or.inr (Or.inr (Or.inr (Or.inr (Or.inl (⟨_, _, _, _, _, _, _, hi, rfl, ht, fun _ => k, fun q => absurd hx q⟩)))))))))))
theorem xr_icf {off : Int} {c : Jvm.ClassFile.Cond} {x z : Int32} (t : Nat) (hi : (P.1 y).1 pc = some (.if_icmp c off, pn)) (ht : (pc : Int) + off = (t : Int)) (hx : ¬ xm_c2 c x z) (k : xm_Run P xt d y C0 S0 Q pn loc st M nc ns) : xm_Run P xt d y C0 S0 Q pc loc (xv_i z :: xv_i x :: st) M nc ns := xr_step (Or.inr (Or.inr (Or.inr (Or.inl (Or.inr (Or.inr (Or.inr (Or.inr (Or.inr (Or.inl (⟨_, _, _, _, _, _, _, hi, rfl, ht, fun q => absurd q hx, fun _ => k⟩)))))))))))
theorem xr_swo {df lo up : Int} {os : Array Int} {x : Int32} (t : Nat) (hi : (P.1 y).1 pc = some (.tableswitch df lo up os, pn)) (hx : x.toInt < lo ∨ up < x.toInt) (ht : (pc : Int) + df = (t : Int)) (k : xm_Run P xt d y C0 S0 Q t loc st M nc ns) : xm_Run P xt d y C0 S0 Q pc loc (xv_i x :: st) M nc ns := xr_step (Or.inr (Or.inr (Or.inr (Or.inl (Or.inr (Or.inr (Or.inr (Or.inr (Or.inr (Or.inr (Or.inl (⟨_, _, _, _, _, _, _, _, hi, rfl, hx, ht, k⟩))))))))))))
theorem xr_swi {df lo up : Int} {os : Array Int} {x : Int32} {off : Int} (t : Nat) (hi : (P.1 y).1 pc = some (.tableswitch df lo up os, pn)) (h1 : ¬ x.toInt < lo) (h2 : ¬ up < x.toInt) (ho : os[(x.toInt - lo).toNat]? = some off) (ht : (pc : Int) + off = (t : Int)) (k : xm_Run P xt d y C0 S0 Q t loc st M nc ns) : xm_Run P xt d y C0 S0 Q pc loc (xv_i x :: st) M nc ns := xr_step (Or.inr (Or.inr (Or.inr (Or.inl (Or.inr (Or.inr (Or.inr (Or.inr (Or.inr (Or.inr (Or.inr ((⟨_, _, _, _, _, _, _, _, _, hi, rfl, h1, h2, ho, ht, k⟩)))))))))))))
theorem xr_iald {i : Int32} {a n : Nat} (hi : (P.1 y).1 pc = some (.iaload, pn)) (ha : M.1[a]? = some (xt_r 0 n)) (hn : vp_in i n) (k : xm_Run P xt d y C0 S0 Q pn loc (xv_i (M.2.1 a i.toNatClampNeg) :: st) M nc ns) : xm_Run P xt d y C0 S0 Q pc loc (xv_i i :: xv_r a :: st) M nc ns := xr_step (Or.inr (Or.inr (Or.inr (Or.inr (Or.inl (Or.inl (⟨_, _, _, _, _, hi, rfl, ha, hn, k⟩)))))))
theorem xr_ialdx {i : Int32} {q : Nat} (hi : (P.1 y).1 pc = some (.iaload, pn)) (hn : vp_in i (xt q).1) (k : xm_Run P xt d y C0 S0 Q pn loc (xv_i ((xt q).2 i.toNatClampNeg) :: st) M nc ns) : xm_Run P xt d y C0 S0 Q pc loc (xv_i i :: xv_x q :: st) M nc ns := xr_step (Or.inr (Or.inr (Or.inr (Or.inr (Or.inl (Or.inr (Or.inl (⟨_, _, _, _, hi, rfl, hn, k⟩))))))))
theorem xr_bald {i : Int32} {a n : Nat} (hi : (P.1 y).1 pc = some (.baload, pn)) (ha : M.1[a]? = some (xt_r 2 n)) (hn : vp_in i n) (k : xm_Run P xt d y C0 S0 Q pn loc (xv_i (M.2.1 a i.toNatClampNeg) :: st) M nc ns) : xm_Run P xt d y C0 S0 Q pc loc (xv_i i :: xv_r a :: st) M nc ns := xr_step (Or.inr (Or.inr (Or.inr (Or.inr (Or.inl (Or.inr (Or.inr (Or.inl (⟨_, _, _, _, _, hi, rfl, ha, hn, k⟩)))))))))
theorem xr_lald {i : Int32} {a n : Nat} (hi : (P.1 y).1 pc = some (.laload, pn)) (ha : M.1[a]? = some (xt_r 1 n)) (hn : vp_in i n) (k : xm_Run P xt d y C0 S0 Q pn loc (xv_l (M.2.2 a i.toNatClampNeg) :: st) M nc ns) : xm_Run P xt d y C0 S0 Q pc loc (xv_i i :: xv_r a :: st) M nc ns := xr_step (Or.inr (Or.inr (Or.inr (Or.inr (Or.inl (Or.inr (Or.inr (Or.inr (Or.inl (⟨_, _, _, _, _, hi, rfl, ha, hn, k⟩))))))))))
theorem xr_iast {i x : Int32} {a n : Nat} (hi : (P.1 y).1 pc = some (.iastore, pn)) (ha : M.1[a]? = some (xt_r 0 n)) (hn : vp_in i n) (k : xm_Run P xt d y C0 S0 Q pn loc st (M.1, xu_2 M.2.1 a i.toNatClampNeg x, M.2.2) nc ns) : xm_Run P xt d y C0 S0 Q pc loc (xv_i x :: xv_i i :: xv_r a :: st) M nc ns := xr_step (Or.inr (Or.inr (Or.inr (Or.inr (Or.inr (Or.inl (Or.inl (⟨_, _, _, _, _, _, hi, rfl, ha, hn, k⟩))))))))
theorem xr_bast {i x : Int32} {a n : Nat} (hi : (P.1 y).1 pc = some (.bastore, pn)) (ha : M.1[a]? = some (xt_r 2 n)) (hn : vp_in i n) (hx : x = 0 ∨ x = 1) (k : xm_Run P xt d y C0 S0 Q pn loc st (M.1, xu_2 M.2.1 a i.toNatClampNeg x, M.2.2) nc ns) : xm_Run P xt d y C0 S0 Q pc loc (xv_i x :: xv_i i :: xv_r a :: st) M nc ns := xr_step (Or.inr (Or.inr (Or.inr (Or.inr (Or.inr (Or.inl (Or.inr (Or.inl (⟨_, _, _, _, _, _, hi, rfl, ha, hn, hx, k⟩)))))))))
theorem xr_last {i : Int32} {x : Int64} {a n : Nat} (hi : (P.1 y).1 pc = some (.lastore, pn)) (ha : M.1[a]? = some (xt_r 1 n)) (hn : vp_in i n) (k : xm_Run P xt d y C0 S0 Q pn loc st (M.1, M.2.1, xu_2 M.2.2 a i.toNatClampNeg x) nc ns) : xm_Run P xt d y C0 S0 Q pc loc (xv_l x :: xv_i i :: xv_r a :: st) M nc ns := xr_step (Or.inr (Or.inr (Or.inr (Or.inr (Or.inr (Or.inl (Or.inr (Or.inr (Or.inl (⟨_, _, _, _, _, _, hi, rfl, ha, hn, k⟩))))))))))
theorem xr_alen {a t n : Nat} (v : Int32) (hi : (P.1 y).1 pc = some (.arraylength, pn)) (ha : M.1[a]? = some (xt_r t n)) (ht : t < 3) (hv : nI n = v) (k : xm_Run P xt d y C0 S0 Q pn loc (xv_i v :: st) M nc ns) : xm_Run P xt d y C0 S0 Q pc loc (xv_r a :: st) M nc ns := xr_step (Or.inr (Or.inr (Or.inr (Or.inr (Or.inl (Or.inr (Or.inr (Or.inr (Or.inr (Or.inl (⟨_, _, _, _, _, hi, rfl, ha, ht, by rw [hv]; exact k⟩)))))))))))
theorem xr_alenx {q : Nat} (hi : (P.1 y).1 pc = some (.arraylength, pn))  (k : xm_Run P xt d y C0 S0 Q pn loc (xv_i (nI (xt q).1) :: st) M nc ns) : xm_Run P xt d y C0 S0 Q pc loc (xv_x q :: st) M nc ns := xr_step (Or.inr (Or.inr (Or.inr (Or.inr (Or.inl (Or.inr (Or.inr (Or.inr (Or.inr (Or.inr (Or.inl (⟨_, _, _, hi, rfl, k⟩))))))))))))
theorem xr_get {ix ci j ty a : Nat} {fs : List xm_F} {f : xm_F} (v : xm_V) (hi : (P.1 y).1 pc = some (.getfield ix, pn)) (hf : (P.1 y).2.2.1 ix = some (ci, j, ty)) (ha : M.1[a]? = some (xt_o ci fs)) (hj : fs[j]? = some f) (hv : xm_fv M.2.1 a j f = v) (k : xm_Run P xt d y C0 S0 Q pn loc (v :: st) M nc ns) : xm_Run P xt d y C0 S0 Q pc loc (xv_r a :: st) M nc ns := xr_step (Or.inr (Or.inr (Or.inr (Or.inr (Or.inl (Or.inr (Or.inr (Or.inr (Or.inr (Or.inr (Or.inr (Or.inl (⟨_, _, _, _, _, _, _, _, _, hi, hf, rfl, ha, hj, by rw [hv]; exact k⟩)))))))))))))
theorem xr_put {ix ci j ty a : Nat} {fs : List xm_F} {x : Int32} (hi : (P.1 y).1 pc = some (.putfield ix, pn)) (hf : (P.1 y).2.2.1 ix = some (ci, j, ty)) (ha : M.1[a]? = some (xt_o ci fs)) (hj : fs[j]? = some none) (ht : ty = 0 ∨ (ty = 3 ∧ (x = 0 ∨ x = 1))) (k : xm_Run P xt d y C0 S0 Q pn loc st (M.1, xu_2 M.2.1 a j x, M.2.2) nc ns) : xm_Run P xt d y C0 S0 Q pc loc (xv_i x :: xv_r a :: st) M nc ns := xr_step (Or.inr (Or.inr (Or.inr (Or.inr (Or.inr (Or.inl (Or.inr (Or.inr (Or.inr (Or.inl (⟨_, _, _, _, _, _, _, _, _, hi, hf, rfl, ha, hj, ht, k⟩)))))))))))
theorem xr_putr {ix ci j t a q : Nat} {fs : List xm_F} {w : Option Nat} (T' : List xm_T) (hi : (P.1 y).1 pc = some (.putfield ix, pn)) (hf : (P.1 y).2.2.1 ix = some (ci, j, t)) (ht : t = 2 ∨ (t = 12 ∧ (P.1 y).2.2.2.2.2 0 = 9)) (ha : M.1[a]? = some (xt_o ci fs)) (hj : fs[j]? = some (some w)) (hT : M.1.set a (xt_o ci (fs.set j (some (some q)))) = T') (k : xm_Run P xt d y C0 S0 Q pn loc st (T', M.2.1, M.2.2) nc ns) : xm_Run P xt d y C0 S0 Q pc loc (xv_r q :: xv_r a :: st) M nc ns := xr_step (Or.inr (Or.inr (Or.inr (Or.inr (Or.inr (Or.inl (Or.inr (Or.inr (Or.inr (Or.inr ((⟨_, _, _, _, _, _, _, _, _, _, hi, hf, ht, rfl, ha, hj, by rw [hT]; exact k⟩))))))))))))
theorem xr_gets {ix q : Nat} (hi : (P.1 y).1 pc = some (.getstatic ix, pn)) (hf : (P.1 y).2.2.2.2.1 ix = some q) (k : xm_Run P xt d y C0 S0 Q pn loc (xv_x q :: st) M nc ns) : xm_Run P xt d y C0 S0 Q pc loc st M nc ns := xr_step (Or.inr (Or.inr (Or.inr (Or.inr (Or.inl (Or.inr (Or.inr (Or.inr (Or.inr (Or.inr (Or.inr (Or.inr ((⟨_, _, _, hi, hf, k⟩))))))))))))))
theorem xr_new {ix ci : Nat} {fs : List xm_F} (q m1 : Nat) (T' : List xm_T) (hi : (P.1 y).1 pc = some (.new ix, pn)) (hf : (P.1 y).2.2.2.1 ix = some (ci, fs)) (hm : fs.length = m1) (hq : M.1.length = q) (hT : M.1 ++ [xt_o ci fs] = T') (k : xm_Run P xt d y C0 S0 Q pn loc (xv_r q :: st) (T', xz_2 M.2.1 q 0, M.2.2) (nc + 1) (ns + m1)) : xm_Run P xt d y C0 S0 Q pc loc st M nc ns := by subst hm; subst hq; subst hT; exact xr_step (Or.inr (Or.inr (Or.inr (Or.inr (Or.inr (Or.inr ((Or.inl (⟨_, _, _, _, hi, hf, k⟩)))))))))
theorem xr_newa {ty : Jvm.ClassFile.ArrayType} {n : Int32} (t N q : Nat) (T' : List xm_T) (hi : (P.1 y).1 pc = some (.newarray ty, pn)) (hn : ¬ n < 0) (hN : n.toNatClampNeg = N) (hN2 : N ≤ 67108864) (ht : (ty = .int ∧ t = 0) ∨ (ty = .long ∧ t = 1) ∨ (ty = .boolean ∧ t = 2)) (hq : M.1.length = q) (hT : M.1 ++ [xt_r t N] = T') (k : xm_Run P xt d y C0 S0 Q pn loc (xv_r q :: st) (T', xz_2 M.2.1 q 0, xz_2 M.2.2 q 0) (nc + 1) (ns + N)) : xm_Run P xt d y C0 S0 Q pc loc (xv_i n :: st) M nc ns := by
  subst hq; subst hT
  rcases ht with ⟨rfl, rfl⟩ | ⟨rfl, rfl⟩ | ⟨rfl, rfl⟩
  · exact xr_step (Or.inr (Or.inr (Or.inr (Or.inr (Or.inr (Or.inr ((Or.inr (Or.inl (⟨_, _, _, _, hi, rfl, hn, hN, hN2, k⟩))))))))))
  · exact xr_step (Or.inr (Or.inr (Or.inr (Or.inr (Or.inr (Or.inr ((Or.inr (Or.inr (Or.inl (⟨_, _, _, _, hi, rfl, hn, hN, hN2, k⟩)))))))))))
  · exact xr_step (Or.inr (Or.inr (Or.inr (Or.inr (Or.inr (Or.inr ((Or.inr (Or.inr (Or.inr (Or.inl (⟨_, _, _, _, hi, rfl, hn, hN, hN2, k⟩))))))))))))
theorem xr_obj {ix a : Nat} (hi : (P.1 y).1 pc = some (.invokespecial ix, pn)) (hx : (P.1 y).2.2.2.2.2 ix = 2) (h8 : xm_c8 st = true) (k : xm_Run P xt d y C0 S0 Q pn loc st M nc ns) : xm_Run P xt d y C0 S0 Q pc loc (xv_r a :: st) M nc ns := xr_step (Or.inr (Or.inr (Or.inr (Or.inr (Or.inr (Or.inr ((Or.inr (Or.inr (Or.inr (Or.inr (Or.inl (⟨_, _, _, _, hi, hx, rfl, h8, k⟩)))))))))))))
theorem xr_copy {ix ks kd n0 nd : Nat} {n dp sp : Int32} (hi : (P.1 y).1 pc = some (.invokestatic ix, pn)) (hx : (P.1 y).2.2.2.2.2 ix = 1) (h8 : xm_c8 st = true) (ha : M.1[ks]? = some (xt_r 1 n0)) (hb : M.1[kd]? = some (xt_r 1 nd)) (h1 : ¬ sp < 0) (h2 : ¬ dp < 0) (h3 : ¬ n < 0) (h4 : sp.toNatClampNeg + n.toNatClampNeg ≤ n0) (h5 : dp.toNatClampNeg + n.toNatClampNeg ≤ nd) (hk : ks ≠ kd) (k : xm_Run P xt d y C0 S0 Q pn loc st (M.1, M.2.1, xc_y M.2.2 kd (va_cpy (M.2.2 ks) (M.2.2 kd) sp.toNatClampNeg dp.toNatClampNeg n.toNatClampNeg)) nc ns) : xm_Run P xt d y C0 S0 Q pc loc (xv_i n :: xv_i dp :: xv_r kd :: xv_i sp :: xv_r ks :: st) M nc ns := xr_step (Or.inr (Or.inr (Or.inr (Or.inr (Or.inr (Or.inr ((Or.inr (Or.inr (Or.inr (Or.inr (Or.inr ((⟨_, _, _, _, _, _, _, _, _, _, hi, hx, rfl, ha, hb, h1, h2, h3, h4, h5, hk, h8, k⟩))))))))))))))
theorem xr_vret (hk : P.2.2.1 y = 0) (hi : (P.1 y).1 pc = some (.return_, pn)) (h1 : nc ≤ C0) (h2 : ns ≤ S0) (hq : Q none M) : xm_Run P xt d y C0 S0 Q pc loc [] M nc ns := xr_ret0 (r := none) (by rw [hk]; exact ⟨_, hi⟩) h1 h2 hq
theorem xr_iret {x : Int32} (hk : P.2.2.1 y = 1) (hi : (P.1 y).1 pc = some (.ireturn, pn)) (h1 : nc ≤ C0) (h2 : ns ≤ S0) (hq : Q (some (xv_i x)) M) : xm_Run P xt d y C0 S0 Q pc loc [xv_i x] M nc ns := xr_ret0 (r := some (xv_i x)) (by rw [hk]; exact ⟨_, hi⟩) h1 h2 hq
theorem xr_zret {x : Int32} (hk : P.2.2.1 y = 4) (hi : (P.1 y).1 pc = some (.ireturn, pn)) (hx : x = 0 ∨ x = 1) (h1 : nc ≤ C0) (h2 : ns ≤ S0) (hq : Q (some (xv_i x)) M) : xm_Run P xt d y C0 S0 Q pc loc [xv_i x] M nc ns := xr_ret0 (r := some (xv_i x)) (by rw [hk]; exact ⟨_, hi, hx⟩) h1 h2 hq
theorem xr_lret {x : Int64} (hk : P.2.2.1 y = 2) (hi : (P.1 y).1 pc = some (.lreturn, pn)) (h1 : nc ≤ C0) (h2 : ns ≤ S0) (hq : Q (some (xv_l x)) M) : xm_Run P xt d y C0 S0 Q pc loc [xv_l x] M nc ns := xr_ret0 (r := some (xv_l x)) (by rw [hk]; exact ⟨_, hi⟩) h1 h2 hq
theorem xr_aret {x : Nat} (hk : P.2.2.1 y = 3) (hi : (P.1 y).1 pc = some (.areturn, pn)) (h1 : nc ≤ C0) (h2 : ns ≤ S0) (hq : Q (some (xv_r x)) M) : xm_Run P xt d y C0 S0 Q pc loc [xv_r x] M nc ns := xr_ret0 (r := some (xv_r x)) (by rw [hk]; exact ⟨_, hi⟩) h1 h2 hq
end RUN
-- memory with its shape apart
abbrev xm_S : Type := (Nat → Nat → Int32) × (Nat → Nat → Int64)
abbrev xq_2 (T : List xm_T) (m : xm_S) : xm_M := (T, m.1, m.2)
abbrev xQ_i (T : List xm_T) (r : Int32) (m : xm_S) : xm_P := fun r' M1 => r' = some (xv_i r) ∧ M1 = xq_2 T m
abbrev xQ_l (T : List xm_T) (r : Int64) (m : xm_S) : xm_P := fun r' M1 => r' = some (xv_l r) ∧ M1 = xq_2 T m
abbrev xQ_r (T : List xm_T) (r : Nat) (m : xm_S) : xm_P := fun r' M1 => r' = some (xv_r r) ∧ M1 = xq_2 T m
abbrev xQ_v (T : List xm_T) (m : xm_S) : xm_P := fun r' M1 => r' = none ∧ M1 = xq_2 T m
def xw_i (m : xm_S) (k j : Nat) (x : Int32) : xm_S := (xu_2 m.1 k j x, m.2)
def xw_l (m : xm_S) (k j : Nat) (x : Int64) : xm_S := (m.1, xu_2 m.2 k j x)
def xw_c (m : xm_S) (kd ks sp dp n : Nat) : xm_S := (m.1, xc_y m.2 kd (va_cpy (m.2 ks) (m.2 kd) sp dp n))
def xw_o (m : xm_S) (q : Nat) : xm_S := (xz_2 m.1 q 0, m.2)
def xw_a (m : xm_S) (q : Nat) : xm_S := (xz_2 m.1 q 0, xz_2 m.2 q 0)
section RUNQ
variable {P : xm_Pr} {xt : Nat → Nat × (Nat → Int32)} {d y C0 S0 : Nat} {Q : xm_P} {pc pn : Nat} {loc : xm_L} {st : List xm_V} {T : List xm_T} {m : xm_S} {nc ns : Nat}
theorem xq_iald {i : Int32} {a n : Nat} (hi : (P.1 y).1 pc = some (.iaload, pn)) (ha : T[a]? = some (xt_r 0 n)) (hn : vp_in i n) (k : xm_Run P xt d y C0 S0 Q pn loc (xv_i (m.1 a i.toNatClampNeg) :: st) (xq_2 T m) nc ns) : xm_Run P xt d y C0 S0 Q pc loc (xv_i i :: xv_r a :: st) (xq_2 T m) nc ns := xr_iald hi ha hn k
theorem xq_bald {i : Int32} {a n : Nat} (hi : (P.1 y).1 pc = some (.baload, pn)) (ha : T[a]? = some (xt_r 2 n)) (hn : vp_in i n) (k : xm_Run P xt d y C0 S0 Q pn loc (xv_i (m.1 a i.toNatClampNeg) :: st) (xq_2 T m) nc ns) : xm_Run P xt d y C0 S0 Q pc loc (xv_i i :: xv_r a :: st) (xq_2 T m) nc ns := xr_bald hi ha hn k
theorem xq_lald {i : Int32} {a n : Nat} (hi : (P.1 y).1 pc = some (.laload, pn)) (ha : T[a]? = some (xt_r 1 n)) (hn : vp_in i n) (k : xm_Run P xt d y C0 S0 Q pn loc (xv_l (m.2 a i.toNatClampNeg) :: st) (xq_2 T m) nc ns) : xm_Run P xt d y C0 S0 Q pc loc (xv_i i :: xv_r a :: st) (xq_2 T m) nc ns := xr_lald hi ha hn k
theorem xq_iast {i x : Int32} {a n : Nat} (hi : (P.1 y).1 pc = some (.iastore, pn)) (ha : T[a]? = some (xt_r 0 n)) (hn : vp_in i n) (k : xm_Run P xt d y C0 S0 Q pn loc st (xq_2 T (xw_i m a i.toNatClampNeg x)) nc ns) : xm_Run P xt d y C0 S0 Q pc loc (xv_i x :: xv_i i :: xv_r a :: st) (xq_2 T m) nc ns := xr_iast hi ha hn k
theorem xq_bast {i x : Int32} {a n : Nat} (hi : (P.1 y).1 pc = some (.bastore, pn)) (ha : T[a]? = some (xt_r 2 n)) (hn : vp_in i n) (hx : x = 0 ∨ x = 1) (k : xm_Run P xt d y C0 S0 Q pn loc st (xq_2 T (xw_i m a i.toNatClampNeg x)) nc ns) : xm_Run P xt d y C0 S0 Q pc loc (xv_i x :: xv_i i :: xv_r a :: st) (xq_2 T m) nc ns := xr_bast hi ha hn hx k
theorem xq_last {i : Int32} {x : Int64} {a n : Nat} (hi : (P.1 y).1 pc = some (.lastore, pn)) (ha : T[a]? = some (xt_r 1 n)) (hn : vp_in i n) (k : xm_Run P xt d y C0 S0 Q pn loc st (xq_2 T (xw_l m a i.toNatClampNeg x)) nc ns) : xm_Run P xt d y C0 S0 Q pc loc (xv_l x :: xv_i i :: xv_r a :: st) (xq_2 T m) nc ns := xr_last hi ha hn k
theorem xq_alen {a t n : Nat} (hi : (P.1 y).1 pc = some (.arraylength, pn)) (ha : T[a]? = some (xt_r t n)) (ht : t < 3) (k : xm_Run P xt d y C0 S0 Q pn loc (xv_i (nI n) :: st) (xq_2 T m) nc ns) : xm_Run P xt d y C0 S0 Q pc loc (xv_r a :: st) (xq_2 T m) nc ns := xr_alen _ hi ha ht rfl k
theorem xq_geti {ix ci j ty a : Nat} {fs : List xm_F} (hi : (P.1 y).1 pc = some (.getfield ix, pn)) (hf : (P.1 y).2.2.1 ix = some (ci, j, ty)) (ha : T[a]? = some (xt_o ci fs)) (hj : fs[j]? = some none) (k : xm_Run P xt d y C0 S0 Q pn loc (xv_i (m.1 a j) :: st) (xq_2 T m) nc ns) : xm_Run P xt d y C0 S0 Q pc loc (xv_r a :: st) (xq_2 T m) nc ns := xr_get _ hi hf ha hj rfl k
theorem xq_getr {ix ci j ty a q : Nat} {fs : List xm_F} (hi : (P.1 y).1 pc = some (.getfield ix, pn)) (hf : (P.1 y).2.2.1 ix = some (ci, j, ty)) (ha : T[a]? = some (xt_o ci fs)) (hj : fs[j]? = some (some (some q))) (k : xm_Run P xt d y C0 S0 Q pn loc (xv_r q :: st) (xq_2 T m) nc ns) : xm_Run P xt d y C0 S0 Q pc loc (xv_r a :: st) (xq_2 T m) nc ns := xr_get _ hi hf ha hj rfl k
theorem xq_put {ix ci j ty a : Nat} {fs : List xm_F} {x : Int32} (hi : (P.1 y).1 pc = some (.putfield ix, pn)) (hf : (P.1 y).2.2.1 ix = some (ci, j, ty)) (ha : T[a]? = some (xt_o ci fs)) (hj : fs[j]? = some none) (ht : ty = 0 ∨ (ty = 3 ∧ (x = 0 ∨ x = 1))) (k : xm_Run P xt d y C0 S0 Q pn loc st (xq_2 T (xw_i m a j x)) nc ns) : xm_Run P xt d y C0 S0 Q pc loc (xv_i x :: xv_r a :: st) (xq_2 T m) nc ns := xr_put hi hf ha hj ht k
theorem xq_putr {ix ci j t a q : Nat} {fs : List xm_F} {w : Option Nat} (T' : List xm_T) (hi : (P.1 y).1 pc = some (.putfield ix, pn)) (hf : (P.1 y).2.2.1 ix = some (ci, j, t)) (ht : t = 2 ∨ (t = 12 ∧ (P.1 y).2.2.2.2.2 0 = 9)) (ha : T[a]? = some (xt_o ci fs)) (hj : fs[j]? = some (some w)) (hT : T.set a (xt_o ci (fs.set j (some (some q)))) = T') (k : xm_Run P xt d y C0 S0 Q pn loc st (xq_2 T' m) nc ns) : xm_Run P xt d y C0 S0 Q pc loc (xv_r q :: xv_r a :: st) (xq_2 T m) nc ns := xr_putr T' hi hf ht ha hj hT k
theorem xq_new {ix ci : Nat} {fs : List xm_F} (q m1 : Nat) (T' : List xm_T) (hi : (P.1 y).1 pc = some (.new ix, pn)) (hf : (P.1 y).2.2.2.1 ix = some (ci, fs)) (hm : fs.length = m1) (hq : T.length = q) (hT : T ++ [xt_o ci fs] = T') (k : xm_Run P xt d y C0 S0 Q pn loc (xv_r q :: st) (xq_2 T' (xw_o m q)) (nc + 1) (ns + m1)) : xm_Run P xt d y C0 S0 Q pc loc st (xq_2 T m) nc ns := xr_new q m1 T' hi hf hm hq hT k
theorem xq_newa {ty : Jvm.ClassFile.ArrayType} {n : Int32} (t N q : Nat) (T' : List xm_T) (hi : (P.1 y).1 pc = some (.newarray ty, pn)) (hn : ¬ n < 0) (hN : n.toNatClampNeg = N) (hN2 : N ≤ 67108864) (ht : (ty = .int ∧ t = 0) ∨ (ty = .long ∧ t = 1) ∨ (ty = .boolean ∧ t = 2)) (hq : T.length = q) (hT : T ++ [xt_r t N] = T') (k : xm_Run P xt d y C0 S0 Q pn loc (xv_r q :: st) (xq_2 T' (xw_a m q)) (nc + 1) (ns + N)) : xm_Run P xt d y C0 S0 Q pc loc (xv_i n :: st) (xq_2 T m) nc ns := xr_newa t N q T' hi hn hN hN2 ht hq hT k
theorem xq_copy {ix ks kd n0 nd : Nat} {n dp sp : Int32} (hi : (P.1 y).1 pc = some (.invokestatic ix, pn)) (hx : (P.1 y).2.2.2.2.2 ix = 1) (h8 : xm_c8 st = true) (ha : T[ks]? = some (xt_r 1 n0)) (hb : T[kd]? = some (xt_r 1 nd)) (h1 : ¬ sp < 0) (h2 : ¬ dp < 0) (h3 : ¬ n < 0) (h4 : sp.toNatClampNeg + n.toNatClampNeg ≤ n0) (h5 : dp.toNatClampNeg + n.toNatClampNeg ≤ nd) (hk : ks ≠ kd) (k : xm_Run P xt d y C0 S0 Q pn loc st (xq_2 T (xw_c m kd ks sp.toNatClampNeg dp.toNatClampNeg n.toNatClampNeg)) nc ns) : xm_Run P xt d y C0 S0 Q pc loc (xv_i n :: xv_i dp :: xv_r kd :: xv_i sp :: xv_r ks :: st) (xq_2 T m) nc ns := xr_copy hi hx h8 ha hb h1 h2 h3 h4 h5 hk k
theorem xq_calla {ix y' kd ci : Nat} (av rest : List xm_V) {v : xm_V} {T' : List xm_T} {m' : xm_S} (loc1 : xm_L) {st0 : List xm_V} (hi : xm_isCall (P.1 y) T av pc ix pn kd ci) (hc : P.2.2.2 y ix = some (y', av.length, kd, ci)) (hst : av.reverse ++ rest = st0) (h8 : xm_c8 rest = true) (hle : Nat.ble (xm_en av).length (P.2.1 y') = true) (hl : xm_ent (P.2.1 y') av = loc1) (hy : xm_Run P xt d y' 0 0 (fun r' M1 => r' = some v ∧ M1 = xq_2 T' m') 0 loc1 [] (xq_2 T m) 0 0) (k : xm_Run P xt (d + 1) y C0 S0 Q pn loc (v :: rest) (xq_2 T' m') nc ns) : xm_Run P xt (d + 1) y C0 S0 Q pc loc st0 (xq_2 T m) nc ns := by subst hst; subst hl; exact xr_call0 av hi hc (Nat.le_of_ble_eq_true hle) h8 hy (fun r' M1 q => by obtain ⟨rfl, rfl⟩ := q; exact k)
theorem xq_callan {ix y' kd ci c1 s1 : Nat} (av rest : List xm_V) {v : xm_V} {T' : List xm_T} {m' : xm_S} (loc1 : xm_L) {st0 : List xm_V} (hi : xm_isCall (P.1 y) T av pc ix pn kd ci) (hc : P.2.2.2 y ix = some (y', av.length, kd, ci)) (hst : av.reverse ++ rest = st0) (h8 : xm_c8 rest = true) (hle : Nat.ble (xm_en av).length (P.2.1 y') = true) (hl : xm_ent (P.2.1 y') av = loc1) (hy : xm_Run P xt d y' c1 s1 (fun r' M1 => r' = some v ∧ M1 = xq_2 T' m') 0 loc1 [] (xq_2 T m) 0 0) (k : xm_Run P xt (d + 1) y C0 S0 Q pn loc (v :: rest) (xq_2 T' m') (nc + c1) (ns + s1)) : xm_Run P xt (d + 1) y C0 S0 Q pc loc st0 (xq_2 T m) nc ns := by subst hst; subst hl; exact xr_call0 av hi hc (Nat.le_of_ble_eq_true hle) h8 hy (fun r' M1 q => by obtain ⟨rfl, rfl⟩ := q; exact k)
theorem xq_callv {ix y' kd ci : Nat} (av rest : List xm_V) {T' : List xm_T} {m' : xm_S} (loc1 : xm_L) {st0 : List xm_V} (hi : xm_isCall (P.1 y) T av pc ix pn kd ci) (hc : P.2.2.2 y ix = some (y', av.length, kd, ci)) (hst : av.reverse ++ rest = st0) (h8 : xm_c8 rest = true) (hle : Nat.ble (xm_en av).length (P.2.1 y') = true) (hl : xm_ent (P.2.1 y') av = loc1) (hy : xm_Run P xt d y' 0 0 (fun r' M1 => r' = none ∧ M1 = xq_2 T' m') 0 loc1 [] (xq_2 T m) 0 0) (k : xm_Run P xt (d + 1) y C0 S0 Q pn loc (rest) (xq_2 T' m') nc ns) : xm_Run P xt (d + 1) y C0 S0 Q pc loc st0 (xq_2 T m) nc ns := by subst hst; subst hl; exact xr_call0 av hi hc (Nat.le_of_ble_eq_true hle) h8 hy (fun r' M1 q => by obtain ⟨rfl, rfl⟩ := q; exact k)
theorem xq_callvn {ix y' kd ci c1 s1 : Nat} (av rest : List xm_V) {T' : List xm_T} {m' : xm_S} (loc1 : xm_L) {st0 : List xm_V} (hi : xm_isCall (P.1 y) T av pc ix pn kd ci) (hc : P.2.2.2 y ix = some (y', av.length, kd, ci)) (hst : av.reverse ++ rest = st0) (h8 : xm_c8 rest = true) (hle : Nat.ble (xm_en av).length (P.2.1 y') = true) (hl : xm_ent (P.2.1 y') av = loc1) (hy : xm_Run P xt d y' c1 s1 (fun r' M1 => r' = none ∧ M1 = xq_2 T' m') 0 loc1 [] (xq_2 T m) 0 0) (k : xm_Run P xt (d + 1) y C0 S0 Q pn loc (rest) (xq_2 T' m') (nc + c1) (ns + s1)) : xm_Run P xt (d + 1) y C0 S0 Q pc loc st0 (xq_2 T m) nc ns := by subst hst; subst hl; exact xr_call0 av hi hc (Nat.le_of_ble_eq_true hle) h8 hy (fun r' M1 q => by obtain ⟨rfl, rfl⟩ := q; exact k)
end RUNQ
end
section
/-! The abstract machine is true of the machine: relations. -/
def xm_v (ad ex : Nat → Nat) : xm_V → Value
  | Sum.inl x => .int x
  | Sum.inr (Sum.inl x) => .long x
  | Sum.inr (Sum.inr (Sum.inl (some k))) => .ref (ad k)
  | Sum.inr (Sum.inr (Sum.inl none)) => .null
  | Sum.inr (Sum.inr (Sum.inr k)) => .ref (ex k)
-- a reference names a cell that is there
def xm_sc (n : Nat) : xm_V → Prop
  | Sum.inr (Sum.inr (Sum.inl (some k))) => k < n
  | _ => True
def xm_fw (ad : Nat → Nat) (I : Nat → Nat → Int32) (k j : Nat) : xm_F → Value
  | none => .int (I k j)
  | some none => .null
  | some (some q) => .ref (ad q)
def xm_e (ad : Nat → Nat) (ca : Nat → ClassId) (I : Nat → Nat → Int32) (J : Nat → Nat → Int64) (k : Nat) : xm_T → va_E
  | Sum.inl (t, n) => bif Nat.beq t 1 then .inl (ca k, n, .inr (.inl (J k))) else .inl (ca k, n, .inl (I k))
  | Sum.inr (ci, fs) => .inr (ci, fs.mapIdx fun j f => xm_fw ad I k j f)
def xm_ty : xm_T → Option FieldType
  | Sum.inl (t, _) => bif Nat.beq t 0 then some .int else bif Nat.beq t 1 then some .long else bif Nat.beq t 2 then some .boolean else none
  | Sum.inr _ => none
def xm_w (ad : Nat → Nat) (ca : Nat → ClassId) (M : xm_M) : va_W := M.1.mapIdx fun k t => (ad k, xm_e ad ca M.2.1 M.2.2 k t)
theorem xm_w_at {ad : Nat → Nat} {ca : Nat → ClassId} {M : xm_M} {k : Nat} {e : xm_T} (h : M.1[k]? = some e) : (xm_w ad ca M)[k]? = some (ad k, xm_e ad ca M.2.1 M.2.2 k e) := by
  simp [xm_w, h]
theorem xm_fv_v {ad ex : Nat → Nat} {I : Nat → Nat → Int32} {k j : Nat} (f : xm_F) : xm_v ad ex (xm_fv I k j f) = xm_fw ad I k j f := by
  rcases f with _ | _ | q <;> rfl
-- shapes are the same but at k, contents are the same but at k
theorem xm_w_set {ad : Nat → Nat} {ca : Nat → ClassId} {M : xm_M} {k : Nat} {T' : List xm_T} {e : xm_T} {I' : Nat → Nat → Int32} {J' : Nat → Nat → Int64} (hk : T'[k]? = some e) (hT : ∀ a, a ≠ k → T'[a]? = M.1[a]?) (hl : T'.length = M.1.length) (hI : ∀ a, a ≠ k → I' a = M.2.1 a) (hJ : ∀ a, a ≠ k → J' a = M.2.2 a) :
    (xm_w ad ca M).set k (ad k, xm_e ad ca I' J' k e) = xm_w ad ca (T', I', J') := by
  apply List.ext_getElem?
  intro a
  by_cases h : k = a
  · subst h
    have hlt : k < M.1.length := by rw [← hl]; exact (List.getElem?_eq_some_iff.mp hk).1
    rw [List.getElem?_set]
    simp [xm_w, hk, hlt]
  · have h2 : a ≠ k := fun q => h q.symm
    rw [List.getElem?_set_ne h]
    simp only [xm_w, List.getElem?_mapIdx, hT a h2]
    cases M.1[a]? with
    | none => rfl
    | some t =>
      rcases t with ⟨t, n⟩ | ⟨ci, fs⟩
      · simp [xm_e, hI a h2, hJ a h2]
      · have e1 : ∀ (j : Nat) (f : xm_F), xm_fw ad I' a j f = xm_fw ad M.2.1 a j f := fun j f => by rcases f with _ | _ | q <;> simp [xm_fw, hI a h2]
        simp [xm_e, e1]
def xm_scM (T : List xm_T) : Prop := ∀ (k ci : Nat) (fs : List xm_F), T[k]? = some (xt_o ci fs) → ∀ q, some (some q) ∈ fs → q < T.length
def xm_ka (ca : Nat → ClassId) (T : List xm_T) (U : State) : Prop := ∀ (k : Nat) (e : xm_T) (ty : FieldType), T[k]? = some e → xm_ty e = some ty → ArrOfT U (ca k) ty ∧ va_RA U (ca k) ty
def xm_hl (ad ex : Nat → Nat) (n nL : Nat) (ls : Array Slot) (loc : xm_L) : Prop := (ls.size = nL ∧ lv_wf ls) ∧ ∀ (i : Nat) (v : xm_V), loc[i]? = some (some v) → ls[i]? = some (.val (xm_v ad ex v)) ∧ xm_sc n v
def xm_hs (n : Nat) (st : List xm_V) : Prop := ∀ v, v ∈ st → xm_sc n v
-- memory against heap, at a method's state s (its entry) and now
def xm_hm (D : va_G) (cl : List vw_C) (A : Nat → Prop) (s : State) (ad : Nat → Nat) (ca : Nat → ClassId) (H : Heap) (locs : List Loc) (M : xm_M) : Prop :=
  xm_scM M.1 ∧ va_P D cl (xm_w ad ca M) H ∧ va_D A (xm_w ad ca M) ∧ va_S A s.heap H locs ∧ xm_ka ca M.1 s
-- a reading of the locals as the kit has it
def xm_fl (ad ex : Nat → Nat) (loc : xm_L) : List (Nat × Value) := loc.zipIdx.filterMap fun q => q.1.map fun v => (q.2, xm_v ad ex v)
theorem xm_fl_mem {ad ex : Nat → Nat} {loc : xm_L} {i : Nat} {w : Value} : (i, w) ∈ xm_fl ad ex loc ↔ ∃ v, loc[i]? = some (some v) ∧ w = xm_v ad ex v := by
  simp only [xm_fl, List.mem_filterMap]
  constructor
  · rintro ⟨⟨o, j⟩, hm, he⟩
    rw [List.mk_mem_zipIdx_iff_getElem?] at hm
    cases o with
    | none => simp at he
    | some v => simp at he; obtain ⟨rfl, rfl⟩ := he; exact ⟨v, hm, rfl⟩
  · rintro ⟨v, hv, rfl⟩
    exact ⟨(some v, i), (List.mk_mem_zipIdx_iff_getElem?).mpr hv, by simp⟩
theorem xm_hl.has {ad ex : Nat → Nat} {n nL : Nat} {ls : Array Slot} {loc : xm_L} (h : xm_hl ad ex n nL ls loc) : lv_has ls nL (xm_fl ad ex loc) := by
  refine ⟨h.1.1, h.1.2, fun q hq => ?_⟩
  obtain ⟨i, w⟩ := q
  obtain ⟨v, hv, rfl⟩ := xm_fl_mem.mp hq
  exact (h.2 i v hv).1
theorem xm_cat_v (ad ex : Nat → Nat) (v : xm_V) : (xm_v ad ex v).category = xm_cat v := by
  rcases v with x | x | (_ | k) | k <;> rfl
-- a store of a value of one word, of two words
theorem xm_brk_at {loc : xm_L} {i j : Nat} {v : xm_V} (h : (xm_brk loc i)[j]? = some (some v)) : loc[j]? = some (some v) ∧ ¬ (j + 1 = i ∧ xm_cat v = 2) := by
  unfold xm_brk at h
  cases i with
  | zero => exact ⟨h, by omega⟩
  | succ k =>
    simp only at h
    split at h
    · rename_i x hx
      by_cases hj : k = j
      · subst hj
        rw [List.getElem?_set] at h
        split at h <;> simp_all
      · rw [List.getElem?_set_ne hj] at h
        exact ⟨h, by omega⟩
    · rename_i hn
      refine ⟨h, fun ⟨e1, e2⟩ => ?_⟩
      have e1 : j = k := by omega
      subst e1
      rcases v with x | x | (_ | q) | q <;> simp [xm_cat] at e2
      exact hn x h
theorem xm_hl.st1 {ad ex : Nat → Nat} {n nL i : Nat} {ls ls' : Array Slot} {loc : xm_L} {v : xm_V} (h : xm_hl ad ex n nL ls loc) (hv : xm_sc n v)
    (h' : lv_has ls' nL ((i, xm_v ad ex v) :: (xm_fl ad ex loc).filter (fun q => !(q.1 == i) && !(q.1 + 1 == i && q.2.category == 2)))) : xm_hl ad ex n nL ls' (xm_st1 loc i v) := by
  refine ⟨⟨h'.1, h'.2.1⟩, fun j w hw => ?_⟩
  unfold xm_st1 at hw
  by_cases hj : i = j
  · subst hj
    rw [List.getElem?_set, if_pos rfl] at hw
    split at hw
    · simp at hw
      subst hw
      exact ⟨h'.2.2 _ List.mem_cons_self, hv⟩
    · cases hw
  · rw [List.getElem?_set_ne hj] at hw
    obtain ⟨h1, h2⟩ := xm_brk_at hw
    refine ⟨h'.2.2 (j, xm_v ad ex w) (List.mem_cons_of_mem _ (List.mem_filter.mpr ⟨xm_fl_mem.mpr ⟨w, h1, rfl⟩, ?_⟩)), (h.2 j w h1).2⟩
    simp only [xm_cat_v]
    simp only [Bool.and_eq_true, Bool.not_eq_true', beq_eq_false_iff_ne, Bool.and_eq_false_iff]
    refine ⟨fun e => hj e.symm, ?_⟩
    by_cases e1 : j + 1 = i
    · exact Or.inr (by simpa using fun e2 => h2 ⟨e1, e2⟩)
    · exact Or.inl e1
theorem xm_hl.st2 {ad ex : Nat → Nat} {n nL i : Nat} {ls ls' : Array Slot} {loc : xm_L} {v : xm_V} (h : xm_hl ad ex n nL ls loc) (hv : xm_sc n v)
    (h' : lv_has ls' nL ((i, xm_v ad ex v) :: (xm_fl ad ex loc).filter (fun q => !(q.1 == i) && (!(q.1 == i + 1) && !(q.1 + 1 == i && q.2.category == 2))))) : xm_hl ad ex n nL ls' (xm_st2 loc i v) := by
  refine ⟨⟨h'.1, h'.2.1⟩, fun j w hw => ?_⟩
  unfold xm_st2 at hw
  by_cases hk : i + 1 = j
  · subst hk
    rw [List.getElem?_set, if_pos rfl] at hw
    split at hw <;> simp at hw
  · rw [List.getElem?_set_ne hk] at hw
    by_cases hj : i = j
    · subst hj
      rw [List.getElem?_set, if_pos rfl] at hw
      split at hw
      · simp at hw
        subst hw
        exact ⟨h'.2.2 _ List.mem_cons_self, hv⟩
      · cases hw
    · rw [List.getElem?_set_ne hj] at hw
      obtain ⟨h1, h2⟩ := xm_brk_at hw
      refine ⟨h'.2.2 (j, xm_v ad ex w) (List.mem_cons_of_mem _ (List.mem_filter.mpr ⟨xm_fl_mem.mpr ⟨w, h1, rfl⟩, ?_⟩)), (h.2 j w h1).2⟩
      simp only [xm_cat_v]
      simp only [Bool.and_eq_true, Bool.not_eq_true', beq_eq_false_iff_ne, Bool.and_eq_false_iff]
      refine ⟨fun e => hj e.symm, fun e => hk e.symm, ?_⟩
      by_cases e1 : j + 1 = i
      · exact Or.inr (by simpa using fun e2 => h2 ⟨e1, e2⟩)
      · exact Or.inl e1
theorem xm_le_at {i : Nat} {v : xm_V} : ∀ {a b : xm_L}, xm_le a b → a[i]? = some (some v) → b[i]? = some (some v)
  | [], [], _, h => by simp at h
  | none :: a, _ :: b, hl, h => by
    cases i with
    | zero => simp at h
    | succ i => simpa using xm_le_at (a := a) (b := b) hl (by simpa using h)
  | some w :: a, x :: b, hl, h => by
    obtain ⟨rfl, hl⟩ := hl
    cases i with
    | zero => simpa using h
    | succ i => simpa using xm_le_at (a := a) (b := b) hl (by simpa using h)
  | [], _ :: _, hl, _ => hl.elim
  | none :: _, [], hl, _ => hl.elim
  | some _ :: _, [], hl, _ => hl.elim
theorem xm_in_mem {pc : Nat} {i : Jvm.ClassFile.Instr × Nat} : ∀ {l : List xm_I}, xm_in pc l = some i → (pc, i) ∈ l
  | [], h => by cases h
  | q :: r, h => by
    unfold xm_in at h
    cases hb : Nat.beq q.1 pc with
    | true =>
      rw [hb] at h
      have e : q.1 = pc := Nat.eq_of_beq_eq_true hb
      have e2 : q.2 = i := Option.some.inj h
      rw [← e, ← e2]
      exact List.mem_cons_self
    | false =>
      rw [hb] at h
      exact List.mem_cons_of_mem _ (xm_in_mem h)
theorem xm_tb_mem {pc : Nat} {i : Jvm.ClassFile.Instr × Nat} : ∀ {l : List (Nat × List xm_I)}, xm_tb pc l = some i → ∃ q ∈ l, (pc, i) ∈ q.2
  | [], h => by cases h
  | q :: r, h => by
    unfold xm_tb at h
    cases hb : Nat.blt pc q.1 with
    | true => rw [hb] at h; exact ⟨q, List.mem_cons_self, xm_in_mem h⟩
    | false =>
      rw [hb] at h
      obtain ⟨q', h1, h2⟩ := xm_tb_mem h
      exact ⟨q', List.mem_cons_of_mem _ h1, h2⟩
-- a method's table is true of its bytes
def xm_dec (cc : ByteArray) (q : xm_I) : Prop := ∃ n, decode cc q.1 = .ok (q.2.1, n) ∧ q.2.2 = q.1 + n ∧ (xm_len q.2.1 = 0 ∨ n = xm_len q.2.1)
-- what links say, of one method's code in the tables' words Ts
def xm_fok (own : String) (Ts : List Cond) (cl : List vw_C) (ix ci j t : Nat) : Prop :=
  ∃ (C : String) (T : u_T) (N : Nat) (ty : Nat → FieldType), cl[ci]? = some (C, T, N) ∧ j < N ∧ (∀ w ∈ u_ws C T N, w ∈ Ts) ∧ (∀ k, k < N → parseFieldDescriptor (T k).2.2.1 = some (ty k)) ∧ (∀ a, a < N → ∀ b, b < N → a ≠ b → (T a).2.1 ≠ (T b).2.1) ∧
    (Cond.fieldLink own ix (T j).1 (T j).2.1 (T j).2.2.1 ∈ Ts ∨ ∃ host, Cond.fieldLinkNest own ix (T j).1 (T j).2.1 (T j).2.2.1 host ∈ Ts) ∧
    ((t = 0 ∧ ty j = .int ∧ (T j).2.2.2 = false) ∨ (t = 3 ∧ ty j = .boolean ∧ (T j).2.2.2 = false) ∨ (t = 2 ∧ ((∃ n, ty j = .object n) ∨ ∃ a, ty j = .array a) ∧ (T j).2.2.2 = false) ∨ (t = 12 ∧ ((∃ n, ty j = .object n) ∨ ∃ a, ty j = .array a) ∧ (T j).2.2.2 = true ∧ (T j).1 = own ∧ Cond.fieldLink own ix (T j).1 (T j).2.1 (T j).2.2.1 ∈ Ts) ∨ t = 22)
def xm_nok (own : String) (Ts : List Cond) (cl : List vw_C) (ix ci : Nat) (fs : List xm_F) : Prop :=
  ∃ (C : String) (T : u_T) (N : Nat) (ty : Nat → FieldType), cl[ci]? = some (C, T, N) ∧ (∀ w ∈ u_ws C T N, w ∈ Ts) ∧ (∀ k, k < N → parseFieldDescriptor (T k).2.2.1 = some (ty k)) ∧
    Cond.classLink own ix C ∈ Ts ∧ Cond.instantiable C N ∈ Ts ∧ Cond.initialized C ∈ Ts ∧ fs.length = N ∧ (∀ f, f ∈ fs → f = none ∨ f = some none) ∧ ∀ j, j < N → ∀ (ad : Nat → Nat) (I : Nat → Nat → Int32) (k : Nat), (∀ b, I k b = 0) → defaultValue (ty j) = vp_V (fs.mapIdx fun j f => xm_fw ad I k j f) j
def xm_yok (own : String) (cc : ByteArray) (Ts : List Cond) (cl : List vw_C) (Y : xm_Y) : Prop :=
  (∀ pc i, Y.1 pc = some i → xm_dec cc (pc, i)) ∧ (∀ ix v, Y.2.1 ix = some (xv_i v) → Jvm.Cond.constant own ix v ∈ Ts) ∧ (∀ ix v, Y.2.1 ix = some (xv_l v) → Jvm.Cond.constantLong own ix v ∈ Ts) ∧
  (∀ ix ci j t, Y.2.2.1 ix = some (ci, j, t) → xm_fok own Ts cl ix ci j t) ∧ (∀ ix ci fs, Y.2.2.2.1 ix = some (ci, fs) → xm_nok own Ts cl ix ci fs) ∧
  (∀ ix, Y.2.2.2.2.2 ix = 2 → Cond.methodLink own ix objectInit ∈ Ts) ∧ (∀ ix, Y.2.2.2.2.2 ix = 1 → Cond.methodLink own ix arraycopyName ∈ Ts)
-- what stands fixed through a method
def xm_fx (own : String) (cc : ByteArray) (nL : Nat) (Ts : List Cond) (ex : Nat → Nat) (xt : Nat → Nat × (Nat → Int32)) (C0 S0 : Nat) (p : Program) (R : Room) (s : State) (m : MethodId) (args : Array Value) (c : Code) (D : va_G) (cl : List vw_C) (A : Nat → Prop) : Prop :=
  p.tables.exec = Jvm.exec ∧ c.code = cc ∧ c.maxLocals = nL ∧ s.vm.findClass own = some m.cls ∧ (∀ w ∈ Ts, w.before args s = true) ∧ va_K D cl [] s ∧ (∀ q : Nat, s.heap.size ≤ q → A q) ∧ (C0 ≤ R.cells ∧ S0 ≤ R.slots) ∧
  (∀ k, va_T .int (ex k) (xt k).1 (fun j => .int ((xt k).2 j)) A s s.heap)
theorem xm_hs_cons {n : Nat} {v : xm_V} {r : List xm_V} (h : xm_hs n (v :: r)) : xm_sc n v ∧ xm_hs n r := ⟨h v List.mem_cons_self, fun w hw => h w (List.mem_cons_of_mem _ hw)⟩
theorem xm_hs_push {n : Nat} {v : xm_V} {r : List xm_V} (hv : xm_sc n v) (h : xm_hs n r) : xm_hs n (v :: r) := fun w hw => by
  rcases List.mem_cons.mp hw with rfl | hw
  · exact hv
  · exact h w hw
end
section
/-! The one step is true of the machine. -/
theorem xm_ln {i : Jvm.ClassFile.Instr} {n : Nat} (k : Nat) (h : xm_len i = 0 ∨ n = xm_len i) (hk : xm_len i = k + 1) : n = k + 1 := by
  rcases h with h | h
  · rw [hk] at h; cases h
  · rw [h, hk]
theorem xm_K1 {D : va_G} {cl : List vw_C} {s : State} {cA : ClassId} {ty : FieldType} (hK : va_K D cl [] s) (h : ArrOfT s cA ty ∧ va_RA s cA ty) : va_K D cl [(cA, ty)] s := by
  refine ⟨hK.1, fun k q hq => ?_⟩
  cases k with
  | zero => cases hq; exact h
  | succ k => cases hq
theorem xm_K2 {D : va_G} {cl : List vw_C} {s : State} {cA cB : ClassId} {ty : FieldType} (hK : va_K D cl [] s) (h : ArrOfT s cA ty ∧ va_RA s cA ty) (h2 : ArrOfT s cB ty ∧ va_RA s cB ty) : va_K D cl [(cA, ty), (cB, ty)] s := by
  refine ⟨hK.1, fun k q hq => ?_⟩
  match k, hq with
  | 0, hq => cases hq; exact h
  | 1, hq => cases hq; exact h2
  | k + 2, hq => cases hq
theorem xm_map_congr {α β : Type} {l : List α} {f g : Nat → α → β} (h : ∀ i a, l[i]? = some a → f i a = g i a) : l.mapIdx f = l.mapIdx g := by
  apply List.ext_getElem?
  intro i
  simp only [List.getElem?_mapIdx]
  cases hl : l[i]? with
  | none => rfl
  | some a => simp [h i a hl]
theorem xm_sc_le {n n' : Nat} (h : n ≤ n') {v : xm_V} (hv : xm_sc n v) : xm_sc n' v := by
  rcases v with x | x | (_ | k) | k
  · trivial
  · trivial
  · trivial
  · exact Nat.lt_of_lt_of_le (show k < n from hv) h
  · trivial
theorem xm_v_up {ad ex : Nat → Nat} {n q : Nat} {v : xm_V} (h : xm_sc n v) : xm_v (va_up ad n q) ex v = xm_v ad ex v := by
  rcases v with x | x | (_ | k) | k
  · rfl
  · rfl
  · rfl
  · have hk : k < n := h
    show Value.ref (va_up ad n q k) = Value.ref (ad k)
    simp [va_up, Nat.ne_of_lt hk]
  · rfl
theorem xm_st_up {ad ex : Nat → Nat} {n q : Nat} {st : List xm_V} (h : xm_hs n st) : st.map (xm_v (va_up ad n q) ex) = st.map (xm_v ad ex) := List.map_congr_left fun v hv => xm_v_up (h v hv)
theorem xm_hl.up {ad ex : Nat → Nat} {n nL q : Nat} {ls : Array Slot} {loc : xm_L} (h : xm_hl ad ex n nL ls loc) : xm_hl (va_up ad n q) ex (n + 1) nL ls loc :=
  ⟨h.1, fun i v hv => ⟨by rw [xm_v_up (h.2 i v hv).2]; exact (h.2 i v hv).1, xm_sc_le (Nat.le_succ n) (h.2 i v hv).2⟩⟩
theorem xm_hs.up {n n' : Nat} {st : List xm_V} (h : xm_hs n st) (hn : n ≤ n') : xm_hs n' st := fun v hv => xm_sc_le hn (h v hv)
theorem xm_sum8 {ad ex : Nat → Nat} {r : List xm_V} (h : xm_c8 r = true) : ((r.map (xm_v ad ex)).map fun v => v.category).sum ≤ 8 := by
  rw [List.map_map]
  have e : ((fun v : Value => v.category) ∘ xm_v ad ex) = xm_cat := funext fun v => xm_cat_v ad ex v
  rw [e]
  exact Nat.le_of_ble_eq_true h
theorem xm_w_push {ad : Nat → Nat} {ca ca' : Nat → ClassId} {M : xm_M} {q : Nat} {t : xm_T} {I' : Nat → Nat → Int32} {J' : Nat → Nat → Int64} (hsc : xm_scM M.1) (hca : ∀ k, k < M.1.length → ca' k = ca k) (hI : ∀ k, k < M.1.length → I' k = M.2.1 k) (hJ : ∀ k, k < M.1.length → J' k = M.2.2 k) :
    xm_w ad ca M ++ [(q, xm_e (va_up ad M.1.length q) ca' I' J' M.1.length t)] = xm_w (va_up ad M.1.length q) ca' (M.1 ++ [t], I', J') := by
  unfold xm_w
  rw [List.mapIdx_concat]
  congr 1
  · refine xm_map_congr fun i a hi => ?_
    have hlt : i < M.1.length := (List.getElem?_eq_some_iff.mp hi).1
    have e1 : va_up ad M.1.length q i = ad i := by simp [va_up, Nat.ne_of_lt hlt]
    rw [e1]
    rcases a with ⟨t', n⟩ | ⟨ci, fs⟩
    · simp only [xm_e, hca i hlt, hI i hlt, hJ i hlt]
    · have e2 : (fs.mapIdx fun j f => xm_fw ad M.2.1 i j f) = fs.mapIdx fun j f => xm_fw (va_up ad M.1.length q) I' i j f := by
        refine xm_map_congr fun j f hf => ?_
        rcases f with _ | _ | z
        · simp [xm_fw, hI i hlt]
        · rfl
        · have hz : z < M.1.length := hsc i ci fs hi z (List.mem_of_getElem? hf)
          simp [xm_fw, va_up, Nat.ne_of_lt hz]
      simp only [xm_e, e2]
  · simp [va_up]
theorem xm_push {D : va_G} {cl : List vw_C} {A : Nat → Prop} {s : State} {ad : Nat → Nat} {ca ca' : Nat → ClassId} {H H1 : Heap} {locs : List Loc} {M : xm_M} {q : Nat} {t : xm_T} {I' : Nat → Nat → Int32} {J' : Nat → Nat → Int64} {e : va_E} (hm : xm_hm D cl A s ad ca H locs M) (hca : ∀ k, k < M.1.length → ca' k = ca k) (hI : ∀ k, k < M.1.length → I' k = M.2.1 k) (hJ : ∀ k, k < M.1.length → J' k = M.2.2 k)
    (hsc : ∀ ci fs, t = xt_o ci fs → ∀ f, f ∈ fs → f = none ∨ f = some none) (hka : ∀ ty, xm_ty t = some ty → ArrOfT s (ca' M.1.length) ty ∧ va_RA s (ca' M.1.length) ty) (he : e = xm_e (va_up ad M.1.length q) ca' I' J' M.1.length t)
    (hP : va_P D cl (xm_w ad ca M ++ [(q, e)]) H1) (hD : va_D A (xm_w ad ca M ++ [(q, e)])) (hS : va_S A s.heap H1 locs) : xm_hm D cl A s (va_up ad M.1.length q) ca' H1 locs (M.1 ++ [t], I', J') := by
  subst he
  rw [xm_w_push hm.1 hca hI hJ] at hP hD
  refine ⟨fun k ci fs hk z hz => ?_, hP, hD, hS, fun k e ty hk hty => ?_⟩
  · have hk : (M.1 ++ [t])[k]? = some (xt_o ci fs) := hk
    show z < (M.1 ++ [t]).length
    rw [List.length_append, List.length_singleton]
    by_cases hlt : k < M.1.length
    · rw [List.getElem?_append_left hlt] at hk
      exact Nat.lt_succ_of_lt (hm.1 k ci fs hk z hz)
    · rw [List.getElem?_append_right (Nat.le_of_not_lt hlt)] at hk
      cases hj : k - M.1.length with
      | zero =>
        rw [hj] at hk
        rcases hsc ci fs (Option.some.inj hk) _ hz with q | q <;> cases q
      | succ j => rw [hj] at hk; cases hk
  · have hk : (M.1 ++ [t])[k]? = some e := hk
    by_cases hlt : k < M.1.length
    · rw [List.getElem?_append_left hlt] at hk
      rw [hca k hlt]
      exact hm.2.2.2.2 k e ty hk hty
    · rw [List.getElem?_append_right (Nat.le_of_not_lt hlt)] at hk
      cases hj : k - M.1.length with
      | zero =>
        rw [hj] at hk
        have hk0 : k = M.1.length := by omega
        subst hk0
        have hk2 : (M.1 ++ [t])[M.1.length]? = some e := hk
        have ht : t = e := by simpa using hk2
        subst ht
        exact hka ty hty
      | succ j => rw [hj] at hk; cases hk
theorem xm_eu {α : Type} {f : Nat → Nat → α} {k j : Nat} {x : α} : xu_2 f k j x k = fun b => if b = j then x else f k b := by funext b; simp [xu_2]
-- contents change at k alone, shapes stay
theorem xm_hm.store {D : va_G} {cl : List vw_C} {A : Nat → Prop} {s : State} {ad : Nat → Nat} {ca : Nat → ClassId} {H H1 : Heap} {locs locs1 : List Loc} {M : xm_M} {k : Nat} {t : xm_T} {I' : Nat → Nat → Int32} {J' : Nat → Nat → Int64} {e : va_E} (hm : xm_hm D cl A s ad ca H locs M) (hk : M.1[k]? = some t) (hI : ∀ a, a ≠ k → I' a = M.2.1 a) (hJ : ∀ a, a ≠ k → J' a = M.2.2 a) (he : e = xm_e ad ca I' J' k t)
    (hP : va_P D cl ((xm_w ad ca M).set k (ad k, e)) H1) (hD : va_D A ((xm_w ad ca M).set k (ad k, e))) (hS : va_S A s.heap H1 locs1) : xm_hm D cl A s ad ca H1 locs1 (M.1, I', J') := by
  subst he
  rw [xm_w_set (T' := M.1) hk (fun _ _ => rfl) rfl hI hJ] at hP hD
  exact ⟨hm.1, hP, hD, hS, hm.2.2.2.2⟩
theorem xm_xu_k {α : Type} {f : Nat → Nat → α} {k j : Nat} {x : α} (a : Nat) (h : a ≠ k) : xu_2 f k j x a = f a := by funext b; simp [xu_2, h]
theorem xm_xc_k {α : Type} {f : Nat → Nat → α} {k : Nat} {g : Nat → α} (a : Nat) (h : a ≠ k) : xc_y f k g a = f a := by funext b; simp [xc_y, h]
theorem xm_ez {α : Type} {f : Nat → Nat → α} {k : Nat} {x : α} : xz_2 f k x k = fun _ => x := by funext b; simp [xz_2]
theorem xm_ec {α : Type} {f : Nat → Nat → α} {k : Nat} {g : Nat → α} : xc_y f k g k = g := by funext b; simp [xc_y]
theorem xm_xz_k {α : Type} {f : Nat → Nat → α} {k : Nat} {x : α} (a : Nat) (h : a < k) : xz_2 f k x a = f a := by funext b; simp [xz_2, Nat.ne_of_lt h]
theorem xm_put_e {ad : Nat → Nat} {I : Nat → Nat → Int32} {k j : Nat} {fs : List xm_F} {x : Int32} (hj : fs[j]? = some none) : (fs.mapIdx fun b f => xm_fw ad I k b f).set j (.int x) = fs.mapIdx fun b f => xm_fw ad (xu_2 I k j x) k b f := by
  apply List.ext_getElem?
  intro b
  by_cases h : j = b
  · subst h
    have e1 : (fs.mapIdx fun b f => xm_fw ad (xu_2 I k j x) k b f)[j]? = some (.int x) := by
      rw [List.getElem?_mapIdx, hj]
      show some (Value.int (xu_2 I k j x k j)) = _
      simp [xu_2]
    rw [e1, List.getElem?_set]
    simp [(List.getElem?_eq_some_iff.mp hj).1]
  · rw [List.getElem?_set_ne h]
    simp only [List.getElem?_mapIdx]
    cases fs[b]? with
    | none => rfl
    | some f =>
      have h2 : ¬ b = j := fun q => h q.symm
      rcases f with _ | _ | q <;> simp [xm_fw, xu_2, h2]
theorem xm_putr_e {ad : Nat → Nat} {I : Nat → Nat → Int32} {k j q : Nat} {fs : List xm_F} : (fs.mapIdx fun b f => xm_fw ad I k b f).set j (.ref (ad q)) = (fs.set j (some (some q))).mapIdx fun b f => xm_fw ad I k b f := by
  apply List.ext_getElem?
  intro b
  simp only [List.getElem?_mapIdx, List.getElem?_set, List.length_mapIdx]
  by_cases h : j = b
  · subst h
    by_cases h2 : j < fs.length
    · simp [h2, xm_fw]
    · simp [h2]
  · simp [h]
def xm_W1 (p : Program) (l : Launch) (e : Env) (R : Room) (s : State) (m : MethodId) (args : Array Value) (below : List Frame) (meth : Method) (c : Code) (Q : State → Prop) (D : va_G) (cl : List vw_C) (ex : Nat → Nat) (A : Nat → Prop) (nL n0 : Nat) (ad0 : Nat → Nat) (ca0 : Nat → ClassId) : xm_K := fun pc loc st M nc ns =>
  ∀ (ad : Nat → Nat) (ca : Nat → ClassId) (ls : Array Slot) (H : Heap) (locs : List Loc), n0 ≤ M.1.length → (∀ k, k < n0 → ad k = ad0 k ∧ ca k = ca0 k) → xm_hl ad ex M.1.length nL ls loc → xm_hs M.1.length st → xm_hm D cl A s ad ca H locs M →
    W p l e R s m args below meth c H locs nc ns Q (F0 m pc ls (st.map (xm_v ad ex)))
end
section
/-! Steps of the group A are true of the machine. -/
section XSTEP
variable {p : Program} {l : Launch} {e : Env} {R : Room} {s : State} {m : MethodId} {args : Array Value} {below : List Frame} {meth : Method} {c : Code} {Q : State → Prop} {D : va_G} {cl : List vw_C} {ex : Nat → Nat} {A : Nat → Prop} {nL n0 : Nat} {ad0 : Nat → Nat} {ca0 : Nat → ClassId}
variable {own : String} {cc : ByteArray} {Ts : List Cond} {xt : Nat → Nat × (Nat → Int32)} {C0 S0 : Nat} {Y : xm_Y} {K : xm_K} {pc : Nat} {loc : xm_L} {st : List xm_V} {M : xm_M} {nc ns : Nat}
set_option maxHeartbeats 2000000 in
theorem xm_snd_iconst (F : xm_fx own cc nL Ts ex xt C0 S0 p R s m args c D cl A) (O : xm_yok own cc Ts cl Y) (hini : Y.2.2.2.2.2 0 = 9 → meth.name = "<init>") (hRf : 1 ≤ R.frames) (hRl : 100 ≤ R.locals)
    (hoi : (Cond.instanceMethod objectInit).before args s = true ∧ (Cond.code objectInit ⟨#[0xb1]⟩ 1 none).before args s = true)
    (har : (Cond.arrayClass .int).before args s = true ∧ (Cond.arrayClass .long).before args s = true ∧ (Cond.arrayClass .boolean).before args s = true)
    (hcy : (Cond.native arraycopyName).before args s = true ∧ (Cond.static arraycopyName).before args s = true ∧ (Cond.initialized "java/lang/System").before args s = true)
    (hst : ∀ ix q, Y.2.2.2.2.1 ix = some q → ∃ (C n d : String), va_Z C n d (.ref (ex q)) A s s.heap ∧ (Cond.fieldLink own ix C n d).before args s = true)
    (hr : ∀ a1 a2 a3 a4 a5 a6, K a1 a2 a3 a4 a5 a6 → a5 ≤ C0 ∧ a6 ≤ S0)
    (kk : ∀ a1 a2 a3 a4 a5 a6, K a1 a2 a3 a4 a5 a6 → xm_W1 p l e R s m args below meth c Q D cl ex A nL n0 ad0 ca0 a1 a2 a3 a4 a5 a6) (h : (∃ (n : Int) (pn : Nat), Y.1 pc = some (.iconst n, pn) ∧ K pn loc (xv_i (Int32.ofInt n) :: st) M nc ns)) : xm_W1 p l e R s m args below meth c Q D cl ex A nL n0 ad0 ca0 pc loc st M nc ns := by
  obtain ⟨hx, hb, hml, hown, hts, hK, hA, ⟨hRc, hRs⟩, hT⟩ := F
  obtain ⟨hdec, hkc, hkl, hfo, hno, hob, hcp⟩ := O
  intro ad ca ls H locs hn hag hl hs hm
  obtain ⟨n, pn, hi, h⟩ := h
  obtain ⟨ln, hd, hpn, hln⟩ := hdec pc _ hi
  dsimp only at hd hpn hln
  obtain rfl := xm_ln 0 hln rfl
  subst hpn
  exact lv_iconst hx hb hd rfl (kk _ _ _ _ _ _ h ad ca ls H locs hn hag hl (xm_hs_push trivial hs) hm)
set_option maxHeartbeats 2000000 in
theorem xm_snd_bipush (F : xm_fx own cc nL Ts ex xt C0 S0 p R s m args c D cl A) (O : xm_yok own cc Ts cl Y) (hini : Y.2.2.2.2.2 0 = 9 → meth.name = "<init>") (hRf : 1 ≤ R.frames) (hRl : 100 ≤ R.locals)
    (hoi : (Cond.instanceMethod objectInit).before args s = true ∧ (Cond.code objectInit ⟨#[0xb1]⟩ 1 none).before args s = true)
    (har : (Cond.arrayClass .int).before args s = true ∧ (Cond.arrayClass .long).before args s = true ∧ (Cond.arrayClass .boolean).before args s = true)
    (hcy : (Cond.native arraycopyName).before args s = true ∧ (Cond.static arraycopyName).before args s = true ∧ (Cond.initialized "java/lang/System").before args s = true)
    (hst : ∀ ix q, Y.2.2.2.2.1 ix = some q → ∃ (C n d : String), va_Z C n d (.ref (ex q)) A s s.heap ∧ (Cond.fieldLink own ix C n d).before args s = true)
    (hr : ∀ a1 a2 a3 a4 a5 a6, K a1 a2 a3 a4 a5 a6 → a5 ≤ C0 ∧ a6 ≤ S0)
    (kk : ∀ a1 a2 a3 a4 a5 a6, K a1 a2 a3 a4 a5 a6 → xm_W1 p l e R s m args below meth c Q D cl ex A nL n0 ad0 ca0 a1 a2 a3 a4 a5 a6) (h : (∃ (n : Int) (pn : Nat), Y.1 pc = some (.bipush n, pn) ∧ K pn loc (xv_i (Int8.ofInt n).toInt32 :: st) M nc ns)) : xm_W1 p l e R s m args below meth c Q D cl ex A nL n0 ad0 ca0 pc loc st M nc ns := by
  obtain ⟨hx, hb, hml, hown, hts, hK, hA, ⟨hRc, hRs⟩, hT⟩ := F
  obtain ⟨hdec, hkc, hkl, hfo, hno, hob, hcp⟩ := O
  intro ad ca ls H locs hn hag hl hs hm
  obtain ⟨n, pn, hi, h⟩ := h
  obtain ⟨ln, hd, hpn, hln⟩ := hdec pc _ hi
  dsimp only at hd hpn hln
  obtain rfl := xm_ln 1 hln rfl
  subst hpn
  exact lv_bipush hx hb hd rfl (kk _ _ _ _ _ _ h ad ca ls H locs hn hag hl (xm_hs_push trivial hs) hm)
set_option maxHeartbeats 2000000 in
theorem xm_snd_sipush (F : xm_fx own cc nL Ts ex xt C0 S0 p R s m args c D cl A) (O : xm_yok own cc Ts cl Y) (hini : Y.2.2.2.2.2 0 = 9 → meth.name = "<init>") (hRf : 1 ≤ R.frames) (hRl : 100 ≤ R.locals)
    (hoi : (Cond.instanceMethod objectInit).before args s = true ∧ (Cond.code objectInit ⟨#[0xb1]⟩ 1 none).before args s = true)
    (har : (Cond.arrayClass .int).before args s = true ∧ (Cond.arrayClass .long).before args s = true ∧ (Cond.arrayClass .boolean).before args s = true)
    (hcy : (Cond.native arraycopyName).before args s = true ∧ (Cond.static arraycopyName).before args s = true ∧ (Cond.initialized "java/lang/System").before args s = true)
    (hst : ∀ ix q, Y.2.2.2.2.1 ix = some q → ∃ (C n d : String), va_Z C n d (.ref (ex q)) A s s.heap ∧ (Cond.fieldLink own ix C n d).before args s = true)
    (hr : ∀ a1 a2 a3 a4 a5 a6, K a1 a2 a3 a4 a5 a6 → a5 ≤ C0 ∧ a6 ≤ S0)
    (kk : ∀ a1 a2 a3 a4 a5 a6, K a1 a2 a3 a4 a5 a6 → xm_W1 p l e R s m args below meth c Q D cl ex A nL n0 ad0 ca0 a1 a2 a3 a4 a5 a6) (h : (∃ (n : Int) (pn : Nat), Y.1 pc = some (.sipush n, pn) ∧ K pn loc (xv_i (Int16.ofInt n).toInt32 :: st) M nc ns)) : xm_W1 p l e R s m args below meth c Q D cl ex A nL n0 ad0 ca0 pc loc st M nc ns := by
  obtain ⟨hx, hb, hml, hown, hts, hK, hA, ⟨hRc, hRs⟩, hT⟩ := F
  obtain ⟨hdec, hkc, hkl, hfo, hno, hob, hcp⟩ := O
  intro ad ca ls H locs hn hag hl hs hm
  obtain ⟨n, pn, hi, h⟩ := h
  obtain ⟨ln, hd, hpn, hln⟩ := hdec pc _ hi
  dsimp only at hd hpn hln
  obtain rfl := xm_ln 2 hln rfl
  subst hpn
  exact lv_sipush hx hb hd rfl (kk _ _ _ _ _ _ h ad ca ls H locs hn hag hl (xm_hs_push trivial hs) hm)
set_option maxHeartbeats 2000000 in
theorem xm_snd_lconst (F : xm_fx own cc nL Ts ex xt C0 S0 p R s m args c D cl A) (O : xm_yok own cc Ts cl Y) (hini : Y.2.2.2.2.2 0 = 9 → meth.name = "<init>") (hRf : 1 ≤ R.frames) (hRl : 100 ≤ R.locals)
    (hoi : (Cond.instanceMethod objectInit).before args s = true ∧ (Cond.code objectInit ⟨#[0xb1]⟩ 1 none).before args s = true)
    (har : (Cond.arrayClass .int).before args s = true ∧ (Cond.arrayClass .long).before args s = true ∧ (Cond.arrayClass .boolean).before args s = true)
    (hcy : (Cond.native arraycopyName).before args s = true ∧ (Cond.static arraycopyName).before args s = true ∧ (Cond.initialized "java/lang/System").before args s = true)
    (hst : ∀ ix q, Y.2.2.2.2.1 ix = some q → ∃ (C n d : String), va_Z C n d (.ref (ex q)) A s s.heap ∧ (Cond.fieldLink own ix C n d).before args s = true)
    (hr : ∀ a1 a2 a3 a4 a5 a6, K a1 a2 a3 a4 a5 a6 → a5 ≤ C0 ∧ a6 ≤ S0)
    (kk : ∀ a1 a2 a3 a4 a5 a6, K a1 a2 a3 a4 a5 a6 → xm_W1 p l e R s m args below meth c Q D cl ex A nL n0 ad0 ca0 a1 a2 a3 a4 a5 a6) (h : (∃ (n : Fin 2) (pn : Nat), Y.1 pc = some (.lconst n, pn) ∧ K pn loc (xv_l (Int64.ofNat (n : Nat)) :: st) M nc ns)) : xm_W1 p l e R s m args below meth c Q D cl ex A nL n0 ad0 ca0 pc loc st M nc ns := by
  obtain ⟨hx, hb, hml, hown, hts, hK, hA, ⟨hRc, hRs⟩, hT⟩ := F
  obtain ⟨hdec, hkc, hkl, hfo, hno, hob, hcp⟩ := O
  intro ad ca ls H locs hn hag hl hs hm
  obtain ⟨n, pn, hi, h⟩ := h
  obtain ⟨ln, hd, hpn, hln⟩ := hdec pc _ hi
  dsimp only at hd hpn hln
  obtain rfl := xm_ln 0 hln rfl
  subst hpn
  exact lv_lconst hx hb hd rfl (kk _ _ _ _ _ _ h ad ca ls H locs hn hag hl (xm_hs_push trivial hs) hm)
set_option maxHeartbeats 2000000 in
theorem xm_snd_ldc (F : xm_fx own cc nL Ts ex xt C0 S0 p R s m args c D cl A) (O : xm_yok own cc Ts cl Y) (hini : Y.2.2.2.2.2 0 = 9 → meth.name = "<init>") (hRf : 1 ≤ R.frames) (hRl : 100 ≤ R.locals)
    (hoi : (Cond.instanceMethod objectInit).before args s = true ∧ (Cond.code objectInit ⟨#[0xb1]⟩ 1 none).before args s = true)
    (har : (Cond.arrayClass .int).before args s = true ∧ (Cond.arrayClass .long).before args s = true ∧ (Cond.arrayClass .boolean).before args s = true)
    (hcy : (Cond.native arraycopyName).before args s = true ∧ (Cond.static arraycopyName).before args s = true ∧ (Cond.initialized "java/lang/System").before args s = true)
    (hst : ∀ ix q, Y.2.2.2.2.1 ix = some q → ∃ (C n d : String), va_Z C n d (.ref (ex q)) A s s.heap ∧ (Cond.fieldLink own ix C n d).before args s = true)
    (hr : ∀ a1 a2 a3 a4 a5 a6, K a1 a2 a3 a4 a5 a6 → a5 ≤ C0 ∧ a6 ≤ S0)
    (kk : ∀ a1 a2 a3 a4 a5 a6, K a1 a2 a3 a4 a5 a6 → xm_W1 p l e R s m args below meth c Q D cl ex A nL n0 ad0 ca0 a1 a2 a3 a4 a5 a6) (h : (∃ (ix : Nat) (v : Int32) (pn : Nat), Y.1 pc = some (.ldc ix, pn) ∧ Y.2.1 ix = some (xv_i v) ∧ K pn loc (xv_i v :: st) M nc ns)) : xm_W1 p l e R s m args below meth c Q D cl ex A nL n0 ad0 ca0 pc loc st M nc ns := by
  obtain ⟨hx, hb, hml, hown, hts, hK, hA, ⟨hRc, hRs⟩, hT⟩ := F
  obtain ⟨hdec, hkc, hkl, hfo, hno, hob, hcp⟩ := O
  intro ad ca ls H locs hn hag hl hs hm
  obtain ⟨ix, v, pn, hi, hv, h⟩ := h
  obtain ⟨ln, hd, hpn, hln⟩ := hdec pc _ hi
  dsimp only at hd hpn hln
  obtain rfl := xm_ln 1 hln rfl
  subst hpn
  exact lv_ldc hx hb hown (hts _ (hkc ix v hv)) hd (kk _ _ _ _ _ _ h ad ca ls H locs hn hag hl (xm_hs_push trivial hs) hm)
set_option maxHeartbeats 2000000 in
theorem xm_snd_ldc2 (F : xm_fx own cc nL Ts ex xt C0 S0 p R s m args c D cl A) (O : xm_yok own cc Ts cl Y) (hini : Y.2.2.2.2.2 0 = 9 → meth.name = "<init>") (hRf : 1 ≤ R.frames) (hRl : 100 ≤ R.locals)
    (hoi : (Cond.instanceMethod objectInit).before args s = true ∧ (Cond.code objectInit ⟨#[0xb1]⟩ 1 none).before args s = true)
    (har : (Cond.arrayClass .int).before args s = true ∧ (Cond.arrayClass .long).before args s = true ∧ (Cond.arrayClass .boolean).before args s = true)
    (hcy : (Cond.native arraycopyName).before args s = true ∧ (Cond.static arraycopyName).before args s = true ∧ (Cond.initialized "java/lang/System").before args s = true)
    (hst : ∀ ix q, Y.2.2.2.2.1 ix = some q → ∃ (C n d : String), va_Z C n d (.ref (ex q)) A s s.heap ∧ (Cond.fieldLink own ix C n d).before args s = true)
    (hr : ∀ a1 a2 a3 a4 a5 a6, K a1 a2 a3 a4 a5 a6 → a5 ≤ C0 ∧ a6 ≤ S0)
    (kk : ∀ a1 a2 a3 a4 a5 a6, K a1 a2 a3 a4 a5 a6 → xm_W1 p l e R s m args below meth c Q D cl ex A nL n0 ad0 ca0 a1 a2 a3 a4 a5 a6) (h : (∃ (ix : Nat) (v : Int64) (pn : Nat), Y.1 pc = some (.ldc2_w ix, pn) ∧ Y.2.1 ix = some (xv_l v) ∧ K pn loc (xv_l v :: st) M nc ns)) : xm_W1 p l e R s m args below meth c Q D cl ex A nL n0 ad0 ca0 pc loc st M nc ns := by
  obtain ⟨hx, hb, hml, hown, hts, hK, hA, ⟨hRc, hRs⟩, hT⟩ := F
  obtain ⟨hdec, hkc, hkl, hfo, hno, hob, hcp⟩ := O
  intro ad ca ls H locs hn hag hl hs hm
  obtain ⟨ix, v, pn, hi, hv, h⟩ := h
  obtain ⟨ln, hd, hpn, hln⟩ := hdec pc _ hi
  dsimp only at hd hpn hln
  obtain rfl := xm_ln 2 hln rfl
  subst hpn
  exact lv_ldc2 hx hb hown (hts _ (hkl ix v hv)) hd (kk _ _ _ _ _ _ h ad ca ls H locs hn hag hl (xm_hs_push trivial hs) hm)
set_option maxHeartbeats 2000000 in
theorem xm_snd_iload (F : xm_fx own cc nL Ts ex xt C0 S0 p R s m args c D cl A) (O : xm_yok own cc Ts cl Y) (hini : Y.2.2.2.2.2 0 = 9 → meth.name = "<init>") (hRf : 1 ≤ R.frames) (hRl : 100 ≤ R.locals)
    (hoi : (Cond.instanceMethod objectInit).before args s = true ∧ (Cond.code objectInit ⟨#[0xb1]⟩ 1 none).before args s = true)
    (har : (Cond.arrayClass .int).before args s = true ∧ (Cond.arrayClass .long).before args s = true ∧ (Cond.arrayClass .boolean).before args s = true)
    (hcy : (Cond.native arraycopyName).before args s = true ∧ (Cond.static arraycopyName).before args s = true ∧ (Cond.initialized "java/lang/System").before args s = true)
    (hst : ∀ ix q, Y.2.2.2.2.1 ix = some q → ∃ (C n d : String), va_Z C n d (.ref (ex q)) A s s.heap ∧ (Cond.fieldLink own ix C n d).before args s = true)
    (hr : ∀ a1 a2 a3 a4 a5 a6, K a1 a2 a3 a4 a5 a6 → a5 ≤ C0 ∧ a6 ≤ S0)
    (kk : ∀ a1 a2 a3 a4 a5 a6, K a1 a2 a3 a4 a5 a6 → xm_W1 p l e R s m args below meth c Q D cl ex A nL n0 ad0 ca0 a1 a2 a3 a4 a5 a6) (h : (∃ (k : Nat) (x : Int32) (pn : Nat), Y.1 pc = some (.iload k, pn) ∧ loc[k]? = some (some (xv_i x)) ∧ K pn loc (xv_i x :: st) M nc ns)) : xm_W1 p l e R s m args below meth c Q D cl ex A nL n0 ad0 ca0 pc loc st M nc ns := by
  obtain ⟨hx, hb, hml, hown, hts, hK, hA, ⟨hRc, hRs⟩, hT⟩ := F
  obtain ⟨hdec, hkc, hkl, hfo, hno, hob, hcp⟩ := O
  intro ad ca ls H locs hn hag hl hs hm
  obtain ⟨k, x, pn, hi, hv, h⟩ := h
  obtain ⟨ln, hd, hpn, hln⟩ := hdec pc _ hi
  dsimp only at hd hpn hln
  obtain rfl := xm_ln 1 hln rfl
  subst hpn
  exact lv_iload hx hb hd (hl.2 _ _ hv).1 (kk _ _ _ _ _ _ h ad ca ls H locs hn hag hl (xm_hs_push trivial hs) hm)
set_option maxHeartbeats 2000000 in
theorem xm_snd_iload_n (F : xm_fx own cc nL Ts ex xt C0 S0 p R s m args c D cl A) (O : xm_yok own cc Ts cl Y) (hini : Y.2.2.2.2.2 0 = 9 → meth.name = "<init>") (hRf : 1 ≤ R.frames) (hRl : 100 ≤ R.locals)
    (hoi : (Cond.instanceMethod objectInit).before args s = true ∧ (Cond.code objectInit ⟨#[0xb1]⟩ 1 none).before args s = true)
    (har : (Cond.arrayClass .int).before args s = true ∧ (Cond.arrayClass .long).before args s = true ∧ (Cond.arrayClass .boolean).before args s = true)
    (hcy : (Cond.native arraycopyName).before args s = true ∧ (Cond.static arraycopyName).before args s = true ∧ (Cond.initialized "java/lang/System").before args s = true)
    (hst : ∀ ix q, Y.2.2.2.2.1 ix = some q → ∃ (C n d : String), va_Z C n d (.ref (ex q)) A s s.heap ∧ (Cond.fieldLink own ix C n d).before args s = true)
    (hr : ∀ a1 a2 a3 a4 a5 a6, K a1 a2 a3 a4 a5 a6 → a5 ≤ C0 ∧ a6 ≤ S0)
    (kk : ∀ a1 a2 a3 a4 a5 a6, K a1 a2 a3 a4 a5 a6 → xm_W1 p l e R s m args below meth c Q D cl ex A nL n0 ad0 ca0 a1 a2 a3 a4 a5 a6) (h : (∃ (k : Fin 4) (x : Int32) (pn : Nat), Y.1 pc = some (.iload_n k, pn) ∧ loc[(k : Nat)]? = some (some (xv_i x)) ∧ K pn loc (xv_i x :: st) M nc ns)) : xm_W1 p l e R s m args below meth c Q D cl ex A nL n0 ad0 ca0 pc loc st M nc ns := by
  obtain ⟨hx, hb, hml, hown, hts, hK, hA, ⟨hRc, hRs⟩, hT⟩ := F
  obtain ⟨hdec, hkc, hkl, hfo, hno, hob, hcp⟩ := O
  intro ad ca ls H locs hn hag hl hs hm
  obtain ⟨k, x, pn, hi, hv, h⟩ := h
  obtain ⟨ln, hd, hpn, hln⟩ := hdec pc _ hi
  dsimp only at hd hpn hln
  obtain rfl := xm_ln 0 hln rfl
  subst hpn
  exact lv_iload_n hx hb hd rfl (hl.2 _ _ hv).1 (kk _ _ _ _ _ _ h ad ca ls H locs hn hag hl (xm_hs_push trivial hs) hm)
set_option maxHeartbeats 2000000 in
theorem xm_snd_lload (F : xm_fx own cc nL Ts ex xt C0 S0 p R s m args c D cl A) (O : xm_yok own cc Ts cl Y) (hini : Y.2.2.2.2.2 0 = 9 → meth.name = "<init>") (hRf : 1 ≤ R.frames) (hRl : 100 ≤ R.locals)
    (hoi : (Cond.instanceMethod objectInit).before args s = true ∧ (Cond.code objectInit ⟨#[0xb1]⟩ 1 none).before args s = true)
    (har : (Cond.arrayClass .int).before args s = true ∧ (Cond.arrayClass .long).before args s = true ∧ (Cond.arrayClass .boolean).before args s = true)
    (hcy : (Cond.native arraycopyName).before args s = true ∧ (Cond.static arraycopyName).before args s = true ∧ (Cond.initialized "java/lang/System").before args s = true)
    (hst : ∀ ix q, Y.2.2.2.2.1 ix = some q → ∃ (C n d : String), va_Z C n d (.ref (ex q)) A s s.heap ∧ (Cond.fieldLink own ix C n d).before args s = true)
    (hr : ∀ a1 a2 a3 a4 a5 a6, K a1 a2 a3 a4 a5 a6 → a5 ≤ C0 ∧ a6 ≤ S0)
    (kk : ∀ a1 a2 a3 a4 a5 a6, K a1 a2 a3 a4 a5 a6 → xm_W1 p l e R s m args below meth c Q D cl ex A nL n0 ad0 ca0 a1 a2 a3 a4 a5 a6) (h : (∃ (k : Nat) (x : Int64) (pn : Nat), Y.1 pc = some (.lload k, pn) ∧ loc[k]? = some (some (xv_l x)) ∧ K pn loc (xv_l x :: st) M nc ns)) : xm_W1 p l e R s m args below meth c Q D cl ex A nL n0 ad0 ca0 pc loc st M nc ns := by
  obtain ⟨hx, hb, hml, hown, hts, hK, hA, ⟨hRc, hRs⟩, hT⟩ := F
  obtain ⟨hdec, hkc, hkl, hfo, hno, hob, hcp⟩ := O
  intro ad ca ls H locs hn hag hl hs hm
  obtain ⟨k, x, pn, hi, hv, h⟩ := h
  obtain ⟨ln, hd, hpn, hln⟩ := hdec pc _ hi
  dsimp only at hd hpn hln
  obtain rfl := xm_ln 1 hln rfl
  subst hpn
  exact lv_lload hx hb hd (hl.2 _ _ hv).1 (kk _ _ _ _ _ _ h ad ca ls H locs hn hag hl (xm_hs_push trivial hs) hm)
set_option maxHeartbeats 2000000 in
theorem xm_snd_lload_n (F : xm_fx own cc nL Ts ex xt C0 S0 p R s m args c D cl A) (O : xm_yok own cc Ts cl Y) (hini : Y.2.2.2.2.2 0 = 9 → meth.name = "<init>") (hRf : 1 ≤ R.frames) (hRl : 100 ≤ R.locals)
    (hoi : (Cond.instanceMethod objectInit).before args s = true ∧ (Cond.code objectInit ⟨#[0xb1]⟩ 1 none).before args s = true)
    (har : (Cond.arrayClass .int).before args s = true ∧ (Cond.arrayClass .long).before args s = true ∧ (Cond.arrayClass .boolean).before args s = true)
    (hcy : (Cond.native arraycopyName).before args s = true ∧ (Cond.static arraycopyName).before args s = true ∧ (Cond.initialized "java/lang/System").before args s = true)
    (hst : ∀ ix q, Y.2.2.2.2.1 ix = some q → ∃ (C n d : String), va_Z C n d (.ref (ex q)) A s s.heap ∧ (Cond.fieldLink own ix C n d).before args s = true)
    (hr : ∀ a1 a2 a3 a4 a5 a6, K a1 a2 a3 a4 a5 a6 → a5 ≤ C0 ∧ a6 ≤ S0)
    (kk : ∀ a1 a2 a3 a4 a5 a6, K a1 a2 a3 a4 a5 a6 → xm_W1 p l e R s m args below meth c Q D cl ex A nL n0 ad0 ca0 a1 a2 a3 a4 a5 a6) (h : (∃ (k : Fin 4) (x : Int64) (pn : Nat), Y.1 pc = some (.lload_n k, pn) ∧ loc[(k : Nat)]? = some (some (xv_l x)) ∧ K pn loc (xv_l x :: st) M nc ns)) : xm_W1 p l e R s m args below meth c Q D cl ex A nL n0 ad0 ca0 pc loc st M nc ns := by
  obtain ⟨hx, hb, hml, hown, hts, hK, hA, ⟨hRc, hRs⟩, hT⟩ := F
  obtain ⟨hdec, hkc, hkl, hfo, hno, hob, hcp⟩ := O
  intro ad ca ls H locs hn hag hl hs hm
  obtain ⟨k, x, pn, hi, hv, h⟩ := h
  obtain ⟨ln, hd, hpn, hln⟩ := hdec pc _ hi
  dsimp only at hd hpn hln
  obtain rfl := xm_ln 0 hln rfl
  subst hpn
  exact lv_lload_n hx hb hd rfl (hl.2 _ _ hv).1 (kk _ _ _ _ _ _ h ad ca ls H locs hn hag hl (xm_hs_push trivial hs) hm)
set_option maxHeartbeats 2000000 in
theorem xm_snd_aload (F : xm_fx own cc nL Ts ex xt C0 S0 p R s m args c D cl A) (O : xm_yok own cc Ts cl Y) (hini : Y.2.2.2.2.2 0 = 9 → meth.name = "<init>") (hRf : 1 ≤ R.frames) (hRl : 100 ≤ R.locals)
    (hoi : (Cond.instanceMethod objectInit).before args s = true ∧ (Cond.code objectInit ⟨#[0xb1]⟩ 1 none).before args s = true)
    (har : (Cond.arrayClass .int).before args s = true ∧ (Cond.arrayClass .long).before args s = true ∧ (Cond.arrayClass .boolean).before args s = true)
    (hcy : (Cond.native arraycopyName).before args s = true ∧ (Cond.static arraycopyName).before args s = true ∧ (Cond.initialized "java/lang/System").before args s = true)
    (hst : ∀ ix q, Y.2.2.2.2.1 ix = some q → ∃ (C n d : String), va_Z C n d (.ref (ex q)) A s s.heap ∧ (Cond.fieldLink own ix C n d).before args s = true)
    (hr : ∀ a1 a2 a3 a4 a5 a6, K a1 a2 a3 a4 a5 a6 → a5 ≤ C0 ∧ a6 ≤ S0)
    (kk : ∀ a1 a2 a3 a4 a5 a6, K a1 a2 a3 a4 a5 a6 → xm_W1 p l e R s m args below meth c Q D cl ex A nL n0 ad0 ca0 a1 a2 a3 a4 a5 a6) (h : (∃ (k : Nat) (q : Nat) (pn : Nat), Y.1 pc = some (.aload k, pn) ∧ loc[k]? = some (some (xv_r q)) ∧ K pn loc (xv_r q :: st) M nc ns)) : xm_W1 p l e R s m args below meth c Q D cl ex A nL n0 ad0 ca0 pc loc st M nc ns := by
  obtain ⟨hx, hb, hml, hown, hts, hK, hA, ⟨hRc, hRs⟩, hT⟩ := F
  obtain ⟨hdec, hkc, hkl, hfo, hno, hob, hcp⟩ := O
  intro ad ca ls H locs hn hag hl hs hm
  obtain ⟨k, q, pn, hi, hv, h⟩ := h
  obtain ⟨ln, hd, hpn, hln⟩ := hdec pc _ hi
  dsimp only at hd hpn hln
  obtain rfl := xm_ln 1 hln rfl
  subst hpn
  exact lv_aload hx hb hd (hl.2 _ _ hv).1 (kk _ _ _ _ _ _ h ad ca ls H locs hn hag hl (xm_hs_push (hl.2 _ _ hv).2 hs) hm)
set_option maxHeartbeats 2000000 in
theorem xm_snd_aload_n (F : xm_fx own cc nL Ts ex xt C0 S0 p R s m args c D cl A) (O : xm_yok own cc Ts cl Y) (hini : Y.2.2.2.2.2 0 = 9 → meth.name = "<init>") (hRf : 1 ≤ R.frames) (hRl : 100 ≤ R.locals)
    (hoi : (Cond.instanceMethod objectInit).before args s = true ∧ (Cond.code objectInit ⟨#[0xb1]⟩ 1 none).before args s = true)
    (har : (Cond.arrayClass .int).before args s = true ∧ (Cond.arrayClass .long).before args s = true ∧ (Cond.arrayClass .boolean).before args s = true)
    (hcy : (Cond.native arraycopyName).before args s = true ∧ (Cond.static arraycopyName).before args s = true ∧ (Cond.initialized "java/lang/System").before args s = true)
    (hst : ∀ ix q, Y.2.2.2.2.1 ix = some q → ∃ (C n d : String), va_Z C n d (.ref (ex q)) A s s.heap ∧ (Cond.fieldLink own ix C n d).before args s = true)
    (hr : ∀ a1 a2 a3 a4 a5 a6, K a1 a2 a3 a4 a5 a6 → a5 ≤ C0 ∧ a6 ≤ S0)
    (kk : ∀ a1 a2 a3 a4 a5 a6, K a1 a2 a3 a4 a5 a6 → xm_W1 p l e R s m args below meth c Q D cl ex A nL n0 ad0 ca0 a1 a2 a3 a4 a5 a6) (h : (∃ (k : Fin 4) (q : Nat) (pn : Nat), Y.1 pc = some (.aload_n k, pn) ∧ loc[(k : Nat)]? = some (some (xv_r q)) ∧ K pn loc (xv_r q :: st) M nc ns)) : xm_W1 p l e R s m args below meth c Q D cl ex A nL n0 ad0 ca0 pc loc st M nc ns := by
  obtain ⟨hx, hb, hml, hown, hts, hK, hA, ⟨hRc, hRs⟩, hT⟩ := F
  obtain ⟨hdec, hkc, hkl, hfo, hno, hob, hcp⟩ := O
  intro ad ca ls H locs hn hag hl hs hm
  obtain ⟨k, q, pn, hi, hv, h⟩ := h
  obtain ⟨ln, hd, hpn, hln⟩ := hdec pc _ hi
  dsimp only at hd hpn hln
  obtain rfl := xm_ln 0 hln rfl
  subst hpn
  exact lv_aload_n hx hb hd rfl (hl.2 _ _ hv).1 (kk _ _ _ _ _ _ h ad ca ls H locs hn hag hl (xm_hs_push (hl.2 _ _ hv).2 hs) hm)
set_option maxHeartbeats 2000000 in
theorem xm_snd_aloadx (F : xm_fx own cc nL Ts ex xt C0 S0 p R s m args c D cl A) (O : xm_yok own cc Ts cl Y) (hini : Y.2.2.2.2.2 0 = 9 → meth.name = "<init>") (hRf : 1 ≤ R.frames) (hRl : 100 ≤ R.locals)
    (hoi : (Cond.instanceMethod objectInit).before args s = true ∧ (Cond.code objectInit ⟨#[0xb1]⟩ 1 none).before args s = true)
    (har : (Cond.arrayClass .int).before args s = true ∧ (Cond.arrayClass .long).before args s = true ∧ (Cond.arrayClass .boolean).before args s = true)
    (hcy : (Cond.native arraycopyName).before args s = true ∧ (Cond.static arraycopyName).before args s = true ∧ (Cond.initialized "java/lang/System").before args s = true)
    (hst : ∀ ix q, Y.2.2.2.2.1 ix = some q → ∃ (C n d : String), va_Z C n d (.ref (ex q)) A s s.heap ∧ (Cond.fieldLink own ix C n d).before args s = true)
    (hr : ∀ a1 a2 a3 a4 a5 a6, K a1 a2 a3 a4 a5 a6 → a5 ≤ C0 ∧ a6 ≤ S0)
    (kk : ∀ a1 a2 a3 a4 a5 a6, K a1 a2 a3 a4 a5 a6 → xm_W1 p l e R s m args below meth c Q D cl ex A nL n0 ad0 ca0 a1 a2 a3 a4 a5 a6) (h : (∃ (k : Nat) (q : Nat) (pn : Nat), Y.1 pc = some (.aload k, pn) ∧ loc[k]? = some (some (xv_x q)) ∧ K pn loc (xv_x q :: st) M nc ns)) : xm_W1 p l e R s m args below meth c Q D cl ex A nL n0 ad0 ca0 pc loc st M nc ns := by
  obtain ⟨hx, hb, hml, hown, hts, hK, hA, ⟨hRc, hRs⟩, hT⟩ := F
  obtain ⟨hdec, hkc, hkl, hfo, hno, hob, hcp⟩ := O
  intro ad ca ls H locs hn hag hl hs hm
  obtain ⟨k, q, pn, hi, hv, h⟩ := h
  obtain ⟨ln, hd, hpn, hln⟩ := hdec pc _ hi
  dsimp only at hd hpn hln
  obtain rfl := xm_ln 1 hln rfl
  subst hpn
  exact lv_aload hx hb hd (hl.2 _ _ hv).1 (kk _ _ _ _ _ _ h ad ca ls H locs hn hag hl (xm_hs_push trivial hs) hm)
set_option maxHeartbeats 2000000 in
theorem xm_snd_aload_nx (F : xm_fx own cc nL Ts ex xt C0 S0 p R s m args c D cl A) (O : xm_yok own cc Ts cl Y) (hini : Y.2.2.2.2.2 0 = 9 → meth.name = "<init>") (hRf : 1 ≤ R.frames) (hRl : 100 ≤ R.locals)
    (hoi : (Cond.instanceMethod objectInit).before args s = true ∧ (Cond.code objectInit ⟨#[0xb1]⟩ 1 none).before args s = true)
    (har : (Cond.arrayClass .int).before args s = true ∧ (Cond.arrayClass .long).before args s = true ∧ (Cond.arrayClass .boolean).before args s = true)
    (hcy : (Cond.native arraycopyName).before args s = true ∧ (Cond.static arraycopyName).before args s = true ∧ (Cond.initialized "java/lang/System").before args s = true)
    (hst : ∀ ix q, Y.2.2.2.2.1 ix = some q → ∃ (C n d : String), va_Z C n d (.ref (ex q)) A s s.heap ∧ (Cond.fieldLink own ix C n d).before args s = true)
    (hr : ∀ a1 a2 a3 a4 a5 a6, K a1 a2 a3 a4 a5 a6 → a5 ≤ C0 ∧ a6 ≤ S0)
    (kk : ∀ a1 a2 a3 a4 a5 a6, K a1 a2 a3 a4 a5 a6 → xm_W1 p l e R s m args below meth c Q D cl ex A nL n0 ad0 ca0 a1 a2 a3 a4 a5 a6) (h : (∃ (k : Fin 4) (q : Nat) (pn : Nat), Y.1 pc = some (.aload_n k, pn) ∧ loc[(k : Nat)]? = some (some (xv_x q)) ∧ K pn loc (xv_x q :: st) M nc ns)) : xm_W1 p l e R s m args below meth c Q D cl ex A nL n0 ad0 ca0 pc loc st M nc ns := by
  obtain ⟨hx, hb, hml, hown, hts, hK, hA, ⟨hRc, hRs⟩, hT⟩ := F
  obtain ⟨hdec, hkc, hkl, hfo, hno, hob, hcp⟩ := O
  intro ad ca ls H locs hn hag hl hs hm
  obtain ⟨k, q, pn, hi, hv, h⟩ := h
  obtain ⟨ln, hd, hpn, hln⟩ := hdec pc _ hi
  dsimp only at hd hpn hln
  obtain rfl := xm_ln 0 hln rfl
  subst hpn
  exact lv_aload_n hx hb hd rfl (hl.2 _ _ hv).1 (kk _ _ _ _ _ _ h ad ca ls H locs hn hag hl (xm_hs_push trivial hs) hm)
theorem xm_sndA (F : xm_fx own cc nL Ts ex xt C0 S0 p R s m args c D cl A) (O : xm_yok own cc Ts cl Y) (hini : Y.2.2.2.2.2 0 = 9 → meth.name = "<init>") (hRf : 1 ≤ R.frames) (hRl : 100 ≤ R.locals)
    (hoi : (Cond.instanceMethod objectInit).before args s = true ∧ (Cond.code objectInit ⟨#[0xb1]⟩ 1 none).before args s = true)
    (har : (Cond.arrayClass .int).before args s = true ∧ (Cond.arrayClass .long).before args s = true ∧ (Cond.arrayClass .boolean).before args s = true)
    (hcy : (Cond.native arraycopyName).before args s = true ∧ (Cond.static arraycopyName).before args s = true ∧ (Cond.initialized "java/lang/System").before args s = true)
    (hst : ∀ ix q, Y.2.2.2.2.1 ix = some q → ∃ (C n d : String), va_Z C n d (.ref (ex q)) A s s.heap ∧ (Cond.fieldLink own ix C n d).before args s = true)
    (hr : ∀ a1 a2 a3 a4 a5 a6, K a1 a2 a3 a4 a5 a6 → a5 ≤ C0 ∧ a6 ≤ S0)
    (kk : ∀ a1 a2 a3 a4 a5 a6, K a1 a2 a3 a4 a5 a6 → xm_W1 p l e R s m args below meth c Q D cl ex A nL n0 ad0 ca0 a1 a2 a3 a4 a5 a6) (h : xm_sA Y xt nL pc loc st M nc ns K) : xm_W1 p l e R s m args below meth c Q D cl ex A nL n0 ad0 ca0 pc loc st M nc ns := by
  unfold xm_sA at h
  rcases h with h | h | h | h | h | h | h | h | h | h | h | h | h | h
  · exact xm_snd_iconst F O hini hRf hRl hoi har hcy hst hr kk h
  · exact xm_snd_bipush F O hini hRf hRl hoi har hcy hst hr kk h
  · exact xm_snd_sipush F O hini hRf hRl hoi har hcy hst hr kk h
  · exact xm_snd_lconst F O hini hRf hRl hoi har hcy hst hr kk h
  · exact xm_snd_ldc F O hini hRf hRl hoi har hcy hst hr kk h
  · exact xm_snd_ldc2 F O hini hRf hRl hoi har hcy hst hr kk h
  · exact xm_snd_iload F O hini hRf hRl hoi har hcy hst hr kk h
  · exact xm_snd_iload_n F O hini hRf hRl hoi har hcy hst hr kk h
  · exact xm_snd_lload F O hini hRf hRl hoi har hcy hst hr kk h
  · exact xm_snd_lload_n F O hini hRf hRl hoi har hcy hst hr kk h
  · exact xm_snd_aload F O hini hRf hRl hoi har hcy hst hr kk h
  · exact xm_snd_aload_n F O hini hRf hRl hoi har hcy hst hr kk h
  · exact xm_snd_aloadx F O hini hRf hRl hoi har hcy hst hr kk h
  · exact xm_snd_aload_nx F O hini hRf hRl hoi har hcy hst hr kk h
theorem xm_exA (h : xm_sA Y xt nL pc loc st M nc ns K) : ∃ a1 a2 a3 a4 a5 a6, K a1 a2 a3 a4 a5 a6 ∧ nc ≤ a5 ∧ ns ≤ a6 := by
  unfold xm_sA at h
  rcases h with h | h | h | h | h | h | h | h | h | h | h | h | h | h
  · obtain ⟨_, _, _, h⟩ := h
    exact ⟨_, _, _, _, _, _, h, Nat.le_refl _, Nat.le_refl _⟩
  · obtain ⟨_, _, _, h⟩ := h
    exact ⟨_, _, _, _, _, _, h, Nat.le_refl _, Nat.le_refl _⟩
  · obtain ⟨_, _, _, h⟩ := h
    exact ⟨_, _, _, _, _, _, h, Nat.le_refl _, Nat.le_refl _⟩
  · obtain ⟨_, _, _, h⟩ := h
    exact ⟨_, _, _, _, _, _, h, Nat.le_refl _, Nat.le_refl _⟩
  · obtain ⟨_, _, _, _, _, h⟩ := h
    exact ⟨_, _, _, _, _, _, h, Nat.le_refl _, Nat.le_refl _⟩
  · obtain ⟨_, _, _, _, _, h⟩ := h
    exact ⟨_, _, _, _, _, _, h, Nat.le_refl _, Nat.le_refl _⟩
  · obtain ⟨_, _, _, _, _, h⟩ := h
    exact ⟨_, _, _, _, _, _, h, Nat.le_refl _, Nat.le_refl _⟩
  · obtain ⟨_, _, _, _, _, h⟩ := h
    exact ⟨_, _, _, _, _, _, h, Nat.le_refl _, Nat.le_refl _⟩
  · obtain ⟨_, _, _, _, _, h⟩ := h
    exact ⟨_, _, _, _, _, _, h, Nat.le_refl _, Nat.le_refl _⟩
  · obtain ⟨_, _, _, _, _, h⟩ := h
    exact ⟨_, _, _, _, _, _, h, Nat.le_refl _, Nat.le_refl _⟩
  · obtain ⟨_, _, _, _, _, h⟩ := h
    exact ⟨_, _, _, _, _, _, h, Nat.le_refl _, Nat.le_refl _⟩
  · obtain ⟨_, _, _, _, _, h⟩ := h
    exact ⟨_, _, _, _, _, _, h, Nat.le_refl _, Nat.le_refl _⟩
  · obtain ⟨_, _, _, _, _, h⟩ := h
    exact ⟨_, _, _, _, _, _, h, Nat.le_refl _, Nat.le_refl _⟩
  · obtain ⟨_, _, _, _, _, h⟩ := h
    exact ⟨_, _, _, _, _, _, h, Nat.le_refl _, Nat.le_refl _⟩
end XSTEP
end
section
/-! Steps of the group B are true of the machine. -/
section XSTEP
variable {p : Program} {l : Launch} {e : Env} {R : Room} {s : State} {m : MethodId} {args : Array Value} {below : List Frame} {meth : Method} {c : Code} {Q : State → Prop} {D : va_G} {cl : List vw_C} {ex : Nat → Nat} {A : Nat → Prop} {nL n0 : Nat} {ad0 : Nat → Nat} {ca0 : Nat → ClassId}
variable {own : String} {cc : ByteArray} {Ts : List Cond} {xt : Nat → Nat × (Nat → Int32)} {C0 S0 : Nat} {Y : xm_Y} {K : xm_K} {pc : Nat} {loc : xm_L} {st : List xm_V} {M : xm_M} {nc ns : Nat}
set_option maxHeartbeats 2000000 in
theorem xm_snd_istore (F : xm_fx own cc nL Ts ex xt C0 S0 p R s m args c D cl A) (O : xm_yok own cc Ts cl Y) (hini : Y.2.2.2.2.2 0 = 9 → meth.name = "<init>") (hRf : 1 ≤ R.frames) (hRl : 100 ≤ R.locals)
    (hoi : (Cond.instanceMethod objectInit).before args s = true ∧ (Cond.code objectInit ⟨#[0xb1]⟩ 1 none).before args s = true)
    (har : (Cond.arrayClass .int).before args s = true ∧ (Cond.arrayClass .long).before args s = true ∧ (Cond.arrayClass .boolean).before args s = true)
    (hcy : (Cond.native arraycopyName).before args s = true ∧ (Cond.static arraycopyName).before args s = true ∧ (Cond.initialized "java/lang/System").before args s = true)
    (hst : ∀ ix q, Y.2.2.2.2.1 ix = some q → ∃ (C n d : String), va_Z C n d (.ref (ex q)) A s s.heap ∧ (Cond.fieldLink own ix C n d).before args s = true)
    (hr : ∀ a1 a2 a3 a4 a5 a6, K a1 a2 a3 a4 a5 a6 → a5 ≤ C0 ∧ a6 ≤ S0)
    (kk : ∀ a1 a2 a3 a4 a5 a6, K a1 a2 a3 a4 a5 a6 → xm_W1 p l e R s m args below meth c Q D cl ex A nL n0 ad0 ca0 a1 a2 a3 a4 a5 a6) (h : (∃ (k : Nat) (x : Int32) (r : List xm_V) (pn : Nat), Y.1 pc = some (.istore k, pn) ∧ st = xv_i x :: r ∧ k < nL ∧ K pn (xm_st1 loc k (xv_i x)) r M nc ns)) : xm_W1 p l e R s m args below meth c Q D cl ex A nL n0 ad0 ca0 pc loc st M nc ns := by
  obtain ⟨hx, hb, hml, hown, hts, hK, hA, ⟨hRc, hRs⟩, hT⟩ := F
  obtain ⟨hdec, hkc, hkl, hfo, hno, hob, hcp⟩ := O
  intro ad ca ls H locs hn hag hl hs hm
  obtain ⟨k, x, r, pn, hi, rfl, hk, h⟩ := h
  obtain ⟨ln, hd, hpn, hln⟩ := hdec pc _ hi
  dsimp only at hd hpn hln
  obtain rfl := xm_ln 1 hln rfl
  subst hpn
  exact lv_istore hx hb hd hl.has hk rfl (fun ls' hl' => kk _ _ _ _ _ _ h ad ca ls' H locs hn hag (hl.st1 trivial hl') (xm_hs_cons hs).2 hm)
set_option maxHeartbeats 2000000 in
theorem xm_snd_istore_n (F : xm_fx own cc nL Ts ex xt C0 S0 p R s m args c D cl A) (O : xm_yok own cc Ts cl Y) (hini : Y.2.2.2.2.2 0 = 9 → meth.name = "<init>") (hRf : 1 ≤ R.frames) (hRl : 100 ≤ R.locals)
    (hoi : (Cond.instanceMethod objectInit).before args s = true ∧ (Cond.code objectInit ⟨#[0xb1]⟩ 1 none).before args s = true)
    (har : (Cond.arrayClass .int).before args s = true ∧ (Cond.arrayClass .long).before args s = true ∧ (Cond.arrayClass .boolean).before args s = true)
    (hcy : (Cond.native arraycopyName).before args s = true ∧ (Cond.static arraycopyName).before args s = true ∧ (Cond.initialized "java/lang/System").before args s = true)
    (hst : ∀ ix q, Y.2.2.2.2.1 ix = some q → ∃ (C n d : String), va_Z C n d (.ref (ex q)) A s s.heap ∧ (Cond.fieldLink own ix C n d).before args s = true)
    (hr : ∀ a1 a2 a3 a4 a5 a6, K a1 a2 a3 a4 a5 a6 → a5 ≤ C0 ∧ a6 ≤ S0)
    (kk : ∀ a1 a2 a3 a4 a5 a6, K a1 a2 a3 a4 a5 a6 → xm_W1 p l e R s m args below meth c Q D cl ex A nL n0 ad0 ca0 a1 a2 a3 a4 a5 a6) (h : (∃ (k : Fin 4) (x : Int32) (r : List xm_V) (pn : Nat), Y.1 pc = some (.istore_n k, pn) ∧ st = xv_i x :: r ∧ (k : Nat) < nL ∧ K pn (xm_st1 loc k (xv_i x)) r M nc ns)) : xm_W1 p l e R s m args below meth c Q D cl ex A nL n0 ad0 ca0 pc loc st M nc ns := by
  obtain ⟨hx, hb, hml, hown, hts, hK, hA, ⟨hRc, hRs⟩, hT⟩ := F
  obtain ⟨hdec, hkc, hkl, hfo, hno, hob, hcp⟩ := O
  intro ad ca ls H locs hn hag hl hs hm
  obtain ⟨k, x, r, pn, hi, rfl, hk, h⟩ := h
  obtain ⟨ln, hd, hpn, hln⟩ := hdec pc _ hi
  dsimp only at hd hpn hln
  obtain rfl := xm_ln 0 hln rfl
  subst hpn
  exact lv_istore_n hx hb hd rfl hl.has hk rfl (fun ls' hl' => kk _ _ _ _ _ _ h ad ca ls' H locs hn hag (hl.st1 trivial hl') (xm_hs_cons hs).2 hm)
set_option maxHeartbeats 2000000 in
theorem xm_snd_lstore (F : xm_fx own cc nL Ts ex xt C0 S0 p R s m args c D cl A) (O : xm_yok own cc Ts cl Y) (hini : Y.2.2.2.2.2 0 = 9 → meth.name = "<init>") (hRf : 1 ≤ R.frames) (hRl : 100 ≤ R.locals)
    (hoi : (Cond.instanceMethod objectInit).before args s = true ∧ (Cond.code objectInit ⟨#[0xb1]⟩ 1 none).before args s = true)
    (har : (Cond.arrayClass .int).before args s = true ∧ (Cond.arrayClass .long).before args s = true ∧ (Cond.arrayClass .boolean).before args s = true)
    (hcy : (Cond.native arraycopyName).before args s = true ∧ (Cond.static arraycopyName).before args s = true ∧ (Cond.initialized "java/lang/System").before args s = true)
    (hst : ∀ ix q, Y.2.2.2.2.1 ix = some q → ∃ (C n d : String), va_Z C n d (.ref (ex q)) A s s.heap ∧ (Cond.fieldLink own ix C n d).before args s = true)
    (hr : ∀ a1 a2 a3 a4 a5 a6, K a1 a2 a3 a4 a5 a6 → a5 ≤ C0 ∧ a6 ≤ S0)
    (kk : ∀ a1 a2 a3 a4 a5 a6, K a1 a2 a3 a4 a5 a6 → xm_W1 p l e R s m args below meth c Q D cl ex A nL n0 ad0 ca0 a1 a2 a3 a4 a5 a6) (h : (∃ (k : Nat) (x : Int64) (r : List xm_V) (pn : Nat), Y.1 pc = some (.lstore k, pn) ∧ st = xv_l x :: r ∧ k + 1 < nL ∧ K pn (xm_st2 loc k (xv_l x)) r M nc ns)) : xm_W1 p l e R s m args below meth c Q D cl ex A nL n0 ad0 ca0 pc loc st M nc ns := by
  obtain ⟨hx, hb, hml, hown, hts, hK, hA, ⟨hRc, hRs⟩, hT⟩ := F
  obtain ⟨hdec, hkc, hkl, hfo, hno, hob, hcp⟩ := O
  intro ad ca ls H locs hn hag hl hs hm
  obtain ⟨k, x, r, pn, hi, rfl, hk, h⟩ := h
  obtain ⟨ln, hd, hpn, hln⟩ := hdec pc _ hi
  dsimp only at hd hpn hln
  obtain rfl := xm_ln 1 hln rfl
  subst hpn
  exact lv_lstore hx hb hd hl.has hk rfl (fun ls' hl' => kk _ _ _ _ _ _ h ad ca ls' H locs hn hag (hl.st2 trivial hl') (xm_hs_cons hs).2 hm)
set_option maxHeartbeats 2000000 in
theorem xm_snd_lstore_n (F : xm_fx own cc nL Ts ex xt C0 S0 p R s m args c D cl A) (O : xm_yok own cc Ts cl Y) (hini : Y.2.2.2.2.2 0 = 9 → meth.name = "<init>") (hRf : 1 ≤ R.frames) (hRl : 100 ≤ R.locals)
    (hoi : (Cond.instanceMethod objectInit).before args s = true ∧ (Cond.code objectInit ⟨#[0xb1]⟩ 1 none).before args s = true)
    (har : (Cond.arrayClass .int).before args s = true ∧ (Cond.arrayClass .long).before args s = true ∧ (Cond.arrayClass .boolean).before args s = true)
    (hcy : (Cond.native arraycopyName).before args s = true ∧ (Cond.static arraycopyName).before args s = true ∧ (Cond.initialized "java/lang/System").before args s = true)
    (hst : ∀ ix q, Y.2.2.2.2.1 ix = some q → ∃ (C n d : String), va_Z C n d (.ref (ex q)) A s s.heap ∧ (Cond.fieldLink own ix C n d).before args s = true)
    (hr : ∀ a1 a2 a3 a4 a5 a6, K a1 a2 a3 a4 a5 a6 → a5 ≤ C0 ∧ a6 ≤ S0)
    (kk : ∀ a1 a2 a3 a4 a5 a6, K a1 a2 a3 a4 a5 a6 → xm_W1 p l e R s m args below meth c Q D cl ex A nL n0 ad0 ca0 a1 a2 a3 a4 a5 a6) (h : (∃ (k : Fin 4) (x : Int64) (r : List xm_V) (pn : Nat), Y.1 pc = some (.lstore_n k, pn) ∧ st = xv_l x :: r ∧ (k : Nat) + 1 < nL ∧ K pn (xm_st2 loc k (xv_l x)) r M nc ns)) : xm_W1 p l e R s m args below meth c Q D cl ex A nL n0 ad0 ca0 pc loc st M nc ns := by
  obtain ⟨hx, hb, hml, hown, hts, hK, hA, ⟨hRc, hRs⟩, hT⟩ := F
  obtain ⟨hdec, hkc, hkl, hfo, hno, hob, hcp⟩ := O
  intro ad ca ls H locs hn hag hl hs hm
  obtain ⟨k, x, r, pn, hi, rfl, hk, h⟩ := h
  obtain ⟨ln, hd, hpn, hln⟩ := hdec pc _ hi
  dsimp only at hd hpn hln
  obtain rfl := xm_ln 0 hln rfl
  subst hpn
  exact lv_lstore_n hx hb hd rfl hl.has hk rfl (fun ls' hl' => kk _ _ _ _ _ _ h ad ca ls' H locs hn hag (hl.st2 trivial hl') (xm_hs_cons hs).2 hm)
set_option maxHeartbeats 2000000 in
theorem xm_snd_astore (F : xm_fx own cc nL Ts ex xt C0 S0 p R s m args c D cl A) (O : xm_yok own cc Ts cl Y) (hini : Y.2.2.2.2.2 0 = 9 → meth.name = "<init>") (hRf : 1 ≤ R.frames) (hRl : 100 ≤ R.locals)
    (hoi : (Cond.instanceMethod objectInit).before args s = true ∧ (Cond.code objectInit ⟨#[0xb1]⟩ 1 none).before args s = true)
    (har : (Cond.arrayClass .int).before args s = true ∧ (Cond.arrayClass .long).before args s = true ∧ (Cond.arrayClass .boolean).before args s = true)
    (hcy : (Cond.native arraycopyName).before args s = true ∧ (Cond.static arraycopyName).before args s = true ∧ (Cond.initialized "java/lang/System").before args s = true)
    (hst : ∀ ix q, Y.2.2.2.2.1 ix = some q → ∃ (C n d : String), va_Z C n d (.ref (ex q)) A s s.heap ∧ (Cond.fieldLink own ix C n d).before args s = true)
    (hr : ∀ a1 a2 a3 a4 a5 a6, K a1 a2 a3 a4 a5 a6 → a5 ≤ C0 ∧ a6 ≤ S0)
    (kk : ∀ a1 a2 a3 a4 a5 a6, K a1 a2 a3 a4 a5 a6 → xm_W1 p l e R s m args below meth c Q D cl ex A nL n0 ad0 ca0 a1 a2 a3 a4 a5 a6) (h : (∃ (k : Nat) (x : Nat) (r : List xm_V) (pn : Nat), Y.1 pc = some (.astore k, pn) ∧ st = xv_r x :: r ∧ k < nL ∧ K pn (xm_st1 loc k (xv_r x)) r M nc ns)) : xm_W1 p l e R s m args below meth c Q D cl ex A nL n0 ad0 ca0 pc loc st M nc ns := by
  obtain ⟨hx, hb, hml, hown, hts, hK, hA, ⟨hRc, hRs⟩, hT⟩ := F
  obtain ⟨hdec, hkc, hkl, hfo, hno, hob, hcp⟩ := O
  intro ad ca ls H locs hn hag hl hs hm
  obtain ⟨k, x, r, pn, hi, rfl, hk, h⟩ := h
  obtain ⟨ln, hd, hpn, hln⟩ := hdec pc _ hi
  dsimp only at hd hpn hln
  obtain rfl := xm_ln 1 hln rfl
  subst hpn
  exact lv_astore hx hb hd hl.has hk rfl (fun ls' hl' => kk _ _ _ _ _ _ h ad ca ls' H locs hn hag (hl.st1 (xm_hs_cons hs).1 hl') (xm_hs_cons hs).2 hm)
set_option maxHeartbeats 2000000 in
theorem xm_snd_astore_n (F : xm_fx own cc nL Ts ex xt C0 S0 p R s m args c D cl A) (O : xm_yok own cc Ts cl Y) (hini : Y.2.2.2.2.2 0 = 9 → meth.name = "<init>") (hRf : 1 ≤ R.frames) (hRl : 100 ≤ R.locals)
    (hoi : (Cond.instanceMethod objectInit).before args s = true ∧ (Cond.code objectInit ⟨#[0xb1]⟩ 1 none).before args s = true)
    (har : (Cond.arrayClass .int).before args s = true ∧ (Cond.arrayClass .long).before args s = true ∧ (Cond.arrayClass .boolean).before args s = true)
    (hcy : (Cond.native arraycopyName).before args s = true ∧ (Cond.static arraycopyName).before args s = true ∧ (Cond.initialized "java/lang/System").before args s = true)
    (hst : ∀ ix q, Y.2.2.2.2.1 ix = some q → ∃ (C n d : String), va_Z C n d (.ref (ex q)) A s s.heap ∧ (Cond.fieldLink own ix C n d).before args s = true)
    (hr : ∀ a1 a2 a3 a4 a5 a6, K a1 a2 a3 a4 a5 a6 → a5 ≤ C0 ∧ a6 ≤ S0)
    (kk : ∀ a1 a2 a3 a4 a5 a6, K a1 a2 a3 a4 a5 a6 → xm_W1 p l e R s m args below meth c Q D cl ex A nL n0 ad0 ca0 a1 a2 a3 a4 a5 a6) (h : (∃ (k : Fin 4) (x : Nat) (r : List xm_V) (pn : Nat), Y.1 pc = some (.astore_n k, pn) ∧ st = xv_r x :: r ∧ (k : Nat) < nL ∧ K pn (xm_st1 loc k (xv_r x)) r M nc ns)) : xm_W1 p l e R s m args below meth c Q D cl ex A nL n0 ad0 ca0 pc loc st M nc ns := by
  obtain ⟨hx, hb, hml, hown, hts, hK, hA, ⟨hRc, hRs⟩, hT⟩ := F
  obtain ⟨hdec, hkc, hkl, hfo, hno, hob, hcp⟩ := O
  intro ad ca ls H locs hn hag hl hs hm
  obtain ⟨k, x, r, pn, hi, rfl, hk, h⟩ := h
  obtain ⟨ln, hd, hpn, hln⟩ := hdec pc _ hi
  dsimp only at hd hpn hln
  obtain rfl := xm_ln 0 hln rfl
  subst hpn
  exact lv_astore_n hx hb hd rfl hl.has hk rfl (fun ls' hl' => kk _ _ _ _ _ _ h ad ca ls' H locs hn hag (hl.st1 (xm_hs_cons hs).1 hl') (xm_hs_cons hs).2 hm)
set_option maxHeartbeats 2000000 in
theorem xm_snd_iinc (F : xm_fx own cc nL Ts ex xt C0 S0 p R s m args c D cl A) (O : xm_yok own cc Ts cl Y) (hini : Y.2.2.2.2.2 0 = 9 → meth.name = "<init>") (hRf : 1 ≤ R.frames) (hRl : 100 ≤ R.locals)
    (hoi : (Cond.instanceMethod objectInit).before args s = true ∧ (Cond.code objectInit ⟨#[0xb1]⟩ 1 none).before args s = true)
    (har : (Cond.arrayClass .int).before args s = true ∧ (Cond.arrayClass .long).before args s = true ∧ (Cond.arrayClass .boolean).before args s = true)
    (hcy : (Cond.native arraycopyName).before args s = true ∧ (Cond.static arraycopyName).before args s = true ∧ (Cond.initialized "java/lang/System").before args s = true)
    (hst : ∀ ix q, Y.2.2.2.2.1 ix = some q → ∃ (C n d : String), va_Z C n d (.ref (ex q)) A s s.heap ∧ (Cond.fieldLink own ix C n d).before args s = true)
    (hr : ∀ a1 a2 a3 a4 a5 a6, K a1 a2 a3 a4 a5 a6 → a5 ≤ C0 ∧ a6 ≤ S0)
    (kk : ∀ a1 a2 a3 a4 a5 a6, K a1 a2 a3 a4 a5 a6 → xm_W1 p l e R s m args below meth c Q D cl ex A nL n0 ad0 ca0 a1 a2 a3 a4 a5 a6) (h : (∃ (k : Nat) (n : Int) (x : Int32) (pn : Nat), Y.1 pc = some (.iinc k n, pn) ∧ loc[k]? = some (some (xv_i x)) ∧ k < nL ∧ K pn (xm_st1 loc k (xv_i (x + Int32.ofInt n))) st M nc ns)) : xm_W1 p l e R s m args below meth c Q D cl ex A nL n0 ad0 ca0 pc loc st M nc ns := by
  obtain ⟨hx, hb, hml, hown, hts, hK, hA, ⟨hRc, hRs⟩, hT⟩ := F
  obtain ⟨hdec, hkc, hkl, hfo, hno, hob, hcp⟩ := O
  intro ad ca ls H locs hn hag hl hs hm
  obtain ⟨k, n, x, pn, hi, hv, hk, h⟩ := h
  obtain ⟨ln, hd, hpn, hln⟩ := hdec pc _ hi
  dsimp only at hd hpn hln
  obtain rfl := xm_ln 2 hln rfl
  subst hpn
  obtain ⟨q, hq⟩ := List.mem_iff_getElem?.mp ((xm_fl_mem (ad := ad) (ex := ex)).mpr ⟨_, hv, rfl⟩)
  exact lv_iinc hx hb hd hl.has hq rfl hk rfl (fun ls' hl' => kk _ _ _ _ _ _ h ad ca ls' H locs hn hag (hl.st1 trivial hl') hs hm)
theorem xm_sndB (F : xm_fx own cc nL Ts ex xt C0 S0 p R s m args c D cl A) (O : xm_yok own cc Ts cl Y) (hini : Y.2.2.2.2.2 0 = 9 → meth.name = "<init>") (hRf : 1 ≤ R.frames) (hRl : 100 ≤ R.locals)
    (hoi : (Cond.instanceMethod objectInit).before args s = true ∧ (Cond.code objectInit ⟨#[0xb1]⟩ 1 none).before args s = true)
    (har : (Cond.arrayClass .int).before args s = true ∧ (Cond.arrayClass .long).before args s = true ∧ (Cond.arrayClass .boolean).before args s = true)
    (hcy : (Cond.native arraycopyName).before args s = true ∧ (Cond.static arraycopyName).before args s = true ∧ (Cond.initialized "java/lang/System").before args s = true)
    (hst : ∀ ix q, Y.2.2.2.2.1 ix = some q → ∃ (C n d : String), va_Z C n d (.ref (ex q)) A s s.heap ∧ (Cond.fieldLink own ix C n d).before args s = true)
    (hr : ∀ a1 a2 a3 a4 a5 a6, K a1 a2 a3 a4 a5 a6 → a5 ≤ C0 ∧ a6 ≤ S0)
    (kk : ∀ a1 a2 a3 a4 a5 a6, K a1 a2 a3 a4 a5 a6 → xm_W1 p l e R s m args below meth c Q D cl ex A nL n0 ad0 ca0 a1 a2 a3 a4 a5 a6) (h : xm_sB Y xt nL pc loc st M nc ns K) : xm_W1 p l e R s m args below meth c Q D cl ex A nL n0 ad0 ca0 pc loc st M nc ns := by
  unfold xm_sB at h
  rcases h with h | h | h | h | h | h | h
  · exact xm_snd_istore F O hini hRf hRl hoi har hcy hst hr kk h
  · exact xm_snd_istore_n F O hini hRf hRl hoi har hcy hst hr kk h
  · exact xm_snd_lstore F O hini hRf hRl hoi har hcy hst hr kk h
  · exact xm_snd_lstore_n F O hini hRf hRl hoi har hcy hst hr kk h
  · exact xm_snd_astore F O hini hRf hRl hoi har hcy hst hr kk h
  · exact xm_snd_astore_n F O hini hRf hRl hoi har hcy hst hr kk h
  · exact xm_snd_iinc F O hini hRf hRl hoi har hcy hst hr kk h
theorem xm_exB (h : xm_sB Y xt nL pc loc st M nc ns K) : ∃ a1 a2 a3 a4 a5 a6, K a1 a2 a3 a4 a5 a6 ∧ nc ≤ a5 ∧ ns ≤ a6 := by
  unfold xm_sB at h
  rcases h with h | h | h | h | h | h | h
  · obtain ⟨_, _, _, _, _, _, _, h⟩ := h
    exact ⟨_, _, _, _, _, _, h, Nat.le_refl _, Nat.le_refl _⟩
  · obtain ⟨_, _, _, _, _, _, _, h⟩ := h
    exact ⟨_, _, _, _, _, _, h, Nat.le_refl _, Nat.le_refl _⟩
  · obtain ⟨_, _, _, _, _, _, _, h⟩ := h
    exact ⟨_, _, _, _, _, _, h, Nat.le_refl _, Nat.le_refl _⟩
  · obtain ⟨_, _, _, _, _, _, _, h⟩ := h
    exact ⟨_, _, _, _, _, _, h, Nat.le_refl _, Nat.le_refl _⟩
  · obtain ⟨_, _, _, _, _, _, _, h⟩ := h
    exact ⟨_, _, _, _, _, _, h, Nat.le_refl _, Nat.le_refl _⟩
  · obtain ⟨_, _, _, _, _, _, _, h⟩ := h
    exact ⟨_, _, _, _, _, _, h, Nat.le_refl _, Nat.le_refl _⟩
  · obtain ⟨_, _, _, _, _, _, _, h⟩ := h
    exact ⟨_, _, _, _, _, _, h, Nat.le_refl _, Nat.le_refl _⟩
end XSTEP
end
section
/-! Steps of the group C are true of the machine. -/
section XSTEP
variable {p : Program} {l : Launch} {e : Env} {R : Room} {s : State} {m : MethodId} {args : Array Value} {below : List Frame} {meth : Method} {c : Code} {Q : State → Prop} {D : va_G} {cl : List vw_C} {ex : Nat → Nat} {A : Nat → Prop} {nL n0 : Nat} {ad0 : Nat → Nat} {ca0 : Nat → ClassId}
variable {own : String} {cc : ByteArray} {Ts : List Cond} {xt : Nat → Nat × (Nat → Int32)} {C0 S0 : Nat} {Y : xm_Y} {K : xm_K} {pc : Nat} {loc : xm_L} {st : List xm_V} {M : xm_M} {nc ns : Nat}
set_option maxHeartbeats 2000000 in
theorem xm_snd_iadd (F : xm_fx own cc nL Ts ex xt C0 S0 p R s m args c D cl A) (O : xm_yok own cc Ts cl Y) (hini : Y.2.2.2.2.2 0 = 9 → meth.name = "<init>") (hRf : 1 ≤ R.frames) (hRl : 100 ≤ R.locals)
    (hoi : (Cond.instanceMethod objectInit).before args s = true ∧ (Cond.code objectInit ⟨#[0xb1]⟩ 1 none).before args s = true)
    (har : (Cond.arrayClass .int).before args s = true ∧ (Cond.arrayClass .long).before args s = true ∧ (Cond.arrayClass .boolean).before args s = true)
    (hcy : (Cond.native arraycopyName).before args s = true ∧ (Cond.static arraycopyName).before args s = true ∧ (Cond.initialized "java/lang/System").before args s = true)
    (hst : ∀ ix q, Y.2.2.2.2.1 ix = some q → ∃ (C n d : String), va_Z C n d (.ref (ex q)) A s s.heap ∧ (Cond.fieldLink own ix C n d).before args s = true)
    (hr : ∀ a1 a2 a3 a4 a5 a6, K a1 a2 a3 a4 a5 a6 → a5 ≤ C0 ∧ a6 ≤ S0)
    (kk : ∀ a1 a2 a3 a4 a5 a6, K a1 a2 a3 a4 a5 a6 → xm_W1 p l e R s m args below meth c Q D cl ex A nL n0 ad0 ca0 a1 a2 a3 a4 a5 a6) (h : (∃ (x : Int32) (y : Int32) (r : List xm_V) (pn : Nat), Y.1 pc = some (.iadd, pn) ∧ st = xv_i y :: xv_i x :: r ∧ K pn loc (xv_i (x + y) :: r) M nc ns)) : xm_W1 p l e R s m args below meth c Q D cl ex A nL n0 ad0 ca0 pc loc st M nc ns := by
  obtain ⟨hx, hb, hml, hown, hts, hK, hA, ⟨hRc, hRs⟩, hT⟩ := F
  obtain ⟨hdec, hkc, hkl, hfo, hno, hob, hcp⟩ := O
  intro ad ca ls H locs hn hag hl hs hm
  obtain ⟨x, y, r, pn, hi, rfl, h⟩ := h
  obtain ⟨ln, hd, hpn, hln⟩ := hdec pc _ hi
  dsimp only at hd hpn hln
  obtain rfl := xm_ln 0 hln rfl
  subst hpn
  exact lv_iadd hx hb hd (kk _ _ _ _ _ _ h ad ca ls H locs hn hag hl (xm_hs_push trivial (xm_hs_cons (xm_hs_cons hs).2).2) hm)
set_option maxHeartbeats 2000000 in
theorem xm_snd_isub (F : xm_fx own cc nL Ts ex xt C0 S0 p R s m args c D cl A) (O : xm_yok own cc Ts cl Y) (hini : Y.2.2.2.2.2 0 = 9 → meth.name = "<init>") (hRf : 1 ≤ R.frames) (hRl : 100 ≤ R.locals)
    (hoi : (Cond.instanceMethod objectInit).before args s = true ∧ (Cond.code objectInit ⟨#[0xb1]⟩ 1 none).before args s = true)
    (har : (Cond.arrayClass .int).before args s = true ∧ (Cond.arrayClass .long).before args s = true ∧ (Cond.arrayClass .boolean).before args s = true)
    (hcy : (Cond.native arraycopyName).before args s = true ∧ (Cond.static arraycopyName).before args s = true ∧ (Cond.initialized "java/lang/System").before args s = true)
    (hst : ∀ ix q, Y.2.2.2.2.1 ix = some q → ∃ (C n d : String), va_Z C n d (.ref (ex q)) A s s.heap ∧ (Cond.fieldLink own ix C n d).before args s = true)
    (hr : ∀ a1 a2 a3 a4 a5 a6, K a1 a2 a3 a4 a5 a6 → a5 ≤ C0 ∧ a6 ≤ S0)
    (kk : ∀ a1 a2 a3 a4 a5 a6, K a1 a2 a3 a4 a5 a6 → xm_W1 p l e R s m args below meth c Q D cl ex A nL n0 ad0 ca0 a1 a2 a3 a4 a5 a6) (h : (∃ (x : Int32) (y : Int32) (r : List xm_V) (pn : Nat), Y.1 pc = some (.isub, pn) ∧ st = xv_i y :: xv_i x :: r ∧ K pn loc (xv_i (x - y) :: r) M nc ns)) : xm_W1 p l e R s m args below meth c Q D cl ex A nL n0 ad0 ca0 pc loc st M nc ns := by
  obtain ⟨hx, hb, hml, hown, hts, hK, hA, ⟨hRc, hRs⟩, hT⟩ := F
  obtain ⟨hdec, hkc, hkl, hfo, hno, hob, hcp⟩ := O
  intro ad ca ls H locs hn hag hl hs hm
  obtain ⟨x, y, r, pn, hi, rfl, h⟩ := h
  obtain ⟨ln, hd, hpn, hln⟩ := hdec pc _ hi
  dsimp only at hd hpn hln
  obtain rfl := xm_ln 0 hln rfl
  subst hpn
  exact lv_isub hx hb hd (kk _ _ _ _ _ _ h ad ca ls H locs hn hag hl (xm_hs_push trivial (xm_hs_cons (xm_hs_cons hs).2).2) hm)
set_option maxHeartbeats 2000000 in
theorem xm_snd_imul (F : xm_fx own cc nL Ts ex xt C0 S0 p R s m args c D cl A) (O : xm_yok own cc Ts cl Y) (hini : Y.2.2.2.2.2 0 = 9 → meth.name = "<init>") (hRf : 1 ≤ R.frames) (hRl : 100 ≤ R.locals)
    (hoi : (Cond.instanceMethod objectInit).before args s = true ∧ (Cond.code objectInit ⟨#[0xb1]⟩ 1 none).before args s = true)
    (har : (Cond.arrayClass .int).before args s = true ∧ (Cond.arrayClass .long).before args s = true ∧ (Cond.arrayClass .boolean).before args s = true)
    (hcy : (Cond.native arraycopyName).before args s = true ∧ (Cond.static arraycopyName).before args s = true ∧ (Cond.initialized "java/lang/System").before args s = true)
    (hst : ∀ ix q, Y.2.2.2.2.1 ix = some q → ∃ (C n d : String), va_Z C n d (.ref (ex q)) A s s.heap ∧ (Cond.fieldLink own ix C n d).before args s = true)
    (hr : ∀ a1 a2 a3 a4 a5 a6, K a1 a2 a3 a4 a5 a6 → a5 ≤ C0 ∧ a6 ≤ S0)
    (kk : ∀ a1 a2 a3 a4 a5 a6, K a1 a2 a3 a4 a5 a6 → xm_W1 p l e R s m args below meth c Q D cl ex A nL n0 ad0 ca0 a1 a2 a3 a4 a5 a6) (h : (∃ (x : Int32) (y : Int32) (r : List xm_V) (pn : Nat), Y.1 pc = some (.imul, pn) ∧ st = xv_i y :: xv_i x :: r ∧ K pn loc (xv_i (x * y) :: r) M nc ns)) : xm_W1 p l e R s m args below meth c Q D cl ex A nL n0 ad0 ca0 pc loc st M nc ns := by
  obtain ⟨hx, hb, hml, hown, hts, hK, hA, ⟨hRc, hRs⟩, hT⟩ := F
  obtain ⟨hdec, hkc, hkl, hfo, hno, hob, hcp⟩ := O
  intro ad ca ls H locs hn hag hl hs hm
  obtain ⟨x, y, r, pn, hi, rfl, h⟩ := h
  obtain ⟨ln, hd, hpn, hln⟩ := hdec pc _ hi
  dsimp only at hd hpn hln
  obtain rfl := xm_ln 0 hln rfl
  subst hpn
  exact lv_imul hx hb hd (kk _ _ _ _ _ _ h ad ca ls H locs hn hag hl (xm_hs_push trivial (xm_hs_cons (xm_hs_cons hs).2).2) hm)
set_option maxHeartbeats 2000000 in
theorem xm_snd_iand (F : xm_fx own cc nL Ts ex xt C0 S0 p R s m args c D cl A) (O : xm_yok own cc Ts cl Y) (hini : Y.2.2.2.2.2 0 = 9 → meth.name = "<init>") (hRf : 1 ≤ R.frames) (hRl : 100 ≤ R.locals)
    (hoi : (Cond.instanceMethod objectInit).before args s = true ∧ (Cond.code objectInit ⟨#[0xb1]⟩ 1 none).before args s = true)
    (har : (Cond.arrayClass .int).before args s = true ∧ (Cond.arrayClass .long).before args s = true ∧ (Cond.arrayClass .boolean).before args s = true)
    (hcy : (Cond.native arraycopyName).before args s = true ∧ (Cond.static arraycopyName).before args s = true ∧ (Cond.initialized "java/lang/System").before args s = true)
    (hst : ∀ ix q, Y.2.2.2.2.1 ix = some q → ∃ (C n d : String), va_Z C n d (.ref (ex q)) A s s.heap ∧ (Cond.fieldLink own ix C n d).before args s = true)
    (hr : ∀ a1 a2 a3 a4 a5 a6, K a1 a2 a3 a4 a5 a6 → a5 ≤ C0 ∧ a6 ≤ S0)
    (kk : ∀ a1 a2 a3 a4 a5 a6, K a1 a2 a3 a4 a5 a6 → xm_W1 p l e R s m args below meth c Q D cl ex A nL n0 ad0 ca0 a1 a2 a3 a4 a5 a6) (h : (∃ (x : Int32) (y : Int32) (r : List xm_V) (pn : Nat), Y.1 pc = some (.iand, pn) ∧ st = xv_i y :: xv_i x :: r ∧ K pn loc (xv_i (x &&& y) :: r) M nc ns)) : xm_W1 p l e R s m args below meth c Q D cl ex A nL n0 ad0 ca0 pc loc st M nc ns := by
  obtain ⟨hx, hb, hml, hown, hts, hK, hA, ⟨hRc, hRs⟩, hT⟩ := F
  obtain ⟨hdec, hkc, hkl, hfo, hno, hob, hcp⟩ := O
  intro ad ca ls H locs hn hag hl hs hm
  obtain ⟨x, y, r, pn, hi, rfl, h⟩ := h
  obtain ⟨ln, hd, hpn, hln⟩ := hdec pc _ hi
  dsimp only at hd hpn hln
  obtain rfl := xm_ln 0 hln rfl
  subst hpn
  exact lv_iand hx hb hd (kk _ _ _ _ _ _ h ad ca ls H locs hn hag hl (xm_hs_push trivial (xm_hs_cons (xm_hs_cons hs).2).2) hm)
set_option maxHeartbeats 2000000 in
theorem xm_snd_ior (F : xm_fx own cc nL Ts ex xt C0 S0 p R s m args c D cl A) (O : xm_yok own cc Ts cl Y) (hini : Y.2.2.2.2.2 0 = 9 → meth.name = "<init>") (hRf : 1 ≤ R.frames) (hRl : 100 ≤ R.locals)
    (hoi : (Cond.instanceMethod objectInit).before args s = true ∧ (Cond.code objectInit ⟨#[0xb1]⟩ 1 none).before args s = true)
    (har : (Cond.arrayClass .int).before args s = true ∧ (Cond.arrayClass .long).before args s = true ∧ (Cond.arrayClass .boolean).before args s = true)
    (hcy : (Cond.native arraycopyName).before args s = true ∧ (Cond.static arraycopyName).before args s = true ∧ (Cond.initialized "java/lang/System").before args s = true)
    (hst : ∀ ix q, Y.2.2.2.2.1 ix = some q → ∃ (C n d : String), va_Z C n d (.ref (ex q)) A s s.heap ∧ (Cond.fieldLink own ix C n d).before args s = true)
    (hr : ∀ a1 a2 a3 a4 a5 a6, K a1 a2 a3 a4 a5 a6 → a5 ≤ C0 ∧ a6 ≤ S0)
    (kk : ∀ a1 a2 a3 a4 a5 a6, K a1 a2 a3 a4 a5 a6 → xm_W1 p l e R s m args below meth c Q D cl ex A nL n0 ad0 ca0 a1 a2 a3 a4 a5 a6) (h : (∃ (x : Int32) (y : Int32) (r : List xm_V) (pn : Nat), Y.1 pc = some (.ior, pn) ∧ st = xv_i y :: xv_i x :: r ∧ K pn loc (xv_i (x ||| y) :: r) M nc ns)) : xm_W1 p l e R s m args below meth c Q D cl ex A nL n0 ad0 ca0 pc loc st M nc ns := by
  obtain ⟨hx, hb, hml, hown, hts, hK, hA, ⟨hRc, hRs⟩, hT⟩ := F
  obtain ⟨hdec, hkc, hkl, hfo, hno, hob, hcp⟩ := O
  intro ad ca ls H locs hn hag hl hs hm
  obtain ⟨x, y, r, pn, hi, rfl, h⟩ := h
  obtain ⟨ln, hd, hpn, hln⟩ := hdec pc _ hi
  dsimp only at hd hpn hln
  obtain rfl := xm_ln 0 hln rfl
  subst hpn
  exact lv_ior hx hb hd (kk _ _ _ _ _ _ h ad ca ls H locs hn hag hl (xm_hs_push trivial (xm_hs_cons (xm_hs_cons hs).2).2) hm)
set_option maxHeartbeats 2000000 in
theorem xm_snd_ixor (F : xm_fx own cc nL Ts ex xt C0 S0 p R s m args c D cl A) (O : xm_yok own cc Ts cl Y) (hini : Y.2.2.2.2.2 0 = 9 → meth.name = "<init>") (hRf : 1 ≤ R.frames) (hRl : 100 ≤ R.locals)
    (hoi : (Cond.instanceMethod objectInit).before args s = true ∧ (Cond.code objectInit ⟨#[0xb1]⟩ 1 none).before args s = true)
    (har : (Cond.arrayClass .int).before args s = true ∧ (Cond.arrayClass .long).before args s = true ∧ (Cond.arrayClass .boolean).before args s = true)
    (hcy : (Cond.native arraycopyName).before args s = true ∧ (Cond.static arraycopyName).before args s = true ∧ (Cond.initialized "java/lang/System").before args s = true)
    (hst : ∀ ix q, Y.2.2.2.2.1 ix = some q → ∃ (C n d : String), va_Z C n d (.ref (ex q)) A s s.heap ∧ (Cond.fieldLink own ix C n d).before args s = true)
    (hr : ∀ a1 a2 a3 a4 a5 a6, K a1 a2 a3 a4 a5 a6 → a5 ≤ C0 ∧ a6 ≤ S0)
    (kk : ∀ a1 a2 a3 a4 a5 a6, K a1 a2 a3 a4 a5 a6 → xm_W1 p l e R s m args below meth c Q D cl ex A nL n0 ad0 ca0 a1 a2 a3 a4 a5 a6) (h : (∃ (x : Int32) (y : Int32) (r : List xm_V) (pn : Nat), Y.1 pc = some (.ixor, pn) ∧ st = xv_i y :: xv_i x :: r ∧ K pn loc (xv_i (x ^^^ y) :: r) M nc ns)) : xm_W1 p l e R s m args below meth c Q D cl ex A nL n0 ad0 ca0 pc loc st M nc ns := by
  obtain ⟨hx, hb, hml, hown, hts, hK, hA, ⟨hRc, hRs⟩, hT⟩ := F
  obtain ⟨hdec, hkc, hkl, hfo, hno, hob, hcp⟩ := O
  intro ad ca ls H locs hn hag hl hs hm
  obtain ⟨x, y, r, pn, hi, rfl, h⟩ := h
  obtain ⟨ln, hd, hpn, hln⟩ := hdec pc _ hi
  dsimp only at hd hpn hln
  obtain rfl := xm_ln 0 hln rfl
  subst hpn
  exact lv_ixor hx hb hd (kk _ _ _ _ _ _ h ad ca ls H locs hn hag hl (xm_hs_push trivial (xm_hs_cons (xm_hs_cons hs).2).2) hm)
set_option maxHeartbeats 2000000 in
theorem xm_snd_ishl (F : xm_fx own cc nL Ts ex xt C0 S0 p R s m args c D cl A) (O : xm_yok own cc Ts cl Y) (hini : Y.2.2.2.2.2 0 = 9 → meth.name = "<init>") (hRf : 1 ≤ R.frames) (hRl : 100 ≤ R.locals)
    (hoi : (Cond.instanceMethod objectInit).before args s = true ∧ (Cond.code objectInit ⟨#[0xb1]⟩ 1 none).before args s = true)
    (har : (Cond.arrayClass .int).before args s = true ∧ (Cond.arrayClass .long).before args s = true ∧ (Cond.arrayClass .boolean).before args s = true)
    (hcy : (Cond.native arraycopyName).before args s = true ∧ (Cond.static arraycopyName).before args s = true ∧ (Cond.initialized "java/lang/System").before args s = true)
    (hst : ∀ ix q, Y.2.2.2.2.1 ix = some q → ∃ (C n d : String), va_Z C n d (.ref (ex q)) A s s.heap ∧ (Cond.fieldLink own ix C n d).before args s = true)
    (hr : ∀ a1 a2 a3 a4 a5 a6, K a1 a2 a3 a4 a5 a6 → a5 ≤ C0 ∧ a6 ≤ S0)
    (kk : ∀ a1 a2 a3 a4 a5 a6, K a1 a2 a3 a4 a5 a6 → xm_W1 p l e R s m args below meth c Q D cl ex A nL n0 ad0 ca0 a1 a2 a3 a4 a5 a6) (h : (∃ (x : Int32) (y : Int32) (r : List xm_V) (pn : Nat), Y.1 pc = some (.ishl, pn) ∧ st = xv_i y :: xv_i x :: r ∧ K pn loc (xv_i (x <<< (y &&& 31)) :: r) M nc ns)) : xm_W1 p l e R s m args below meth c Q D cl ex A nL n0 ad0 ca0 pc loc st M nc ns := by
  obtain ⟨hx, hb, hml, hown, hts, hK, hA, ⟨hRc, hRs⟩, hT⟩ := F
  obtain ⟨hdec, hkc, hkl, hfo, hno, hob, hcp⟩ := O
  intro ad ca ls H locs hn hag hl hs hm
  obtain ⟨x, y, r, pn, hi, rfl, h⟩ := h
  obtain ⟨ln, hd, hpn, hln⟩ := hdec pc _ hi
  dsimp only at hd hpn hln
  obtain rfl := xm_ln 0 hln rfl
  subst hpn
  exact lv_ishl hx hb hd (kk _ _ _ _ _ _ h ad ca ls H locs hn hag hl (xm_hs_push trivial (xm_hs_cons (xm_hs_cons hs).2).2) hm)
set_option maxHeartbeats 2000000 in
theorem xm_snd_ishr (F : xm_fx own cc nL Ts ex xt C0 S0 p R s m args c D cl A) (O : xm_yok own cc Ts cl Y) (hini : Y.2.2.2.2.2 0 = 9 → meth.name = "<init>") (hRf : 1 ≤ R.frames) (hRl : 100 ≤ R.locals)
    (hoi : (Cond.instanceMethod objectInit).before args s = true ∧ (Cond.code objectInit ⟨#[0xb1]⟩ 1 none).before args s = true)
    (har : (Cond.arrayClass .int).before args s = true ∧ (Cond.arrayClass .long).before args s = true ∧ (Cond.arrayClass .boolean).before args s = true)
    (hcy : (Cond.native arraycopyName).before args s = true ∧ (Cond.static arraycopyName).before args s = true ∧ (Cond.initialized "java/lang/System").before args s = true)
    (hst : ∀ ix q, Y.2.2.2.2.1 ix = some q → ∃ (C n d : String), va_Z C n d (.ref (ex q)) A s s.heap ∧ (Cond.fieldLink own ix C n d).before args s = true)
    (hr : ∀ a1 a2 a3 a4 a5 a6, K a1 a2 a3 a4 a5 a6 → a5 ≤ C0 ∧ a6 ≤ S0)
    (kk : ∀ a1 a2 a3 a4 a5 a6, K a1 a2 a3 a4 a5 a6 → xm_W1 p l e R s m args below meth c Q D cl ex A nL n0 ad0 ca0 a1 a2 a3 a4 a5 a6) (h : (∃ (x : Int32) (y : Int32) (r : List xm_V) (pn : Nat), Y.1 pc = some (.ishr, pn) ∧ st = xv_i y :: xv_i x :: r ∧ K pn loc (xv_i (x >>> (y &&& 31)) :: r) M nc ns)) : xm_W1 p l e R s m args below meth c Q D cl ex A nL n0 ad0 ca0 pc loc st M nc ns := by
  obtain ⟨hx, hb, hml, hown, hts, hK, hA, ⟨hRc, hRs⟩, hT⟩ := F
  obtain ⟨hdec, hkc, hkl, hfo, hno, hob, hcp⟩ := O
  intro ad ca ls H locs hn hag hl hs hm
  obtain ⟨x, y, r, pn, hi, rfl, h⟩ := h
  obtain ⟨ln, hd, hpn, hln⟩ := hdec pc _ hi
  dsimp only at hd hpn hln
  obtain rfl := xm_ln 0 hln rfl
  subst hpn
  exact lv_ishr hx hb hd (kk _ _ _ _ _ _ h ad ca ls H locs hn hag hl (xm_hs_push trivial (xm_hs_cons (xm_hs_cons hs).2).2) hm)
set_option maxHeartbeats 2000000 in
theorem xm_snd_idiv (F : xm_fx own cc nL Ts ex xt C0 S0 p R s m args c D cl A) (O : xm_yok own cc Ts cl Y) (hini : Y.2.2.2.2.2 0 = 9 → meth.name = "<init>") (hRf : 1 ≤ R.frames) (hRl : 100 ≤ R.locals)
    (hoi : (Cond.instanceMethod objectInit).before args s = true ∧ (Cond.code objectInit ⟨#[0xb1]⟩ 1 none).before args s = true)
    (har : (Cond.arrayClass .int).before args s = true ∧ (Cond.arrayClass .long).before args s = true ∧ (Cond.arrayClass .boolean).before args s = true)
    (hcy : (Cond.native arraycopyName).before args s = true ∧ (Cond.static arraycopyName).before args s = true ∧ (Cond.initialized "java/lang/System").before args s = true)
    (hst : ∀ ix q, Y.2.2.2.2.1 ix = some q → ∃ (C n d : String), va_Z C n d (.ref (ex q)) A s s.heap ∧ (Cond.fieldLink own ix C n d).before args s = true)
    (hr : ∀ a1 a2 a3 a4 a5 a6, K a1 a2 a3 a4 a5 a6 → a5 ≤ C0 ∧ a6 ≤ S0)
    (kk : ∀ a1 a2 a3 a4 a5 a6, K a1 a2 a3 a4 a5 a6 → xm_W1 p l e R s m args below meth c Q D cl ex A nL n0 ad0 ca0 a1 a2 a3 a4 a5 a6) (h : (∃ (x : Int32) (y : Int32) (r : List xm_V) (pn : Nat), Y.1 pc = some (.idiv, pn) ∧ st = xv_i y :: xv_i x :: r ∧ ¬ y = 0 ∧ K pn loc (xv_i (x / y) :: r) M nc ns)) : xm_W1 p l e R s m args below meth c Q D cl ex A nL n0 ad0 ca0 pc loc st M nc ns := by
  obtain ⟨hx, hb, hml, hown, hts, hK, hA, ⟨hRc, hRs⟩, hT⟩ := F
  obtain ⟨hdec, hkc, hkl, hfo, hno, hob, hcp⟩ := O
  intro ad ca ls H locs hn hag hl hs hm
  obtain ⟨x, y, r, pn, hi, rfl, h0, h⟩ := h
  obtain ⟨ln, hd, hpn, hln⟩ := hdec pc _ hi
  dsimp only at hd hpn hln
  obtain rfl := xm_ln 0 hln rfl
  subst hpn
  exact lv_idiv hx hb hd h0 (kk _ _ _ _ _ _ h ad ca ls H locs hn hag hl (xm_hs_push trivial (xm_hs_cons (xm_hs_cons hs).2).2) hm)
set_option maxHeartbeats 2000000 in
theorem xm_snd_ladd (F : xm_fx own cc nL Ts ex xt C0 S0 p R s m args c D cl A) (O : xm_yok own cc Ts cl Y) (hini : Y.2.2.2.2.2 0 = 9 → meth.name = "<init>") (hRf : 1 ≤ R.frames) (hRl : 100 ≤ R.locals)
    (hoi : (Cond.instanceMethod objectInit).before args s = true ∧ (Cond.code objectInit ⟨#[0xb1]⟩ 1 none).before args s = true)
    (har : (Cond.arrayClass .int).before args s = true ∧ (Cond.arrayClass .long).before args s = true ∧ (Cond.arrayClass .boolean).before args s = true)
    (hcy : (Cond.native arraycopyName).before args s = true ∧ (Cond.static arraycopyName).before args s = true ∧ (Cond.initialized "java/lang/System").before args s = true)
    (hst : ∀ ix q, Y.2.2.2.2.1 ix = some q → ∃ (C n d : String), va_Z C n d (.ref (ex q)) A s s.heap ∧ (Cond.fieldLink own ix C n d).before args s = true)
    (hr : ∀ a1 a2 a3 a4 a5 a6, K a1 a2 a3 a4 a5 a6 → a5 ≤ C0 ∧ a6 ≤ S0)
    (kk : ∀ a1 a2 a3 a4 a5 a6, K a1 a2 a3 a4 a5 a6 → xm_W1 p l e R s m args below meth c Q D cl ex A nL n0 ad0 ca0 a1 a2 a3 a4 a5 a6) (h : (∃ (x : Int64) (y : Int64) (r : List xm_V) (pn : Nat), Y.1 pc = some (.ladd, pn) ∧ st = xv_l y :: xv_l x :: r ∧ K pn loc (xv_l (x + y) :: r) M nc ns)) : xm_W1 p l e R s m args below meth c Q D cl ex A nL n0 ad0 ca0 pc loc st M nc ns := by
  obtain ⟨hx, hb, hml, hown, hts, hK, hA, ⟨hRc, hRs⟩, hT⟩ := F
  obtain ⟨hdec, hkc, hkl, hfo, hno, hob, hcp⟩ := O
  intro ad ca ls H locs hn hag hl hs hm
  obtain ⟨x, y, r, pn, hi, rfl, h⟩ := h
  obtain ⟨ln, hd, hpn, hln⟩ := hdec pc _ hi
  dsimp only at hd hpn hln
  obtain rfl := xm_ln 0 hln rfl
  subst hpn
  exact lv_ladd hx hb hd (kk _ _ _ _ _ _ h ad ca ls H locs hn hag hl (xm_hs_push trivial (xm_hs_cons (xm_hs_cons hs).2).2) hm)
set_option maxHeartbeats 2000000 in
theorem xm_snd_lsub (F : xm_fx own cc nL Ts ex xt C0 S0 p R s m args c D cl A) (O : xm_yok own cc Ts cl Y) (hini : Y.2.2.2.2.2 0 = 9 → meth.name = "<init>") (hRf : 1 ≤ R.frames) (hRl : 100 ≤ R.locals)
    (hoi : (Cond.instanceMethod objectInit).before args s = true ∧ (Cond.code objectInit ⟨#[0xb1]⟩ 1 none).before args s = true)
    (har : (Cond.arrayClass .int).before args s = true ∧ (Cond.arrayClass .long).before args s = true ∧ (Cond.arrayClass .boolean).before args s = true)
    (hcy : (Cond.native arraycopyName).before args s = true ∧ (Cond.static arraycopyName).before args s = true ∧ (Cond.initialized "java/lang/System").before args s = true)
    (hst : ∀ ix q, Y.2.2.2.2.1 ix = some q → ∃ (C n d : String), va_Z C n d (.ref (ex q)) A s s.heap ∧ (Cond.fieldLink own ix C n d).before args s = true)
    (hr : ∀ a1 a2 a3 a4 a5 a6, K a1 a2 a3 a4 a5 a6 → a5 ≤ C0 ∧ a6 ≤ S0)
    (kk : ∀ a1 a2 a3 a4 a5 a6, K a1 a2 a3 a4 a5 a6 → xm_W1 p l e R s m args below meth c Q D cl ex A nL n0 ad0 ca0 a1 a2 a3 a4 a5 a6) (h : (∃ (x : Int64) (y : Int64) (r : List xm_V) (pn : Nat), Y.1 pc = some (.lsub, pn) ∧ st = xv_l y :: xv_l x :: r ∧ K pn loc (xv_l (x - y) :: r) M nc ns)) : xm_W1 p l e R s m args below meth c Q D cl ex A nL n0 ad0 ca0 pc loc st M nc ns := by
  obtain ⟨hx, hb, hml, hown, hts, hK, hA, ⟨hRc, hRs⟩, hT⟩ := F
  obtain ⟨hdec, hkc, hkl, hfo, hno, hob, hcp⟩ := O
  intro ad ca ls H locs hn hag hl hs hm
  obtain ⟨x, y, r, pn, hi, rfl, h⟩ := h
  obtain ⟨ln, hd, hpn, hln⟩ := hdec pc _ hi
  dsimp only at hd hpn hln
  obtain rfl := xm_ln 0 hln rfl
  subst hpn
  exact lv_lsub hx hb hd (kk _ _ _ _ _ _ h ad ca ls H locs hn hag hl (xm_hs_push trivial (xm_hs_cons (xm_hs_cons hs).2).2) hm)
set_option maxHeartbeats 2000000 in
theorem xm_snd_land (F : xm_fx own cc nL Ts ex xt C0 S0 p R s m args c D cl A) (O : xm_yok own cc Ts cl Y) (hini : Y.2.2.2.2.2 0 = 9 → meth.name = "<init>") (hRf : 1 ≤ R.frames) (hRl : 100 ≤ R.locals)
    (hoi : (Cond.instanceMethod objectInit).before args s = true ∧ (Cond.code objectInit ⟨#[0xb1]⟩ 1 none).before args s = true)
    (har : (Cond.arrayClass .int).before args s = true ∧ (Cond.arrayClass .long).before args s = true ∧ (Cond.arrayClass .boolean).before args s = true)
    (hcy : (Cond.native arraycopyName).before args s = true ∧ (Cond.static arraycopyName).before args s = true ∧ (Cond.initialized "java/lang/System").before args s = true)
    (hst : ∀ ix q, Y.2.2.2.2.1 ix = some q → ∃ (C n d : String), va_Z C n d (.ref (ex q)) A s s.heap ∧ (Cond.fieldLink own ix C n d).before args s = true)
    (hr : ∀ a1 a2 a3 a4 a5 a6, K a1 a2 a3 a4 a5 a6 → a5 ≤ C0 ∧ a6 ≤ S0)
    (kk : ∀ a1 a2 a3 a4 a5 a6, K a1 a2 a3 a4 a5 a6 → xm_W1 p l e R s m args below meth c Q D cl ex A nL n0 ad0 ca0 a1 a2 a3 a4 a5 a6) (h : (∃ (x : Int64) (y : Int64) (r : List xm_V) (pn : Nat), Y.1 pc = some (.land, pn) ∧ st = xv_l y :: xv_l x :: r ∧ K pn loc (xv_l (x &&& y) :: r) M nc ns)) : xm_W1 p l e R s m args below meth c Q D cl ex A nL n0 ad0 ca0 pc loc st M nc ns := by
  obtain ⟨hx, hb, hml, hown, hts, hK, hA, ⟨hRc, hRs⟩, hT⟩ := F
  obtain ⟨hdec, hkc, hkl, hfo, hno, hob, hcp⟩ := O
  intro ad ca ls H locs hn hag hl hs hm
  obtain ⟨x, y, r, pn, hi, rfl, h⟩ := h
  obtain ⟨ln, hd, hpn, hln⟩ := hdec pc _ hi
  dsimp only at hd hpn hln
  obtain rfl := xm_ln 0 hln rfl
  subst hpn
  exact lv_land hx hb hd (kk _ _ _ _ _ _ h ad ca ls H locs hn hag hl (xm_hs_push trivial (xm_hs_cons (xm_hs_cons hs).2).2) hm)
set_option maxHeartbeats 2000000 in
theorem xm_snd_lor (F : xm_fx own cc nL Ts ex xt C0 S0 p R s m args c D cl A) (O : xm_yok own cc Ts cl Y) (hini : Y.2.2.2.2.2 0 = 9 → meth.name = "<init>") (hRf : 1 ≤ R.frames) (hRl : 100 ≤ R.locals)
    (hoi : (Cond.instanceMethod objectInit).before args s = true ∧ (Cond.code objectInit ⟨#[0xb1]⟩ 1 none).before args s = true)
    (har : (Cond.arrayClass .int).before args s = true ∧ (Cond.arrayClass .long).before args s = true ∧ (Cond.arrayClass .boolean).before args s = true)
    (hcy : (Cond.native arraycopyName).before args s = true ∧ (Cond.static arraycopyName).before args s = true ∧ (Cond.initialized "java/lang/System").before args s = true)
    (hst : ∀ ix q, Y.2.2.2.2.1 ix = some q → ∃ (C n d : String), va_Z C n d (.ref (ex q)) A s s.heap ∧ (Cond.fieldLink own ix C n d).before args s = true)
    (hr : ∀ a1 a2 a3 a4 a5 a6, K a1 a2 a3 a4 a5 a6 → a5 ≤ C0 ∧ a6 ≤ S0)
    (kk : ∀ a1 a2 a3 a4 a5 a6, K a1 a2 a3 a4 a5 a6 → xm_W1 p l e R s m args below meth c Q D cl ex A nL n0 ad0 ca0 a1 a2 a3 a4 a5 a6) (h : (∃ (x : Int64) (y : Int64) (r : List xm_V) (pn : Nat), Y.1 pc = some (.lor, pn) ∧ st = xv_l y :: xv_l x :: r ∧ K pn loc (xv_l (x ||| y) :: r) M nc ns)) : xm_W1 p l e R s m args below meth c Q D cl ex A nL n0 ad0 ca0 pc loc st M nc ns := by
  obtain ⟨hx, hb, hml, hown, hts, hK, hA, ⟨hRc, hRs⟩, hT⟩ := F
  obtain ⟨hdec, hkc, hkl, hfo, hno, hob, hcp⟩ := O
  intro ad ca ls H locs hn hag hl hs hm
  obtain ⟨x, y, r, pn, hi, rfl, h⟩ := h
  obtain ⟨ln, hd, hpn, hln⟩ := hdec pc _ hi
  dsimp only at hd hpn hln
  obtain rfl := xm_ln 0 hln rfl
  subst hpn
  exact lv_lor hx hb hd (kk _ _ _ _ _ _ h ad ca ls H locs hn hag hl (xm_hs_push trivial (xm_hs_cons (xm_hs_cons hs).2).2) hm)
set_option maxHeartbeats 2000000 in
theorem xm_snd_lcmp (F : xm_fx own cc nL Ts ex xt C0 S0 p R s m args c D cl A) (O : xm_yok own cc Ts cl Y) (hini : Y.2.2.2.2.2 0 = 9 → meth.name = "<init>") (hRf : 1 ≤ R.frames) (hRl : 100 ≤ R.locals)
    (hoi : (Cond.instanceMethod objectInit).before args s = true ∧ (Cond.code objectInit ⟨#[0xb1]⟩ 1 none).before args s = true)
    (har : (Cond.arrayClass .int).before args s = true ∧ (Cond.arrayClass .long).before args s = true ∧ (Cond.arrayClass .boolean).before args s = true)
    (hcy : (Cond.native arraycopyName).before args s = true ∧ (Cond.static arraycopyName).before args s = true ∧ (Cond.initialized "java/lang/System").before args s = true)
    (hst : ∀ ix q, Y.2.2.2.2.1 ix = some q → ∃ (C n d : String), va_Z C n d (.ref (ex q)) A s s.heap ∧ (Cond.fieldLink own ix C n d).before args s = true)
    (hr : ∀ a1 a2 a3 a4 a5 a6, K a1 a2 a3 a4 a5 a6 → a5 ≤ C0 ∧ a6 ≤ S0)
    (kk : ∀ a1 a2 a3 a4 a5 a6, K a1 a2 a3 a4 a5 a6 → xm_W1 p l e R s m args below meth c Q D cl ex A nL n0 ad0 ca0 a1 a2 a3 a4 a5 a6) (h : (∃ (x : Int64) (y : Int64) (r : List xm_V) (pn : Nat), Y.1 pc = some (.lcmp, pn) ∧ st = xv_l y :: xv_l x :: r ∧ K pn loc (xv_i (lg_cmp x y) :: r) M nc ns)) : xm_W1 p l e R s m args below meth c Q D cl ex A nL n0 ad0 ca0 pc loc st M nc ns := by
  obtain ⟨hx, hb, hml, hown, hts, hK, hA, ⟨hRc, hRs⟩, hT⟩ := F
  obtain ⟨hdec, hkc, hkl, hfo, hno, hob, hcp⟩ := O
  intro ad ca ls H locs hn hag hl hs hm
  obtain ⟨x, y, r, pn, hi, rfl, h⟩ := h
  obtain ⟨ln, hd, hpn, hln⟩ := hdec pc _ hi
  dsimp only at hd hpn hln
  obtain rfl := xm_ln 0 hln rfl
  subst hpn
  exact W.lcmp hx hb hd (kk _ _ _ _ _ _ h ad ca ls H locs hn hag hl (xm_hs_push trivial (xm_hs_cons (xm_hs_cons hs).2).2) hm)
set_option maxHeartbeats 2000000 in
theorem xm_snd_lshl (F : xm_fx own cc nL Ts ex xt C0 S0 p R s m args c D cl A) (O : xm_yok own cc Ts cl Y) (hini : Y.2.2.2.2.2 0 = 9 → meth.name = "<init>") (hRf : 1 ≤ R.frames) (hRl : 100 ≤ R.locals)
    (hoi : (Cond.instanceMethod objectInit).before args s = true ∧ (Cond.code objectInit ⟨#[0xb1]⟩ 1 none).before args s = true)
    (har : (Cond.arrayClass .int).before args s = true ∧ (Cond.arrayClass .long).before args s = true ∧ (Cond.arrayClass .boolean).before args s = true)
    (hcy : (Cond.native arraycopyName).before args s = true ∧ (Cond.static arraycopyName).before args s = true ∧ (Cond.initialized "java/lang/System").before args s = true)
    (hst : ∀ ix q, Y.2.2.2.2.1 ix = some q → ∃ (C n d : String), va_Z C n d (.ref (ex q)) A s s.heap ∧ (Cond.fieldLink own ix C n d).before args s = true)
    (hr : ∀ a1 a2 a3 a4 a5 a6, K a1 a2 a3 a4 a5 a6 → a5 ≤ C0 ∧ a6 ≤ S0)
    (kk : ∀ a1 a2 a3 a4 a5 a6, K a1 a2 a3 a4 a5 a6 → xm_W1 p l e R s m args below meth c Q D cl ex A nL n0 ad0 ca0 a1 a2 a3 a4 a5 a6) (h : (∃ (x : Int64) (y : Int32) (r : List xm_V) (pn : Nat), Y.1 pc = some (.lshl, pn) ∧ st = xv_i y :: xv_l x :: r ∧ K pn loc (xv_l (x <<< (y.toInt64 &&& 63)) :: r) M nc ns)) : xm_W1 p l e R s m args below meth c Q D cl ex A nL n0 ad0 ca0 pc loc st M nc ns := by
  obtain ⟨hx, hb, hml, hown, hts, hK, hA, ⟨hRc, hRs⟩, hT⟩ := F
  obtain ⟨hdec, hkc, hkl, hfo, hno, hob, hcp⟩ := O
  intro ad ca ls H locs hn hag hl hs hm
  obtain ⟨x, y, r, pn, hi, rfl, h⟩ := h
  obtain ⟨ln, hd, hpn, hln⟩ := hdec pc _ hi
  dsimp only at hd hpn hln
  obtain rfl := xm_ln 0 hln rfl
  subst hpn
  exact lv_lshl hx hb hd rfl (kk _ _ _ _ _ _ h ad ca ls H locs hn hag hl (xm_hs_push trivial (xm_hs_cons (xm_hs_cons hs).2).2) hm)
set_option maxHeartbeats 2000000 in
theorem xm_snd_lshr (F : xm_fx own cc nL Ts ex xt C0 S0 p R s m args c D cl A) (O : xm_yok own cc Ts cl Y) (hini : Y.2.2.2.2.2 0 = 9 → meth.name = "<init>") (hRf : 1 ≤ R.frames) (hRl : 100 ≤ R.locals)
    (hoi : (Cond.instanceMethod objectInit).before args s = true ∧ (Cond.code objectInit ⟨#[0xb1]⟩ 1 none).before args s = true)
    (har : (Cond.arrayClass .int).before args s = true ∧ (Cond.arrayClass .long).before args s = true ∧ (Cond.arrayClass .boolean).before args s = true)
    (hcy : (Cond.native arraycopyName).before args s = true ∧ (Cond.static arraycopyName).before args s = true ∧ (Cond.initialized "java/lang/System").before args s = true)
    (hst : ∀ ix q, Y.2.2.2.2.1 ix = some q → ∃ (C n d : String), va_Z C n d (.ref (ex q)) A s s.heap ∧ (Cond.fieldLink own ix C n d).before args s = true)
    (hr : ∀ a1 a2 a3 a4 a5 a6, K a1 a2 a3 a4 a5 a6 → a5 ≤ C0 ∧ a6 ≤ S0)
    (kk : ∀ a1 a2 a3 a4 a5 a6, K a1 a2 a3 a4 a5 a6 → xm_W1 p l e R s m args below meth c Q D cl ex A nL n0 ad0 ca0 a1 a2 a3 a4 a5 a6) (h : (∃ (x : Int64) (y : Int32) (r : List xm_V) (pn : Nat), Y.1 pc = some (.lshr, pn) ∧ st = xv_i y :: xv_l x :: r ∧ K pn loc (xv_l (x >>> (y.toInt64 &&& 63)) :: r) M nc ns)) : xm_W1 p l e R s m args below meth c Q D cl ex A nL n0 ad0 ca0 pc loc st M nc ns := by
  obtain ⟨hx, hb, hml, hown, hts, hK, hA, ⟨hRc, hRs⟩, hT⟩ := F
  obtain ⟨hdec, hkc, hkl, hfo, hno, hob, hcp⟩ := O
  intro ad ca ls H locs hn hag hl hs hm
  obtain ⟨x, y, r, pn, hi, rfl, h⟩ := h
  obtain ⟨ln, hd, hpn, hln⟩ := hdec pc _ hi
  dsimp only at hd hpn hln
  obtain rfl := xm_ln 0 hln rfl
  subst hpn
  exact lv_lshr hx hb hd rfl (kk _ _ _ _ _ _ h ad ca ls H locs hn hag hl (xm_hs_push trivial (xm_hs_cons (xm_hs_cons hs).2).2) hm)
set_option maxHeartbeats 2000000 in
theorem xm_snd_i2l (F : xm_fx own cc nL Ts ex xt C0 S0 p R s m args c D cl A) (O : xm_yok own cc Ts cl Y) (hini : Y.2.2.2.2.2 0 = 9 → meth.name = "<init>") (hRf : 1 ≤ R.frames) (hRl : 100 ≤ R.locals)
    (hoi : (Cond.instanceMethod objectInit).before args s = true ∧ (Cond.code objectInit ⟨#[0xb1]⟩ 1 none).before args s = true)
    (har : (Cond.arrayClass .int).before args s = true ∧ (Cond.arrayClass .long).before args s = true ∧ (Cond.arrayClass .boolean).before args s = true)
    (hcy : (Cond.native arraycopyName).before args s = true ∧ (Cond.static arraycopyName).before args s = true ∧ (Cond.initialized "java/lang/System").before args s = true)
    (hst : ∀ ix q, Y.2.2.2.2.1 ix = some q → ∃ (C n d : String), va_Z C n d (.ref (ex q)) A s s.heap ∧ (Cond.fieldLink own ix C n d).before args s = true)
    (hr : ∀ a1 a2 a3 a4 a5 a6, K a1 a2 a3 a4 a5 a6 → a5 ≤ C0 ∧ a6 ≤ S0)
    (kk : ∀ a1 a2 a3 a4 a5 a6, K a1 a2 a3 a4 a5 a6 → xm_W1 p l e R s m args below meth c Q D cl ex A nL n0 ad0 ca0 a1 a2 a3 a4 a5 a6) (h : (∃ (x : Int32) (r : List xm_V) (pn : Nat), Y.1 pc = some (.i2l, pn) ∧ st = xv_i x :: r ∧ K pn loc (xv_l x.toInt64 :: r) M nc ns)) : xm_W1 p l e R s m args below meth c Q D cl ex A nL n0 ad0 ca0 pc loc st M nc ns := by
  obtain ⟨hx, hb, hml, hown, hts, hK, hA, ⟨hRc, hRs⟩, hT⟩ := F
  obtain ⟨hdec, hkc, hkl, hfo, hno, hob, hcp⟩ := O
  intro ad ca ls H locs hn hag hl hs hm
  obtain ⟨x, r, pn, hi, rfl, h⟩ := h
  obtain ⟨ln, hd, hpn, hln⟩ := hdec pc _ hi
  dsimp only at hd hpn hln
  obtain rfl := xm_ln 0 hln rfl
  subst hpn
  exact lv_i2l hx hb hd rfl (kk _ _ _ _ _ _ h ad ca ls H locs hn hag hl (xm_hs_push trivial (xm_hs_cons hs).2) hm)
set_option maxHeartbeats 2000000 in
theorem xm_snd_l2i (F : xm_fx own cc nL Ts ex xt C0 S0 p R s m args c D cl A) (O : xm_yok own cc Ts cl Y) (hini : Y.2.2.2.2.2 0 = 9 → meth.name = "<init>") (hRf : 1 ≤ R.frames) (hRl : 100 ≤ R.locals)
    (hoi : (Cond.instanceMethod objectInit).before args s = true ∧ (Cond.code objectInit ⟨#[0xb1]⟩ 1 none).before args s = true)
    (har : (Cond.arrayClass .int).before args s = true ∧ (Cond.arrayClass .long).before args s = true ∧ (Cond.arrayClass .boolean).before args s = true)
    (hcy : (Cond.native arraycopyName).before args s = true ∧ (Cond.static arraycopyName).before args s = true ∧ (Cond.initialized "java/lang/System").before args s = true)
    (hst : ∀ ix q, Y.2.2.2.2.1 ix = some q → ∃ (C n d : String), va_Z C n d (.ref (ex q)) A s s.heap ∧ (Cond.fieldLink own ix C n d).before args s = true)
    (hr : ∀ a1 a2 a3 a4 a5 a6, K a1 a2 a3 a4 a5 a6 → a5 ≤ C0 ∧ a6 ≤ S0)
    (kk : ∀ a1 a2 a3 a4 a5 a6, K a1 a2 a3 a4 a5 a6 → xm_W1 p l e R s m args below meth c Q D cl ex A nL n0 ad0 ca0 a1 a2 a3 a4 a5 a6) (h : (∃ (x : Int64) (r : List xm_V) (pn : Nat), Y.1 pc = some (.l2i, pn) ∧ st = xv_l x :: r ∧ K pn loc (xv_i x.toInt32 :: r) M nc ns)) : xm_W1 p l e R s m args below meth c Q D cl ex A nL n0 ad0 ca0 pc loc st M nc ns := by
  obtain ⟨hx, hb, hml, hown, hts, hK, hA, ⟨hRc, hRs⟩, hT⟩ := F
  obtain ⟨hdec, hkc, hkl, hfo, hno, hob, hcp⟩ := O
  intro ad ca ls H locs hn hag hl hs hm
  obtain ⟨x, r, pn, hi, rfl, h⟩ := h
  obtain ⟨ln, hd, hpn, hln⟩ := hdec pc _ hi
  dsimp only at hd hpn hln
  obtain rfl := xm_ln 0 hln rfl
  subst hpn
  exact lv_l2i hx hb hd rfl (kk _ _ _ _ _ _ h ad ca ls H locs hn hag hl (xm_hs_push trivial (xm_hs_cons hs).2) hm)
theorem xm_sndC (F : xm_fx own cc nL Ts ex xt C0 S0 p R s m args c D cl A) (O : xm_yok own cc Ts cl Y) (hini : Y.2.2.2.2.2 0 = 9 → meth.name = "<init>") (hRf : 1 ≤ R.frames) (hRl : 100 ≤ R.locals)
    (hoi : (Cond.instanceMethod objectInit).before args s = true ∧ (Cond.code objectInit ⟨#[0xb1]⟩ 1 none).before args s = true)
    (har : (Cond.arrayClass .int).before args s = true ∧ (Cond.arrayClass .long).before args s = true ∧ (Cond.arrayClass .boolean).before args s = true)
    (hcy : (Cond.native arraycopyName).before args s = true ∧ (Cond.static arraycopyName).before args s = true ∧ (Cond.initialized "java/lang/System").before args s = true)
    (hst : ∀ ix q, Y.2.2.2.2.1 ix = some q → ∃ (C n d : String), va_Z C n d (.ref (ex q)) A s s.heap ∧ (Cond.fieldLink own ix C n d).before args s = true)
    (hr : ∀ a1 a2 a3 a4 a5 a6, K a1 a2 a3 a4 a5 a6 → a5 ≤ C0 ∧ a6 ≤ S0)
    (kk : ∀ a1 a2 a3 a4 a5 a6, K a1 a2 a3 a4 a5 a6 → xm_W1 p l e R s m args below meth c Q D cl ex A nL n0 ad0 ca0 a1 a2 a3 a4 a5 a6) (h : xm_sC Y xt nL pc loc st M nc ns K) : xm_W1 p l e R s m args below meth c Q D cl ex A nL n0 ad0 ca0 pc loc st M nc ns := by
  unfold xm_sC at h
  rcases h with h | h | h | h | h | h | h | h | h | h | h | h | h | h | h | h | h | h
  · exact xm_snd_iadd F O hini hRf hRl hoi har hcy hst hr kk h
  · exact xm_snd_isub F O hini hRf hRl hoi har hcy hst hr kk h
  · exact xm_snd_imul F O hini hRf hRl hoi har hcy hst hr kk h
  · exact xm_snd_iand F O hini hRf hRl hoi har hcy hst hr kk h
  · exact xm_snd_ior F O hini hRf hRl hoi har hcy hst hr kk h
  · exact xm_snd_ixor F O hini hRf hRl hoi har hcy hst hr kk h
  · exact xm_snd_ishl F O hini hRf hRl hoi har hcy hst hr kk h
  · exact xm_snd_ishr F O hini hRf hRl hoi har hcy hst hr kk h
  · exact xm_snd_idiv F O hini hRf hRl hoi har hcy hst hr kk h
  · exact xm_snd_ladd F O hini hRf hRl hoi har hcy hst hr kk h
  · exact xm_snd_lsub F O hini hRf hRl hoi har hcy hst hr kk h
  · exact xm_snd_land F O hini hRf hRl hoi har hcy hst hr kk h
  · exact xm_snd_lor F O hini hRf hRl hoi har hcy hst hr kk h
  · exact xm_snd_lcmp F O hini hRf hRl hoi har hcy hst hr kk h
  · exact xm_snd_lshl F O hini hRf hRl hoi har hcy hst hr kk h
  · exact xm_snd_lshr F O hini hRf hRl hoi har hcy hst hr kk h
  · exact xm_snd_i2l F O hini hRf hRl hoi har hcy hst hr kk h
  · exact xm_snd_l2i F O hini hRf hRl hoi har hcy hst hr kk h
theorem xm_exC (h : xm_sC Y xt nL pc loc st M nc ns K) : ∃ a1 a2 a3 a4 a5 a6, K a1 a2 a3 a4 a5 a6 ∧ nc ≤ a5 ∧ ns ≤ a6 := by
  unfold xm_sC at h
  rcases h with h | h | h | h | h | h | h | h | h | h | h | h | h | h | h | h | h | h
  · obtain ⟨_, _, _, _, _, _, h⟩ := h
    exact ⟨_, _, _, _, _, _, h, Nat.le_refl _, Nat.le_refl _⟩
  · obtain ⟨_, _, _, _, _, _, h⟩ := h
    exact ⟨_, _, _, _, _, _, h, Nat.le_refl _, Nat.le_refl _⟩
  · obtain ⟨_, _, _, _, _, _, h⟩ := h
    exact ⟨_, _, _, _, _, _, h, Nat.le_refl _, Nat.le_refl _⟩
  · obtain ⟨_, _, _, _, _, _, h⟩ := h
    exact ⟨_, _, _, _, _, _, h, Nat.le_refl _, Nat.le_refl _⟩
  · obtain ⟨_, _, _, _, _, _, h⟩ := h
    exact ⟨_, _, _, _, _, _, h, Nat.le_refl _, Nat.le_refl _⟩
  · obtain ⟨_, _, _, _, _, _, h⟩ := h
    exact ⟨_, _, _, _, _, _, h, Nat.le_refl _, Nat.le_refl _⟩
  · obtain ⟨_, _, _, _, _, _, h⟩ := h
    exact ⟨_, _, _, _, _, _, h, Nat.le_refl _, Nat.le_refl _⟩
  · obtain ⟨_, _, _, _, _, _, h⟩ := h
    exact ⟨_, _, _, _, _, _, h, Nat.le_refl _, Nat.le_refl _⟩
  · obtain ⟨_, _, _, _, _, _, _, h⟩ := h
    exact ⟨_, _, _, _, _, _, h, Nat.le_refl _, Nat.le_refl _⟩
  · obtain ⟨_, _, _, _, _, _, h⟩ := h
    exact ⟨_, _, _, _, _, _, h, Nat.le_refl _, Nat.le_refl _⟩
  · obtain ⟨_, _, _, _, _, _, h⟩ := h
    exact ⟨_, _, _, _, _, _, h, Nat.le_refl _, Nat.le_refl _⟩
  · obtain ⟨_, _, _, _, _, _, h⟩ := h
    exact ⟨_, _, _, _, _, _, h, Nat.le_refl _, Nat.le_refl _⟩
  · obtain ⟨_, _, _, _, _, _, h⟩ := h
    exact ⟨_, _, _, _, _, _, h, Nat.le_refl _, Nat.le_refl _⟩
  · obtain ⟨_, _, _, _, _, _, h⟩ := h
    exact ⟨_, _, _, _, _, _, h, Nat.le_refl _, Nat.le_refl _⟩
  · obtain ⟨_, _, _, _, _, _, h⟩ := h
    exact ⟨_, _, _, _, _, _, h, Nat.le_refl _, Nat.le_refl _⟩
  · obtain ⟨_, _, _, _, _, _, h⟩ := h
    exact ⟨_, _, _, _, _, _, h, Nat.le_refl _, Nat.le_refl _⟩
  · obtain ⟨_, _, _, _, _, h⟩ := h
    exact ⟨_, _, _, _, _, _, h, Nat.le_refl _, Nat.le_refl _⟩
  · obtain ⟨_, _, _, _, _, h⟩ := h
    exact ⟨_, _, _, _, _, _, h, Nat.le_refl _, Nat.le_refl _⟩
end XSTEP
end
section
/-! Steps of the group D are true of the machine. -/
section XSTEP
variable {p : Program} {l : Launch} {e : Env} {R : Room} {s : State} {m : MethodId} {args : Array Value} {below : List Frame} {meth : Method} {c : Code} {Q : State → Prop} {D : va_G} {cl : List vw_C} {ex : Nat → Nat} {A : Nat → Prop} {nL n0 : Nat} {ad0 : Nat → Nat} {ca0 : Nat → ClassId}
variable {own : String} {cc : ByteArray} {Ts : List Cond} {xt : Nat → Nat × (Nat → Int32)} {C0 S0 : Nat} {Y : xm_Y} {K : xm_K} {pc : Nat} {loc : xm_L} {st : List xm_V} {M : xm_M} {nc ns : Nat}
set_option maxHeartbeats 2000000 in
theorem xm_snd_dup (F : xm_fx own cc nL Ts ex xt C0 S0 p R s m args c D cl A) (O : xm_yok own cc Ts cl Y) (hini : Y.2.2.2.2.2 0 = 9 → meth.name = "<init>") (hRf : 1 ≤ R.frames) (hRl : 100 ≤ R.locals)
    (hoi : (Cond.instanceMethod objectInit).before args s = true ∧ (Cond.code objectInit ⟨#[0xb1]⟩ 1 none).before args s = true)
    (har : (Cond.arrayClass .int).before args s = true ∧ (Cond.arrayClass .long).before args s = true ∧ (Cond.arrayClass .boolean).before args s = true)
    (hcy : (Cond.native arraycopyName).before args s = true ∧ (Cond.static arraycopyName).before args s = true ∧ (Cond.initialized "java/lang/System").before args s = true)
    (hst : ∀ ix q, Y.2.2.2.2.1 ix = some q → ∃ (C n d : String), va_Z C n d (.ref (ex q)) A s s.heap ∧ (Cond.fieldLink own ix C n d).before args s = true)
    (hr : ∀ a1 a2 a3 a4 a5 a6, K a1 a2 a3 a4 a5 a6 → a5 ≤ C0 ∧ a6 ≤ S0)
    (kk : ∀ a1 a2 a3 a4 a5 a6, K a1 a2 a3 a4 a5 a6 → xm_W1 p l e R s m args below meth c Q D cl ex A nL n0 ad0 ca0 a1 a2 a3 a4 a5 a6) (h : (∃ (v : xm_V) (r : List xm_V) (pn : Nat), Y.1 pc = some (.dup, pn) ∧ st = v :: r ∧ xm_cat v = 1 ∧ K pn loc (v :: v :: r) M nc ns)) : xm_W1 p l e R s m args below meth c Q D cl ex A nL n0 ad0 ca0 pc loc st M nc ns := by
  obtain ⟨hx, hb, hml, hown, hts, hK, hA, ⟨hRc, hRs⟩, hT⟩ := F
  obtain ⟨hdec, hkc, hkl, hfo, hno, hob, hcp⟩ := O
  intro ad ca ls H locs hn hag hl hs hm
  obtain ⟨v, r, pn, hi, rfl, hc, h⟩ := h
  obtain ⟨ln, hd, hpn, hln⟩ := hdec pc _ hi
  dsimp only at hd hpn hln
  obtain rfl := xm_ln 0 hln rfl
  subst hpn
  exact lv_dup hx hb hd (by rw [xm_cat_v]; exact hc) (kk _ _ _ _ _ _ h ad ca ls H locs hn hag hl (xm_hs_push (xm_hs_cons hs).1 hs) hm)
set_option maxHeartbeats 2000000 in
theorem xm_snd_pop (F : xm_fx own cc nL Ts ex xt C0 S0 p R s m args c D cl A) (O : xm_yok own cc Ts cl Y) (hini : Y.2.2.2.2.2 0 = 9 → meth.name = "<init>") (hRf : 1 ≤ R.frames) (hRl : 100 ≤ R.locals)
    (hoi : (Cond.instanceMethod objectInit).before args s = true ∧ (Cond.code objectInit ⟨#[0xb1]⟩ 1 none).before args s = true)
    (har : (Cond.arrayClass .int).before args s = true ∧ (Cond.arrayClass .long).before args s = true ∧ (Cond.arrayClass .boolean).before args s = true)
    (hcy : (Cond.native arraycopyName).before args s = true ∧ (Cond.static arraycopyName).before args s = true ∧ (Cond.initialized "java/lang/System").before args s = true)
    (hst : ∀ ix q, Y.2.2.2.2.1 ix = some q → ∃ (C n d : String), va_Z C n d (.ref (ex q)) A s s.heap ∧ (Cond.fieldLink own ix C n d).before args s = true)
    (hr : ∀ a1 a2 a3 a4 a5 a6, K a1 a2 a3 a4 a5 a6 → a5 ≤ C0 ∧ a6 ≤ S0)
    (kk : ∀ a1 a2 a3 a4 a5 a6, K a1 a2 a3 a4 a5 a6 → xm_W1 p l e R s m args below meth c Q D cl ex A nL n0 ad0 ca0 a1 a2 a3 a4 a5 a6) (h : (∃ (v : xm_V) (r : List xm_V) (pn : Nat), Y.1 pc = some (.pop, pn) ∧ st = v :: r ∧ xm_cat v = 1 ∧ K pn loc r M nc ns)) : xm_W1 p l e R s m args below meth c Q D cl ex A nL n0 ad0 ca0 pc loc st M nc ns := by
  obtain ⟨hx, hb, hml, hown, hts, hK, hA, ⟨hRc, hRs⟩, hT⟩ := F
  obtain ⟨hdec, hkc, hkl, hfo, hno, hob, hcp⟩ := O
  intro ad ca ls H locs hn hag hl hs hm
  obtain ⟨v, r, pn, hi, rfl, hc, h⟩ := h
  obtain ⟨ln, hd, hpn, hln⟩ := hdec pc _ hi
  dsimp only at hd hpn hln
  obtain rfl := xm_ln 0 hln rfl
  subst hpn
  exact lv_pop hx hb hd (by rw [xm_cat_v]; exact hc) (kk _ _ _ _ _ _ h ad ca ls H locs hn hag hl (xm_hs_cons hs).2 hm)
set_option maxHeartbeats 2000000 in
theorem xm_snd_dup2 (F : xm_fx own cc nL Ts ex xt C0 S0 p R s m args c D cl A) (O : xm_yok own cc Ts cl Y) (hini : Y.2.2.2.2.2 0 = 9 → meth.name = "<init>") (hRf : 1 ≤ R.frames) (hRl : 100 ≤ R.locals)
    (hoi : (Cond.instanceMethod objectInit).before args s = true ∧ (Cond.code objectInit ⟨#[0xb1]⟩ 1 none).before args s = true)
    (har : (Cond.arrayClass .int).before args s = true ∧ (Cond.arrayClass .long).before args s = true ∧ (Cond.arrayClass .boolean).before args s = true)
    (hcy : (Cond.native arraycopyName).before args s = true ∧ (Cond.static arraycopyName).before args s = true ∧ (Cond.initialized "java/lang/System").before args s = true)
    (hst : ∀ ix q, Y.2.2.2.2.1 ix = some q → ∃ (C n d : String), va_Z C n d (.ref (ex q)) A s s.heap ∧ (Cond.fieldLink own ix C n d).before args s = true)
    (hr : ∀ a1 a2 a3 a4 a5 a6, K a1 a2 a3 a4 a5 a6 → a5 ≤ C0 ∧ a6 ≤ S0)
    (kk : ∀ a1 a2 a3 a4 a5 a6, K a1 a2 a3 a4 a5 a6 → xm_W1 p l e R s m args below meth c Q D cl ex A nL n0 ad0 ca0 a1 a2 a3 a4 a5 a6) (h : (∃ (v : xm_V) (w : xm_V) (r : List xm_V) (pn : Nat), Y.1 pc = some (.dup2, pn) ∧ st = v :: w :: r ∧ xm_cat v = 1 ∧ xm_cat w = 1 ∧ K pn loc (v :: w :: v :: w :: r) M nc ns)) : xm_W1 p l e R s m args below meth c Q D cl ex A nL n0 ad0 ca0 pc loc st M nc ns := by
  obtain ⟨hx, hb, hml, hown, hts, hK, hA, ⟨hRc, hRs⟩, hT⟩ := F
  obtain ⟨hdec, hkc, hkl, hfo, hno, hob, hcp⟩ := O
  intro ad ca ls H locs hn hag hl hs hm
  obtain ⟨v, w, r, pn, hi, rfl, hc, hc2, h⟩ := h
  obtain ⟨ln, hd, hpn, hln⟩ := hdec pc _ hi
  dsimp only at hd hpn hln
  obtain rfl := xm_ln 0 hln rfl
  subst hpn
  exact lv_dup2_11 hx hb hd (by rw [xm_cat_v]; exact hc) (by rw [xm_cat_v]; exact hc2) (kk _ _ _ _ _ _ h ad ca ls H locs hn hag hl (xm_hs_push (xm_hs_cons hs).1 (xm_hs_push (xm_hs_cons (xm_hs_cons hs).2).1 hs)) hm)
set_option maxHeartbeats 2000000 in
theorem xm_snd_goto (F : xm_fx own cc nL Ts ex xt C0 S0 p R s m args c D cl A) (O : xm_yok own cc Ts cl Y) (hini : Y.2.2.2.2.2 0 = 9 → meth.name = "<init>") (hRf : 1 ≤ R.frames) (hRl : 100 ≤ R.locals)
    (hoi : (Cond.instanceMethod objectInit).before args s = true ∧ (Cond.code objectInit ⟨#[0xb1]⟩ 1 none).before args s = true)
    (har : (Cond.arrayClass .int).before args s = true ∧ (Cond.arrayClass .long).before args s = true ∧ (Cond.arrayClass .boolean).before args s = true)
    (hcy : (Cond.native arraycopyName).before args s = true ∧ (Cond.static arraycopyName).before args s = true ∧ (Cond.initialized "java/lang/System").before args s = true)
    (hst : ∀ ix q, Y.2.2.2.2.1 ix = some q → ∃ (C n d : String), va_Z C n d (.ref (ex q)) A s s.heap ∧ (Cond.fieldLink own ix C n d).before args s = true)
    (hr : ∀ a1 a2 a3 a4 a5 a6, K a1 a2 a3 a4 a5 a6 → a5 ≤ C0 ∧ a6 ≤ S0)
    (kk : ∀ a1 a2 a3 a4 a5 a6, K a1 a2 a3 a4 a5 a6 → xm_W1 p l e R s m args below meth c Q D cl ex A nL n0 ad0 ca0 a1 a2 a3 a4 a5 a6) (h : (∃ (off : Int) (t : Nat) (pn : Nat), Y.1 pc = some (.goto off, pn) ∧ (pc : Int) + off = (t : Int) ∧ K t loc st M nc ns)) : xm_W1 p l e R s m args below meth c Q D cl ex A nL n0 ad0 ca0 pc loc st M nc ns := by
  obtain ⟨hx, hb, hml, hown, hts, hK, hA, ⟨hRc, hRs⟩, hT⟩ := F
  obtain ⟨hdec, hkc, hkl, hfo, hno, hob, hcp⟩ := O
  intro ad ca ls H locs hn hag hl hs hm
  obtain ⟨off, t, pn, hi, ht, h⟩ := h
  obtain ⟨ln, hd, hpn, hln⟩ := hdec pc _ hi
  dsimp only at hd hpn hln
  obtain rfl := xm_ln 2 hln rfl
  subst hpn
  exact lv_goto hx hb hd ht (kk _ _ _ _ _ _ h ad ca ls H locs hn hag hl hs hm)
set_option maxHeartbeats 2000000 in
theorem xm_snd_if (F : xm_fx own cc nL Ts ex xt C0 S0 p R s m args c D cl A) (O : xm_yok own cc Ts cl Y) (hini : Y.2.2.2.2.2 0 = 9 → meth.name = "<init>") (hRf : 1 ≤ R.frames) (hRl : 100 ≤ R.locals)
    (hoi : (Cond.instanceMethod objectInit).before args s = true ∧ (Cond.code objectInit ⟨#[0xb1]⟩ 1 none).before args s = true)
    (har : (Cond.arrayClass .int).before args s = true ∧ (Cond.arrayClass .long).before args s = true ∧ (Cond.arrayClass .boolean).before args s = true)
    (hcy : (Cond.native arraycopyName).before args s = true ∧ (Cond.static arraycopyName).before args s = true ∧ (Cond.initialized "java/lang/System").before args s = true)
    (hst : ∀ ix q, Y.2.2.2.2.1 ix = some q → ∃ (C n d : String), va_Z C n d (.ref (ex q)) A s s.heap ∧ (Cond.fieldLink own ix C n d).before args s = true)
    (hr : ∀ a1 a2 a3 a4 a5 a6, K a1 a2 a3 a4 a5 a6 → a5 ≤ C0 ∧ a6 ≤ S0)
    (kk : ∀ a1 a2 a3 a4 a5 a6, K a1 a2 a3 a4 a5 a6 → xm_W1 p l e R s m args below meth c Q D cl ex A nL n0 ad0 ca0 a1 a2 a3 a4 a5 a6) (h : (∃ (c : Jvm.ClassFile.Cond) (off : Int) (x : Int32) (r : List xm_V) (t : Nat) (pn : Nat), Y.1 pc = some (.ifCond c off, pn) ∧ st = xv_i x :: r ∧ (pc : Int) + off = (t : Int) ∧ (xm_c1 c x → K t loc r M nc ns) ∧ (¬ xm_c1 c x → K pn loc r M nc ns))) : xm_W1 p l e R s m args below meth c Q D cl ex A nL n0 ad0 ca0 pc loc st M nc ns := by
  obtain ⟨hx, hb, hml, hown, hts, hK, hA, ⟨hRc, hRs⟩, hT⟩ := F
  obtain ⟨hdec, hkc, hkl, hfo, hno, hob, hcp⟩ := O
  intro ad ca ls H locs hn hag hl hs hm
  obtain ⟨co, off, x, r, t, pn, hi, rfl, ht, h1, h2⟩ := h
  obtain ⟨ln, hd, hpn, hln⟩ := hdec pc _ hi
  dsimp only at hd hpn hln
  obtain rfl := xm_ln 2 hln rfl
  subst hpn
  cases co
  case eq => exact lv_if_eq hx hb hd ht (fun b => kk _ _ _ _ _ _ (h1 b) ad ca ls H locs hn hag hl (xm_hs_cons hs).2 hm) (fun b => kk _ _ _ _ _ _ (h2 b) ad ca ls H locs hn hag hl (xm_hs_cons hs).2 hm)
  case ne => exact lv_if_ne hx hb hd ht (fun b => kk _ _ _ _ _ _ (h1 b) ad ca ls H locs hn hag hl (xm_hs_cons hs).2 hm) (fun b => kk _ _ _ _ _ _ (h2 fun nb => nb b) ad ca ls H locs hn hag hl (xm_hs_cons hs).2 hm)
  case lt => exact lv_if_lt hx hb hd ht (fun b => kk _ _ _ _ _ _ (h1 b) ad ca ls H locs hn hag hl (xm_hs_cons hs).2 hm) (fun b => kk _ _ _ _ _ _ (h2 b) ad ca ls H locs hn hag hl (xm_hs_cons hs).2 hm)
  case ge => exact lv_if_ge hx hb hd ht (fun b => kk _ _ _ _ _ _ (h1 b) ad ca ls H locs hn hag hl (xm_hs_cons hs).2 hm) (fun b => kk _ _ _ _ _ _ (h2 b) ad ca ls H locs hn hag hl (xm_hs_cons hs).2 hm)
  case gt => exact lv_if_gt hx hb hd ht (fun b => kk _ _ _ _ _ _ (h1 b) ad ca ls H locs hn hag hl (xm_hs_cons hs).2 hm) (fun b => kk _ _ _ _ _ _ (h2 b) ad ca ls H locs hn hag hl (xm_hs_cons hs).2 hm)
  case le => exact lv_if_le hx hb hd ht (fun b => kk _ _ _ _ _ _ (h1 b) ad ca ls H locs hn hag hl (xm_hs_cons hs).2 hm) (fun b => kk _ _ _ _ _ _ (h2 b) ad ca ls H locs hn hag hl (xm_hs_cons hs).2 hm)
set_option maxHeartbeats 2000000 in
theorem xm_snd_ic (F : xm_fx own cc nL Ts ex xt C0 S0 p R s m args c D cl A) (O : xm_yok own cc Ts cl Y) (hini : Y.2.2.2.2.2 0 = 9 → meth.name = "<init>") (hRf : 1 ≤ R.frames) (hRl : 100 ≤ R.locals)
    (hoi : (Cond.instanceMethod objectInit).before args s = true ∧ (Cond.code objectInit ⟨#[0xb1]⟩ 1 none).before args s = true)
    (har : (Cond.arrayClass .int).before args s = true ∧ (Cond.arrayClass .long).before args s = true ∧ (Cond.arrayClass .boolean).before args s = true)
    (hcy : (Cond.native arraycopyName).before args s = true ∧ (Cond.static arraycopyName).before args s = true ∧ (Cond.initialized "java/lang/System").before args s = true)
    (hst : ∀ ix q, Y.2.2.2.2.1 ix = some q → ∃ (C n d : String), va_Z C n d (.ref (ex q)) A s s.heap ∧ (Cond.fieldLink own ix C n d).before args s = true)
    (hr : ∀ a1 a2 a3 a4 a5 a6, K a1 a2 a3 a4 a5 a6 → a5 ≤ C0 ∧ a6 ≤ S0)
    (kk : ∀ a1 a2 a3 a4 a5 a6, K a1 a2 a3 a4 a5 a6 → xm_W1 p l e R s m args below meth c Q D cl ex A nL n0 ad0 ca0 a1 a2 a3 a4 a5 a6) (h : (∃ (c : Jvm.ClassFile.Cond) (off : Int) (x : Int32) (y : Int32) (r : List xm_V) (t : Nat) (pn : Nat), Y.1 pc = some (.if_icmp c off, pn) ∧ st = xv_i y :: xv_i x :: r ∧ (pc : Int) + off = (t : Int) ∧ (xm_c2 c x y → K t loc r M nc ns) ∧ (¬ xm_c2 c x y → K pn loc r M nc ns))) : xm_W1 p l e R s m args below meth c Q D cl ex A nL n0 ad0 ca0 pc loc st M nc ns := by
  obtain ⟨hx, hb, hml, hown, hts, hK, hA, ⟨hRc, hRs⟩, hT⟩ := F
  obtain ⟨hdec, hkc, hkl, hfo, hno, hob, hcp⟩ := O
  intro ad ca ls H locs hn hag hl hs hm
  obtain ⟨co, off, x, y, r, t, pn, hi, rfl, ht, h1, h2⟩ := h
  obtain ⟨ln, hd, hpn, hln⟩ := hdec pc _ hi
  dsimp only at hd hpn hln
  obtain rfl := xm_ln 2 hln rfl
  subst hpn
  cases co
  case eq => exact lv_icmp_eq hx hb hd ht (fun b => kk _ _ _ _ _ _ (h1 b) ad ca ls H locs hn hag hl (xm_hs_cons (xm_hs_cons hs).2).2 hm) (fun b => kk _ _ _ _ _ _ (h2 b) ad ca ls H locs hn hag hl (xm_hs_cons (xm_hs_cons hs).2).2 hm)
  case ne => exact lv_icmp_ne hx hb hd ht (fun b => kk _ _ _ _ _ _ (h1 b) ad ca ls H locs hn hag hl (xm_hs_cons (xm_hs_cons hs).2).2 hm) (fun b => kk _ _ _ _ _ _ (h2 fun nb => nb b) ad ca ls H locs hn hag hl (xm_hs_cons (xm_hs_cons hs).2).2 hm)
  case lt => exact lv_icmp_lt hx hb hd ht (fun b => kk _ _ _ _ _ _ (h1 b) ad ca ls H locs hn hag hl (xm_hs_cons (xm_hs_cons hs).2).2 hm) (fun b => kk _ _ _ _ _ _ (h2 b) ad ca ls H locs hn hag hl (xm_hs_cons (xm_hs_cons hs).2).2 hm)
  case ge => exact lv_icmp_ge hx hb hd ht (fun b => kk _ _ _ _ _ _ (h1 b) ad ca ls H locs hn hag hl (xm_hs_cons (xm_hs_cons hs).2).2 hm) (fun b => kk _ _ _ _ _ _ (h2 b) ad ca ls H locs hn hag hl (xm_hs_cons (xm_hs_cons hs).2).2 hm)
  case gt => exact lv_icmp_gt hx hb hd ht (fun b => kk _ _ _ _ _ _ (h1 b) ad ca ls H locs hn hag hl (xm_hs_cons (xm_hs_cons hs).2).2 hm) (fun b => kk _ _ _ _ _ _ (h2 b) ad ca ls H locs hn hag hl (xm_hs_cons (xm_hs_cons hs).2).2 hm)
  case le => exact lv_icmp_le hx hb hd ht (fun b => kk _ _ _ _ _ _ (h1 b) ad ca ls H locs hn hag hl (xm_hs_cons (xm_hs_cons hs).2).2 hm) (fun b => kk _ _ _ _ _ _ (h2 b) ad ca ls H locs hn hag hl (xm_hs_cons (xm_hs_cons hs).2).2 hm)
set_option maxHeartbeats 2000000 in
theorem xm_snd_swo (F : xm_fx own cc nL Ts ex xt C0 S0 p R s m args c D cl A) (O : xm_yok own cc Ts cl Y) (hini : Y.2.2.2.2.2 0 = 9 → meth.name = "<init>") (hRf : 1 ≤ R.frames) (hRl : 100 ≤ R.locals)
    (hoi : (Cond.instanceMethod objectInit).before args s = true ∧ (Cond.code objectInit ⟨#[0xb1]⟩ 1 none).before args s = true)
    (har : (Cond.arrayClass .int).before args s = true ∧ (Cond.arrayClass .long).before args s = true ∧ (Cond.arrayClass .boolean).before args s = true)
    (hcy : (Cond.native arraycopyName).before args s = true ∧ (Cond.static arraycopyName).before args s = true ∧ (Cond.initialized "java/lang/System").before args s = true)
    (hst : ∀ ix q, Y.2.2.2.2.1 ix = some q → ∃ (C n d : String), va_Z C n d (.ref (ex q)) A s s.heap ∧ (Cond.fieldLink own ix C n d).before args s = true)
    (hr : ∀ a1 a2 a3 a4 a5 a6, K a1 a2 a3 a4 a5 a6 → a5 ≤ C0 ∧ a6 ≤ S0)
    (kk : ∀ a1 a2 a3 a4 a5 a6, K a1 a2 a3 a4 a5 a6 → xm_W1 p l e R s m args below meth c Q D cl ex A nL n0 ad0 ca0 a1 a2 a3 a4 a5 a6) (h : (∃ (df : Int) (lo : Int) (up : Int) (os : Array Int) (x : Int32) (r : List xm_V) (t : Nat) (pn : Nat), Y.1 pc = some (.tableswitch df lo up os, pn) ∧ st = xv_i x :: r ∧ (x.toInt < lo ∨ up < x.toInt) ∧ (pc : Int) + df = (t : Int) ∧ K t loc r M nc ns)) : xm_W1 p l e R s m args below meth c Q D cl ex A nL n0 ad0 ca0 pc loc st M nc ns := by
  obtain ⟨hx, hb, hml, hown, hts, hK, hA, ⟨hRc, hRs⟩, hT⟩ := F
  obtain ⟨hdec, hkc, hkl, hfo, hno, hob, hcp⟩ := O
  intro ad ca ls H locs hn hag hl hs hm
  obtain ⟨df, lo, up, os, x, r, t, pn, hi, rfl, b, ht, h⟩ := h
  obtain ⟨ln, hd, hpn, hln⟩ := hdec pc _ hi
  dsimp only at hd hpn hln
  exact lv_tableOut hx hb hd b ht (kk _ _ _ _ _ _ h ad ca ls H locs hn hag hl (xm_hs_cons hs).2 hm)
set_option maxHeartbeats 2000000 in
theorem xm_snd_swi (F : xm_fx own cc nL Ts ex xt C0 S0 p R s m args c D cl A) (O : xm_yok own cc Ts cl Y) (hini : Y.2.2.2.2.2 0 = 9 → meth.name = "<init>") (hRf : 1 ≤ R.frames) (hRl : 100 ≤ R.locals)
    (hoi : (Cond.instanceMethod objectInit).before args s = true ∧ (Cond.code objectInit ⟨#[0xb1]⟩ 1 none).before args s = true)
    (har : (Cond.arrayClass .int).before args s = true ∧ (Cond.arrayClass .long).before args s = true ∧ (Cond.arrayClass .boolean).before args s = true)
    (hcy : (Cond.native arraycopyName).before args s = true ∧ (Cond.static arraycopyName).before args s = true ∧ (Cond.initialized "java/lang/System").before args s = true)
    (hst : ∀ ix q, Y.2.2.2.2.1 ix = some q → ∃ (C n d : String), va_Z C n d (.ref (ex q)) A s s.heap ∧ (Cond.fieldLink own ix C n d).before args s = true)
    (hr : ∀ a1 a2 a3 a4 a5 a6, K a1 a2 a3 a4 a5 a6 → a5 ≤ C0 ∧ a6 ≤ S0)
    (kk : ∀ a1 a2 a3 a4 a5 a6, K a1 a2 a3 a4 a5 a6 → xm_W1 p l e R s m args below meth c Q D cl ex A nL n0 ad0 ca0 a1 a2 a3 a4 a5 a6) (h : (∃ (df : Int) (lo : Int) (up : Int) (os : Array Int) (x : Int32) (r : List xm_V) (off : Int) (t : Nat) (pn : Nat), Y.1 pc = some (.tableswitch df lo up os, pn) ∧ st = xv_i x :: r ∧ ¬ x.toInt < lo ∧ ¬ up < x.toInt ∧ os[(x.toInt - lo).toNat]? = some off ∧ (pc : Int) + off = (t : Int) ∧ K t loc r M nc ns)) : xm_W1 p l e R s m args below meth c Q D cl ex A nL n0 ad0 ca0 pc loc st M nc ns := by
  obtain ⟨hx, hb, hml, hown, hts, hK, hA, ⟨hRc, hRs⟩, hT⟩ := F
  obtain ⟨hdec, hkc, hkl, hfo, hno, hob, hcp⟩ := O
  intro ad ca ls H locs hn hag hl hs hm
  obtain ⟨df, lo, up, os, x, r, off, t, pn, hi, rfl, b1, b2, ho, ht, h⟩ := h
  obtain ⟨ln, hd, hpn, hln⟩ := hdec pc _ hi
  dsimp only at hd hpn hln
  exact lv_tableIn hx hb hd b1 b2 ho ht (kk _ _ _ _ _ _ h ad ca ls H locs hn hag hl (xm_hs_cons hs).2 hm)
theorem xm_sndD (F : xm_fx own cc nL Ts ex xt C0 S0 p R s m args c D cl A) (O : xm_yok own cc Ts cl Y) (hini : Y.2.2.2.2.2 0 = 9 → meth.name = "<init>") (hRf : 1 ≤ R.frames) (hRl : 100 ≤ R.locals)
    (hoi : (Cond.instanceMethod objectInit).before args s = true ∧ (Cond.code objectInit ⟨#[0xb1]⟩ 1 none).before args s = true)
    (har : (Cond.arrayClass .int).before args s = true ∧ (Cond.arrayClass .long).before args s = true ∧ (Cond.arrayClass .boolean).before args s = true)
    (hcy : (Cond.native arraycopyName).before args s = true ∧ (Cond.static arraycopyName).before args s = true ∧ (Cond.initialized "java/lang/System").before args s = true)
    (hst : ∀ ix q, Y.2.2.2.2.1 ix = some q → ∃ (C n d : String), va_Z C n d (.ref (ex q)) A s s.heap ∧ (Cond.fieldLink own ix C n d).before args s = true)
    (hr : ∀ a1 a2 a3 a4 a5 a6, K a1 a2 a3 a4 a5 a6 → a5 ≤ C0 ∧ a6 ≤ S0)
    (kk : ∀ a1 a2 a3 a4 a5 a6, K a1 a2 a3 a4 a5 a6 → xm_W1 p l e R s m args below meth c Q D cl ex A nL n0 ad0 ca0 a1 a2 a3 a4 a5 a6) (h : xm_sD Y xt nL pc loc st M nc ns K) : xm_W1 p l e R s m args below meth c Q D cl ex A nL n0 ad0 ca0 pc loc st M nc ns := by
  unfold xm_sD at h
  rcases h with h | h | h | h | h | h | h | h
  · exact xm_snd_dup F O hini hRf hRl hoi har hcy hst hr kk h
  · exact xm_snd_pop F O hini hRf hRl hoi har hcy hst hr kk h
  · exact xm_snd_dup2 F O hini hRf hRl hoi har hcy hst hr kk h
  · exact xm_snd_goto F O hini hRf hRl hoi har hcy hst hr kk h
  · exact xm_snd_if F O hini hRf hRl hoi har hcy hst hr kk h
  · exact xm_snd_ic F O hini hRf hRl hoi har hcy hst hr kk h
  · exact xm_snd_swo F O hini hRf hRl hoi har hcy hst hr kk h
  · exact xm_snd_swi F O hini hRf hRl hoi har hcy hst hr kk h
theorem xm_exD (h : xm_sD Y xt nL pc loc st M nc ns K) : ∃ a1 a2 a3 a4 a5 a6, K a1 a2 a3 a4 a5 a6 ∧ nc ≤ a5 ∧ ns ≤ a6 := by
  unfold xm_sD at h
  rcases h with h | h | h | h | h | h | h | h
  · obtain ⟨_, _, _, _, _, _, h⟩ := h
    exact ⟨_, _, _, _, _, _, h, Nat.le_refl _, Nat.le_refl _⟩
  · obtain ⟨_, _, _, _, _, _, h⟩ := h
    exact ⟨_, _, _, _, _, _, h, Nat.le_refl _, Nat.le_refl _⟩
  · obtain ⟨_, _, _, _, _, _, _, _, h⟩ := h
    exact ⟨_, _, _, _, _, _, h, Nat.le_refl _, Nat.le_refl _⟩
  · obtain ⟨_, _, _, _, _, h⟩ := h
    exact ⟨_, _, _, _, _, _, h, Nat.le_refl _, Nat.le_refl _⟩
  · obtain ⟨co, _, x, _, _, _, _, _, _, h1, h2⟩ := h
    by_cases b : xm_c1 co x
    · exact ⟨_, _, _, _, _, _, h1 b, Nat.le_refl _, Nat.le_refl _⟩
    · exact ⟨_, _, _, _, _, _, h2 b, Nat.le_refl _, Nat.le_refl _⟩
  · obtain ⟨co, _, x, y, _, _, _, _, _, _, h1, h2⟩ := h
    by_cases b : xm_c2 co x y
    · exact ⟨_, _, _, _, _, _, h1 b, Nat.le_refl _, Nat.le_refl _⟩
    · exact ⟨_, _, _, _, _, _, h2 b, Nat.le_refl _, Nat.le_refl _⟩
  · obtain ⟨_, _, _, _, _, _, _, _, _, _, _, _, h⟩ := h
    exact ⟨_, _, _, _, _, _, h, Nat.le_refl _, Nat.le_refl _⟩
  · obtain ⟨_, _, _, _, _, _, _, _, _, _, _, _, _, _, _, h⟩ := h
    exact ⟨_, _, _, _, _, _, h, Nat.le_refl _, Nat.le_refl _⟩
end XSTEP
end
section
/-! Steps of the group E are true of the machine. -/
section XSTEP
variable {p : Program} {l : Launch} {e : Env} {R : Room} {s : State} {m : MethodId} {args : Array Value} {below : List Frame} {meth : Method} {c : Code} {Q : State → Prop} {D : va_G} {cl : List vw_C} {ex : Nat → Nat} {A : Nat → Prop} {nL n0 : Nat} {ad0 : Nat → Nat} {ca0 : Nat → ClassId}
variable {own : String} {cc : ByteArray} {Ts : List Cond} {xt : Nat → Nat × (Nat → Int32)} {C0 S0 : Nat} {Y : xm_Y} {K : xm_K} {pc : Nat} {loc : xm_L} {st : List xm_V} {M : xm_M} {nc ns : Nat}
set_option maxHeartbeats 2000000 in
theorem xm_snd_iald (F : xm_fx own cc nL Ts ex xt C0 S0 p R s m args c D cl A) (O : xm_yok own cc Ts cl Y) (hini : Y.2.2.2.2.2 0 = 9 → meth.name = "<init>") (hRf : 1 ≤ R.frames) (hRl : 100 ≤ R.locals)
    (hoi : (Cond.instanceMethod objectInit).before args s = true ∧ (Cond.code objectInit ⟨#[0xb1]⟩ 1 none).before args s = true)
    (har : (Cond.arrayClass .int).before args s = true ∧ (Cond.arrayClass .long).before args s = true ∧ (Cond.arrayClass .boolean).before args s = true)
    (hcy : (Cond.native arraycopyName).before args s = true ∧ (Cond.static arraycopyName).before args s = true ∧ (Cond.initialized "java/lang/System").before args s = true)
    (hst : ∀ ix q, Y.2.2.2.2.1 ix = some q → ∃ (C n d : String), va_Z C n d (.ref (ex q)) A s s.heap ∧ (Cond.fieldLink own ix C n d).before args s = true)
    (hr : ∀ a1 a2 a3 a4 a5 a6, K a1 a2 a3 a4 a5 a6 → a5 ≤ C0 ∧ a6 ≤ S0)
    (kk : ∀ a1 a2 a3 a4 a5 a6, K a1 a2 a3 a4 a5 a6 → xm_W1 p l e R s m args below meth c Q D cl ex A nL n0 ad0 ca0 a1 a2 a3 a4 a5 a6) (h : (∃ (i : Int32) (k : Nat) (n : Nat) (r : List xm_V) (pn : Nat), Y.1 pc = some (.iaload, pn) ∧ st = xv_i i :: xv_r k :: r ∧ M.1[k]? = some (xt_r 0 n) ∧ vp_in i n ∧ K pn loc (xv_i (M.2.1 k i.toNatClampNeg) :: r) M nc ns)) : xm_W1 p l e R s m args below meth c Q D cl ex A nL n0 ad0 ca0 pc loc st M nc ns := by
  obtain ⟨hx, hb, hml, hown, hts, hK, hA, ⟨hRc, hRs⟩, hT⟩ := F
  obtain ⟨hdec, hkc, hkl, hfo, hno, hob, hcp⟩ := O
  intro ad ca ls H locs hn hag hl hs hm
  obtain ⟨i, k, n, r, pn, hi, rfl, hM, hin, h⟩ := h
  obtain ⟨ln, hd, hpn, hln⟩ := hdec pc _ hi
  dsimp only at hd hpn hln
  obtain rfl := xm_ln 0 hln rfl
  subst hpn
  exact va_iald hx hb (xm_K1 hK (hm.2.2.2.2 k _ .int hM rfl)) hm.2.1 k 0 (xm_w_at hM) rfl hin hd (kk _ _ _ _ _ _ h ad ca ls H locs hn hag hl (xm_hs_push trivial (xm_hs_cons (xm_hs_cons hs).2).2) hm)
set_option maxHeartbeats 2000000 in
theorem xm_snd_ialdx (F : xm_fx own cc nL Ts ex xt C0 S0 p R s m args c D cl A) (O : xm_yok own cc Ts cl Y) (hini : Y.2.2.2.2.2 0 = 9 → meth.name = "<init>") (hRf : 1 ≤ R.frames) (hRl : 100 ≤ R.locals)
    (hoi : (Cond.instanceMethod objectInit).before args s = true ∧ (Cond.code objectInit ⟨#[0xb1]⟩ 1 none).before args s = true)
    (har : (Cond.arrayClass .int).before args s = true ∧ (Cond.arrayClass .long).before args s = true ∧ (Cond.arrayClass .boolean).before args s = true)
    (hcy : (Cond.native arraycopyName).before args s = true ∧ (Cond.static arraycopyName).before args s = true ∧ (Cond.initialized "java/lang/System").before args s = true)
    (hst : ∀ ix q, Y.2.2.2.2.1 ix = some q → ∃ (C n d : String), va_Z C n d (.ref (ex q)) A s s.heap ∧ (Cond.fieldLink own ix C n d).before args s = true)
    (hr : ∀ a1 a2 a3 a4 a5 a6, K a1 a2 a3 a4 a5 a6 → a5 ≤ C0 ∧ a6 ≤ S0)
    (kk : ∀ a1 a2 a3 a4 a5 a6, K a1 a2 a3 a4 a5 a6 → xm_W1 p l e R s m args below meth c Q D cl ex A nL n0 ad0 ca0 a1 a2 a3 a4 a5 a6) (h : (∃ (i : Int32) (q : Nat) (r : List xm_V) (pn : Nat), Y.1 pc = some (.iaload, pn) ∧ st = xv_i i :: xv_x q :: r ∧ vp_in i (xt q).1 ∧ K pn loc (xv_i ((xt q).2 i.toNatClampNeg) :: r) M nc ns)) : xm_W1 p l e R s m args below meth c Q D cl ex A nL n0 ad0 ca0 pc loc st M nc ns := by
  obtain ⟨hx, hb, hml, hown, hts, hK, hA, ⟨hRc, hRs⟩, hT⟩ := F
  obtain ⟨hdec, hkc, hkl, hfo, hno, hob, hcp⟩ := O
  intro ad ca ls H locs hn hag hl hs hm
  obtain ⟨i, q, r, pn, hi, rfl, hin, h⟩ := h
  obtain ⟨ln, hd, hpn, hln⟩ := hdec pc _ hi
  dsimp only at hd hpn hln
  obtain rfl := xm_ln 0 hln rfl
  subst hpn
  exact va_ti hx hb (hT q) hm.2.2.2.1 hin rfl hd (kk _ _ _ _ _ _ h ad ca ls H locs hn hag hl (xm_hs_push trivial (xm_hs_cons (xm_hs_cons hs).2).2) hm)
set_option maxHeartbeats 2000000 in
theorem xm_snd_bald (F : xm_fx own cc nL Ts ex xt C0 S0 p R s m args c D cl A) (O : xm_yok own cc Ts cl Y) (hini : Y.2.2.2.2.2 0 = 9 → meth.name = "<init>") (hRf : 1 ≤ R.frames) (hRl : 100 ≤ R.locals)
    (hoi : (Cond.instanceMethod objectInit).before args s = true ∧ (Cond.code objectInit ⟨#[0xb1]⟩ 1 none).before args s = true)
    (har : (Cond.arrayClass .int).before args s = true ∧ (Cond.arrayClass .long).before args s = true ∧ (Cond.arrayClass .boolean).before args s = true)
    (hcy : (Cond.native arraycopyName).before args s = true ∧ (Cond.static arraycopyName).before args s = true ∧ (Cond.initialized "java/lang/System").before args s = true)
    (hst : ∀ ix q, Y.2.2.2.2.1 ix = some q → ∃ (C n d : String), va_Z C n d (.ref (ex q)) A s s.heap ∧ (Cond.fieldLink own ix C n d).before args s = true)
    (hr : ∀ a1 a2 a3 a4 a5 a6, K a1 a2 a3 a4 a5 a6 → a5 ≤ C0 ∧ a6 ≤ S0)
    (kk : ∀ a1 a2 a3 a4 a5 a6, K a1 a2 a3 a4 a5 a6 → xm_W1 p l e R s m args below meth c Q D cl ex A nL n0 ad0 ca0 a1 a2 a3 a4 a5 a6) (h : (∃ (i : Int32) (k : Nat) (n : Nat) (r : List xm_V) (pn : Nat), Y.1 pc = some (.baload, pn) ∧ st = xv_i i :: xv_r k :: r ∧ M.1[k]? = some (xt_r 2 n) ∧ vp_in i n ∧ K pn loc (xv_i (M.2.1 k i.toNatClampNeg) :: r) M nc ns)) : xm_W1 p l e R s m args below meth c Q D cl ex A nL n0 ad0 ca0 pc loc st M nc ns := by
  obtain ⟨hx, hb, hml, hown, hts, hK, hA, ⟨hRc, hRs⟩, hT⟩ := F
  obtain ⟨hdec, hkc, hkl, hfo, hno, hob, hcp⟩ := O
  intro ad ca ls H locs hn hag hl hs hm
  obtain ⟨i, k, n, r, pn, hi, rfl, hM, hin, h⟩ := h
  obtain ⟨ln, hd, hpn, hln⟩ := hdec pc _ hi
  dsimp only at hd hpn hln
  obtain rfl := xm_ln 0 hln rfl
  subst hpn
  exact va_zald hx hb (xm_K1 hK (hm.2.2.2.2 k _ .boolean hM rfl)) hm.2.1 k 0 (xm_w_at hM) rfl hin hd (kk _ _ _ _ _ _ h ad ca ls H locs hn hag hl (xm_hs_push trivial (xm_hs_cons (xm_hs_cons hs).2).2) hm)
set_option maxHeartbeats 2000000 in
theorem xm_snd_lald (F : xm_fx own cc nL Ts ex xt C0 S0 p R s m args c D cl A) (O : xm_yok own cc Ts cl Y) (hini : Y.2.2.2.2.2 0 = 9 → meth.name = "<init>") (hRf : 1 ≤ R.frames) (hRl : 100 ≤ R.locals)
    (hoi : (Cond.instanceMethod objectInit).before args s = true ∧ (Cond.code objectInit ⟨#[0xb1]⟩ 1 none).before args s = true)
    (har : (Cond.arrayClass .int).before args s = true ∧ (Cond.arrayClass .long).before args s = true ∧ (Cond.arrayClass .boolean).before args s = true)
    (hcy : (Cond.native arraycopyName).before args s = true ∧ (Cond.static arraycopyName).before args s = true ∧ (Cond.initialized "java/lang/System").before args s = true)
    (hst : ∀ ix q, Y.2.2.2.2.1 ix = some q → ∃ (C n d : String), va_Z C n d (.ref (ex q)) A s s.heap ∧ (Cond.fieldLink own ix C n d).before args s = true)
    (hr : ∀ a1 a2 a3 a4 a5 a6, K a1 a2 a3 a4 a5 a6 → a5 ≤ C0 ∧ a6 ≤ S0)
    (kk : ∀ a1 a2 a3 a4 a5 a6, K a1 a2 a3 a4 a5 a6 → xm_W1 p l e R s m args below meth c Q D cl ex A nL n0 ad0 ca0 a1 a2 a3 a4 a5 a6) (h : (∃ (i : Int32) (k : Nat) (n : Nat) (r : List xm_V) (pn : Nat), Y.1 pc = some (.laload, pn) ∧ st = xv_i i :: xv_r k :: r ∧ M.1[k]? = some (xt_r 1 n) ∧ vp_in i n ∧ K pn loc (xv_l (M.2.2 k i.toNatClampNeg) :: r) M nc ns)) : xm_W1 p l e R s m args below meth c Q D cl ex A nL n0 ad0 ca0 pc loc st M nc ns := by
  obtain ⟨hx, hb, hml, hown, hts, hK, hA, ⟨hRc, hRs⟩, hT⟩ := F
  obtain ⟨hdec, hkc, hkl, hfo, hno, hob, hcp⟩ := O
  intro ad ca ls H locs hn hag hl hs hm
  obtain ⟨i, k, n, r, pn, hi, rfl, hM, hin, h⟩ := h
  obtain ⟨ln, hd, hpn, hln⟩ := hdec pc _ hi
  dsimp only at hd hpn hln
  obtain rfl := xm_ln 0 hln rfl
  subst hpn
  exact va_lald hx hb (xm_K1 hK (hm.2.2.2.2 k _ .long hM rfl)) hm.2.1 k 0 (xm_w_at hM) rfl hin hd (kk _ _ _ _ _ _ h ad ca ls H locs hn hag hl (xm_hs_push trivial (xm_hs_cons (xm_hs_cons hs).2).2) hm)
set_option maxHeartbeats 2000000 in
theorem xm_snd_alen (F : xm_fx own cc nL Ts ex xt C0 S0 p R s m args c D cl A) (O : xm_yok own cc Ts cl Y) (hini : Y.2.2.2.2.2 0 = 9 → meth.name = "<init>") (hRf : 1 ≤ R.frames) (hRl : 100 ≤ R.locals)
    (hoi : (Cond.instanceMethod objectInit).before args s = true ∧ (Cond.code objectInit ⟨#[0xb1]⟩ 1 none).before args s = true)
    (har : (Cond.arrayClass .int).before args s = true ∧ (Cond.arrayClass .long).before args s = true ∧ (Cond.arrayClass .boolean).before args s = true)
    (hcy : (Cond.native arraycopyName).before args s = true ∧ (Cond.static arraycopyName).before args s = true ∧ (Cond.initialized "java/lang/System").before args s = true)
    (hst : ∀ ix q, Y.2.2.2.2.1 ix = some q → ∃ (C n d : String), va_Z C n d (.ref (ex q)) A s s.heap ∧ (Cond.fieldLink own ix C n d).before args s = true)
    (hr : ∀ a1 a2 a3 a4 a5 a6, K a1 a2 a3 a4 a5 a6 → a5 ≤ C0 ∧ a6 ≤ S0)
    (kk : ∀ a1 a2 a3 a4 a5 a6, K a1 a2 a3 a4 a5 a6 → xm_W1 p l e R s m args below meth c Q D cl ex A nL n0 ad0 ca0 a1 a2 a3 a4 a5 a6) (h : (∃ (k : Nat) (t : Nat) (n : Nat) (r : List xm_V) (pn : Nat), Y.1 pc = some (.arraylength, pn) ∧ st = xv_r k :: r ∧ M.1[k]? = some (xt_r t n) ∧ t < 3 ∧ K pn loc (xv_i (nI n) :: r) M nc ns)) : xm_W1 p l e R s m args below meth c Q D cl ex A nL n0 ad0 ca0 pc loc st M nc ns := by
  obtain ⟨hx, hb, hml, hown, hts, hK, hA, ⟨hRc, hRs⟩, hT⟩ := F
  obtain ⟨hdec, hkc, hkl, hfo, hno, hob, hcp⟩ := O
  intro ad ca ls H locs hn hag hl hs hm
  obtain ⟨k, t, n, r, pn, hi, rfl, hM, ht3, h⟩ := h
  obtain ⟨ln, hd, hpn, hln⟩ := hdec pc _ hi
  dsimp only at hd hpn hln
  obtain rfl := xm_ln 0 hln rfl
  subst hpn
  match t, hM, ht3 with
  | 0, hM, _ => exact va_alen hx hb (xm_K1 hK (hm.2.2.2.2 k _ .int hM rfl)) hm.2.1 k 0 (xm_w_at hM) rfl rfl hd (kk _ _ _ _ _ _ h ad ca ls H locs hn hag hl (xm_hs_push trivial (xm_hs_cons hs).2) hm)
  | 1, hM, _ => exact va_alen hx hb (xm_K1 hK (hm.2.2.2.2 k _ .long hM rfl)) hm.2.1 k 0 (xm_w_at hM) rfl rfl hd (kk _ _ _ _ _ _ h ad ca ls H locs hn hag hl (xm_hs_push trivial (xm_hs_cons hs).2) hm)
  | 2, hM, _ => exact va_alen hx hb (xm_K1 hK (hm.2.2.2.2 k _ .boolean hM rfl)) hm.2.1 k 0 (xm_w_at hM) rfl rfl hd (kk _ _ _ _ _ _ h ad ca ls H locs hn hag hl (xm_hs_push trivial (xm_hs_cons hs).2) hm)
  | t + 3, hM, ht3 => exact absurd ht3 (by omega)
set_option maxHeartbeats 2000000 in
theorem xm_snd_alenx (F : xm_fx own cc nL Ts ex xt C0 S0 p R s m args c D cl A) (O : xm_yok own cc Ts cl Y) (hini : Y.2.2.2.2.2 0 = 9 → meth.name = "<init>") (hRf : 1 ≤ R.frames) (hRl : 100 ≤ R.locals)
    (hoi : (Cond.instanceMethod objectInit).before args s = true ∧ (Cond.code objectInit ⟨#[0xb1]⟩ 1 none).before args s = true)
    (har : (Cond.arrayClass .int).before args s = true ∧ (Cond.arrayClass .long).before args s = true ∧ (Cond.arrayClass .boolean).before args s = true)
    (hcy : (Cond.native arraycopyName).before args s = true ∧ (Cond.static arraycopyName).before args s = true ∧ (Cond.initialized "java/lang/System").before args s = true)
    (hst : ∀ ix q, Y.2.2.2.2.1 ix = some q → ∃ (C n d : String), va_Z C n d (.ref (ex q)) A s s.heap ∧ (Cond.fieldLink own ix C n d).before args s = true)
    (hr : ∀ a1 a2 a3 a4 a5 a6, K a1 a2 a3 a4 a5 a6 → a5 ≤ C0 ∧ a6 ≤ S0)
    (kk : ∀ a1 a2 a3 a4 a5 a6, K a1 a2 a3 a4 a5 a6 → xm_W1 p l e R s m args below meth c Q D cl ex A nL n0 ad0 ca0 a1 a2 a3 a4 a5 a6) (h : (∃ (q : Nat) (r : List xm_V) (pn : Nat), Y.1 pc = some (.arraylength, pn) ∧ st = xv_x q :: r ∧ K pn loc (xv_i (nI (xt q).1) :: r) M nc ns)) : xm_W1 p l e R s m args below meth c Q D cl ex A nL n0 ad0 ca0 pc loc st M nc ns := by
  obtain ⟨hx, hb, hml, hown, hts, hK, hA, ⟨hRc, hRs⟩, hT⟩ := F
  obtain ⟨hdec, hkc, hkl, hfo, hno, hob, hcp⟩ := O
  intro ad ca ls H locs hn hag hl hs hm
  obtain ⟨q, r, pn, hi, rfl, h⟩ := h
  obtain ⟨ln, hd, hpn, hln⟩ := hdec pc _ hi
  dsimp only at hd hpn hln
  obtain rfl := xm_ln 0 hln rfl
  subst hpn
  exact va_tlen hx hb (hT q) hm.2.2.2.1 rfl hd (kk _ _ _ _ _ _ h ad ca ls H locs hn hag hl (xm_hs_push trivial (xm_hs_cons hs).2) hm)
set_option maxHeartbeats 2000000 in
theorem xm_snd_get (F : xm_fx own cc nL Ts ex xt C0 S0 p R s m args c D cl A) (O : xm_yok own cc Ts cl Y) (hini : Y.2.2.2.2.2 0 = 9 → meth.name = "<init>") (hRf : 1 ≤ R.frames) (hRl : 100 ≤ R.locals)
    (hoi : (Cond.instanceMethod objectInit).before args s = true ∧ (Cond.code objectInit ⟨#[0xb1]⟩ 1 none).before args s = true)
    (har : (Cond.arrayClass .int).before args s = true ∧ (Cond.arrayClass .long).before args s = true ∧ (Cond.arrayClass .boolean).before args s = true)
    (hcy : (Cond.native arraycopyName).before args s = true ∧ (Cond.static arraycopyName).before args s = true ∧ (Cond.initialized "java/lang/System").before args s = true)
    (hst : ∀ ix q, Y.2.2.2.2.1 ix = some q → ∃ (C n d : String), va_Z C n d (.ref (ex q)) A s s.heap ∧ (Cond.fieldLink own ix C n d).before args s = true)
    (hr : ∀ a1 a2 a3 a4 a5 a6, K a1 a2 a3 a4 a5 a6 → a5 ≤ C0 ∧ a6 ≤ S0)
    (kk : ∀ a1 a2 a3 a4 a5 a6, K a1 a2 a3 a4 a5 a6 → xm_W1 p l e R s m args below meth c Q D cl ex A nL n0 ad0 ca0 a1 a2 a3 a4 a5 a6) (h : (∃ (ix : Nat) (ci : Nat) (j : Nat) (ty : Nat) (k : Nat) (fs : List xm_F) (f : xm_F) (r : List xm_V) (pn : Nat), Y.1 pc = some (.getfield ix, pn) ∧ Y.2.2.1 ix = some (ci, j, ty) ∧ st = xv_r k :: r ∧ M.1[k]? = some (xt_o ci fs) ∧ fs[j]? = some f ∧ K pn loc (xm_fv M.2.1 k j f :: r) M nc ns)) : xm_W1 p l e R s m args below meth c Q D cl ex A nL n0 ad0 ca0 pc loc st M nc ns := by
  obtain ⟨hx, hb, hml, hown, hts, hK, hA, ⟨hRc, hRs⟩, hT⟩ := F
  obtain ⟨hdec, hkc, hkl, hfo, hno, hob, hcp⟩ := O
  intro ad ca ls H locs hn hag hl hs hm
  obtain ⟨ix, ci, j, t, k, fs, f, r, pn, hi, hY, rfl, hM, hf, h⟩ := h
  obtain ⟨ln, hd, hpn, hln⟩ := hdec pc _ hi
  dsimp only at hd hpn hln
  obtain rfl := xm_ln 2 hln rfl
  subst hpn
  obtain ⟨C, T, N, ty, hc, hjN, hin, hty, hnm, hlk, -⟩ := hfo ix _ j t hY
  have hv2 : (fs.mapIdx fun b f => xm_fw ad M.2.1 k b f)[j]? = some (xm_v ad ex (xm_fv M.2.1 k j f)) := by rw [xm_fv_v, List.getElem?_mapIdx, hf]; rfl
  have hsv : xm_sc M.1.length (xm_fv M.2.1 k j f) := by
    rcases f with _ | _ | q
    · trivial
    · trivial
    · exact hm.1 k ci fs hM q (List.mem_of_getElem? hf)
  rcases hlk with hlk | ⟨host, hlk⟩
  · exact va_get hx hb hts hin hown hK hm.2.1 k (xm_w_at hM) hc j hjN (hts _ hlk) (fun _ q => q) hv2 hd (kk _ _ _ _ _ _ h ad ca ls H locs hn hag hl (xm_hs_push hsv (xm_hs_cons hs).2) hm)
  · exact va_getN hx hb hts hin hown hK hm.2.1 k (xm_w_at hM) hc j hjN (hts _ hlk) (fun _ q => q) hv2 hd (kk _ _ _ _ _ _ h ad ca ls H locs hn hag hl (xm_hs_push hsv (xm_hs_cons hs).2) hm)
set_option maxHeartbeats 2000000 in
theorem xm_snd_gets (F : xm_fx own cc nL Ts ex xt C0 S0 p R s m args c D cl A) (O : xm_yok own cc Ts cl Y) (hini : Y.2.2.2.2.2 0 = 9 → meth.name = "<init>") (hRf : 1 ≤ R.frames) (hRl : 100 ≤ R.locals)
    (hoi : (Cond.instanceMethod objectInit).before args s = true ∧ (Cond.code objectInit ⟨#[0xb1]⟩ 1 none).before args s = true)
    (har : (Cond.arrayClass .int).before args s = true ∧ (Cond.arrayClass .long).before args s = true ∧ (Cond.arrayClass .boolean).before args s = true)
    (hcy : (Cond.native arraycopyName).before args s = true ∧ (Cond.static arraycopyName).before args s = true ∧ (Cond.initialized "java/lang/System").before args s = true)
    (hst : ∀ ix q, Y.2.2.2.2.1 ix = some q → ∃ (C n d : String), va_Z C n d (.ref (ex q)) A s s.heap ∧ (Cond.fieldLink own ix C n d).before args s = true)
    (hr : ∀ a1 a2 a3 a4 a5 a6, K a1 a2 a3 a4 a5 a6 → a5 ≤ C0 ∧ a6 ≤ S0)
    (kk : ∀ a1 a2 a3 a4 a5 a6, K a1 a2 a3 a4 a5 a6 → xm_W1 p l e R s m args below meth c Q D cl ex A nL n0 ad0 ca0 a1 a2 a3 a4 a5 a6) (h : (∃ (ix : Nat) (q : Nat) (pn : Nat), Y.1 pc = some (.getstatic ix, pn) ∧ Y.2.2.2.2.1 ix = some q ∧ K pn loc (xv_x q :: st) M nc ns)) : xm_W1 p l e R s m args below meth c Q D cl ex A nL n0 ad0 ca0 pc loc st M nc ns := by
  obtain ⟨hx, hb, hml, hown, hts, hK, hA, ⟨hRc, hRs⟩, hT⟩ := F
  obtain ⟨hdec, hkc, hkl, hfo, hno, hob, hcp⟩ := O
  intro ad ca ls H locs hn hag hl hs hm
  obtain ⟨ix, q, pn, hi, hq, h⟩ := h
  obtain ⟨ln, hd, hpn, hln⟩ := hdec pc _ hi
  dsimp only at hd hpn hln
  obtain rfl := xm_ln 2 hln rfl
  subst hpn
  obtain ⟨C, n, d, hZ, hlk⟩ := hst ix q hq
  exact va_gets hx hb hZ hm.2.2.2.1 hown hlk (fun _ q => q) hd (kk _ _ _ _ _ _ h ad ca ls H locs hn hag hl (xm_hs_push trivial hs) hm)
theorem xm_sndE (F : xm_fx own cc nL Ts ex xt C0 S0 p R s m args c D cl A) (O : xm_yok own cc Ts cl Y) (hini : Y.2.2.2.2.2 0 = 9 → meth.name = "<init>") (hRf : 1 ≤ R.frames) (hRl : 100 ≤ R.locals)
    (hoi : (Cond.instanceMethod objectInit).before args s = true ∧ (Cond.code objectInit ⟨#[0xb1]⟩ 1 none).before args s = true)
    (har : (Cond.arrayClass .int).before args s = true ∧ (Cond.arrayClass .long).before args s = true ∧ (Cond.arrayClass .boolean).before args s = true)
    (hcy : (Cond.native arraycopyName).before args s = true ∧ (Cond.static arraycopyName).before args s = true ∧ (Cond.initialized "java/lang/System").before args s = true)
    (hst : ∀ ix q, Y.2.2.2.2.1 ix = some q → ∃ (C n d : String), va_Z C n d (.ref (ex q)) A s s.heap ∧ (Cond.fieldLink own ix C n d).before args s = true)
    (hr : ∀ a1 a2 a3 a4 a5 a6, K a1 a2 a3 a4 a5 a6 → a5 ≤ C0 ∧ a6 ≤ S0)
    (kk : ∀ a1 a2 a3 a4 a5 a6, K a1 a2 a3 a4 a5 a6 → xm_W1 p l e R s m args below meth c Q D cl ex A nL n0 ad0 ca0 a1 a2 a3 a4 a5 a6) (h : xm_sE Y xt nL pc loc st M nc ns K) : xm_W1 p l e R s m args below meth c Q D cl ex A nL n0 ad0 ca0 pc loc st M nc ns := by
  unfold xm_sE at h
  rcases h with h | h | h | h | h | h | h | h
  · exact xm_snd_iald F O hini hRf hRl hoi har hcy hst hr kk h
  · exact xm_snd_ialdx F O hini hRf hRl hoi har hcy hst hr kk h
  · exact xm_snd_bald F O hini hRf hRl hoi har hcy hst hr kk h
  · exact xm_snd_lald F O hini hRf hRl hoi har hcy hst hr kk h
  · exact xm_snd_alen F O hini hRf hRl hoi har hcy hst hr kk h
  · exact xm_snd_alenx F O hini hRf hRl hoi har hcy hst hr kk h
  · exact xm_snd_get F O hini hRf hRl hoi har hcy hst hr kk h
  · exact xm_snd_gets F O hini hRf hRl hoi har hcy hst hr kk h
theorem xm_exE (h : xm_sE Y xt nL pc loc st M nc ns K) : ∃ a1 a2 a3 a4 a5 a6, K a1 a2 a3 a4 a5 a6 ∧ nc ≤ a5 ∧ ns ≤ a6 := by
  unfold xm_sE at h
  rcases h with h | h | h | h | h | h | h | h
  · obtain ⟨_, _, _, _, _, _, _, _, _, h⟩ := h
    exact ⟨_, _, _, _, _, _, h, Nat.le_refl _, Nat.le_refl _⟩
  · obtain ⟨_, _, _, _, _, _, _, h⟩ := h
    exact ⟨_, _, _, _, _, _, h, Nat.le_refl _, Nat.le_refl _⟩
  · obtain ⟨_, _, _, _, _, _, _, _, _, h⟩ := h
    exact ⟨_, _, _, _, _, _, h, Nat.le_refl _, Nat.le_refl _⟩
  · obtain ⟨_, _, _, _, _, _, _, _, _, h⟩ := h
    exact ⟨_, _, _, _, _, _, h, Nat.le_refl _, Nat.le_refl _⟩
  · obtain ⟨_, _, _, _, _, _, _, _, _, h⟩ := h
    exact ⟨_, _, _, _, _, _, h, Nat.le_refl _, Nat.le_refl _⟩
  · obtain ⟨_, _, _, _, _, h⟩ := h
    exact ⟨_, _, _, _, _, _, h, Nat.le_refl _, Nat.le_refl _⟩
  · obtain ⟨_, _, _, _, _, _, _, _, _, _, _, _, _, _, h⟩ := h
    exact ⟨_, _, _, _, _, _, h, Nat.le_refl _, Nat.le_refl _⟩
  · obtain ⟨_, _, _, _, _, h⟩ := h
    exact ⟨_, _, _, _, _, _, h, Nat.le_refl _, Nat.le_refl _⟩
end XSTEP
end
section
/-! Steps of the group F are true of the machine. -/
section XSTEP
variable {p : Program} {l : Launch} {e : Env} {R : Room} {s : State} {m : MethodId} {args : Array Value} {below : List Frame} {meth : Method} {c : Code} {Q : State → Prop} {D : va_G} {cl : List vw_C} {ex : Nat → Nat} {A : Nat → Prop} {nL n0 : Nat} {ad0 : Nat → Nat} {ca0 : Nat → ClassId}
variable {own : String} {cc : ByteArray} {Ts : List Cond} {xt : Nat → Nat × (Nat → Int32)} {C0 S0 : Nat} {Y : xm_Y} {K : xm_K} {pc : Nat} {loc : xm_L} {st : List xm_V} {M : xm_M} {nc ns : Nat}
set_option maxHeartbeats 2000000 in
theorem xm_snd_iast (F : xm_fx own cc nL Ts ex xt C0 S0 p R s m args c D cl A) (O : xm_yok own cc Ts cl Y) (hini : Y.2.2.2.2.2 0 = 9 → meth.name = "<init>") (hRf : 1 ≤ R.frames) (hRl : 100 ≤ R.locals)
    (hoi : (Cond.instanceMethod objectInit).before args s = true ∧ (Cond.code objectInit ⟨#[0xb1]⟩ 1 none).before args s = true)
    (har : (Cond.arrayClass .int).before args s = true ∧ (Cond.arrayClass .long).before args s = true ∧ (Cond.arrayClass .boolean).before args s = true)
    (hcy : (Cond.native arraycopyName).before args s = true ∧ (Cond.static arraycopyName).before args s = true ∧ (Cond.initialized "java/lang/System").before args s = true)
    (hst : ∀ ix q, Y.2.2.2.2.1 ix = some q → ∃ (C n d : String), va_Z C n d (.ref (ex q)) A s s.heap ∧ (Cond.fieldLink own ix C n d).before args s = true)
    (hr : ∀ a1 a2 a3 a4 a5 a6, K a1 a2 a3 a4 a5 a6 → a5 ≤ C0 ∧ a6 ≤ S0)
    (kk : ∀ a1 a2 a3 a4 a5 a6, K a1 a2 a3 a4 a5 a6 → xm_W1 p l e R s m args below meth c Q D cl ex A nL n0 ad0 ca0 a1 a2 a3 a4 a5 a6) (h : (∃ (i : Int32) (x : Int32) (k : Nat) (n : Nat) (r : List xm_V) (pn : Nat), Y.1 pc = some (.iastore, pn) ∧ st = xv_i x :: xv_i i :: xv_r k :: r ∧ M.1[k]? = some (xt_r 0 n) ∧ vp_in i n ∧ K pn loc r (M.1, xu_2 M.2.1 k i.toNatClampNeg x, M.2.2) nc ns)) : xm_W1 p l e R s m args below meth c Q D cl ex A nL n0 ad0 ca0 pc loc st M nc ns := by
  obtain ⟨hx, hb, hml, hown, hts, hK, hA, ⟨hRc, hRs⟩, hT⟩ := F
  obtain ⟨hdec, hkc, hkl, hfo, hno, hob, hcp⟩ := O
  intro ad ca ls H locs hn hag hl hs hm
  obtain ⟨i, x, k, n, r, pn, hi, rfl, hM, hin, h⟩ := h
  obtain ⟨ln, hd, hpn, hln⟩ := hdec pc _ hi
  dsimp only at hd hpn hln
  obtain rfl := xm_ln 0 hln rfl
  subst hpn
  refine va_iast hx hb (xm_K1 hK (hm.2.2.2.2 k _ .int hM rfl)) hm.2.1 hm.2.2.1 hm.2.2.2.1 k 0 (xm_w_at hM) rfl hin hd (fun H1 locs1 hP hD hS => ?_)
  have he : (Sum.inl (ca k, n, Sum.inl (upd (M.2.1 k) i.toNatClampNeg x)) : va_E) = Sum.inl (ca k, n, Sum.inl (xu_2 M.2.1 k i.toNatClampNeg x k)) := by rw [xm_eu]; rfl
  exact kk _ _ _ _ _ _ h ad ca ls H1 locs1 hn hag hl (xm_hs_cons (xm_hs_cons (xm_hs_cons hs).2).2).2 (hm.store hM xm_xu_k (fun _ _ => rfl) he hP hD hS)
set_option maxHeartbeats 2000000 in
theorem xm_snd_bast (F : xm_fx own cc nL Ts ex xt C0 S0 p R s m args c D cl A) (O : xm_yok own cc Ts cl Y) (hini : Y.2.2.2.2.2 0 = 9 → meth.name = "<init>") (hRf : 1 ≤ R.frames) (hRl : 100 ≤ R.locals)
    (hoi : (Cond.instanceMethod objectInit).before args s = true ∧ (Cond.code objectInit ⟨#[0xb1]⟩ 1 none).before args s = true)
    (har : (Cond.arrayClass .int).before args s = true ∧ (Cond.arrayClass .long).before args s = true ∧ (Cond.arrayClass .boolean).before args s = true)
    (hcy : (Cond.native arraycopyName).before args s = true ∧ (Cond.static arraycopyName).before args s = true ∧ (Cond.initialized "java/lang/System").before args s = true)
    (hst : ∀ ix q, Y.2.2.2.2.1 ix = some q → ∃ (C n d : String), va_Z C n d (.ref (ex q)) A s s.heap ∧ (Cond.fieldLink own ix C n d).before args s = true)
    (hr : ∀ a1 a2 a3 a4 a5 a6, K a1 a2 a3 a4 a5 a6 → a5 ≤ C0 ∧ a6 ≤ S0)
    (kk : ∀ a1 a2 a3 a4 a5 a6, K a1 a2 a3 a4 a5 a6 → xm_W1 p l e R s m args below meth c Q D cl ex A nL n0 ad0 ca0 a1 a2 a3 a4 a5 a6) (h : (∃ (i : Int32) (x : Int32) (k : Nat) (n : Nat) (r : List xm_V) (pn : Nat), Y.1 pc = some (.bastore, pn) ∧ st = xv_i x :: xv_i i :: xv_r k :: r ∧ M.1[k]? = some (xt_r 2 n) ∧ vp_in i n ∧ (x = 0 ∨ x = 1) ∧ K pn loc r (M.1, xu_2 M.2.1 k i.toNatClampNeg x, M.2.2) nc ns)) : xm_W1 p l e R s m args below meth c Q D cl ex A nL n0 ad0 ca0 pc loc st M nc ns := by
  obtain ⟨hx, hb, hml, hown, hts, hK, hA, ⟨hRc, hRs⟩, hT⟩ := F
  obtain ⟨hdec, hkc, hkl, hfo, hno, hob, hcp⟩ := O
  intro ad ca ls H locs hn hag hl hs hm
  obtain ⟨i, x, k, n, r, pn, hi, rfl, hM, hin, h01, h⟩ := h
  obtain ⟨ln, hd, hpn, hln⟩ := hdec pc _ hi
  dsimp only at hd hpn hln
  obtain rfl := xm_ln 0 hln rfl
  subst hpn
  refine va_zast hx hb (xm_K1 hK (hm.2.2.2.2 k _ .boolean hM rfl)) hm.2.1 hm.2.2.1 hm.2.2.2.1 k 0 (xm_w_at hM) rfl hin hd (fun H1 locs1 hP hD hS => ?_)
  rw [show vp_nar .boolean x = x by rcases h01 with rfl | rfl <;> rfl] at hP hD
  have he : (Sum.inl (ca k, n, Sum.inl (upd (M.2.1 k) i.toNatClampNeg x)) : va_E) = Sum.inl (ca k, n, Sum.inl (xu_2 M.2.1 k i.toNatClampNeg x k)) := by rw [xm_eu]; rfl
  exact kk _ _ _ _ _ _ h ad ca ls H1 locs1 hn hag hl (xm_hs_cons (xm_hs_cons (xm_hs_cons hs).2).2).2 (hm.store hM xm_xu_k (fun _ _ => rfl) he hP hD hS)
set_option maxHeartbeats 2000000 in
theorem xm_snd_last (F : xm_fx own cc nL Ts ex xt C0 S0 p R s m args c D cl A) (O : xm_yok own cc Ts cl Y) (hini : Y.2.2.2.2.2 0 = 9 → meth.name = "<init>") (hRf : 1 ≤ R.frames) (hRl : 100 ≤ R.locals)
    (hoi : (Cond.instanceMethod objectInit).before args s = true ∧ (Cond.code objectInit ⟨#[0xb1]⟩ 1 none).before args s = true)
    (har : (Cond.arrayClass .int).before args s = true ∧ (Cond.arrayClass .long).before args s = true ∧ (Cond.arrayClass .boolean).before args s = true)
    (hcy : (Cond.native arraycopyName).before args s = true ∧ (Cond.static arraycopyName).before args s = true ∧ (Cond.initialized "java/lang/System").before args s = true)
    (hst : ∀ ix q, Y.2.2.2.2.1 ix = some q → ∃ (C n d : String), va_Z C n d (.ref (ex q)) A s s.heap ∧ (Cond.fieldLink own ix C n d).before args s = true)
    (hr : ∀ a1 a2 a3 a4 a5 a6, K a1 a2 a3 a4 a5 a6 → a5 ≤ C0 ∧ a6 ≤ S0)
    (kk : ∀ a1 a2 a3 a4 a5 a6, K a1 a2 a3 a4 a5 a6 → xm_W1 p l e R s m args below meth c Q D cl ex A nL n0 ad0 ca0 a1 a2 a3 a4 a5 a6) (h : (∃ (i : Int32) (x : Int64) (k : Nat) (n : Nat) (r : List xm_V) (pn : Nat), Y.1 pc = some (.lastore, pn) ∧ st = xv_l x :: xv_i i :: xv_r k :: r ∧ M.1[k]? = some (xt_r 1 n) ∧ vp_in i n ∧ K pn loc r (M.1, M.2.1, xu_2 M.2.2 k i.toNatClampNeg x) nc ns)) : xm_W1 p l e R s m args below meth c Q D cl ex A nL n0 ad0 ca0 pc loc st M nc ns := by
  obtain ⟨hx, hb, hml, hown, hts, hK, hA, ⟨hRc, hRs⟩, hT⟩ := F
  obtain ⟨hdec, hkc, hkl, hfo, hno, hob, hcp⟩ := O
  intro ad ca ls H locs hn hag hl hs hm
  obtain ⟨i, x, k, n, r, pn, hi, rfl, hM, hin, h⟩ := h
  obtain ⟨ln, hd, hpn, hln⟩ := hdec pc _ hi
  dsimp only at hd hpn hln
  obtain rfl := xm_ln 0 hln rfl
  subst hpn
  refine va_last hx hb (xm_K1 hK (hm.2.2.2.2 k _ .long hM rfl)) hm.2.1 hm.2.2.1 hm.2.2.2.1 k 0 (xm_w_at hM) rfl hin hd (fun H1 locs1 hP hD hS => ?_)
  have he : (Sum.inl (ca k, n, Sum.inr (Sum.inl (vp_updL (M.2.2 k) i.toNatClampNeg x))) : va_E) = Sum.inl (ca k, n, Sum.inr (Sum.inl (xu_2 M.2.2 k i.toNatClampNeg x k))) := by rw [xm_eu]; rfl
  exact kk _ _ _ _ _ _ h ad ca ls H1 locs1 hn hag hl (xm_hs_cons (xm_hs_cons (xm_hs_cons hs).2).2).2 (hm.store hM (fun _ _ => rfl) xm_xu_k he hP hD hS)
set_option maxHeartbeats 2000000 in
theorem xm_snd_put (F : xm_fx own cc nL Ts ex xt C0 S0 p R s m args c D cl A) (O : xm_yok own cc Ts cl Y) (hini : Y.2.2.2.2.2 0 = 9 → meth.name = "<init>") (hRf : 1 ≤ R.frames) (hRl : 100 ≤ R.locals)
    (hoi : (Cond.instanceMethod objectInit).before args s = true ∧ (Cond.code objectInit ⟨#[0xb1]⟩ 1 none).before args s = true)
    (har : (Cond.arrayClass .int).before args s = true ∧ (Cond.arrayClass .long).before args s = true ∧ (Cond.arrayClass .boolean).before args s = true)
    (hcy : (Cond.native arraycopyName).before args s = true ∧ (Cond.static arraycopyName).before args s = true ∧ (Cond.initialized "java/lang/System").before args s = true)
    (hst : ∀ ix q, Y.2.2.2.2.1 ix = some q → ∃ (C n d : String), va_Z C n d (.ref (ex q)) A s s.heap ∧ (Cond.fieldLink own ix C n d).before args s = true)
    (hr : ∀ a1 a2 a3 a4 a5 a6, K a1 a2 a3 a4 a5 a6 → a5 ≤ C0 ∧ a6 ≤ S0)
    (kk : ∀ a1 a2 a3 a4 a5 a6, K a1 a2 a3 a4 a5 a6 → xm_W1 p l e R s m args below meth c Q D cl ex A nL n0 ad0 ca0 a1 a2 a3 a4 a5 a6) (h : (∃ (ix : Nat) (ci : Nat) (j : Nat) (ty : Nat) (k : Nat) (fs : List xm_F) (x : Int32) (r : List xm_V) (pn : Nat), Y.1 pc = some (.putfield ix, pn) ∧ Y.2.2.1 ix = some (ci, j, ty) ∧ st = xv_i x :: xv_r k :: r ∧ M.1[k]? = some (xt_o ci fs) ∧ fs[j]? = some none ∧ (ty = 0 ∨ (ty = 3 ∧ (x = 0 ∨ x = 1))) ∧ K pn loc r (M.1, xu_2 M.2.1 k j x, M.2.2) nc ns)) : xm_W1 p l e R s m args below meth c Q D cl ex A nL n0 ad0 ca0 pc loc st M nc ns := by
  obtain ⟨hx, hb, hml, hown, hts, hK, hA, ⟨hRc, hRs⟩, hT⟩ := F
  obtain ⟨hdec, hkc, hkl, hfo, hno, hob, hcp⟩ := O
  intro ad ca ls H locs hn hag hl hs hm
  obtain ⟨ix, ci, j, t, k, fs, x, r, pn, hi, hY, rfl, hM, hf, htx, h⟩ := h
  obtain ⟨ln, hd, hpn, hln⟩ := hdec pc _ hi
  dsimp only at hd hpn hln
  obtain rfl := xm_ln 2 hln rfl
  subst hpn
  have go : ∀ (ci j t k : Nat) (fs : List xm_F) (f : xm_F) (v : xm_V) (r : List xm_V), Y.2.2.1 ix = some (ci, j, t) → M.1[k]? = some (xt_o ci fs) → fs[j]? = some f →
      ((t = 0 ∧ ∃ x, v = xv_i x) ∨ (t = 3 ∧ ∃ x, v = xv_i x ∧ (x = 0 ∨ x = 1)) ∨ (t = 2 ∧ ∃ q, v = xv_r q) ∨ (t = 12 ∧ Y.2.2.2.2.2 0 = 9 ∧ ∃ q, v = xv_r q)) →
      (∀ (H1 : Heap) (locs1 : List Loc), va_P D cl ((xm_w ad ca M).set k (ad k, .inr (ci, (fs.mapIdx fun b f => xm_fw ad M.2.1 k b f).set j (xm_v ad ex v)))) H1 → va_D A ((xm_w ad ca M).set k (ad k, .inr (ci, (fs.mapIdx fun b f => xm_fw ad M.2.1 k b f).set j (xm_v ad ex v)))) → va_S A s.heap H1 locs1 → W p l e R s m args below meth c H1 locs1 nc ns Q (F0 m (pc + 3) ls (r.map (xm_v ad ex)))) →
      W p l e R s m args below meth c H locs nc ns Q (F0 m pc ls ((v :: xv_r k :: r).map (xm_v ad ex))) := by
    intro ci j t k fs f v r hY hM hf hv fin
    obtain ⟨C, T, N, ty, hc, hjN, hin, hty, hnm, hlk, htt⟩ := hfo ix _ j t hY
    have hjl : j < (fs.mapIdx fun b f => xm_fw ad M.2.1 k b f).length := by rw [List.length_mapIdx]; exact (List.getElem?_eq_some_iff.mp hf).1
    have put : narrow (ty j) (xm_v ad ex v) = xm_v ad ex v → fits (ty j) (xm_v ad ex v) = true → (T j).2.2.2 = false → W p l e R s m args below meth c H locs nc ns Q (F0 m pc ls ((v :: xv_r k :: r).map (xm_v ad ex))) := by
      intro hn1 hf1 hb2
      rcases hlk with hlk | ⟨host, hlk⟩
      · exact va_put hx hb hts hin ty hty hnm hown hK hm.2.1 hm.2.2.1 hm.2.2.2.1 k (xm_w_at hM) hc j hjN (hts _ hlk) (fun _ q => q) hb2 (hty j hjN) hn1 hf1 hjl hd fin
      · exact va_putN hx hb hts hin ty hty hnm hown hK hm.2.1 hm.2.2.1 hm.2.2.2.1 k (xm_w_at hM) hc j hjN (hts _ hlk) (fun _ q => q) hb2 (hty j hjN) hn1 hf1 hjl hd fin
    rcases hv with ⟨rfl, x, rfl⟩ | ⟨rfl, x, rfl, h01⟩ | ⟨rfl, q, rfl⟩ | ⟨rfl, h9, q, rfl⟩
    · rcases htt with ⟨-, e1, e2⟩ | ⟨ctr, -⟩ | ⟨ctr, -⟩ | ⟨ctr, -⟩ | ctr <;> try exact absurd ctr (by decide)
      exact put (by rw [e1]; rfl) (by rw [e1]; rfl) e2
    · rcases htt with ⟨ctr, -⟩ | ⟨-, e1, e2⟩ | ⟨ctr, -⟩ | ⟨ctr, -⟩ | ctr <;> try exact absurd ctr (by decide)
      exact put (by rw [e1]; rcases h01 with rfl | rfl <;> rfl) (by rw [e1]; rcases h01 with rfl | rfl <;> rfl) e2
    · rcases htt with ⟨ctr, -⟩ | ⟨ctr, -⟩ | ⟨-, ⟨n, e1⟩ | ⟨n, e1⟩, e2⟩ | ⟨ctr, -⟩ | ctr <;> try exact absurd ctr (by decide)
      · exact put (by rw [e1]; rfl) (by rw [e1]; rfl) e2
      · exact put (by rw [e1]; rfl) (by rw [e1]; rfl) e2
    · rcases htt with ⟨ctr, -⟩ | ⟨ctr, -⟩ | ⟨ctr, -⟩ | ⟨-, e1, hb2, h2, h3⟩ | ctr <;> try exact absurd ctr (by decide)
      have nf : narrow (ty j) (xm_v ad ex (xv_r q)) = xm_v ad ex (xv_r q) ∧ fits (ty j) (xm_v ad ex (xv_r q)) = true := by
        rcases e1 with ⟨n, e1⟩ | ⟨n, e1⟩ <;> rw [e1] <;> exact ⟨rfl, rfl⟩
      exact va_putF hx hb hts hin ty hty hnm hown hK hm.2.1 hm.2.2.1 hm.2.2.2.1 k (xm_w_at hM) hc j hjN (hts _ h3) (fun _ q => q) hb2 (hini h9) h2 (hty j hjN) nf.1 nf.2 hjl hd fin
  refine go ci j t k fs none (xv_i x) r hY hM hf (htx.elim (fun q => Or.inl ⟨q, x, rfl⟩) (fun q => Or.inr (Or.inl ⟨q.1, x, rfl, q.2⟩))) ?_
  intro H1 locs1 hP hD hS
  have he : (Sum.inr (ci, (fs.mapIdx fun b f => xm_fw ad M.2.1 k b f).set j (.int x)) : va_E) = Sum.inr (ci, fs.mapIdx fun b f => xm_fw ad (xu_2 M.2.1 k j x) k b f) := by rw [xm_put_e hf]
  exact kk _ _ _ _ _ _ h ad ca ls H1 locs1 hn hag hl (xm_hs_cons (xm_hs_cons hs).2).2 (hm.store hM xm_xu_k (fun _ _ => rfl) he hP hD hS)
set_option maxHeartbeats 2000000 in
theorem xm_snd_putr (F : xm_fx own cc nL Ts ex xt C0 S0 p R s m args c D cl A) (O : xm_yok own cc Ts cl Y) (hini : Y.2.2.2.2.2 0 = 9 → meth.name = "<init>") (hRf : 1 ≤ R.frames) (hRl : 100 ≤ R.locals)
    (hoi : (Cond.instanceMethod objectInit).before args s = true ∧ (Cond.code objectInit ⟨#[0xb1]⟩ 1 none).before args s = true)
    (har : (Cond.arrayClass .int).before args s = true ∧ (Cond.arrayClass .long).before args s = true ∧ (Cond.arrayClass .boolean).before args s = true)
    (hcy : (Cond.native arraycopyName).before args s = true ∧ (Cond.static arraycopyName).before args s = true ∧ (Cond.initialized "java/lang/System").before args s = true)
    (hst : ∀ ix q, Y.2.2.2.2.1 ix = some q → ∃ (C n d : String), va_Z C n d (.ref (ex q)) A s s.heap ∧ (Cond.fieldLink own ix C n d).before args s = true)
    (hr : ∀ a1 a2 a3 a4 a5 a6, K a1 a2 a3 a4 a5 a6 → a5 ≤ C0 ∧ a6 ≤ S0)
    (kk : ∀ a1 a2 a3 a4 a5 a6, K a1 a2 a3 a4 a5 a6 → xm_W1 p l e R s m args below meth c Q D cl ex A nL n0 ad0 ca0 a1 a2 a3 a4 a5 a6) (h : (∃ (ix : Nat) (ci : Nat) (j : Nat) (t : Nat) (k : Nat) (fs : List xm_F) (q : Nat) (o : Option Nat) (r : List xm_V) (pn : Nat), Y.1 pc = some (.putfield ix, pn) ∧ Y.2.2.1 ix = some (ci, j, t) ∧ (t = 2 ∨ (t = 12 ∧ Y.2.2.2.2.2 0 = 9)) ∧ st = xv_r q :: xv_r k :: r ∧ M.1[k]? = some (xt_o ci fs) ∧ fs[j]? = some (some o) ∧ K pn loc r (M.1.set k (xt_o ci (fs.set j (some (some q)))), M.2.1, M.2.2) nc ns)) : xm_W1 p l e R s m args below meth c Q D cl ex A nL n0 ad0 ca0 pc loc st M nc ns := by
  obtain ⟨hx, hb, hml, hown, hts, hK, hA, ⟨hRc, hRs⟩, hT⟩ := F
  obtain ⟨hdec, hkc, hkl, hfo, hno, hob, hcp⟩ := O
  intro ad ca ls H locs hn hag hl hs hm
  obtain ⟨ix, ci, j, t, k, fs, q, w, r, pn, hi, hY, htt, rfl, hM, hf, h⟩ := h
  obtain ⟨ln, hd, hpn, hln⟩ := hdec pc _ hi
  dsimp only at hd hpn hln
  obtain rfl := xm_ln 2 hln rfl
  subst hpn
  have go : ∀ (ci j t k : Nat) (fs : List xm_F) (f : xm_F) (v : xm_V) (r : List xm_V), Y.2.2.1 ix = some (ci, j, t) → M.1[k]? = some (xt_o ci fs) → fs[j]? = some f →
      ((t = 0 ∧ ∃ x, v = xv_i x) ∨ (t = 3 ∧ ∃ x, v = xv_i x ∧ (x = 0 ∨ x = 1)) ∨ (t = 2 ∧ ∃ q, v = xv_r q) ∨ (t = 12 ∧ Y.2.2.2.2.2 0 = 9 ∧ ∃ q, v = xv_r q)) →
      (∀ (H1 : Heap) (locs1 : List Loc), va_P D cl ((xm_w ad ca M).set k (ad k, .inr (ci, (fs.mapIdx fun b f => xm_fw ad M.2.1 k b f).set j (xm_v ad ex v)))) H1 → va_D A ((xm_w ad ca M).set k (ad k, .inr (ci, (fs.mapIdx fun b f => xm_fw ad M.2.1 k b f).set j (xm_v ad ex v)))) → va_S A s.heap H1 locs1 → W p l e R s m args below meth c H1 locs1 nc ns Q (F0 m (pc + 3) ls (r.map (xm_v ad ex)))) →
      W p l e R s m args below meth c H locs nc ns Q (F0 m pc ls ((v :: xv_r k :: r).map (xm_v ad ex))) := by
    intro ci j t k fs f v r hY hM hf hv fin
    obtain ⟨C, T, N, ty, hc, hjN, hin, hty, hnm, hlk, htt⟩ := hfo ix _ j t hY
    have hjl : j < (fs.mapIdx fun b f => xm_fw ad M.2.1 k b f).length := by rw [List.length_mapIdx]; exact (List.getElem?_eq_some_iff.mp hf).1
    have put : narrow (ty j) (xm_v ad ex v) = xm_v ad ex v → fits (ty j) (xm_v ad ex v) = true → (T j).2.2.2 = false → W p l e R s m args below meth c H locs nc ns Q (F0 m pc ls ((v :: xv_r k :: r).map (xm_v ad ex))) := by
      intro hn1 hf1 hb2
      rcases hlk with hlk | ⟨host, hlk⟩
      · exact va_put hx hb hts hin ty hty hnm hown hK hm.2.1 hm.2.2.1 hm.2.2.2.1 k (xm_w_at hM) hc j hjN (hts _ hlk) (fun _ q => q) hb2 (hty j hjN) hn1 hf1 hjl hd fin
      · exact va_putN hx hb hts hin ty hty hnm hown hK hm.2.1 hm.2.2.1 hm.2.2.2.1 k (xm_w_at hM) hc j hjN (hts _ hlk) (fun _ q => q) hb2 (hty j hjN) hn1 hf1 hjl hd fin
    rcases hv with ⟨rfl, x, rfl⟩ | ⟨rfl, x, rfl, h01⟩ | ⟨rfl, q, rfl⟩ | ⟨rfl, h9, q, rfl⟩
    · rcases htt with ⟨-, e1, e2⟩ | ⟨ctr, -⟩ | ⟨ctr, -⟩ | ⟨ctr, -⟩ | ctr <;> try exact absurd ctr (by decide)
      exact put (by rw [e1]; rfl) (by rw [e1]; rfl) e2
    · rcases htt with ⟨ctr, -⟩ | ⟨-, e1, e2⟩ | ⟨ctr, -⟩ | ⟨ctr, -⟩ | ctr <;> try exact absurd ctr (by decide)
      exact put (by rw [e1]; rcases h01 with rfl | rfl <;> rfl) (by rw [e1]; rcases h01 with rfl | rfl <;> rfl) e2
    · rcases htt with ⟨ctr, -⟩ | ⟨ctr, -⟩ | ⟨-, ⟨n, e1⟩ | ⟨n, e1⟩, e2⟩ | ⟨ctr, -⟩ | ctr <;> try exact absurd ctr (by decide)
      · exact put (by rw [e1]; rfl) (by rw [e1]; rfl) e2
      · exact put (by rw [e1]; rfl) (by rw [e1]; rfl) e2
    · rcases htt with ⟨ctr, -⟩ | ⟨ctr, -⟩ | ⟨ctr, -⟩ | ⟨-, e1, hb2, h2, h3⟩ | ctr <;> try exact absurd ctr (by decide)
      have nf : narrow (ty j) (xm_v ad ex (xv_r q)) = xm_v ad ex (xv_r q) ∧ fits (ty j) (xm_v ad ex (xv_r q)) = true := by
        rcases e1 with ⟨n, e1⟩ | ⟨n, e1⟩ <;> rw [e1] <;> exact ⟨rfl, rfl⟩
      exact va_putF hx hb hts hin ty hty hnm hown hK hm.2.1 hm.2.2.1 hm.2.2.2.1 k (xm_w_at hM) hc j hjN (hts _ h3) (fun _ q => q) hb2 (hini h9) h2 (hty j hjN) nf.1 nf.2 hjl hd fin
  refine go ci j t k fs (some w) (xv_r q) r hY hM hf (htt.elim (fun e => Or.inr (Or.inr (Or.inl ⟨e, q, rfl⟩))) (fun e => Or.inr (Or.inr (Or.inr ⟨e.1, e.2, q, rfl⟩)))) ?_
  · intro H1 locs1 hP hD hS
    have hlt : k < M.1.length := (List.getElem?_eq_some_iff.mp hM).1
    have hq : q < M.1.length := (xm_hs_cons hs).1
    have eM : (M.1.set k (xt_o ci (fs.set j (some (some q)))))[k]? = some (xt_o ci (fs.set j (some (some q)))) := by rw [List.getElem?_set]; simp [hlt]
    have e9 := xm_w_set (ad := ad) (ca := ca) (M := M) (k := k) (T' := M.1.set k (xt_o ci (fs.set j (some (some q))))) (I' := M.2.1) (J' := M.2.2) eM (fun a ha => List.getElem?_set_ne (fun q => ha q.symm)) (List.length_set ..) (fun _ _ => rfl) (fun _ _ => rfl)
    have e8 : (Sum.inr (ci, (fs.mapIdx fun b f => xm_fw ad M.2.1 k b f).set j (.ref (ad q))) : va_E) = xm_e ad ca M.2.1 M.2.2 k (xt_o ci (fs.set j (some (some q)))) := by rw [xm_putr_e]; rfl
    have hP : va_P D cl ((xm_w ad ca M).set k (ad k, .inr (ci, (fs.mapIdx fun b f => xm_fw ad M.2.1 k b f).set j (.ref (ad q))))) H1 := hP
    have hD : va_D A ((xm_w ad ca M).set k (ad k, .inr (ci, (fs.mapIdx fun b f => xm_fw ad M.2.1 k b f).set j (.ref (ad q))))) := hD
    rw [e8, e9] at hP hD
    refine kk _ _ _ _ _ _ h ad ca ls H1 locs1 (by rw [List.length_set]; exact hn) hag (by rw [List.length_set]; exact hl) (by rw [List.length_set]; exact (xm_hs_cons (xm_hs_cons hs).2).2) ⟨?_, hP, hD, hS, ?_⟩
    · intro k' ci' fs' hk' z hz
      have hk' : (M.1.set k (xt_o ci (fs.set j (some (some q)))))[k']? = some (xt_o ci' fs') := hk'
      show z < (M.1.set k (xt_o ci (fs.set j (some (some q))))).length
      rw [List.length_set]
      by_cases hkk : k = k'
      · subst hkk
        rw [eM] at hk'
        have e7 := Option.some.inj hk'
        injection e7 with e7
        obtain ⟨-, rfl⟩ := Prod.mk.inj e7
        rcases List.mem_or_eq_of_mem_set hz with hz | hz
        · exact hm.1 k ci fs hM z hz
        · injection hz with hz
          injection hz with hz
          rw [hz]; exact hq
      · rw [List.getElem?_set_ne hkk] at hk'
        exact hm.1 k' ci' fs' hk' z hz
    · intro k' e' ty' hk' hty'
      have hk' : (M.1.set k (xt_o ci (fs.set j (some (some q)))))[k']? = some e' := hk'
      by_cases hkk : k = k'
      · subst hkk
        rw [eM] at hk'
        obtain rfl := Option.some.inj hk'
        cases hty'
      · rw [List.getElem?_set_ne hkk] at hk'
        exact hm.2.2.2.2 k' e' ty' hk' hty'
theorem xm_sndF (F : xm_fx own cc nL Ts ex xt C0 S0 p R s m args c D cl A) (O : xm_yok own cc Ts cl Y) (hini : Y.2.2.2.2.2 0 = 9 → meth.name = "<init>") (hRf : 1 ≤ R.frames) (hRl : 100 ≤ R.locals)
    (hoi : (Cond.instanceMethod objectInit).before args s = true ∧ (Cond.code objectInit ⟨#[0xb1]⟩ 1 none).before args s = true)
    (har : (Cond.arrayClass .int).before args s = true ∧ (Cond.arrayClass .long).before args s = true ∧ (Cond.arrayClass .boolean).before args s = true)
    (hcy : (Cond.native arraycopyName).before args s = true ∧ (Cond.static arraycopyName).before args s = true ∧ (Cond.initialized "java/lang/System").before args s = true)
    (hst : ∀ ix q, Y.2.2.2.2.1 ix = some q → ∃ (C n d : String), va_Z C n d (.ref (ex q)) A s s.heap ∧ (Cond.fieldLink own ix C n d).before args s = true)
    (hr : ∀ a1 a2 a3 a4 a5 a6, K a1 a2 a3 a4 a5 a6 → a5 ≤ C0 ∧ a6 ≤ S0)
    (kk : ∀ a1 a2 a3 a4 a5 a6, K a1 a2 a3 a4 a5 a6 → xm_W1 p l e R s m args below meth c Q D cl ex A nL n0 ad0 ca0 a1 a2 a3 a4 a5 a6) (h : xm_sF Y xt nL pc loc st M nc ns K) : xm_W1 p l e R s m args below meth c Q D cl ex A nL n0 ad0 ca0 pc loc st M nc ns := by
  unfold xm_sF at h
  rcases h with h | h | h | h | h
  · exact xm_snd_iast F O hini hRf hRl hoi har hcy hst hr kk h
  · exact xm_snd_bast F O hini hRf hRl hoi har hcy hst hr kk h
  · exact xm_snd_last F O hini hRf hRl hoi har hcy hst hr kk h
  · exact xm_snd_put F O hini hRf hRl hoi har hcy hst hr kk h
  · exact xm_snd_putr F O hini hRf hRl hoi har hcy hst hr kk h
theorem xm_exF (h : xm_sF Y xt nL pc loc st M nc ns K) : ∃ a1 a2 a3 a4 a5 a6, K a1 a2 a3 a4 a5 a6 ∧ nc ≤ a5 ∧ ns ≤ a6 := by
  unfold xm_sF at h
  rcases h with h | h | h | h | h
  · obtain ⟨_, _, _, _, _, _, _, _, _, _, h⟩ := h
    exact ⟨_, _, _, _, _, _, h, Nat.le_refl _, Nat.le_refl _⟩
  · obtain ⟨_, _, _, _, _, _, _, _, _, _, _, h⟩ := h
    exact ⟨_, _, _, _, _, _, h, Nat.le_refl _, Nat.le_refl _⟩
  · obtain ⟨_, _, _, _, _, _, _, _, _, _, h⟩ := h
    exact ⟨_, _, _, _, _, _, h, Nat.le_refl _, Nat.le_refl _⟩
  · obtain ⟨_, _, _, _, _, _, _, _, _, _, _, _, _, _, _, h⟩ := h
    exact ⟨_, _, _, _, _, _, h, Nat.le_refl _, Nat.le_refl _⟩
  · obtain ⟨_, _, _, _, _, _, _, _, _, _, _, _, _, _, _, _, h⟩ := h
    exact ⟨_, _, _, _, _, _, h, Nat.le_refl _, Nat.le_refl _⟩
end XSTEP
end
section
/-! Steps of the group G are true of the machine. -/
section XSTEP
variable {p : Program} {l : Launch} {e : Env} {R : Room} {s : State} {m : MethodId} {args : Array Value} {below : List Frame} {meth : Method} {c : Code} {Q : State → Prop} {D : va_G} {cl : List vw_C} {ex : Nat → Nat} {A : Nat → Prop} {nL n0 : Nat} {ad0 : Nat → Nat} {ca0 : Nat → ClassId}
variable {own : String} {cc : ByteArray} {Ts : List Cond} {xt : Nat → Nat × (Nat → Int32)} {C0 S0 : Nat} {Y : xm_Y} {K : xm_K} {pc : Nat} {loc : xm_L} {st : List xm_V} {M : xm_M} {nc ns : Nat}
set_option maxHeartbeats 2000000 in
theorem xm_snd_new (F : xm_fx own cc nL Ts ex xt C0 S0 p R s m args c D cl A) (O : xm_yok own cc Ts cl Y) (hini : Y.2.2.2.2.2 0 = 9 → meth.name = "<init>") (hRf : 1 ≤ R.frames) (hRl : 100 ≤ R.locals)
    (hoi : (Cond.instanceMethod objectInit).before args s = true ∧ (Cond.code objectInit ⟨#[0xb1]⟩ 1 none).before args s = true)
    (har : (Cond.arrayClass .int).before args s = true ∧ (Cond.arrayClass .long).before args s = true ∧ (Cond.arrayClass .boolean).before args s = true)
    (hcy : (Cond.native arraycopyName).before args s = true ∧ (Cond.static arraycopyName).before args s = true ∧ (Cond.initialized "java/lang/System").before args s = true)
    (hst : ∀ ix q, Y.2.2.2.2.1 ix = some q → ∃ (C n d : String), va_Z C n d (.ref (ex q)) A s s.heap ∧ (Cond.fieldLink own ix C n d).before args s = true)
    (hr : ∀ a1 a2 a3 a4 a5 a6, K a1 a2 a3 a4 a5 a6 → a5 ≤ C0 ∧ a6 ≤ S0)
    (kk : ∀ a1 a2 a3 a4 a5 a6, K a1 a2 a3 a4 a5 a6 → xm_W1 p l e R s m args below meth c Q D cl ex A nL n0 ad0 ca0 a1 a2 a3 a4 a5 a6) (h : (∃ (ix : Nat) (ci : Nat) (fs : List xm_F) (pn : Nat), Y.1 pc = some (.new ix, pn) ∧ Y.2.2.2.1 ix = some (ci, fs) ∧ K pn loc (xv_r M.1.length :: st) (M.1 ++ [xt_o ci fs], xz_2 M.2.1 M.1.length 0, M.2.2) (nc + 1) (ns + fs.length))) : xm_W1 p l e R s m args below meth c Q D cl ex A nL n0 ad0 ca0 pc loc st M nc ns := by
  obtain ⟨hx, hb, hml, hown, hts, hK, hA, ⟨hRc, hRs⟩, hT⟩ := F
  obtain ⟨hdec, hkc, hkl, hfo, hno, hob, hcp⟩ := O
  intro ad ca ls H locs hn hag hl hs hm
  obtain ⟨ix, ci, fs, pn, hi, hY, h⟩ := h
  obtain ⟨ln, hd, hpn, hln⟩ := hdec pc _ hi
  dsimp only at hd hpn hln
  obtain rfl := xm_ln 2 hln rfl
  subst hpn
  obtain ⟨hc1, hs1⟩ := hr _ _ _ _ _ _ h
  obtain ⟨C, T, N, ty, hc, hin, hty, hcl, hinst, hinit, hNl, hdef, hdv⟩ := hno ix ci fs hY
  subst hNl
  refine va_new hx hb hts hin ty hty hown (hts _ hcl) (hts _ hinst) (hts _ hinit) hK hm.2.1 hm.2.2.1 hm.2.2.2.1 hA hc (fs := fs.mapIdx fun j f => xm_fw ad (xz_2 M.2.1 M.1.length 0) M.1.length j f) (fun j hj => hdv j hj ad _ _ (fun b => by simp [xz_2])) (Nat.le_trans hc1 hRc) (Nat.le_trans hs1 hRs) hd (fun q H1 hP hD hS => ?_)
  have e1 : (fs.mapIdx fun j f => xm_fw ad (xz_2 M.2.1 M.1.length 0) M.1.length j f) = fs.mapIdx fun j f => xm_fw (va_up ad M.1.length q) (xz_2 M.2.1 M.1.length 0) M.1.length j f := xm_map_congr fun j f hf => by
    rcases hdef f (List.mem_of_getElem? hf) with rfl | rfl <;> rfl
  rw [← xm_st_up (q := q) hs]
  have he : (Sum.inr (ci, fs.mapIdx fun j f => xm_fw ad (xz_2 M.2.1 M.1.length 0) M.1.length j f) : va_E) = xm_e (va_up ad M.1.length q) ca (xz_2 M.2.1 M.1.length 0) M.2.2 M.1.length (xt_o ci fs) := by rw [e1]; rfl
  have hm2 := xm_push (t := xt_o ci fs) hm (fun _ _ => rfl) (fun a ha => xm_xz_k (x := (0 : Int32)) a ha) (fun _ _ => rfl) (fun ci' fs' e f hf => by injection e with e; obtain ⟨-, rfl⟩ := Prod.mk.inj e; exact hdef f hf) (fun _ q => by cases q) he hP hD hS
  have hw := kk _ _ _ _ _ _ h (va_up ad M.1.length q) ca ls H1 locs (by rw [List.length_append]; exact Nat.le_add_right_of_le hn) (fun k hk => ⟨by rw [← (hag k hk).1]; simp [va_up, Nat.ne_of_lt (Nat.lt_of_lt_of_le hk hn)], (hag k hk).2⟩) (by rw [List.length_append]; exact hl.up) (by rw [List.length_append]; exact xm_hs_push (Nat.lt_succ_self _) (xm_hs.up hs (Nat.le_succ _))) hm2
  have eq : xm_v (va_up ad M.1.length q) ex (xv_r M.1.length) = .ref q := by show Value.ref _ = _; simp [va_up]
  rw [List.map_cons, eq] at hw
  exact hw
set_option maxHeartbeats 2000000 in
theorem xm_snd_newa0 (F : xm_fx own cc nL Ts ex xt C0 S0 p R s m args c D cl A) (O : xm_yok own cc Ts cl Y) (hini : Y.2.2.2.2.2 0 = 9 → meth.name = "<init>") (hRf : 1 ≤ R.frames) (hRl : 100 ≤ R.locals)
    (hoi : (Cond.instanceMethod objectInit).before args s = true ∧ (Cond.code objectInit ⟨#[0xb1]⟩ 1 none).before args s = true)
    (har : (Cond.arrayClass .int).before args s = true ∧ (Cond.arrayClass .long).before args s = true ∧ (Cond.arrayClass .boolean).before args s = true)
    (hcy : (Cond.native arraycopyName).before args s = true ∧ (Cond.static arraycopyName).before args s = true ∧ (Cond.initialized "java/lang/System").before args s = true)
    (hst : ∀ ix q, Y.2.2.2.2.1 ix = some q → ∃ (C n d : String), va_Z C n d (.ref (ex q)) A s s.heap ∧ (Cond.fieldLink own ix C n d).before args s = true)
    (hr : ∀ a1 a2 a3 a4 a5 a6, K a1 a2 a3 a4 a5 a6 → a5 ≤ C0 ∧ a6 ≤ S0)
    (kk : ∀ a1 a2 a3 a4 a5 a6, K a1 a2 a3 a4 a5 a6 → xm_W1 p l e R s m args below meth c Q D cl ex A nL n0 ad0 ca0 a1 a2 a3 a4 a5 a6) (h : (∃ (n : Int32) (N : Nat) (r : List xm_V) (pn : Nat), Y.1 pc = some (.newarray .int, pn) ∧ st = xv_i n :: r ∧ ¬ n < 0 ∧ n.toNatClampNeg = N ∧ N ≤ 67108864 ∧ K pn loc (xv_r M.1.length :: r) (M.1 ++ [xt_r 0 N], xz_2 M.2.1 M.1.length 0, xz_2 M.2.2 M.1.length 0) (nc + 1) (ns + N))) : xm_W1 p l e R s m args below meth c Q D cl ex A nL n0 ad0 ca0 pc loc st M nc ns := by
  obtain ⟨hx, hb, hml, hown, hts, hK, hA, ⟨hRc, hRs⟩, hT⟩ := F
  obtain ⟨hdec, hkc, hkl, hfo, hno, hob, hcp⟩ := O
  intro ad ca ls H locs hn hag hl hs hm
  obtain ⟨n, N, r, pn, hi, rfl, hn0, hN, hN2, h⟩ := h
  obtain ⟨ln, hd, hpn, hln⟩ := hdec pc _ hi
  dsimp only at hd hpn hln
  obtain rfl := xm_ln 1 hln rfl
  subst hpn
  obtain ⟨hc1, hs1⟩ := hr _ _ _ _ _ _ h
  refine va_newa (atype := .int) hx hb (show (Cond.arrayClass (newarray.typeOf .int)).before args s = true from har.1) (ty := .int) rfl hK hm.2.1 hm.2.2.1 hm.2.2.2.1 hA (a0 := (N, Sum.inl fun _ => 0)) (fun cA => rfl) hn0 hN (by show N * 4 ≤ 536870912; omega) (Nat.le_trans hc1 hRc) (Nat.le_trans hs1 hRs) hd (fun q cA H1 hK1 hP hD hS => ?_)
  rw [← xm_st_up (q := q) (xm_hs_cons hs).2]
  have e0 : va_up ca M.1.length cA M.1.length = cA := by simp [va_up]
  have he : (Sum.inl (cA, N, Sum.inl fun _ => 0) : va_E) = Sum.inl (va_up ca M.1.length cA M.1.length, N, Sum.inl (xz_2 M.2.1 M.1.length 0 M.1.length)) := by rw [e0, xm_ez]
  have hm2 := xm_push (t := xt_r 0 N) (I' := xz_2 M.2.1 M.1.length 0) (J' := xz_2 M.2.2 M.1.length 0) (ca' := va_up ca M.1.length cA) hm (fun k hk => by simp [va_up, Nat.ne_of_lt hk]) (fun a ha => xm_xz_k a ha) (fun a ha => xm_xz_k a ha) (fun ci' fs' e => by cases e) (fun ty' e => by have e := Option.some.inj e; subst e; rw [e0]; exact hK1.2 0 (cA, .int) rfl) he hP hD hS
  have hw := kk _ _ _ _ _ _ h (va_up ad M.1.length q) (va_up ca M.1.length cA) ls H1 locs (by rw [List.length_append]; exact Nat.le_add_right_of_le hn) (fun k hk => ⟨by rw [← (hag k hk).1]; simp [va_up, Nat.ne_of_lt (Nat.lt_of_lt_of_le hk hn)], by rw [← (hag k hk).2]; simp [va_up, Nat.ne_of_lt (Nat.lt_of_lt_of_le hk hn)]⟩) (by rw [List.length_append]; exact hl.up) (by rw [List.length_append]; exact xm_hs_push (Nat.lt_succ_self _) (xm_hs.up (xm_hs_cons hs).2 (Nat.le_succ _))) hm2
  have eq : xm_v (va_up ad M.1.length q) ex (xv_r M.1.length) = .ref q := by show Value.ref _ = _; simp [va_up]
  rw [List.map_cons, eq] at hw
  exact hw
set_option maxHeartbeats 2000000 in
theorem xm_snd_newa1 (F : xm_fx own cc nL Ts ex xt C0 S0 p R s m args c D cl A) (O : xm_yok own cc Ts cl Y) (hini : Y.2.2.2.2.2 0 = 9 → meth.name = "<init>") (hRf : 1 ≤ R.frames) (hRl : 100 ≤ R.locals)
    (hoi : (Cond.instanceMethod objectInit).before args s = true ∧ (Cond.code objectInit ⟨#[0xb1]⟩ 1 none).before args s = true)
    (har : (Cond.arrayClass .int).before args s = true ∧ (Cond.arrayClass .long).before args s = true ∧ (Cond.arrayClass .boolean).before args s = true)
    (hcy : (Cond.native arraycopyName).before args s = true ∧ (Cond.static arraycopyName).before args s = true ∧ (Cond.initialized "java/lang/System").before args s = true)
    (hst : ∀ ix q, Y.2.2.2.2.1 ix = some q → ∃ (C n d : String), va_Z C n d (.ref (ex q)) A s s.heap ∧ (Cond.fieldLink own ix C n d).before args s = true)
    (hr : ∀ a1 a2 a3 a4 a5 a6, K a1 a2 a3 a4 a5 a6 → a5 ≤ C0 ∧ a6 ≤ S0)
    (kk : ∀ a1 a2 a3 a4 a5 a6, K a1 a2 a3 a4 a5 a6 → xm_W1 p l e R s m args below meth c Q D cl ex A nL n0 ad0 ca0 a1 a2 a3 a4 a5 a6) (h : (∃ (n : Int32) (N : Nat) (r : List xm_V) (pn : Nat), Y.1 pc = some (.newarray .long, pn) ∧ st = xv_i n :: r ∧ ¬ n < 0 ∧ n.toNatClampNeg = N ∧ N ≤ 67108864 ∧ K pn loc (xv_r M.1.length :: r) (M.1 ++ [xt_r 1 N], xz_2 M.2.1 M.1.length 0, xz_2 M.2.2 M.1.length 0) (nc + 1) (ns + N))) : xm_W1 p l e R s m args below meth c Q D cl ex A nL n0 ad0 ca0 pc loc st M nc ns := by
  obtain ⟨hx, hb, hml, hown, hts, hK, hA, ⟨hRc, hRs⟩, hT⟩ := F
  obtain ⟨hdec, hkc, hkl, hfo, hno, hob, hcp⟩ := O
  intro ad ca ls H locs hn hag hl hs hm
  obtain ⟨n, N, r, pn, hi, rfl, hn0, hN, hN2, h⟩ := h
  obtain ⟨ln, hd, hpn, hln⟩ := hdec pc _ hi
  dsimp only at hd hpn hln
  obtain rfl := xm_ln 1 hln rfl
  subst hpn
  obtain ⟨hc1, hs1⟩ := hr _ _ _ _ _ _ h
  refine va_newa (atype := .long) hx hb (show (Cond.arrayClass (newarray.typeOf .long)).before args s = true from har.2.1) (ty := .long) rfl hK hm.2.1 hm.2.2.1 hm.2.2.2.1 hA (a0 := (N, Sum.inr (Sum.inl fun _ => 0))) (fun cA => rfl) hn0 hN (by show N * 8 ≤ 536870912; omega) (Nat.le_trans hc1 hRc) (Nat.le_trans hs1 hRs) hd (fun q cA H1 hK1 hP hD hS => ?_)
  rw [← xm_st_up (q := q) (xm_hs_cons hs).2]
  have e0 : va_up ca M.1.length cA M.1.length = cA := by simp [va_up]
  have he : (Sum.inl (cA, N, Sum.inr (Sum.inl fun _ => 0)) : va_E) = Sum.inl (va_up ca M.1.length cA M.1.length, N, Sum.inr (Sum.inl (xz_2 M.2.2 M.1.length 0 M.1.length))) := by rw [e0, xm_ez]
  have hm2 := xm_push (t := xt_r 1 N) (I' := xz_2 M.2.1 M.1.length 0) (J' := xz_2 M.2.2 M.1.length 0) (ca' := va_up ca M.1.length cA) hm (fun k hk => by simp [va_up, Nat.ne_of_lt hk]) (fun a ha => xm_xz_k a ha) (fun a ha => xm_xz_k a ha) (fun ci' fs' e => by cases e) (fun ty' e => by have e := Option.some.inj e; subst e; rw [e0]; exact hK1.2 0 (cA, .long) rfl) he hP hD hS
  have hw := kk _ _ _ _ _ _ h (va_up ad M.1.length q) (va_up ca M.1.length cA) ls H1 locs (by rw [List.length_append]; exact Nat.le_add_right_of_le hn) (fun k hk => ⟨by rw [← (hag k hk).1]; simp [va_up, Nat.ne_of_lt (Nat.lt_of_lt_of_le hk hn)], by rw [← (hag k hk).2]; simp [va_up, Nat.ne_of_lt (Nat.lt_of_lt_of_le hk hn)]⟩) (by rw [List.length_append]; exact hl.up) (by rw [List.length_append]; exact xm_hs_push (Nat.lt_succ_self _) (xm_hs.up (xm_hs_cons hs).2 (Nat.le_succ _))) hm2
  have eq : xm_v (va_up ad M.1.length q) ex (xv_r M.1.length) = .ref q := by show Value.ref _ = _; simp [va_up]
  rw [List.map_cons, eq] at hw
  exact hw
set_option maxHeartbeats 2000000 in
theorem xm_snd_newa2 (F : xm_fx own cc nL Ts ex xt C0 S0 p R s m args c D cl A) (O : xm_yok own cc Ts cl Y) (hini : Y.2.2.2.2.2 0 = 9 → meth.name = "<init>") (hRf : 1 ≤ R.frames) (hRl : 100 ≤ R.locals)
    (hoi : (Cond.instanceMethod objectInit).before args s = true ∧ (Cond.code objectInit ⟨#[0xb1]⟩ 1 none).before args s = true)
    (har : (Cond.arrayClass .int).before args s = true ∧ (Cond.arrayClass .long).before args s = true ∧ (Cond.arrayClass .boolean).before args s = true)
    (hcy : (Cond.native arraycopyName).before args s = true ∧ (Cond.static arraycopyName).before args s = true ∧ (Cond.initialized "java/lang/System").before args s = true)
    (hst : ∀ ix q, Y.2.2.2.2.1 ix = some q → ∃ (C n d : String), va_Z C n d (.ref (ex q)) A s s.heap ∧ (Cond.fieldLink own ix C n d).before args s = true)
    (hr : ∀ a1 a2 a3 a4 a5 a6, K a1 a2 a3 a4 a5 a6 → a5 ≤ C0 ∧ a6 ≤ S0)
    (kk : ∀ a1 a2 a3 a4 a5 a6, K a1 a2 a3 a4 a5 a6 → xm_W1 p l e R s m args below meth c Q D cl ex A nL n0 ad0 ca0 a1 a2 a3 a4 a5 a6) (h : (∃ (n : Int32) (N : Nat) (r : List xm_V) (pn : Nat), Y.1 pc = some (.newarray .boolean, pn) ∧ st = xv_i n :: r ∧ ¬ n < 0 ∧ n.toNatClampNeg = N ∧ N ≤ 67108864 ∧ K pn loc (xv_r M.1.length :: r) (M.1 ++ [xt_r 2 N], xz_2 M.2.1 M.1.length 0, xz_2 M.2.2 M.1.length 0) (nc + 1) (ns + N))) : xm_W1 p l e R s m args below meth c Q D cl ex A nL n0 ad0 ca0 pc loc st M nc ns := by
  obtain ⟨hx, hb, hml, hown, hts, hK, hA, ⟨hRc, hRs⟩, hT⟩ := F
  obtain ⟨hdec, hkc, hkl, hfo, hno, hob, hcp⟩ := O
  intro ad ca ls H locs hn hag hl hs hm
  obtain ⟨n, N, r, pn, hi, rfl, hn0, hN, hN2, h⟩ := h
  obtain ⟨ln, hd, hpn, hln⟩ := hdec pc _ hi
  dsimp only at hd hpn hln
  obtain rfl := xm_ln 1 hln rfl
  subst hpn
  obtain ⟨hc1, hs1⟩ := hr _ _ _ _ _ _ h
  refine va_newa (atype := .boolean) hx hb (show (Cond.arrayClass (newarray.typeOf .boolean)).before args s = true from har.2.2) (ty := .boolean) rfl hK hm.2.1 hm.2.2.1 hm.2.2.2.1 hA (a0 := (N, Sum.inl fun _ => 0)) (fun cA => rfl) hn0 hN (by show N * 1 ≤ 536870912; omega) (Nat.le_trans hc1 hRc) (Nat.le_trans hs1 hRs) hd (fun q cA H1 hK1 hP hD hS => ?_)
  rw [← xm_st_up (q := q) (xm_hs_cons hs).2]
  have e0 : va_up ca M.1.length cA M.1.length = cA := by simp [va_up]
  have he : (Sum.inl (cA, N, Sum.inl fun _ => 0) : va_E) = Sum.inl (va_up ca M.1.length cA M.1.length, N, Sum.inl (xz_2 M.2.1 M.1.length 0 M.1.length)) := by rw [e0, xm_ez]
  have hm2 := xm_push (t := xt_r 2 N) (I' := xz_2 M.2.1 M.1.length 0) (J' := xz_2 M.2.2 M.1.length 0) (ca' := va_up ca M.1.length cA) hm (fun k hk => by simp [va_up, Nat.ne_of_lt hk]) (fun a ha => xm_xz_k a ha) (fun a ha => xm_xz_k a ha) (fun ci' fs' e => by cases e) (fun ty' e => by have e := Option.some.inj e; subst e; rw [e0]; exact hK1.2 0 (cA, .boolean) rfl) he hP hD hS
  have hw := kk _ _ _ _ _ _ h (va_up ad M.1.length q) (va_up ca M.1.length cA) ls H1 locs (by rw [List.length_append]; exact Nat.le_add_right_of_le hn) (fun k hk => ⟨by rw [← (hag k hk).1]; simp [va_up, Nat.ne_of_lt (Nat.lt_of_lt_of_le hk hn)], by rw [← (hag k hk).2]; simp [va_up, Nat.ne_of_lt (Nat.lt_of_lt_of_le hk hn)]⟩) (by rw [List.length_append]; exact hl.up) (by rw [List.length_append]; exact xm_hs_push (Nat.lt_succ_self _) (xm_hs.up (xm_hs_cons hs).2 (Nat.le_succ _))) hm2
  have eq : xm_v (va_up ad M.1.length q) ex (xv_r M.1.length) = .ref q := by show Value.ref _ = _; simp [va_up]
  rw [List.map_cons, eq] at hw
  exact hw
set_option maxHeartbeats 2000000 in
theorem xm_snd_obj (F : xm_fx own cc nL Ts ex xt C0 S0 p R s m args c D cl A) (O : xm_yok own cc Ts cl Y) (hini : Y.2.2.2.2.2 0 = 9 → meth.name = "<init>") (hRf : 1 ≤ R.frames) (hRl : 100 ≤ R.locals)
    (hoi : (Cond.instanceMethod objectInit).before args s = true ∧ (Cond.code objectInit ⟨#[0xb1]⟩ 1 none).before args s = true)
    (har : (Cond.arrayClass .int).before args s = true ∧ (Cond.arrayClass .long).before args s = true ∧ (Cond.arrayClass .boolean).before args s = true)
    (hcy : (Cond.native arraycopyName).before args s = true ∧ (Cond.static arraycopyName).before args s = true ∧ (Cond.initialized "java/lang/System").before args s = true)
    (hst : ∀ ix q, Y.2.2.2.2.1 ix = some q → ∃ (C n d : String), va_Z C n d (.ref (ex q)) A s s.heap ∧ (Cond.fieldLink own ix C n d).before args s = true)
    (hr : ∀ a1 a2 a3 a4 a5 a6, K a1 a2 a3 a4 a5 a6 → a5 ≤ C0 ∧ a6 ≤ S0)
    (kk : ∀ a1 a2 a3 a4 a5 a6, K a1 a2 a3 a4 a5 a6 → xm_W1 p l e R s m args below meth c Q D cl ex A nL n0 ad0 ca0 a1 a2 a3 a4 a5 a6) (h : (∃ (ix : Nat) (k : Nat) (r : List xm_V) (pn : Nat), Y.1 pc = some (.invokespecial ix, pn) ∧ Y.2.2.2.2.2 ix = 2 ∧ st = xv_r k :: r ∧ xm_c8 r = true ∧ K pn loc r M nc ns)) : xm_W1 p l e R s m args below meth c Q D cl ex A nL n0 ad0 ca0 pc loc st M nc ns := by
  obtain ⟨hx, hb, hml, hown, hts, hK, hA, ⟨hRc, hRs⟩, hT⟩ := F
  obtain ⟨hdec, hkc, hkl, hfo, hno, hob, hcp⟩ := O
  intro ad ca ls H locs hn hag hl hs hm
  obtain ⟨ix, k, r, pn, hi, hx2, rfl, h8, h⟩ := h
  obtain ⟨ln, hd, hpn, hln⟩ := hdec pc _ hi
  dsimp only at hd hpn hln
  obtain rfl := xm_ln 2 hln rfl
  subst hpn
  have h9 := xm_sum8 (ad := ad) (ex := ex) h8
  exact W.objInit hx hb hown (hts _ (hob ix hx2)) hoi.1 hoi.2 (g := F0 m pc ls ((xv_r k :: r).map (xm_v ad ex))) rfl (hl.1.1.trans hml.symm) rfl hd hRf (by show 2 * 0 + _ + 12 ≤ _; omega) (kk _ _ _ _ _ _ h ad ca ls H locs hn hag hl (xm_hs_cons hs).2 hm)
set_option maxHeartbeats 2000000 in
theorem xm_snd_copy (F : xm_fx own cc nL Ts ex xt C0 S0 p R s m args c D cl A) (O : xm_yok own cc Ts cl Y) (hini : Y.2.2.2.2.2 0 = 9 → meth.name = "<init>") (hRf : 1 ≤ R.frames) (hRl : 100 ≤ R.locals)
    (hoi : (Cond.instanceMethod objectInit).before args s = true ∧ (Cond.code objectInit ⟨#[0xb1]⟩ 1 none).before args s = true)
    (har : (Cond.arrayClass .int).before args s = true ∧ (Cond.arrayClass .long).before args s = true ∧ (Cond.arrayClass .boolean).before args s = true)
    (hcy : (Cond.native arraycopyName).before args s = true ∧ (Cond.static arraycopyName).before args s = true ∧ (Cond.initialized "java/lang/System").before args s = true)
    (hst : ∀ ix q, Y.2.2.2.2.1 ix = some q → ∃ (C n d : String), va_Z C n d (.ref (ex q)) A s s.heap ∧ (Cond.fieldLink own ix C n d).before args s = true)
    (hr : ∀ a1 a2 a3 a4 a5 a6, K a1 a2 a3 a4 a5 a6 → a5 ≤ C0 ∧ a6 ≤ S0)
    (kk : ∀ a1 a2 a3 a4 a5 a6, K a1 a2 a3 a4 a5 a6 → xm_W1 p l e R s m args below meth c Q D cl ex A nL n0 ad0 ca0 a1 a2 a3 a4 a5 a6) (h : (∃ (ix : Nat) (n : Int32) (dp : Int32) (sp : Int32) (kd : Nat) (ks : Nat) (nd : Nat) (n0 : Nat) (r : List xm_V) (pn : Nat), Y.1 pc = some (.invokestatic ix, pn) ∧ Y.2.2.2.2.2 ix = 1 ∧ st = xv_i n :: xv_i dp :: xv_r kd :: xv_i sp :: xv_r ks :: r ∧ M.1[ks]? = some (xt_r 1 n0) ∧ M.1[kd]? = some (xt_r 1 nd) ∧ ¬ sp < 0 ∧ ¬ dp < 0 ∧ ¬ n < 0 ∧ sp.toNatClampNeg + n.toNatClampNeg ≤ n0 ∧ dp.toNatClampNeg + n.toNatClampNeg ≤ nd ∧ ks ≠ kd ∧ xm_c8 r = true ∧ K pn loc r (M.1, M.2.1, xc_y M.2.2 kd (va_cpy (M.2.2 ks) (M.2.2 kd) sp.toNatClampNeg dp.toNatClampNeg n.toNatClampNeg)) nc ns)) : xm_W1 p l e R s m args below meth c Q D cl ex A nL n0 ad0 ca0 pc loc st M nc ns := by
  obtain ⟨hx, hb, hml, hown, hts, hK, hA, ⟨hRc, hRs⟩, hT⟩ := F
  obtain ⟨hdec, hkc, hkl, hfo, hno, hob, hcp⟩ := O
  intro ad ca ls H locs hn hag hl hs hm
  obtain ⟨ix, n, dp, sp, kd, ks, nd, n1, r, pn, hi, hx1, rfl, hM0, hM1, h1, h2, h3, h4, h5, hkk, h8, h⟩ := h
  obtain ⟨ln, hd, hpn, hln⟩ := hdec pc _ hi
  dsimp only at hd hpn hln
  obtain rfl := xm_ln 2 hln rfl
  subst hpn
  have h9 := xm_sum8 (ad := ad) (ex := ex) h8
  have h10 : nativeFrameWords "java/lang/System" "arraycopy" 5 ≤ 60 := by decide
  refine va_copyl hx hb (hml.trans hl.1.1.symm) hown (hts _ (hcp ix hx1)) hcy.1 hcy.2.1 hcy.2.2 (xm_K2 hK (hm.2.2.2.2 ks _ .long hM0 rfl) (hm.2.2.2.2 kd _ .long hM1 rfl)) hm.2.1 hm.2.2.1 hm.2.2.2.1 ks kd 0 1 (xm_w_at hM0) (xm_w_at hM1) rfl rfl rfl h1 h2 h3 h4 h5 (fun i _ => rfl) hRf (by omega) hd (fun H1 locs1 hP hD hS => ?_)
  have he : (Sum.inl (ca kd, nd, Sum.inr (Sum.inl (va_cpy (M.2.2 ks) (M.2.2 kd) sp.toNatClampNeg dp.toNatClampNeg n.toNatClampNeg))) : va_E) = Sum.inl (ca kd, nd, Sum.inr (Sum.inl (xc_y M.2.2 kd (va_cpy (M.2.2 ks) (M.2.2 kd) sp.toNatClampNeg dp.toNatClampNeg n.toNatClampNeg) kd))) := by rw [xm_ec]
  exact kk _ _ _ _ _ _ h ad ca ls H1 locs1 hn hag hl (xm_hs_cons (xm_hs_cons (xm_hs_cons (xm_hs_cons (xm_hs_cons hs).2).2).2).2).2 (hm.store hM1 (fun _ _ => rfl) xm_xc_k he hP hD hS)
theorem xm_sndG (F : xm_fx own cc nL Ts ex xt C0 S0 p R s m args c D cl A) (O : xm_yok own cc Ts cl Y) (hini : Y.2.2.2.2.2 0 = 9 → meth.name = "<init>") (hRf : 1 ≤ R.frames) (hRl : 100 ≤ R.locals)
    (hoi : (Cond.instanceMethod objectInit).before args s = true ∧ (Cond.code objectInit ⟨#[0xb1]⟩ 1 none).before args s = true)
    (har : (Cond.arrayClass .int).before args s = true ∧ (Cond.arrayClass .long).before args s = true ∧ (Cond.arrayClass .boolean).before args s = true)
    (hcy : (Cond.native arraycopyName).before args s = true ∧ (Cond.static arraycopyName).before args s = true ∧ (Cond.initialized "java/lang/System").before args s = true)
    (hst : ∀ ix q, Y.2.2.2.2.1 ix = some q → ∃ (C n d : String), va_Z C n d (.ref (ex q)) A s s.heap ∧ (Cond.fieldLink own ix C n d).before args s = true)
    (hr : ∀ a1 a2 a3 a4 a5 a6, K a1 a2 a3 a4 a5 a6 → a5 ≤ C0 ∧ a6 ≤ S0)
    (kk : ∀ a1 a2 a3 a4 a5 a6, K a1 a2 a3 a4 a5 a6 → xm_W1 p l e R s m args below meth c Q D cl ex A nL n0 ad0 ca0 a1 a2 a3 a4 a5 a6) (h : xm_sG Y xt nL pc loc st M nc ns K) : xm_W1 p l e R s m args below meth c Q D cl ex A nL n0 ad0 ca0 pc loc st M nc ns := by
  unfold xm_sG at h
  rcases h with h | h | h | h | h | h
  · exact xm_snd_new F O hini hRf hRl hoi har hcy hst hr kk h
  · exact xm_snd_newa0 F O hini hRf hRl hoi har hcy hst hr kk h
  · exact xm_snd_newa1 F O hini hRf hRl hoi har hcy hst hr kk h
  · exact xm_snd_newa2 F O hini hRf hRl hoi har hcy hst hr kk h
  · exact xm_snd_obj F O hini hRf hRl hoi har hcy hst hr kk h
  · exact xm_snd_copy F O hini hRf hRl hoi har hcy hst hr kk h
theorem xm_exG (h : xm_sG Y xt nL pc loc st M nc ns K) : ∃ a1 a2 a3 a4 a5 a6, K a1 a2 a3 a4 a5 a6 ∧ nc ≤ a5 ∧ ns ≤ a6 := by
  unfold xm_sG at h
  rcases h with h | h | h | h | h | h
  · obtain ⟨_, _, _, _, _, _, h⟩ := h
    exact ⟨_, _, _, _, _, _, h, Nat.le_add_right _ _, Nat.le_add_right _ _⟩
  · obtain ⟨_, _, _, _, _, _, _, _, _, h⟩ := h
    exact ⟨_, _, _, _, _, _, h, Nat.le_add_right _ _, Nat.le_add_right _ _⟩
  · obtain ⟨_, _, _, _, _, _, _, _, _, h⟩ := h
    exact ⟨_, _, _, _, _, _, h, Nat.le_add_right _ _, Nat.le_add_right _ _⟩
  · obtain ⟨_, _, _, _, _, _, _, _, _, h⟩ := h
    exact ⟨_, _, _, _, _, _, h, Nat.le_add_right _ _, Nat.le_add_right _ _⟩
  · obtain ⟨_, _, _, _, _, _, _, _, h⟩ := h
    exact ⟨_, _, _, _, _, _, h, Nat.le_refl _, Nat.le_refl _⟩
  · obtain ⟨_, _, _, _, _, _, _, _, _, _, _, _, _, _, _, _, _, _, _, _, _, _, h⟩ := h
    exact ⟨_, _, _, _, _, _, h, Nat.le_refl _, Nat.le_refl _⟩
end XSTEP
end
section
/-! All steps. -/
section XSTEP
variable {p : Program} {l : Launch} {e : Env} {R : Room} {s : State} {m : MethodId} {args : Array Value} {below : List Frame} {meth : Method} {c : Code} {Q : State → Prop} {D : va_G} {cl : List vw_C} {ex : Nat → Nat} {A : Nat → Prop} {nL n0 : Nat} {ad0 : Nat → Nat} {ca0 : Nat → ClassId}
variable {own : String} {cc : ByteArray} {Ts : List Cond} {xt : Nat → Nat × (Nat → Int32)} {C0 S0 : Nat} {Y : xm_Y} {K : xm_K} {pc : Nat} {loc : xm_L} {st : List xm_V} {M : xm_M} {nc ns : Nat}
theorem xm_sound (F : xm_fx own cc nL Ts ex xt C0 S0 p R s m args c D cl A) (O : xm_yok own cc Ts cl Y) (hini : Y.2.2.2.2.2 0 = 9 → meth.name = "<init>") (hRf : 1 ≤ R.frames) (hRl : 100 ≤ R.locals)
    (hoi : (Cond.instanceMethod objectInit).before args s = true ∧ (Cond.code objectInit ⟨#[0xb1]⟩ 1 none).before args s = true)
    (har : (Cond.arrayClass .int).before args s = true ∧ (Cond.arrayClass .long).before args s = true ∧ (Cond.arrayClass .boolean).before args s = true)
    (hcy : (Cond.native arraycopyName).before args s = true ∧ (Cond.static arraycopyName).before args s = true ∧ (Cond.initialized "java/lang/System").before args s = true)
    (hst : ∀ ix q, Y.2.2.2.2.1 ix = some q → ∃ (C n d : String), va_Z C n d (.ref (ex q)) A s s.heap ∧ (Cond.fieldLink own ix C n d).before args s = true)
    (hr : ∀ a1 a2 a3 a4 a5 a6, K a1 a2 a3 a4 a5 a6 → a5 ≤ C0 ∧ a6 ≤ S0)
    (kk : ∀ a1 a2 a3 a4 a5 a6, K a1 a2 a3 a4 a5 a6 → xm_W1 p l e R s m args below meth c Q D cl ex A nL n0 ad0 ca0 a1 a2 a3 a4 a5 a6) (h : xm_s1 Y xt nL pc loc st M nc ns K) : xm_W1 p l e R s m args below meth c Q D cl ex A nL n0 ad0 ca0 pc loc st M nc ns := by
  unfold xm_s1 at h
  rcases h with h | h | h | h | h | h | h
  · exact xm_sndA F O hini hRf hRl hoi har hcy hst hr kk h
  · exact xm_sndB F O hini hRf hRl hoi har hcy hst hr kk h
  · exact xm_sndC F O hini hRf hRl hoi har hcy hst hr kk h
  · exact xm_sndD F O hini hRf hRl hoi har hcy hst hr kk h
  · exact xm_sndE F O hini hRf hRl hoi har hcy hst hr kk h
  · exact xm_sndF F O hini hRf hRl hoi har hcy hst hr kk h
  · exact xm_sndG F O hini hRf hRl hoi har hcy hst hr kk h
theorem xm_s1_ex (h : xm_s1 Y xt nL pc loc st M nc ns K) : ∃ a1 a2 a3 a4 a5 a6, K a1 a2 a3 a4 a5 a6 ∧ nc ≤ a5 ∧ ns ≤ a6 := by
  unfold xm_s1 at h
  rcases h with h | h | h | h | h | h | h
  · exact xm_exA h
  · exact xm_exB h
  · exact xm_exC h
  · exact xm_exD h
  · exact xm_exE h
  · exact xm_exF h
  · exact xm_exG h
end XSTEP
end
section
/-! A run of the abstract machine is a run of the machine: step, call, return. -/
-- what the methods are to the machine: names, bytes, answers; the words that all have
abbrev xm_N : Type := (Nat → MethodName) × (Nat → ByteArray) × (Nat → Option FieldType) × List Cond
def xm_rm (d C0 S0 : Nat) : Room := { frames := d + 1, cells := C0, slots := S0, locals := 200 * (d + 1) }
def xm_ws (P : xm_Pr) (N : xm_N) (y : Nat) : List Cond := Cond.code (N.1 y) (N.2.1 y) (P.2.1 y) (N.2.2.1 y) :: N.2.2.2
def xm_rt (k : Nat) (t : Option FieldType) : Prop := (k = 0 ∧ t = none) ∨ (k = 1 ∧ t = some .int) ∨ (k = 2 ∧ t = some .long) ∨ (k = 3 ∧ ((∃ n, t = some (.object n)) ∨ ∃ a, t = some (.array a))) ∨ (k = 4 ∧ t = some .boolean)
abbrev xm_A (h0 : Nat) : Nat → Prop := fun q => h0 ≤ q
abbrev xm_Z : Type := String × String × String
-- the world at a state
def xm_wd (D : va_G) (cl : List vw_C) (ex : Nat → Nat) (xt : Nat → Nat × (Nat → Int32)) (h0 : Nat) (z : xm_Z) (U : State) (H : Heap) (M : xm_M) (ad : Nat → Nat) (ca : Nat → ClassId) : Prop :=
  h0 ≤ H.size ∧ xm_scM M.1 ∧ va_P D cl (xm_w ad ca M) H ∧ va_D (xm_A h0) (xm_w ad ca M) ∧ va_K D cl [] U ∧ xm_ka ca M.1 U ∧ (∀ k, va_T .int (ex k) (xt k).1 (fun j => .int ((xt k).2 j)) (xm_A h0) U H) ∧ va_Z z.1 z.2.1 z.2.2 (.ref (ex 1)) (xm_A h0) U H
theorem xm_wd.moved {D : va_G} {cl : List vw_C} {ex : Nat → Nat} {xt : Nat → Nat × (Nat → Int32)} {h0 : Nat} {z : xm_Z} {u U : State} {H : Heap} {M : xm_M} {ad : Nat → Nat} {ca : Nat → ClassId} (hvm : u.vm.Alike U.vm) (h : xm_wd D cl ex xt h0 z u H M ad ca) : xm_wd D cl ex xt h0 z U H M ad ca := by
  obtain ⟨h1, h2, h3, h4, h5, h6, h7, h8⟩ := h
  exact ⟨h1, h2, h3, h4, va_K.moved hvm h5, fun k e ty a b => ⟨arrOfT_moved hvm (h6 k e ty a b).1, (h6 k e ty a b).2.moved hvm⟩, fun k => (h7 k).moved hvm, h8.moved hvm⟩
-- a method's end
def xm_Qc (D : va_G) (cl : List vw_C) (ex : Nat → Nat) (xt : Nat → Nat × (Nat → Int32)) (h0 : Nat) (z : xm_Z) (Q : xm_P) (n0 : Nat) (ad0 : Nat → Nat) (ca0 : Nat → ClassId) : Array Value → State → Outcome → State → Prop := fun _ st oc t =>
  (∃ (r : Option xm_V) (M : xm_M) (ad : Nat → Nat) (ca : Nat → ClassId), Q r M ∧ oc = .returned (r.map (xm_v ad ex)) ∧ n0 ≤ M.1.length ∧ (∀ k, k < n0 → ad k = ad0 k ∧ ca k = ca0 k) ∧ (∀ v, r = some v → xm_sc M.1.length v) ∧ xm_wd D cl ex xt h0 z t t.heap M ad ca) ∧ va_F (xm_A h0) st t
-- what a call needs of the tables
def xm_cok (P : xm_Pr) (N : xm_N) (cl : List vw_C) (y ix y' n kd ci : Nat) : Prop :=
  Cond.code (N.1 y') (N.2.1 y') (P.2.1 y') (N.2.2.1 y') ∈ N.2.2.2 ∧ plainName (N.1 y').cls = true ∧ ((N.1 y').cls ≠ "java/lang/invoke/MethodHandle" ∧ (N.1 y').cls ≠ "java/lang/invoke/VarHandle") ∧ Cond.initialized (N.1 y').cls ∈ N.2.2.2 ∧
  (∃ n1 : Nat, (parseMethodDescriptor (N.1 y').desc).map (fun d => d.parameters.length) = some n1 ∧
    ((kd = 0 ∧ n = n1 + 1 ∧ Cond.instanceMethod (N.1 y') ∈ N.2.2.2 ∧ (∃ T K, cl[ci]? = some ((N.1 y').cls, T, K)) ∧ Cond.selects (N.1 y').cls (N.1 y') (N.1 y') ∈ N.2.2.2 ∧ (Cond.methodLink (N.1 y).cls ix (N.1 y') ∈ N.2.2.2 ∨ ∃ host, Cond.methodLinkNest (N.1 y).cls ix (N.1 y') host ∈ N.2.2.2)) ∨
     (kd = 1 ∧ n = n1 ∧ Cond.static (N.1 y') ∈ N.2.2.2 ∧ Cond.methodLink (N.1 y).cls ix (N.1 y') ∈ N.2.2.2) ∨
     (kd = 2 ∧ n = n1 + 1 ∧ Cond.instanceMethod (N.1 y') ∈ N.2.2.2 ∧ (N.1 y').name = "<init>" ∧ N.2.2.1 y' = none ∧ (Cond.methodLink (N.1 y).cls ix (N.1 y') ∈ N.2.2.2 ∨ ∃ host, Cond.methodLinkNest (N.1 y).cls ix (N.1 y') host ∈ N.2.2.2))))
-- the tables are true of the program
def xm_pok (P : xm_Pr) (N : xm_N) (cl : List vw_C) (z : xm_Z) : Prop :=
  (∀ y, xm_yok (N.1 y).cls (N.2.1 y) N.2.2.2 cl (P.1 y) ∧ ((P.1 y).2.2.2.2.2 0 = 9 → (N.1 y).name = "<init>")) ∧ (∀ y, xm_rt (P.2.2.1 y) (N.2.2.1 y)) ∧ (∀ y, P.2.1 y ≤ 100) ∧
  (∀ w ∈ N.2.2.2, goodWord w = true) ∧
  (∀ y ix q, (P.1 y).2.2.2.2.1 ix = some q → q = 1 ∧ Cond.fieldLink (N.1 y).cls ix z.1 z.2.1 z.2.2 ∈ N.2.2.2) ∧
  (∀ y ix y' n kd ci, P.2.2.2 y ix = some (y', n, kd, ci) → xm_cok P N cl y ix y' n kd ci) ∧
  (Cond.instanceMethod objectInit ∈ N.2.2.2 ∧ Cond.code objectInit ⟨#[0xb1]⟩ 1 none ∈ N.2.2.2 ∧ Cond.arrayClass .int ∈ N.2.2.2 ∧ Cond.arrayClass .long ∈ N.2.2.2 ∧ Cond.arrayClass .boolean ∈ N.2.2.2 ∧ Cond.native arraycopyName ∈ N.2.2.2 ∧ Cond.static arraycopyName ∈ N.2.2.2 ∧ Cond.initialized "java/lang/System" ∈ N.2.2.2)
-- a method's own state and all that stands fixed through it
def xm_cx (P : xm_Pr) (N : xm_N) (D : va_G) (cl : List vw_C) (ex : Nat → Nat) (xt : Nat → Nat × (Nat → Int32)) (h0 : Nat) (z : xm_Z) (y : Nat) (p : Program) (s : State) (m : MethodId) (args : Array Value) (meth : Method) (c : Code) : Prop :=
  p.tables.exec = Jvm.exec ∧ c.code = N.2.1 y ∧ c.maxLocals = P.2.1 y ∧ s.vm.findClass (N.1 y).cls = some m.cls ∧ (∀ w ∈ N.2.2.2, w.before args s = true) ∧ meth.sig.returnType = N.2.2.1 y ∧ meth.locks = false ∧ ((N.1 y).name = "<init>" → meth.name = "<init>") ∧
  va_K D cl [] s ∧ h0 ≤ s.heap.size ∧ (∀ k, va_T .int (ex k) (xt k).1 (fun j => .int ((xt k).2 j)) (xm_A h0) s s.heap) ∧ va_Z z.1 z.2.1 z.2.2 (.ref (ex 1)) (xm_A h0) s s.heap
-- what a return needs
def xm_rtn (P : xm_Pr) (D : va_G) (cl : List vw_C) (ex : Nat → Nat) (h0 : Nat) (y C0 S0 : Nat) (Q : xm_P) (p : Program) (l : Launch) (e : Env) (R : Room) (s : State) (m : MethodId) (args : Array Value) (below : List Frame) (meth : Method) (c : Code) (n0 : Nat) (ad0 : Nat → Nat) (ca0 : Nat → ClassId) (Qf : State → Prop) : Prop :=
  ∀ (pc : Nat) (r : Option xm_V) (M : xm_M) (ad : Nat → Nat) (ca : Nat → ClassId) (ls : Array Slot) (H : Heap) (locs : List Loc) (nc ns : Nat), xm_retOk (P.1 y) (P.2.2.1 y) pc r → nc ≤ C0 → ns ≤ S0 → Q r M → n0 ≤ M.1.length → (∀ k, k < n0 → ad k = ad0 k ∧ ca k = ca0 k) → xm_hs M.1.length r.toList → xm_hm D cl (xm_A h0) s ad ca H locs M →
    W p l e R s m args below meth c H locs nc ns Qf (F0 m pc ls (r.toList.map (xm_v ad ex)))
def xm_rok (d C0 S0 : Nat) (R : Room) : Prop := d + 1 ≤ R.frames ∧ C0 ≤ R.cells ∧ S0 ≤ R.slots ∧ 200 * (d + 1) ≤ R.locals
def xm_G (P : xm_Pr) (N : xm_N) (xt : Nat → Nat × (Nat → Int32)) (l : Launch) (D : va_G) (cl : List vw_C) (ex : Nat → Nat) (h0 : Nat) (z : xm_Z) : xm_GT := fun d y C0 S0 Q pc loc st M nc ns =>
  (nc ≤ C0 ∧ ns ≤ S0 ∧ ∃ r M', Q r M') ∧
  ∀ (p : Program) (e : Env) (R : Room) (s : State) (m : MethodId) (args : Array Value) (below : List Frame) (meth : Method) (c : Code) (n0 : Nat) (ad0 : Nat → Nat) (ca0 : Nat → ClassId) (Qf : State → Prop), xm_rok d C0 S0 R → xm_cx P N D cl ex xt h0 z y p s m args meth c → xm_rtn P D cl ex h0 y C0 S0 Q p l e R s m args below meth c n0 ad0 ca0 Qf →
    xm_W1 p l e R s m args below meth c Qf D cl ex (xm_A h0) (P.2.1 y) n0 ad0 ca0 pc loc st M nc ns
theorem xm_en_args {ad ex : Nat → Nat} : ∀ {av : List xm_V} {b i : Nat} {v : xm_V}, (xm_en av)[i]? = some (some v) → (b + i, xm_v ad ex v) ∈ lv_args b (av.map (xm_v ad ex))
  | [], b, i, v, h => by simp [xm_en] at h
  | w :: r, b, i, v, h => by
    unfold xm_en at h
    show (b + i, xm_v ad ex v) ∈ (b, xm_v ad ex w) :: lv_args (if (xm_v ad ex w).category = 2 then b + 2 else b + 1) (r.map (xm_v ad ex))
    rw [xm_cat_v]
    cases hb : Nat.beq (xm_cat w) 2 with
    | true =>
      rw [hb] at h
      rw [if_pos (Nat.eq_of_beq_eq_true hb)]
      match i, h with
      | 0, h => simp at h; subst h; exact List.mem_cons_self
      | 1, h => simp at h
      | i + 2, h =>
        have h2 := xm_en_args (ad := ad) (ex := ex) (av := r) (b := b + 2) (i := i) (v := v) (by simpa using h)
        rw [show b + 2 + i = b + (i + 2) by omega] at h2
        exact List.mem_cons_of_mem _ h2
    | false =>
      rw [hb] at h
      rw [if_neg (fun q => by rw [q] at hb; cases hb)]
      match i, h with
      | 0, h => simp at h; subst h; exact List.mem_cons_self
      | i + 1, h =>
        have h2 := xm_en_args (ad := ad) (ex := ex) (av := r) (b := b + 1) (i := i) (v := v) (by simpa using h)
        rw [show b + 1 + i = b + (i + 1) by omega] at h2
        exact List.mem_cons_of_mem _ h2
theorem xm_en_sl {ad ex : Nat → Nat} : ∀ (av : List xm_V), (lg_sl (av.map (xm_v ad ex))).length = (xm_en av).length
  | [] => rfl
  | w :: r => by
    have ih := xm_en_sl (ad := ad) (ex := ex) r
    unfold xm_en
    show (List.flatMap _ (xm_v ad ex w :: r.map (xm_v ad ex))).length = _
    rw [List.flatMap_cons, List.length_append]
    rw [xm_cat_v]
    have ih : (List.flatMap (fun v : Value => if v.category = 2 then [Slot.val v, .second] else [.val v]) (r.map (xm_v ad ex))).length = (xm_en r).length := ih
    cases hb : Nat.beq (xm_cat w) 2 with
    | true => rw [if_pos (Nat.eq_of_beq_eq_true hb), ih]; simp; omega
    | false => rw [if_neg (fun q => by rw [q] at hb; cases hb), ih]; simp; omega
theorem xm_entry {ad ex : Nat → Nat} {n nL : Nat} {av : List xm_V} (hle : (xm_en av).length ≤ nL) (hs : xm_hs n av) : xm_hl ad ex n nL ((lg_sl (av.map (xm_v ad ex)) ++ List.replicate (nL - (lg_sl (av.map (xm_v ad ex))).length) Slot.unset).toArray) (xm_ent nL av) := by
  have hl := lv_entry (av.map (xm_v ad ex)) (n := nL) (by rw [xm_en_sl]; exact hle)
  refine ⟨⟨hl.1, hl.2.1⟩, fun i v hv => ?_⟩
  unfold xm_ent at hv
  by_cases hi : i < (xm_en av).length
  · rw [List.getElem?_append_left hi] at hv
    have h2 := xm_en_args (ad := ad) (ex := ex) (b := 0) hv
    rw [Nat.zero_add] at h2
    refine ⟨hl.2.2 _ h2, ?_⟩
    have hm : ∀ {a : List xm_V} {i : Nat}, (xm_en a)[i]? = some (some v) → v ∈ a := by
      intro a
      induction a with
      | nil => intro i h; simp [xm_en] at h
      | cons w r ih =>
        intro i h
        unfold xm_en at h
        cases hb : Nat.beq (xm_cat w) 2 with
        | true =>
          rw [hb] at h
          match i, h with
          | 0, h => simp at h; subst h; exact List.mem_cons_self
          | 1, h => simp at h
          | i + 2, h => exact List.mem_cons_of_mem _ (ih (i := i) (by simpa using h))
        | false =>
          rw [hb] at h
          match i, h with
          | 0, h => simp at h; subst h; exact List.mem_cons_self
          | i + 1, h => exact List.mem_cons_of_mem _ (ih (i := i) (by simpa using h))
    exact hs v (hm hv)
  · rw [List.getElem?_append_right (Nat.le_of_not_lt hi)] at hv
    have := List.getElem?_replicate (n := nL - (xm_en av).length) (a := (none : Option xm_V)) (i := i - (xm_en av).length)
    rw [this] at hv
    split at hv <;> simp at hv
section XMET
variable {P : xm_Pr} {N : xm_N} {xt : Nat → Nat × (Nat → Int32)} {l : Launch} {D : va_G} {cl : List vw_C} {ex : Nat → Nat} {h0 : Nat} {z : xm_Z}
theorem xm_goodT (O : xm_pok P N cl z) : GoodIn N.2.2.2 N.2.2.2 := fun w hw => ⟨hw, by
  have h := O.2.2.2.1 w hw
  cases w
  case arrayClass ty => exact Or.inr ⟨ty, rfl⟩
  all_goals exact Or.inl h⟩
-- the world at the call, for the callee
theorem xm_wd_at {s U : State} {H : Heap} {locs : List Loc} {M : xm_M} {ad : Nat → Nat} {ca : Nat → ClassId} (hm : xm_hm D cl (xm_A h0) s ad ca H locs M) (hK : va_K D cl [] s) (hh : h0 ≤ s.heap.size) (hT : ∀ k, va_T .int (ex k) (xt k).1 (fun j => .int ((xt k).2 j)) (xm_A h0) s s.heap) (hZ : va_Z z.1 z.2.1 z.2.2 (.ref (ex 1)) (xm_A h0) s s.heap)
    (hU : U.heap = H) (hvm : s.vm.Alike U.vm) : xm_wd D cl ex xt h0 z U U.heap M ad ca := by
  rw [hU]
  obtain ⟨g1, g2, g3, g4, g5⟩ := hm
  refine xm_wd.moved hvm ⟨Nat.le_trans hh g4.1, g1, g2, g3, hK, g5, fun k => (hT k).kept g4.2.1, hZ.kept g4.2.1⟩
-- the kit's own returns
theorem xm_rets (O : xm_pok P N cl z) {y C0 S0 : Nat} {Q : xm_P} {p : Program} {e : Env} {R : Room} {s : State} {m : MethodId} {args : Array Value} {below : List Frame} {meth : Method} {c : Code} {n0 : Nat} {ad0 : Nat → Nat} {ca0 : Nat → ClassId} (cx : xm_cx P N D cl ex xt h0 z y p s m args meth c) :
    xm_rtn P D cl ex h0 y C0 S0 Q p l e R s m args below meth c n0 ad0 ca0 (MQ below (xm_Qc D cl ex xt h0 z Q n0 ad0 ca0) args s C0 S0 (xm_A h0)) := by
  intro pc r M ad ca ls H locs nc ns hr h1 h2 hq hn hag hs hm
  obtain ⟨q1, q2, q3, q4, q5, q6, q7, q8, q9, q10, q11, q12⟩ := cx
  have hdec := (O.1 y).1.1
  have hrt := O.2.1 y
  have hend : ∀ t : State, t.heap = H → s.WarmedH t.vm → xm_Qc D cl ex xt h0 z Q n0 ad0 ca0 args s (.returned (r.map (xm_v ad ex))) t := fun t ht hW =>
    ⟨⟨r, M, ad, ca, hq, rfl, hn, hag, fun v hv => hs v (by rw [hv]; exact List.mem_cons_self), xm_wd_at hm q9 q10 q11 q12 ht hW.alike⟩, hm.2.2.2.1.F ht⟩
  refine W.widen h1 h2 ?_
  obtain ⟨pn, hr⟩ := hr
  match hk : P.2.2.1 y, r, hr with
  | 0, none, hr =>
    obtain ⟨ln, hd, -, hln⟩ := hdec pc _ hr
    obtain rfl : ln = 1 := xm_ln 0 hln rfl
    rw [hk] at hrt
    rcases hrt with ⟨-, e⟩ | ⟨ctr, -⟩ | ⟨ctr, -⟩ | ⟨ctr, -⟩ | ⟨ctr, -⟩ <;> try exact absurd ctr (by decide)
    exact W.vret q1 q2 (q6.trans e) hend hm.2.2.2.1.2.2 hd q7
  | 1, some (Sum.inl x), hr =>
    obtain ⟨ln, hd, -, hln⟩ := hdec pc _ hr
    obtain rfl : ln = 1 := xm_ln 0 hln rfl
    rw [hk] at hrt
    rcases hrt with ⟨ctr, -⟩ | ⟨-, e⟩ | ⟨ctr, -⟩ | ⟨ctr, -⟩ | ⟨ctr, -⟩ <;> try exact absurd ctr (by decide)
    exact W.iret q1 q2 (q6.trans e) hend hm.2.2.2.1.2.2 hd q7
  | 2, some (Sum.inr (Sum.inl x)), hr =>
    obtain ⟨ln, hd, -, hln⟩ := hdec pc _ hr
    obtain rfl : ln = 1 := xm_ln 0 hln rfl
    rw [hk] at hrt
    rcases hrt with ⟨ctr, -⟩ | ⟨ctr, -⟩ | ⟨-, e⟩ | ⟨ctr, -⟩ | ⟨ctr, -⟩ <;> try exact absurd ctr (by decide)
    exact W.lret q1 q2 (q6.trans e) hend hm.2.2.2.1.2.2 hd q7
  | 3, some (Sum.inr (Sum.inr (Sum.inl (some x)))), hr =>
    obtain ⟨ln, hd, -, hln⟩ := hdec pc _ hr
    obtain rfl : ln = 1 := xm_ln 0 hln rfl
    rw [hk] at hrt
    rcases hrt with ⟨ctr, -⟩ | ⟨ctr, -⟩ | ⟨ctr, -⟩ | ⟨-, ⟨n, e⟩ | ⟨n, e⟩⟩ | ⟨ctr, -⟩ <;> try exact absurd ctr (by decide)
    · exact W.aret q1 q2 (q6.trans e) (Or.inl ⟨n, rfl⟩) (Or.inr ⟨_, rfl⟩) hend hm.2.2.2.1.2.2 hd q7
    · exact W.aret q1 q2 (q6.trans e) (Or.inr ⟨n, rfl⟩) (Or.inr ⟨_, rfl⟩) hend hm.2.2.2.1.2.2 hd q7
  | 4, some (Sum.inl x), hr =>
    obtain ⟨hr, h01⟩ := hr
    obtain ⟨ln, hd, -, hln⟩ := hdec pc _ hr
    obtain rfl : ln = 1 := xm_ln 0 hln rfl
    rw [hk] at hrt
    rcases hrt with ⟨ctr, -⟩ | ⟨ctr, -⟩ | ⟨ctr, -⟩ | ⟨ctr, -⟩ | ⟨-, e⟩ <;> try exact absurd ctr (by decide)
    exact W.zret q1 q2 (q6.trans e) (by rcases h01 with rfl | rfl <;> rfl) hend hm.2.2.2.1.2.2 hd q7
-- a callee's contract
theorem xm_met (O : xm_pok P N cl z) {d y C0 S0 : Nat} {Q : xm_P} {av : List xm_V} {M : xm_M} {ad : Nat → Nat} {ca : Nat → ClassId} (hpl : plainName (N.1 y).cls = true) (hle : (xm_en av).length ≤ P.2.1 y) (hsc : xm_hs M.1.length av)
    (hG : xm_G P N xt l D cl ex h0 z d y C0 S0 Q 0 (xm_ent (P.2.1 y) av) [] M 0 0) :
    Met l (N.1 y) (xm_ws P N y) (xm_rm d C0 S0) (va_Pc (av.map (xm_v ad ex)) (fun U => xm_wd D cl ex xt h0 z U U.heap M ad ca)) (xm_Qc D cl ex xt h0 z Q M.1.length ad ca) C0 S0 (xm_A h0) := by
  refine Met.ofW (cc := N.2.1 y) (maxL := P.2.1 y) (ret := N.2.2.1 y) hpl rfl ?_
  intro p e s m args below meth c s₁ B hml hv
  obtain ⟨rfl, h1, h2, h3, h4, h5, h6, h7, h8⟩ := hv
  have hts := atoms_spec (ws := xm_ws P N y) B.pre
  have cx : xm_cx P N D cl ex xt h0 z y p s m (av.map (xm_v ad ex)).toArray meth c := ⟨B.exec, B.bytes, hml, findClass_of_methodNamed B.named, fun w hw => hts w (List.mem_cons_of_mem _ hw), B.returns, B.notSynchronized, fun q => (name_of_methodNamed B.named B.method).1.trans q, h5, h1, h7, h8⟩
  have w := hG.2 p e (xm_rm d C0 S0) s m _ below meth c M.1.length ad ca _ ⟨Nat.le_refl _, Nat.le_refl _, Nat.le_refl _, Nat.le_refl _⟩ cx (xm_rets O cx) ad ca _ s.heap [] (Nat.le_refl _) (fun _ _ => ⟨rfl, rfl⟩) (xm_entry hle hsc) (fun v hv => by cases hv) ⟨h2, h3, h4, va_S.rf, h6⟩
  rw [lg_entry_eq]
  exact w
-- a call, whatever it answers
theorem xm_call {p : Program} {e : Env} {R : Room} {s : State} {m : MethodId} {args : Array Value} {below : List Frame} {meth : Method} {c : Code} {H : Heap} {locs : List Loc} {nc ns mc ms pc : Nat} {ls : Array Slot} {st0 rest : List Value} {Qa : State → Outcome → State → Prop} {A : Nat → Prop} {Qw : State → Prop}
    (hr : va_Run p l e R s m args below meth c H locs nc ns mc ms (F0 m pc ls st0) rest Qa A) (hS : va_S A s.heap H locs) (hF : ∀ st o t, Qa st o t → va_F A st t)
    (kk : ∀ (v : Option Value) (st t : State) (H1 : Heap) (locs1 : List Loc), t.heap = H1 → s.vm.Alike t.vm → Qa st (.returned v) t → H.size ≤ H1.size → va_S A s.heap H1 locs1 → W p l e R s m args below meth c H1 locs1 (nc + mc) (ns + ms) Qw (F0 m (pc + 3) ls (v.toList ++ rest))) : W p l e R s m args below meth c H locs nc ns Qw (F0 m pc ls st0) := by
  intro T hT X
  obtain ⟨v, st₀, t, T', L, e0, X', hL, e1, e2, hq, st⟩ := hr T hT X
  obtain ⟨hz, hk⟩ := hF _ _ _ hq
  rw [e0] at hz hk
  obtain ⟨t2, a1, b1⟩ := kk v st₀ t T'.heap (locs ++ L) e1.symm (by rw [← e2]; exact X'.warmed.alike) hq (by rw [e1]; exact hz)
    ⟨Nat.le_trans hS.1 (by rw [e1]; exact hz), fun q h1 h2 => by rw [e1, hk q (Nat.lt_of_lt_of_le h1 hS.1) h2]; exact hS.2.1 q h1 h2, fun q hq => by
      rcases List.mem_append.mp hq with h | h
      · exact hS.2.2 q h
      · exact hL q h⟩ T' rfl X'
  exact ⟨t2, st t2 a1, b1⟩
theorem xm_blind {av : List Value} {M : xm_M} {ad : Nat → Nat} {ca : Nat → ClassId} : FrameBlind (va_Pc av (fun U => xm_wd D cl ex xt h0 z U U.heap M ad ca)) := fun a U g mk h => ⟨h.1, xm_wd.moved (u := U) (U := U.calling g mk a) (Vm.Alike.refl U.vm) h.2⟩
theorem xm_clo_S (O : xm_pok P N cl z) : xm_cS P xt (xm_G P N xt l D cl ex h0 z) := by
  intro d y C0 S0 Q pc loc st M nc ns K h hk
  obtain ⟨a1, a2, a3, a4, a5, a6, hK, g1, g2⟩ := xm_s1_ex h
  have r := (hk _ _ _ _ _ _ hK).1
  refine ⟨⟨Nat.le_trans g1 r.1, Nat.le_trans g2 r.2.1, r.2.2⟩, ?_⟩
  intro p e R s m args below meth c n0 ad0 ca0 Qf hR cx hrt
  obtain ⟨q1, q2, q3, q4, q5, q6, q7, q8, q9, q10, q11, q12⟩ := cx
  obtain ⟨o1, o2, o3, o4, o5, o6, o7⟩ := O
  refine xm_sound (own := (N.1 y).cls) (cc := N.2.1 y) (Ts := N.2.2.2) (xt := xt) (C0 := C0) (S0 := S0) (Y := P.1 y) ⟨q1, q2, q3, q4, q5, q9, fun q hq => Nat.le_trans q10 hq, ⟨hR.2.1, hR.2.2.1⟩, q11⟩ (o1 y).1 (fun q => q8 ((o1 y).2 q)) (Nat.le_trans (Nat.le_add_left 1 d) hR.1) (Nat.le_trans (show 100 ≤ 200 * (d + 1) by omega) hR.2.2.2)
    ⟨q5 _ o7.1, q5 _ o7.2.1⟩ ⟨q5 _ o7.2.2.1, q5 _ o7.2.2.2.1, q5 _ o7.2.2.2.2.1⟩ ⟨q5 _ o7.2.2.2.2.2.1, q5 _ o7.2.2.2.2.2.2.1, q5 _ o7.2.2.2.2.2.2.2⟩ ?_ (fun _ _ _ _ _ _ k => ⟨(hk _ _ _ _ _ _ k).1.1, (hk _ _ _ _ _ _ k).1.2.1⟩) (fun _ _ _ _ _ _ k => (hk _ _ _ _ _ _ k).2 p e R s m args below meth c n0 ad0 ca0 Qf hR ⟨q1, q2, q3, q4, q5, q6, q7, q8, q9, q10, q11, q12⟩ hrt) h
  intro ix q hq
  obtain ⟨rfl, hl⟩ := o5 y ix q hq
  exact ⟨_, _, _, q12, q5 _ hl⟩
theorem xm_clo_F : xm_cF (xm_G P N xt l D cl ex h0 z) := by
  intro d y C0 S0 Q pc loc loc' st M nc ns hle h
  refine ⟨h.1, fun p e R s m args below meth c n0 ad0 ca0 Qf hR cx hrt ad ca ls H locs hn hag hl hs hm => ?_⟩
  exact h.2 p e R s m args below meth c n0 ad0 ca0 Qf hR cx hrt ad ca ls H locs hn hag ⟨hl.1, fun i v hv => hl.2 i v (xm_le_at hle hv)⟩ hs hm
theorem xm_clo_R : xm_cR P (xm_G P N xt l D cl ex h0 z) := by
  intro d y C0 S0 Q pc loc M nc ns r hr h1 h2 hq
  refine ⟨⟨h1, h2, r, M, hq⟩, fun p e R s m args below meth c n0 ad0 ca0 Qf hR cx hrt ad ca ls H locs hn hag hl hs hm => ?_⟩
  exact hrt pc r M ad ca ls H locs nc ns hr h1 h2 hq hn hag hs hm
set_option maxHeartbeats 2000000 in
theorem xm_clo_C (O : xm_pok P N cl z) : xm_cC P (xm_G P N xt l D cl ex h0 z) := by
  intro d y C0 S0 Q pc loc M nc ns ix pn y' kd ci c1 s1 av rest Q' hi hc hle h8 hy hk
  have O0 := O
  obtain ⟨o1, o2, o3, o4, o5, o6, o7⟩ := O
  obtain ⟨w1, w2, w3, w4, n1, w5, w6⟩ := o6 y ix y' av.length kd ci hc
  obtain ⟨r0, M0, hq0⟩ := hy.1.2.2
  have rr := (hk r0 M0 hq0).1
  refine ⟨⟨by omega, by omega, rr.2.2⟩, fun p e R s m args below meth c n0 ad0 ca0 Qf hR cx hrt ad ca ls H locs hn hag hl hs hm => ?_⟩
  have cx0 := cx
  obtain ⟨q1, q2, q3, q4, q5, q6, q7, q8, q9, q10, q11, q12⟩ := cx
  have hsa : xm_hs M.1.length av := fun v hv => hs v (List.mem_append_left _ (List.mem_reverse.mpr hv))
  have hsr : xm_hs M.1.length rest := fun v hv => hs v (List.mem_append_right _ hv)
  have hM := xm_met (ad := ad) (ca := ca) O0 w2 hle hsa hy
  have hgT := xm_goodT O0
  have hG : GoodIn N.2.2.2 (xm_ws P N y') := fun w hw => by
    rcases List.mem_cons.mp hw with rfl | hw
    · exact hgT _ w1
    · exact hgT _ hw
  have hRR : (xm_rm d c1 s1).frames + 1 ≤ R.frames ∧ 8 + (P.2.1 y' + 11) + (xm_rm d c1 s1).locals ≤ R.locals := by
    have := o3 y'
    have h2 := hR.2.2.2
    refine ⟨hR.1, ?_⟩
    show 8 + (P.2.1 y' + 11) + 200 * (d + 1) ≤ R.locals
    omega
  have hfit : nc + c1 ≤ R.cells ∧ ns + s1 ≤ R.slots := ⟨Nat.le_trans rr.1 hR.2.1, Nat.le_trans rr.2.1 hR.2.2.1⟩
  have h9 := xm_sum8 (ad := ad) (ex := ex) h8
  have go : pn = pc + 3 → va_Run p l e R s m args below meth c H locs nc ns c1 s1 (F0 m pc ls ((av.reverse ++ rest).map (xm_v ad ex))) (rest.map (xm_v ad ex)) (xm_Qc D cl ex xt h0 z Q' M.1.length ad ca (av.map (xm_v ad ex)).toArray) (xm_A h0) →
      W p l e R s m args below meth c H locs nc ns Qf (F0 m pc ls ((av.reverse ++ rest).map (xm_v ad ex))) := by
    intro hpn hrun
    refine xm_call hrun hm.2.2.2.1 (fun st o t q => q.2) (fun v st t H1 locs1 ht hvm hq hsz hS => ?_)
    obtain ⟨⟨r, M1, ad1, ca1, hQ, hv, hle1, hag1, hsc1, hwd⟩, -⟩ := hq
    have hwd2 := xm_wd.moved hvm.symm hwd
    rw [ht] at hwd2
    obtain ⟨g1, g2, g3, g4, g5, g6, g7, g8⟩ := hwd2
    have e1 : ∀ v, xm_sc M.1.length v → xm_v ad1 ex v = xm_v ad ex v := by
      intro v hv
      rcases v with x | x | (_ | k) | k
      · rfl
      · rfl
      · rfl
      · show Value.ref (ad1 k) = Value.ref (ad k)
        rw [(hag1 k hv).1]
      · rfl
    have e2 : (r.toList ++ rest).map (xm_v ad1 ex) = v.toList ++ rest.map (xm_v ad ex) := by
      injection hv with hv
      rw [hv, List.map_append, List.map_congr_left (fun w hw => e1 w (hsr w hw))]
      cases r <;> rfl
    have w := (hk r M1 hQ).2 p e R s m args below meth c n0 ad0 ca0 Qf hR cx0 hrt ad1 ca1 ls H1 locs1 (Nat.le_trans hn hle1) (fun k hk => ⟨(hag1 k (Nat.lt_of_lt_of_le hk hn)).1.trans (hag k hk).1, (hag1 k (Nat.lt_of_lt_of_le hk hn)).2.trans (hag k hk).2⟩)
      ⟨hl.1, fun i v hv => ⟨by rw [e1 v (hl.2 i v hv).2]; exact (hl.2 i v hv).1, xm_sc_le hle1 (hl.2 i v hv).2⟩⟩
      (fun v hv => by
        rcases List.mem_append.mp hv with hv | hv
        · cases r with
          | none => cases hv
          | some r => simp at hv; subst hv; exact hsc1 v rfl
        · exact xm_sc_le hle1 (hsr v hv))
      ⟨g2, g3, g4, hS, g6⟩
    rw [e2, hpn] at w
    exact w
  have hpre : ∀ U : State, U.heap = H → s.WarmedH U.vm → xm_wd D cl ex xt h0 z U U.heap M ad ca := fun U hU hW => xm_wd_at hm q9 q10 q11 q12 hU hW.alike
  rcases hi with ⟨rfl, hI, k, fs, as, rfl, hT⟩ | ⟨rfl, hI⟩ | ⟨rfl, hI, k, as, rfl⟩
  · obtain ⟨ln, hd, hpn, hln⟩ := (o1 y).1.1 pc _ hI
    obtain rfl : ln = 3 := xm_ln 2 hln rfl
    rcases w6 with ⟨-, hn1, hin, ⟨T1, K1, hcl⟩, hsel, hlk⟩ | ⟨ctr, -⟩ | ⟨ctr, -⟩ <;> try exact absurd ctr (by decide)
    have hrec := va_recv q9 hm.2.1 hcl (xm_w_at hT)
    have hst : ((xv_r k :: as).reverse ++ rest).map (xm_v ad ex) = (as.map (xm_v ad ex)).reverse ++ .ref (ad k) :: rest.map (xm_v ad ex) := by simp [xm_v]
    have hlen : (as.map (xm_v ad ex)).length = n1 := by rw [List.length_map]; simpa using hn1
    rcases hlk with hlk | ⟨host, hlk⟩
    · exact go hpn (va_runV ⟨q1, q2, q3, q4, q5⟩ hM ⟨callB_of n1 q5 hG rfl rfl rfl (q5 _ w4) (q5 _ hlk) ⟨w3.1, w3.2, w5⟩ hRR, q5 _ hin, q5 _ hsel⟩ ⟨xm_blind, hrec, fun U hU hW => ⟨rfl, hpre U hU hW⟩⟩ rfl hlen hl.1.1 hst (by show 2 * 0 + _ ≤ 8; omega) hd hfit)
    · refine go hpn (va_runVN ⟨q1, q2, q3, q4, q5⟩ hM ⟨⟨⟨rfl, rfl, hRR.1, hRR.2, pay_in q5 hG, List.mem_cons_self⟩, q5 _ w1, q5 _ w4, w3, fun sig h => ?_, q5 _ hlk⟩, q5 _ hin, q5 _ hsel⟩ ⟨xm_blind, hrec, fun U hU hW => ⟨rfl, hpre U hU hW⟩⟩ rfl hlen hl.1.1 hst (by show 2 * 0 + _ ≤ 8; omega) hd hfit)
      rw [h] at w5
      exact (Option.some.inj w5).symm
  · obtain ⟨ln, hd, hpn, hln⟩ := (o1 y).1.1 pc _ hI
    obtain rfl : ln = 3 := xm_ln 2 hln rfl
    rcases w6 with ⟨ctr, -⟩ | ⟨-, hn1, hsta, hlk⟩ | ⟨ctr, -⟩ <;> try exact absurd ctr (by decide)
    have hst : (av.reverse ++ rest).map (xm_v ad ex) = (av.map (xm_v ad ex)).reverse ++ rest.map (xm_v ad ex) := by simp
    exact go hpn (va_runS ⟨q1, q2, q3, q4, q5⟩ hM ⟨callB_of n1 q5 hG rfl rfl rfl (q5 _ w4) (q5 _ hlk) ⟨w3.1, w3.2, w5⟩ hRR, q5 _ hsta⟩ ⟨xm_blind, fun U hU hW => ⟨rfl, hpre U hU hW⟩⟩ rfl (by rw [List.length_map]; exact hn1) hl.1.1 hst (by show 2 * 0 + _ ≤ 8; omega) hd hfit)
  · obtain ⟨ln, hd, hpn, hln⟩ := (o1 y).1.1 pc _ hI
    obtain rfl : ln = 3 := xm_ln 2 hln rfl
    rcases w6 with ⟨ctr, -⟩ | ⟨ctr, -⟩ | ⟨-, hn1, hin, hnm, hrn, hlk⟩ <;> try exact absurd ctr (by decide)
    have hst : ((xv_r k :: as).reverse ++ rest).map (xm_v ad ex) = (as.map (xm_v ad ex)).reverse ++ .ref (ad k) :: rest.map (xm_v ad ex) := by simp [xm_v]
    have hlen : (as.map (xm_v ad ex)).length = n1 := by rw [List.length_map]; simpa using hn1
    have hws : xm_ws P N y' = Cond.code (N.1 y') (N.2.1 y') (P.2.1 y') none :: N.2.2.2 := by unfold xm_ws; rw [hrn]
    rcases hlk with hlk | ⟨host, hlk⟩
    · exact go hpn (va_runI ⟨q1, q2, q3, q4, q5⟩ hM ⟨callB_of n1 q5 hG hws rfl rfl (q5 _ w4) (q5 _ hlk) ⟨w3.1, w3.2, w5⟩ hRR, hnm, q5 _ hin⟩ ⟨xm_blind, fun U hU hW => ⟨rfl, hpre U hU hW⟩⟩ rfl hlen hl.1.1 hst (by show 2 * 0 + _ ≤ 8; omega) hd hfit)
    · refine go hpn (va_runIN ⟨q1, q2, q3, q4, q5⟩ hM ⟨⟨⟨rfl, rfl, hRR.1, hRR.2, pay_in q5 hG, by rw [hws]; exact List.mem_cons_self⟩, by rw [← hrn]; exact q5 _ w1, q5 _ w4, w3, fun sig h => ?_, q5 _ hlk⟩, hnm, q5 _ hin⟩ ⟨xm_blind, fun U hU hW => ⟨rfl, hpre U hU hW⟩⟩ rfl hlen hl.1.1 hst (by show 2 * 0 + _ ≤ 8; omega) hd hfit)
      rw [h] at w5
      exact (Option.some.inj w5).symm
theorem xm_clo_all (O : xm_pok P N cl z) : xm_clo P xt (xm_G P N xt l D cl ex h0 z) := ⟨xm_clo_S O, xm_clo_C O, xm_clo_R, xm_clo_F⟩
end XMET
end
