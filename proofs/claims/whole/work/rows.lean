section
/-! The abstract machine: values, cells, memory; one step with what follows as a predicate. -/
-- int, long, reference to a cell of ours by its number (none: null), a row that stands outside and is only read
abbrev xm_V : Type := Int32 ⊕ (Int64 ⊕ (Option Nat ⊕ Nat))
-- a field of an object: a number (it stands in the contents), or a reference
abbrev xm_F : Type := Option (Option Nat)
-- shape of a cell: a row (0 int, 1 long, 2 boolean; its length), or an object (the number of its kind, its fields)
abbrev xm_T : Type := (Nat × Nat) ⊕ (Nat × List xm_F)
-- memory: shapes; ints and booleans by cell and place; longs by cell and place
abbrev xm_M : Type := List xm_T × (Nat → Nat → Int32) × (Nat → Nat → Int64)
abbrev xm_L : Type := List (Option xm_V)
abbrev xm_K : Type := Nat → xm_L → List xm_V → xm_M → Nat → Nat → Prop
abbrev xv_i (x : Int32) : xm_V := Sum.inl x
abbrev xv_l (x : Int64) : xm_V := Sum.inr (Sum.inl x)
abbrev xv_r (k : Nat) : xm_V := Sum.inr (Sum.inr (Sum.inl (some k)))
abbrev xv_n : xm_V := Sum.inr (Sum.inr (Sum.inl none))
abbrev xv_x (k : Nat) : xm_V := Sum.inr (Sum.inr (Sum.inr k))
abbrev xt_r (t n : Nat) : xm_T := Sum.inl (t, n)
abbrev xt_o (ci : Nat) (fs : List xm_F) : xm_T := Sum.inr (ci, fs)
-- a method: instructions with the place behind; constants; fields (kind of object, place, type: 0 int, 2 reference, 3 boolean, 12 reference that is written once, 22 such a one elsewhere); what 'new' makes; statics; calls that are one step (1 arraycopy of longs, 2 Object(); at 0 stands 9 for a method <init>)
abbrev xm_Y : Type := (Nat → Option (Jvm.ClassFile.Instr × Nat)) × (Nat → Option xm_V) × (Nat → Option (Nat × Nat × Nat)) × (Nat → Option (Nat × List xm_F)) × (Nat → Option Nat) × (Nat → Nat)
def xm_cat : xm_V → Nat
  | Sum.inr (Sum.inl _) => 2
  | _ => 1
def xm_c8 (st : List xm_V) : Bool := Nat.ble ((st.map xm_cat).sum) 8
def xu_2 {α : Type} (f : Nat → Nat → α) (k j : Nat) (x : α) : Nat → Nat → α := fun a b => if a = k then (if b = j then x else f a b) else f a b
def xz_2 {α : Type} (f : Nat → Nat → α) (k : Nat) (z : α) : Nat → Nat → α := fun a b => if a = k then z else f a b
def xc_y {α : Type} (f : Nat → Nat → α) (k : Nat) (g : Nat → α) : Nat → Nat → α := fun a b => if a = k then g b else f a b
-- a place of the locals is written: a long ahead of it is broken; behind a long the next place is gone
def xm_brk (loc : xm_L) (i : Nat) : xm_L := match i with
  | 0 => loc
  | j + 1 => match loc[j]? with
    | some (some (Sum.inr (Sum.inl _))) => loc.set j none
    | _ => loc
def xm_st1 (loc : xm_L) (i : Nat) (v : xm_V) : xm_L := (xm_brk loc i).set i (some v)
def xm_st2 (loc : xm_L) (i : Nat) (v : xm_V) : xm_L := ((xm_brk loc i).set i (some v)).set (i + 1) none
def xm_fv (I : Nat → Nat → Int32) (k j : Nat) : xm_F → xm_V
  | none => xv_i (I k j)
  | some none => xv_n
  | some (some q) => xv_r q
def xm_c1 (c : Jvm.ClassFile.Cond) (x : Int32) : Prop := match c with
  | .eq => x = 0
  | .ne => ¬ x = 0
  | .lt => x < 0
  | .ge => 0 ≤ x
  | .gt => 0 < x
  | .le => x ≤ 0
def xm_c2 (c : Jvm.ClassFile.Cond) (x y : Int32) : Prop := match c with
  | .eq => x = y
  | .ne => ¬ x = y
  | .lt => x < y
  | .ge => y ≤ x
  | .gt => y < x
  | .le => x ≤ y
-- lengths of instructions (0: a switch)
def xm_len (i : Jvm.ClassFile.Instr) : Nat := match i with
  | .bipush _ => 2
  | .ldc _ => 2
  | .iload _ => 2
  | .lload _ => 2
  | .aload _ => 2
  | .istore _ => 2
  | .lstore _ => 2
  | .astore _ => 2
  | .newarray _ => 2
  | .sipush _ => 3
  | .ldc2_w _ => 3
  | .iinc _ _ => 3
  | .goto _ => 3
  | .ifCond _ _ => 3
  | .if_icmp _ _ => 3
  | .getfield _ => 3
  | .putfield _ => 3
  | .getstatic _ => 3
  | .new _ => 3
  | .invokevirtual _ => 3
  | .invokestatic _ => 3
  | .invokespecial _ => 3
  | .tableswitch _ _ _ _ => 0
  | .lookupswitch _ _ => 0
  | _ => 1
-- a method's instructions by place, in runs: (first place behind the run, its instructions with the place behind each)
abbrev xm_I : Type := Nat × Jvm.ClassFile.Instr × Nat
def xm_in (pc : Nat) : List xm_I → Option (Jvm.ClassFile.Instr × Nat)
  | [] => none
  | q :: r => bif Nat.beq q.1 pc then some q.2 else xm_in pc r
def xm_tb (pc : Nat) : List (Nat × List xm_I) → Option (Jvm.ClassFile.Instr × Nat)
  | [] => none
  | q :: r => bif Nat.blt pc q.1 then xm_in pc q.2 else xm_tb pc r
-- the one step, by forms
def xm_sA (Y : xm_Y) (xt : Nat → Nat × (Nat → Int32)) (nL : Nat) (pc : Nat) (loc : xm_L) (st : List xm_V) (M : xm_M) (nc ns : Nat) (K : xm_K) : Prop :=
  (∃ (n : Int) (pn : Nat), Y.1 pc = some (.iconst n, pn) ∧ K pn loc (xv_i (Int32.ofInt n) :: st) M nc ns) ∨
  (∃ (n : Int) (pn : Nat), Y.1 pc = some (.bipush n, pn) ∧ K pn loc (xv_i (Int8.ofInt n).toInt32 :: st) M nc ns) ∨
  (∃ (n : Int) (pn : Nat), Y.1 pc = some (.sipush n, pn) ∧ K pn loc (xv_i (Int16.ofInt n).toInt32 :: st) M nc ns) ∨
  (∃ (n : Fin 2) (pn : Nat), Y.1 pc = some (.lconst n, pn) ∧ K pn loc (xv_l (Int64.ofNat (n : Nat)) :: st) M nc ns) ∨
  (∃ (ix : Nat) (v : Int32) (pn : Nat), Y.1 pc = some (.ldc ix, pn) ∧ Y.2.1 ix = some (xv_i v) ∧ K pn loc (xv_i v :: st) M nc ns) ∨
  (∃ (ix : Nat) (v : Int64) (pn : Nat), Y.1 pc = some (.ldc2_w ix, pn) ∧ Y.2.1 ix = some (xv_l v) ∧ K pn loc (xv_l v :: st) M nc ns) ∨
  (∃ (k : Nat) (x : Int32) (pn : Nat), Y.1 pc = some (.iload k, pn) ∧ loc[k]? = some (some (xv_i x)) ∧ K pn loc (xv_i x :: st) M nc ns) ∨
  (∃ (k : Fin 4) (x : Int32) (pn : Nat), Y.1 pc = some (.iload_n k, pn) ∧ loc[(k : Nat)]? = some (some (xv_i x)) ∧ K pn loc (xv_i x :: st) M nc ns) ∨
  (∃ (k : Nat) (x : Int64) (pn : Nat), Y.1 pc = some (.lload k, pn) ∧ loc[k]? = some (some (xv_l x)) ∧ K pn loc (xv_l x :: st) M nc ns) ∨
  (∃ (k : Fin 4) (x : Int64) (pn : Nat), Y.1 pc = some (.lload_n k, pn) ∧ loc[(k : Nat)]? = some (some (xv_l x)) ∧ K pn loc (xv_l x :: st) M nc ns) ∨
  (∃ (k : Nat) (q : Nat) (pn : Nat), Y.1 pc = some (.aload k, pn) ∧ loc[k]? = some (some (xv_r q)) ∧ K pn loc (xv_r q :: st) M nc ns) ∨
  (∃ (k : Fin 4) (q : Nat) (pn : Nat), Y.1 pc = some (.aload_n k, pn) ∧ loc[(k : Nat)]? = some (some (xv_r q)) ∧ K pn loc (xv_r q :: st) M nc ns) ∨
  (∃ (k : Nat) (q : Nat) (pn : Nat), Y.1 pc = some (.aload k, pn) ∧ loc[k]? = some (some (xv_x q)) ∧ K pn loc (xv_x q :: st) M nc ns) ∨
  (∃ (k : Fin 4) (q : Nat) (pn : Nat), Y.1 pc = some (.aload_n k, pn) ∧ loc[(k : Nat)]? = some (some (xv_x q)) ∧ K pn loc (xv_x q :: st) M nc ns)
def xm_sB (Y : xm_Y) (xt : Nat → Nat × (Nat → Int32)) (nL : Nat) (pc : Nat) (loc : xm_L) (st : List xm_V) (M : xm_M) (nc ns : Nat) (K : xm_K) : Prop :=
  (∃ (k : Nat) (x : Int32) (r : List xm_V) (pn : Nat), Y.1 pc = some (.istore k, pn) ∧ st = xv_i x :: r ∧ k < nL ∧ K pn (xm_st1 loc k (xv_i x)) r M nc ns) ∨
  (∃ (k : Fin 4) (x : Int32) (r : List xm_V) (pn : Nat), Y.1 pc = some (.istore_n k, pn) ∧ st = xv_i x :: r ∧ (k : Nat) < nL ∧ K pn (xm_st1 loc k (xv_i x)) r M nc ns) ∨
  (∃ (k : Nat) (x : Int64) (r : List xm_V) (pn : Nat), Y.1 pc = some (.lstore k, pn) ∧ st = xv_l x :: r ∧ k + 1 < nL ∧ K pn (xm_st2 loc k (xv_l x)) r M nc ns) ∨
  (∃ (k : Fin 4) (x : Int64) (r : List xm_V) (pn : Nat), Y.1 pc = some (.lstore_n k, pn) ∧ st = xv_l x :: r ∧ (k : Nat) + 1 < nL ∧ K pn (xm_st2 loc k (xv_l x)) r M nc ns) ∨
  (∃ (k : Nat) (x : Nat) (r : List xm_V) (pn : Nat), Y.1 pc = some (.astore k, pn) ∧ st = xv_r x :: r ∧ k < nL ∧ K pn (xm_st1 loc k (xv_r x)) r M nc ns) ∨
  (∃ (k : Fin 4) (x : Nat) (r : List xm_V) (pn : Nat), Y.1 pc = some (.astore_n k, pn) ∧ st = xv_r x :: r ∧ (k : Nat) < nL ∧ K pn (xm_st1 loc k (xv_r x)) r M nc ns) ∨
  (∃ (k : Nat) (n : Int) (x : Int32) (pn : Nat), Y.1 pc = some (.iinc k n, pn) ∧ loc[k]? = some (some (xv_i x)) ∧ k < nL ∧ K pn (xm_st1 loc k (xv_i (x + Int32.ofInt n))) st M nc ns)
def xm_sC (Y : xm_Y) (xt : Nat → Nat × (Nat → Int32)) (nL : Nat) (pc : Nat) (loc : xm_L) (st : List xm_V) (M : xm_M) (nc ns : Nat) (K : xm_K) : Prop :=
  (∃ (x : Int32) (y : Int32) (r : List xm_V) (pn : Nat), Y.1 pc = some (.iadd, pn) ∧ st = xv_i y :: xv_i x :: r ∧ K pn loc (xv_i (x + y) :: r) M nc ns) ∨
  (∃ (x : Int32) (y : Int32) (r : List xm_V) (pn : Nat), Y.1 pc = some (.isub, pn) ∧ st = xv_i y :: xv_i x :: r ∧ K pn loc (xv_i (x - y) :: r) M nc ns) ∨
  (∃ (x : Int32) (y : Int32) (r : List xm_V) (pn : Nat), Y.1 pc = some (.imul, pn) ∧ st = xv_i y :: xv_i x :: r ∧ K pn loc (xv_i (x * y) :: r) M nc ns) ∨
  (∃ (x : Int32) (y : Int32) (r : List xm_V) (pn : Nat), Y.1 pc = some (.iand, pn) ∧ st = xv_i y :: xv_i x :: r ∧ K pn loc (xv_i (x &&& y) :: r) M nc ns) ∨
  (∃ (x : Int32) (y : Int32) (r : List xm_V) (pn : Nat), Y.1 pc = some (.ior, pn) ∧ st = xv_i y :: xv_i x :: r ∧ K pn loc (xv_i (x ||| y) :: r) M nc ns) ∨
  (∃ (x : Int32) (y : Int32) (r : List xm_V) (pn : Nat), Y.1 pc = some (.ixor, pn) ∧ st = xv_i y :: xv_i x :: r ∧ K pn loc (xv_i (x ^^^ y) :: r) M nc ns) ∨
  (∃ (x : Int32) (y : Int32) (r : List xm_V) (pn : Nat), Y.1 pc = some (.ishl, pn) ∧ st = xv_i y :: xv_i x :: r ∧ K pn loc (xv_i (x <<< (y &&& 31)) :: r) M nc ns) ∨
  (∃ (x : Int32) (y : Int32) (r : List xm_V) (pn : Nat), Y.1 pc = some (.ishr, pn) ∧ st = xv_i y :: xv_i x :: r ∧ K pn loc (xv_i (x >>> (y &&& 31)) :: r) M nc ns) ∨
  (∃ (x : Int32) (y : Int32) (r : List xm_V) (pn : Nat), Y.1 pc = some (.idiv, pn) ∧ st = xv_i y :: xv_i x :: r ∧ ¬ y = 0 ∧ K pn loc (xv_i (x / y) :: r) M nc ns) ∨
  (∃ (x : Int64) (y : Int64) (r : List xm_V) (pn : Nat), Y.1 pc = some (.ladd, pn) ∧ st = xv_l y :: xv_l x :: r ∧ K pn loc (xv_l (x + y) :: r) M nc ns) ∨
  (∃ (x : Int64) (y : Int64) (r : List xm_V) (pn : Nat), Y.1 pc = some (.lsub, pn) ∧ st = xv_l y :: xv_l x :: r ∧ K pn loc (xv_l (x - y) :: r) M nc ns) ∨
  (∃ (x : Int64) (y : Int64) (r : List xm_V) (pn : Nat), Y.1 pc = some (.land, pn) ∧ st = xv_l y :: xv_l x :: r ∧ K pn loc (xv_l (x &&& y) :: r) M nc ns) ∨
  (∃ (x : Int64) (y : Int64) (r : List xm_V) (pn : Nat), Y.1 pc = some (.lor, pn) ∧ st = xv_l y :: xv_l x :: r ∧ K pn loc (xv_l (x ||| y) :: r) M nc ns) ∨
  (∃ (x : Int64) (y : Int64) (r : List xm_V) (pn : Nat), Y.1 pc = some (.lcmp, pn) ∧ st = xv_l y :: xv_l x :: r ∧ K pn loc (xv_i (lg_cmp x y) :: r) M nc ns) ∨
  (∃ (x : Int64) (y : Int32) (r : List xm_V) (pn : Nat), Y.1 pc = some (.lshl, pn) ∧ st = xv_i y :: xv_l x :: r ∧ K pn loc (xv_l (x <<< (y.toInt64 &&& 63)) :: r) M nc ns) ∨
  (∃ (x : Int64) (y : Int32) (r : List xm_V) (pn : Nat), Y.1 pc = some (.lshr, pn) ∧ st = xv_i y :: xv_l x :: r ∧ K pn loc (xv_l (x >>> (y.toInt64 &&& 63)) :: r) M nc ns) ∨
  (∃ (x : Int32) (r : List xm_V) (pn : Nat), Y.1 pc = some (.i2l, pn) ∧ st = xv_i x :: r ∧ K pn loc (xv_l x.toInt64 :: r) M nc ns) ∨
  (∃ (x : Int64) (r : List xm_V) (pn : Nat), Y.1 pc = some (.l2i, pn) ∧ st = xv_l x :: r ∧ K pn loc (xv_i x.toInt32 :: r) M nc ns)
def xm_sD (Y : xm_Y) (xt : Nat → Nat × (Nat → Int32)) (nL : Nat) (pc : Nat) (loc : xm_L) (st : List xm_V) (M : xm_M) (nc ns : Nat) (K : xm_K) : Prop :=
  (∃ (v : xm_V) (r : List xm_V) (pn : Nat), Y.1 pc = some (.dup, pn) ∧ st = v :: r ∧ xm_cat v = 1 ∧ K pn loc (v :: v :: r) M nc ns) ∨
  (∃ (v : xm_V) (r : List xm_V) (pn : Nat), Y.1 pc = some (.pop, pn) ∧ st = v :: r ∧ xm_cat v = 1 ∧ K pn loc r M nc ns) ∨
  (∃ (v : xm_V) (w : xm_V) (r : List xm_V) (pn : Nat), Y.1 pc = some (.dup2, pn) ∧ st = v :: w :: r ∧ xm_cat v = 1 ∧ xm_cat w = 1 ∧ K pn loc (v :: w :: v :: w :: r) M nc ns) ∨
  (∃ (off : Int) (t : Nat) (pn : Nat), Y.1 pc = some (.goto off, pn) ∧ (pc : Int) + off = (t : Int) ∧ K t loc st M nc ns) ∨
  (∃ (c : Jvm.ClassFile.Cond) (off : Int) (x : Int32) (r : List xm_V) (t : Nat) (pn : Nat), Y.1 pc = some (.ifCond c off, pn) ∧ st = xv_i x :: r ∧ (pc : Int) + off = (t : Int) ∧ (xm_c1 c x → K t loc r M nc ns) ∧ (¬ xm_c1 c x → K pn loc r M nc ns)) ∨
  (∃ (c : Jvm.ClassFile.Cond) (off : Int) (x : Int32) (y : Int32) (r : List xm_V) (t : Nat) (pn : Nat), Y.1 pc = some (.if_icmp c off, pn) ∧ st = xv_i y :: xv_i x :: r ∧ (pc : Int) + off = (t : Int) ∧ (xm_c2 c x y → K t loc r M nc ns) ∧ (¬ xm_c2 c x y → K pn loc r M nc ns)) ∨
  (∃ (df : Int) (lo : Int) (up : Int) (os : Array Int) (x : Int32) (r : List xm_V) (t : Nat) (pn : Nat), Y.1 pc = some (.tableswitch df lo up os, pn) ∧ st = xv_i x :: r ∧ (x.toInt < lo ∨ up < x.toInt) ∧ (pc : Int) + df = (t : Int) ∧ K t loc r M nc ns) ∨
  (∃ (df : Int) (lo : Int) (up : Int) (os : Array Int) (x : Int32) (r : List xm_V) (off : Int) (t : Nat) (pn : Nat), Y.1 pc = some (.tableswitch df lo up os, pn) ∧ st = xv_i x :: r ∧ ¬ x.toInt < lo ∧ ¬ up < x.toInt ∧ os[(x.toInt - lo).toNat]? = some off ∧ (pc : Int) + off = (t : Int) ∧ K t loc r M nc ns)
def xm_sE (Y : xm_Y) (xt : Nat → Nat × (Nat → Int32)) (nL : Nat) (pc : Nat) (loc : xm_L) (st : List xm_V) (M : xm_M) (nc ns : Nat) (K : xm_K) : Prop :=
  (∃ (i : Int32) (k : Nat) (n : Nat) (r : List xm_V) (pn : Nat), Y.1 pc = some (.iaload, pn) ∧ st = xv_i i :: xv_r k :: r ∧ M.1[k]? = some (xt_r 0 n) ∧ vp_in i n ∧ K pn loc (xv_i (M.2.1 k i.toNatClampNeg) :: r) M nc ns) ∨
  (∃ (i : Int32) (q : Nat) (r : List xm_V) (pn : Nat), Y.1 pc = some (.iaload, pn) ∧ st = xv_i i :: xv_x q :: r ∧ vp_in i (xt q).1 ∧ K pn loc (xv_i ((xt q).2 i.toNatClampNeg) :: r) M nc ns) ∨
  (∃ (i : Int32) (k : Nat) (n : Nat) (r : List xm_V) (pn : Nat), Y.1 pc = some (.baload, pn) ∧ st = xv_i i :: xv_r k :: r ∧ M.1[k]? = some (xt_r 2 n) ∧ vp_in i n ∧ K pn loc (xv_i (M.2.1 k i.toNatClampNeg) :: r) M nc ns) ∨
  (∃ (i : Int32) (k : Nat) (n : Nat) (r : List xm_V) (pn : Nat), Y.1 pc = some (.laload, pn) ∧ st = xv_i i :: xv_r k :: r ∧ M.1[k]? = some (xt_r 1 n) ∧ vp_in i n ∧ K pn loc (xv_l (M.2.2 k i.toNatClampNeg) :: r) M nc ns) ∨
  (∃ (k : Nat) (t : Nat) (n : Nat) (r : List xm_V) (pn : Nat), Y.1 pc = some (.arraylength, pn) ∧ st = xv_r k :: r ∧ M.1[k]? = some (xt_r t n) ∧ t < 3 ∧ K pn loc (xv_i (nI n) :: r) M nc ns) ∨
  (∃ (q : Nat) (r : List xm_V) (pn : Nat), Y.1 pc = some (.arraylength, pn) ∧ st = xv_x q :: r ∧ K pn loc (xv_i (nI (xt q).1) :: r) M nc ns) ∨
  (∃ (ix : Nat) (ci : Nat) (j : Nat) (ty : Nat) (k : Nat) (fs : List xm_F) (f : xm_F) (r : List xm_V) (pn : Nat), Y.1 pc = some (.getfield ix, pn) ∧ Y.2.2.1 ix = some (ci, j, ty) ∧ st = xv_r k :: r ∧ M.1[k]? = some (xt_o ci fs) ∧ fs[j]? = some f ∧ K pn loc (xm_fv M.2.1 k j f :: r) M nc ns) ∨
  (∃ (ix : Nat) (q : Nat) (pn : Nat), Y.1 pc = some (.getstatic ix, pn) ∧ Y.2.2.2.2.1 ix = some q ∧ K pn loc (xv_x q :: st) M nc ns)
def xm_sF (Y : xm_Y) (xt : Nat → Nat × (Nat → Int32)) (nL : Nat) (pc : Nat) (loc : xm_L) (st : List xm_V) (M : xm_M) (nc ns : Nat) (K : xm_K) : Prop :=
  (∃ (i : Int32) (x : Int32) (k : Nat) (n : Nat) (r : List xm_V) (pn : Nat), Y.1 pc = some (.iastore, pn) ∧ st = xv_i x :: xv_i i :: xv_r k :: r ∧ M.1[k]? = some (xt_r 0 n) ∧ vp_in i n ∧ K pn loc r (M.1, xu_2 M.2.1 k i.toNatClampNeg x, M.2.2) nc ns) ∨
  (∃ (i : Int32) (x : Int32) (k : Nat) (n : Nat) (r : List xm_V) (pn : Nat), Y.1 pc = some (.bastore, pn) ∧ st = xv_i x :: xv_i i :: xv_r k :: r ∧ M.1[k]? = some (xt_r 2 n) ∧ vp_in i n ∧ (x = 0 ∨ x = 1) ∧ K pn loc r (M.1, xu_2 M.2.1 k i.toNatClampNeg x, M.2.2) nc ns) ∨
  (∃ (i : Int32) (x : Int64) (k : Nat) (n : Nat) (r : List xm_V) (pn : Nat), Y.1 pc = some (.lastore, pn) ∧ st = xv_l x :: xv_i i :: xv_r k :: r ∧ M.1[k]? = some (xt_r 1 n) ∧ vp_in i n ∧ K pn loc r (M.1, M.2.1, xu_2 M.2.2 k i.toNatClampNeg x) nc ns) ∨
  (∃ (ix : Nat) (ci : Nat) (j : Nat) (ty : Nat) (k : Nat) (fs : List xm_F) (x : Int32) (r : List xm_V) (pn : Nat), Y.1 pc = some (.putfield ix, pn) ∧ Y.2.2.1 ix = some (ci, j, ty) ∧ st = xv_i x :: xv_r k :: r ∧ M.1[k]? = some (xt_o ci fs) ∧ fs[j]? = some none ∧ (ty = 0 ∨ (ty = 3 ∧ (x = 0 ∨ x = 1))) ∧ K pn loc r (M.1, xu_2 M.2.1 k j x, M.2.2) nc ns) ∨
  (∃ (ix : Nat) (ci : Nat) (j : Nat) (t : Nat) (k : Nat) (fs : List xm_F) (q : Nat) (o : Option Nat) (r : List xm_V) (pn : Nat), Y.1 pc = some (.putfield ix, pn) ∧ Y.2.2.1 ix = some (ci, j, t) ∧ (t = 2 ∨ (t = 12 ∧ Y.2.2.2.2.2 0 = 9)) ∧ st = xv_r q :: xv_r k :: r ∧ M.1[k]? = some (xt_o ci fs) ∧ fs[j]? = some (some o) ∧ K pn loc r (M.1.set k (xt_o ci (fs.set j (some (some q)))), M.2.1, M.2.2) nc ns)
def xm_sG (Y : xm_Y) (xt : Nat → Nat × (Nat → Int32)) (nL : Nat) (pc : Nat) (loc : xm_L) (st : List xm_V) (M : xm_M) (nc ns : Nat) (K : xm_K) : Prop :=
  (∃ (ix : Nat) (ci : Nat) (fs : List xm_F) (pn : Nat), Y.1 pc = some (.new ix, pn) ∧ Y.2.2.2.1 ix = some (ci, fs) ∧ K pn loc (xv_r M.1.length :: st) (M.1 ++ [xt_o ci fs], xz_2 M.2.1 M.1.length 0, M.2.2) (nc + 1) (ns + fs.length)) ∨
  (∃ (n : Int32) (N : Nat) (r : List xm_V) (pn : Nat), Y.1 pc = some (.newarray .int, pn) ∧ st = xv_i n :: r ∧ ¬ n < 0 ∧ n.toNatClampNeg = N ∧ N ≤ 67108864 ∧ K pn loc (xv_r M.1.length :: r) (M.1 ++ [xt_r 0 N], xz_2 M.2.1 M.1.length 0, xz_2 M.2.2 M.1.length 0) (nc + 1) (ns + N)) ∨
  (∃ (n : Int32) (N : Nat) (r : List xm_V) (pn : Nat), Y.1 pc = some (.newarray .long, pn) ∧ st = xv_i n :: r ∧ ¬ n < 0 ∧ n.toNatClampNeg = N ∧ N ≤ 67108864 ∧ K pn loc (xv_r M.1.length :: r) (M.1 ++ [xt_r 1 N], xz_2 M.2.1 M.1.length 0, xz_2 M.2.2 M.1.length 0) (nc + 1) (ns + N)) ∨
  (∃ (n : Int32) (N : Nat) (r : List xm_V) (pn : Nat), Y.1 pc = some (.newarray .boolean, pn) ∧ st = xv_i n :: r ∧ ¬ n < 0 ∧ n.toNatClampNeg = N ∧ N ≤ 67108864 ∧ K pn loc (xv_r M.1.length :: r) (M.1 ++ [xt_r 2 N], xz_2 M.2.1 M.1.length 0, xz_2 M.2.2 M.1.length 0) (nc + 1) (ns + N)) ∨
  (∃ (ix : Nat) (k : Nat) (r : List xm_V) (pn : Nat), Y.1 pc = some (.invokespecial ix, pn) ∧ Y.2.2.2.2.2 ix = 2 ∧ st = xv_r k :: r ∧ xm_c8 r = true ∧ K pn loc r M nc ns) ∨
  (∃ (ix : Nat) (n : Int32) (dp : Int32) (sp : Int32) (kd : Nat) (ks : Nat) (nd : Nat) (n0 : Nat) (r : List xm_V) (pn : Nat), Y.1 pc = some (.invokestatic ix, pn) ∧ Y.2.2.2.2.2 ix = 1 ∧ st = xv_i n :: xv_i dp :: xv_r kd :: xv_i sp :: xv_r ks :: r ∧ M.1[ks]? = some (xt_r 1 n0) ∧ M.1[kd]? = some (xt_r 1 nd) ∧ ¬ sp < 0 ∧ ¬ dp < 0 ∧ ¬ n < 0 ∧ sp.toNatClampNeg + n.toNatClampNeg ≤ n0 ∧ dp.toNatClampNeg + n.toNatClampNeg ≤ nd ∧ ks ≠ kd ∧ xm_c8 r = true ∧ K pn loc r (M.1, M.2.1, xc_y M.2.2 kd (va_cpy (M.2.2 ks) (M.2.2 kd) sp.toNatClampNeg dp.toNatClampNeg n.toNatClampNeg)) nc ns)
def xm_s1 (Y : xm_Y) (xt : Nat → Nat × (Nat → Int32)) (nL : Nat) (pc : Nat) (loc : xm_L) (st : List xm_V) (M : xm_M) (nc ns : Nat) (K : xm_K) : Prop := xm_sA Y xt nL pc loc st M nc ns K ∨ xm_sB Y xt nL pc loc st M nc ns K ∨ xm_sC Y xt nL pc loc st M nc ns K ∨ xm_sD Y xt nL pc loc st M nc ns K ∨ xm_sE Y xt nL pc loc st M nc ns K ∨ xm_sF Y xt nL pc loc st M nc ns K ∨ xm_sG Y xt nL pc loc st M nc ns K
end
section
/-! Pure: 'from here the method comes to its end with Q', as the least predicate that is closed under step, call, return, and forgetting of locals. -/
abbrev xm_P : Type := Option xm_V → xm_M → Prop
-- a program: code, number of locals and kind of answer (0 none, 1 int, 2 long, 3 reference, 4 boolean) of each method; which method a call means, how many values it takes, how it is called (0 virtual, 1 static, 2 special), the receiver's kind
abbrev xm_Pr : Type := (Nat → xm_Y) × (Nat → Nat) × (Nat → Nat) × (Nat → Nat → Option (Nat × Nat × Nat × Nat))
abbrev xm_GT : Type := Nat → Nat → Nat → Nat → xm_P → xm_K
def xm_en : List xm_V → xm_L
  | [] => []
  | v :: r => bif Nat.beq (xm_cat v) 2 then some v :: none :: xm_en r else some v :: xm_en r
def xm_ent (n : Nat) (av : List xm_V) : xm_L := xm_en av ++ List.replicate (n - (xm_en av).length) none
def xm_isCall (Y : xm_Y) (T : List xm_T) (av : List xm_V) (pc ix pn kd ci : Nat) : Prop :=
  (kd = 0 ∧ Y.1 pc = some (.invokevirtual ix, pn) ∧ ∃ k fs as, av = xv_r k :: as ∧ T[k]? = some (xt_o ci fs)) ∨ (kd = 1 ∧ Y.1 pc = some (.invokestatic ix, pn)) ∨ (kd = 2 ∧ Y.1 pc = some (.invokespecial ix, pn) ∧ ∃ k as, av = xv_r k :: as)
theorem xk_V {Y : xm_Y} {T : List xm_T} {as : List xm_V} {fs : List xm_F} {k pc ix pn ci : Nat} (h : Y.1 pc = some (.invokevirtual ix, pn)) (hk : T[k]? = some (xt_o ci fs)) : xm_isCall Y T (xv_r k :: as) pc ix pn 0 ci := Or.inl ⟨rfl, h, _, _, _, rfl, hk⟩
theorem xk_S {Y : xm_Y} {T : List xm_T} {as : List xm_V} {pc ix pn ci : Nat} (h : Y.1 pc = some (.invokestatic ix, pn)) : xm_isCall Y T as pc ix pn 1 ci := Or.inr (Or.inl ⟨rfl, h⟩)
theorem xk_I {Y : xm_Y} {T : List xm_T} {as : List xm_V} {k pc ix pn ci : Nat} (h : Y.1 pc = some (.invokespecial ix, pn)) : xm_isCall Y T (xv_r k :: as) pc ix pn 2 ci := Or.inr (Or.inr ⟨rfl, h, _, _, rfl⟩)
def xm_cS (P : xm_Pr) (xt : Nat → Nat × (Nat → Int32)) (G : xm_GT) : Prop := ∀ (d y C0 S0 : Nat) (Q : xm_P) (pc : Nat) (loc : xm_L) (st : List xm_V) (M : xm_M) (nc ns : Nat),
  ∀ K : xm_K, xm_s1 (P.1 y) xt (P.2.1 y) pc loc st M nc ns K → (∀ a1 a2 a3 a4 a5 a6, K a1 a2 a3 a4 a5 a6 → G d y C0 S0 Q a1 a2 a3 a4 a5 a6) → G d y C0 S0 Q pc loc st M nc ns
def xm_cC (P : xm_Pr) (G : xm_GT) : Prop := ∀ (d y C0 S0 : Nat) (Q : xm_P) (pc : Nat) (loc : xm_L) (M : xm_M) (nc ns ix pn y' kd ci c1 s1 : Nat) (av rest : List xm_V) (Q' : xm_P),
  xm_isCall (P.1 y) M.1 av pc ix pn kd ci → P.2.2.2 y ix = some (y', av.length, kd, ci) → (xm_en av).length ≤ P.2.1 y' → xm_c8 rest = true →
  G d y' c1 s1 Q' 0 (xm_ent (P.2.1 y') av) [] M 0 0 → (∀ r M', Q' r M' → G (d + 1) y C0 S0 Q pn loc (r.toList ++ rest) M' (nc + c1) (ns + s1)) →
  G (d + 1) y C0 S0 Q pc loc (av.reverse ++ rest) M nc ns
def xm_retOk (Y : xm_Y) (k pc : Nat) (r : Option xm_V) : Prop := ∃ pn : Nat, match k, r with
  | 0, none => Y.1 pc = some (.return_, pn)
  | 1, some (Sum.inl _) => Y.1 pc = some (.ireturn, pn)
  | 2, some (Sum.inr (Sum.inl _)) => Y.1 pc = some (.lreturn, pn)
  | 3, some (Sum.inr (Sum.inr (Sum.inl (some _)))) => Y.1 pc = some (.areturn, pn)
  | 4, some (Sum.inl x) => Y.1 pc = some (.ireturn, pn) ∧ (x = 0 ∨ x = 1)
  | _, _ => False
def xm_cR (P : xm_Pr) (G : xm_GT) : Prop := ∀ (d y C0 S0 : Nat) (Q : xm_P) (pc : Nat) (loc : xm_L) (M : xm_M) (nc ns : Nat) (r : Option xm_V),
  xm_retOk (P.1 y) (P.2.2.1 y) pc r → nc ≤ C0 → ns ≤ S0 → Q r M → G d y C0 S0 Q pc loc r.toList M nc ns
-- fewer locals are known
def xm_le : xm_L → xm_L → Prop
  | [], [] => True
  | none :: a, _ :: b => xm_le a b
  | some v :: a, w :: b => w = some v ∧ xm_le a b
  | _, _ => False
def xm_cF (G : xm_GT) : Prop := ∀ (d y C0 S0 : Nat) (Q : xm_P) (pc : Nat) (loc loc' : xm_L) (st : List xm_V) (M : xm_M) (nc ns : Nat),
  xm_le loc' loc → G d y C0 S0 Q pc loc' st M nc ns → G d y C0 S0 Q pc loc st M nc ns
def xm_clo (P : xm_Pr) (xt : Nat → Nat × (Nat → Int32)) (G : xm_GT) : Prop := xm_cS P xt G ∧ xm_cC P G ∧ xm_cR P G ∧ xm_cF G
def xm_Run (P : xm_Pr) (xt : Nat → Nat × (Nat → Int32)) : xm_GT := fun d y C0 S0 Q pc loc st M nc ns => ∀ G : xm_GT, xm_clo P xt G → G d y C0 S0 Q pc loc st M nc ns
section RUN
variable {P : xm_Pr} {xt : Nat → Nat × (Nat → Int32)} {d y C0 S0 : Nat} {Q : xm_P} {pc pn : Nat} {loc : xm_L} {st : List xm_V} {M : xm_M} {nc ns : Nat}
theorem xr_step (h : xm_s1 (P.1 y) xt (P.2.1 y) pc loc st M nc ns (xm_Run P xt d y C0 S0 Q)) : xm_Run P xt d y C0 S0 Q pc loc st M nc ns :=
  fun G hG => hG.1 d y C0 S0 Q pc loc st M nc ns _ h fun a1 a2 a3 a4 a5 a6 k => k G hG
theorem xr_forget {loc' : xm_L} (h : xm_le loc' loc) (k : xm_Run P xt d y C0 S0 Q pc loc' st M nc ns) : xm_Run P xt d y C0 S0 Q pc loc st M nc ns :=
  fun G hG => hG.2.2.2 d y C0 S0 Q pc loc loc' st M nc ns h (k G hG)
theorem xr_call0 {ix y' kd ci c1 s1 : Nat} (av : List xm_V) {rest : List xm_V} {Q' : xm_P} (hi : xm_isCall (P.1 y) M.1 av pc ix pn kd ci) (hc : P.2.2.2 y ix = some (y', av.length, kd, ci)) (hle : (xm_en av).length ≤ P.2.1 y') (h8 : xm_c8 rest = true)
    (hy : xm_Run P xt d y' c1 s1 Q' 0 (xm_ent (P.2.1 y') av) [] M 0 0) (hk : ∀ r M', Q' r M' → xm_Run P xt (d + 1) y C0 S0 Q pn loc (r.toList ++ rest) M' (nc + c1) (ns + s1)) :
    xm_Run P xt (d + 1) y C0 S0 Q pc loc (av.reverse ++ rest) M nc ns :=
  fun G hG => hG.2.1 d y C0 S0 Q pc loc M nc ns ix pn y' kd ci c1 s1 av rest Q' hi hc hle h8 (hy G hG) (fun r M' q => hk r M' q G hG)
theorem xr_ret0 {r : Option xm_V} (hr : xm_retOk (P.1 y) (P.2.2.1 y) pc r) (h1 : nc ≤ C0) (h2 : ns ≤ S0) (hq : Q r M) : xm_Run P xt d y C0 S0 Q pc loc r.toList M nc ns :=
  fun G hG => hG.2.2.1 d y C0 S0 Q pc loc M nc ns r hr h1 h2 hq
-- the end may be weakened
theorem xr_post {Q' : xm_P} (h : xm_Run P xt d y C0 S0 Q pc loc st M nc ns) (hq : ∀ r M, Q r M → Q' r M) : xm_Run P xt d y C0 S0 Q' pc loc st M nc ns :=
  fun G hG => h (fun d y C0 S0 Q pc loc st M nc ns => ∀ Q' : xm_P, (∀ r M, Q r M → Q' r M) → G d y C0 S0 Q' pc loc st M nc ns)
    ⟨fun d y C0 S0 Q pc loc st M nc ns K h hk Q' hq => hG.1 d y C0 S0 Q' pc loc st M nc ns K h fun a1 a2 a3 a4 a5 a6 k => hk a1 a2 a3 a4 a5 a6 k Q' hq,
     fun d y C0 S0 Q pc loc M nc ns ix pn y' kd ci c1 s1 av rest R hi hc hle h8 hy hk Q' hq => hG.2.1 d y C0 S0 Q' pc loc M nc ns ix pn y' kd ci c1 s1 av rest R hi hc hle h8 (hy R fun _ _ q => q) (fun r M' q => hk r M' q Q' hq),
     fun d y C0 S0 Q pc loc M nc ns r hr h1 h2 hq0 Q' hq => hG.2.2.1 d y C0 S0 Q' pc loc M nc ns r hr h1 h2 (hq r M hq0),
     fun d y C0 S0 Q pc loc loc' st M nc ns hl h Q' hq => hG.2.2.2 d y C0 S0 Q' pc loc loc' st M nc ns hl (h Q' hq)⟩ Q' hq
-- more frames do no harm
theorem xr_deep {d' : Nat} (h : xm_Run P xt d y C0 S0 Q pc loc st M nc ns) (hd : d ≤ d') : xm_Run P xt d' y C0 S0 Q pc loc st M nc ns :=
  fun G hG => h (fun d y C0 S0 Q pc loc st M nc ns => ∀ d' : Nat, d ≤ d' → G d' y C0 S0 Q pc loc st M nc ns)
    ⟨fun d y C0 S0 Q pc loc st M nc ns K h hk d' hd => hG.1 d' y C0 S0 Q pc loc st M nc ns K h fun a1 a2 a3 a4 a5 a6 k => hk a1 a2 a3 a4 a5 a6 k d' hd,
     fun d y C0 S0 Q pc loc M nc ns ix pn y' kd ci c1 s1 av rest R hi hc hle h8 hy hk d' hd => by
       cases d' with
       | zero => exact absurd hd (Nat.not_succ_le_zero d)
       | succ d' => exact hG.2.1 d' y C0 S0 Q pc loc M nc ns ix pn y' kd ci c1 s1 av rest R hi hc hle h8 (hy d' (Nat.le_of_succ_le_succ hd)) (fun r M' q => hk r M' q (d' + 1) hd),
     fun d y C0 S0 Q pc loc M nc ns r hr h1 h2 hq0 d' hd => hG.2.2.1 d' y C0 S0 Q pc loc M nc ns r hr h1 h2 hq0,
     fun d y C0 S0 Q pc loc loc' st M nc ns hl h d' hd => hG.2.2.2 d' y C0 S0 Q pc loc loc' st M nc ns hl (h d' hd)⟩ d' hd
theorem xr_iconst {n : Int} (hi : (P.1 y).1 pc = some (.iconst n, pn))  (k : xm_Run P xt d y C0 S0 Q pn loc (xv_i (Int32.ofInt n) :: st) M nc ns) : xm_Run P xt d y C0 S0 Q pc loc st M nc ns := xr_step (Or.inl (Or.inl (⟨_, _, hi, k⟩)))
theorem xr_bipush {n : Int} (hi : (P.1 y).1 pc = some (.bipush n, pn))  (k : xm_Run P xt d y C0 S0 Q pn loc (xv_i (Int8.ofInt n).toInt32 :: st) M nc ns) : xm_Run P xt d y C0 S0 Q pc loc st M nc ns := xr_step (Or.inl (Or.inr (Or.inl (⟨_, _, hi, k⟩))))
theorem xr_sipush {n : Int} (hi : (P.1 y).1 pc = some (.sipush n, pn))  (k : xm_Run P xt d y C0 S0 Q pn loc (xv_i (Int16.ofInt n).toInt32 :: st) M nc ns) : xm_Run P xt d y C0 S0 Q pc loc st M nc ns := xr_step (Or.inl (Or.inr (Or.inr (Or.inl (⟨_, _, hi, k⟩)))))
theorem xr_iconst_ {n : Int} (v : Int32) (hi : (P.1 y).1 pc = some (.iconst n, pn)) (hv : Int32.ofInt n = v) (k : xm_Run P xt d y C0 S0 Q pn loc (xv_i v :: st) M nc ns) : xm_Run P xt d y C0 S0 Q pc loc st M nc ns := by subst hv; exact xr_step (Or.inl (Or.inl (⟨_, _, hi, k⟩)))
theorem xr_bipush_ {n : Int} (v : Int32) (hi : (P.1 y).1 pc = some (.bipush n, pn)) (hv : (Int8.ofInt n).toInt32 = v) (k : xm_Run P xt d y C0 S0 Q pn loc (xv_i v :: st) M nc ns) : xm_Run P xt d y C0 S0 Q pc loc st M nc ns := by subst hv; exact xr_step (Or.inl (Or.inr (Or.inl (⟨_, _, hi, k⟩))))
theorem xr_sipush_ {n : Int} (v : Int32) (hi : (P.1 y).1 pc = some (.sipush n, pn)) (hv : (Int16.ofInt n).toInt32 = v) (k : xm_Run P xt d y C0 S0 Q pn loc (xv_i v :: st) M nc ns) : xm_Run P xt d y C0 S0 Q pc loc st M nc ns := by subst hv; exact xr_step (Or.inl (Or.inr (Or.inr (Or.inl (⟨_, _, hi, k⟩)))))
theorem xr_lconst_ {n : Fin 2} (v : Int64) (hi : (P.1 y).1 pc = some (.lconst n, pn)) (hv : Int64.ofNat (n : Nat) = v) (k : xm_Run P xt d y C0 S0 Q pn loc (xv_l v :: st) M nc ns) : xm_Run P xt d y C0 S0 Q pc loc st M nc ns := by subst hv; exact xr_step (Or.inl (Or.inr (Or.inr (Or.inr (Or.inl (⟨_, _, hi, k⟩))))))
theorem xr_ldc {ix : Nat} {v : Int32} (hi : (P.1 y).1 pc = some (.ldc ix, pn)) (hv : (P.1 y).2.1 ix = some (xv_i v)) (k : xm_Run P xt d y C0 S0 Q pn loc (xv_i v :: st) M nc ns) : xm_Run P xt d y C0 S0 Q pc loc st M nc ns := xr_step (Or.inl (Or.inr (Or.inr (Or.inr (Or.inr (Or.inl (⟨_, _, _, hi, hv, k⟩)))))))
theorem xr_ldc2 {ix : Nat} {v : Int64} (hi : (P.1 y).1 pc = some (.ldc2_w ix, pn)) (hv : (P.1 y).2.1 ix = some (xv_l v)) (k : xm_Run P xt d y C0 S0 Q pn loc (xv_l v :: st) M nc ns) : xm_Run P xt d y C0 S0 Q pc loc st M nc ns := xr_step (Or.inl (Or.inr (Or.inr (Or.inr (Or.inr (Or.inr (Or.inl (⟨_, _, _, hi, hv, k⟩))))))))
theorem xr_iload {a : Nat} {x : Int32} (hi : (P.1 y).1 pc = some (.iload a, pn)) (hl : loc[a]? = some (some (xv_i x))) (k : xm_Run P xt d y C0 S0 Q pn loc (xv_i x :: st) M nc ns) : xm_Run P xt d y C0 S0 Q pc loc st M nc ns := xr_step (Or.inl (Or.inr (Or.inr (Or.inr (Or.inr (Or.inr (Or.inr (Or.inl (⟨_, _, _, hi, hl, k⟩)))))))))
theorem xr_iload_n {a : Fin 4} {x : Int32} (hi : (P.1 y).1 pc = some (.iload_n a, pn)) (hl : loc[(a : Nat)]? = some (some (xv_i x))) (k : xm_Run P xt d y C0 S0 Q pn loc (xv_i x :: st) M nc ns) : xm_Run P xt d y C0 S0 Q pc loc st M nc ns := xr_step (Or.inl (Or.inr (Or.inr (Or.inr (Or.inr (Or.inr (Or.inr (Or.inr (Or.inl (⟨_, _, _, hi, hl, k⟩))))))))))
theorem xr_lload {a : Nat} {x : Int64} (hi : (P.1 y).1 pc = some (.lload a, pn)) (hl : loc[a]? = some (some (xv_l x))) (k : xm_Run P xt d y C0 S0 Q pn loc (xv_l x :: st) M nc ns) : xm_Run P xt d y C0 S0 Q pc loc st M nc ns := xr_step (Or.inl (Or.inr (Or.inr (Or.inr (Or.inr (Or.inr (Or.inr (Or.inr (Or.inr (Or.inl (⟨_, _, _, hi, hl, k⟩)))))))))))
theorem xr_lload_n {a : Fin 4} {x : Int64} (hi : (P.1 y).1 pc = some (.lload_n a, pn)) (hl : loc[(a : Nat)]? = some (some (xv_l x))) (k : xm_Run P xt d y C0 S0 Q pn loc (xv_l x :: st) M nc ns) : xm_Run P xt d y C0 S0 Q pc loc st M nc ns := xr_step (Or.inl (Or.inr (Or.inr (Or.inr (Or.inr (Or.inr (Or.inr (Or.inr (Or.inr (Or.inr (Or.inl (⟨_, _, _, hi, hl, k⟩))))))))))))
theorem xr_aload {a q : Nat} (hi : (P.1 y).1 pc = some (.aload a, pn)) (hl : loc[a]? = some (some (xv_r q))) (k : xm_Run P xt d y C0 S0 Q pn loc (xv_r q :: st) M nc ns) : xm_Run P xt d y C0 S0 Q pc loc st M nc ns := xr_step (Or.inl (Or.inr (Or.inr (Or.inr (Or.inr (Or.inr (Or.inr (Or.inr (Or.inr (Or.inr (Or.inr (Or.inl (⟨_, _, _, hi, hl, k⟩)))))))))))))
theorem xr_aload_n {a : Fin 4} {q : Nat} (hi : (P.1 y).1 pc = some (.aload_n a, pn)) (hl : loc[(a : Nat)]? = some (some (xv_r q))) (k : xm_Run P xt d y C0 S0 Q pn loc (xv_r q :: st) M nc ns) : xm_Run P xt d y C0 S0 Q pc loc st M nc ns := xr_step (Or.inl (Or.inr (Or.inr (Or.inr (Or.inr (Or.inr (Or.inr (Or.inr (Or.inr (Or.inr (Or.inr (Or.inr (Or.inl (⟨_, _, _, hi, hl, k⟩))))))))))))))
theorem xr_aloadx {a q : Nat} (hi : (P.1 y).1 pc = some (.aload a, pn)) (hl : loc[a]? = some (some (xv_x q))) (k : xm_Run P xt d y C0 S0 Q pn loc (xv_x q :: st) M nc ns) : xm_Run P xt d y C0 S0 Q pc loc st M nc ns := xr_step (Or.inl (Or.inr (Or.inr (Or.inr (Or.inr (Or.inr (Or.inr (Or.inr (Or.inr (Or.inr (Or.inr (Or.inr (Or.inr (Or.inl (⟨_, _, _, hi, hl, k⟩)))))))))))))))
theorem xr_aload_nx {a : Fin 4} {q : Nat} (hi : (P.1 y).1 pc = some (.aload_n a, pn)) (hl : loc[(a : Nat)]? = some (some (xv_x q))) (k : xm_Run P xt d y C0 S0 Q pn loc (xv_x q :: st) M nc ns) : xm_Run P xt d y C0 S0 Q pc loc st M nc ns := xr_step (Or.inl (Or.inr (Or.inr (Or.inr (Or.inr (Or.inr (Or.inr (Or.inr (Or.inr (Or.inr (Or.inr (Or.inr (Or.inr (Or.inr ((⟨_, _, _, hi, hl, k⟩))))))))))))))))
theorem xr_istore {a : Nat} {x : Int32} (loc' : xm_L) (hi : (P.1 y).1 pc = some (.istore a, pn)) (hn : a < P.2.1 y) (hl : xm_st1 loc a (xv_i x) = loc') (k : xm_Run P xt d y C0 S0 Q pn loc' st M nc ns) : xm_Run P xt d y C0 S0 Q pc loc (xv_i x :: st) M nc ns := by subst hl; exact xr_step (Or.inr (Or.inl (Or.inl (⟨_, _, _, _, hi, rfl, hn, k⟩))))
theorem xr_istore_n {a : Fin 4} {x : Int32} (loc' : xm_L) (hi : (P.1 y).1 pc = some (.istore_n a, pn)) (hn : (a : Nat) < P.2.1 y) (hl : xm_st1 loc (a : Nat) (xv_i x) = loc') (k : xm_Run P xt d y C0 S0 Q pn loc' st M nc ns) : xm_Run P xt d y C0 S0 Q pc loc (xv_i x :: st) M nc ns := by subst hl; exact xr_step (Or.inr (Or.inl (Or.inr (Or.inl (⟨_, _, _, _, hi, rfl, hn, k⟩)))))
theorem xr_lstore {a : Nat} {x : Int64} (loc' : xm_L) (hi : (P.1 y).1 pc = some (.lstore a, pn)) (hn : a + 1 < P.2.1 y) (hl : xm_st2 loc a (xv_l x) = loc') (k : xm_Run P xt d y C0 S0 Q pn loc' st M nc ns) : xm_Run P xt d y C0 S0 Q pc loc (xv_l x :: st) M nc ns := by subst hl; exact xr_step (Or.inr (Or.inl (Or.inr (Or.inr (Or.inl (⟨_, _, _, _, hi, rfl, hn, k⟩))))))
theorem xr_lstore_n {a : Fin 4} {x : Int64} (loc' : xm_L) (hi : (P.1 y).1 pc = some (.lstore_n a, pn)) (hn : (a : Nat) + 1 < P.2.1 y) (hl : xm_st2 loc (a : Nat) (xv_l x) = loc') (k : xm_Run P xt d y C0 S0 Q pn loc' st M nc ns) : xm_Run P xt d y C0 S0 Q pc loc (xv_l x :: st) M nc ns := by subst hl; exact xr_step (Or.inr (Or.inl (Or.inr (Or.inr (Or.inr (Or.inl (⟨_, _, _, _, hi, rfl, hn, k⟩)))))))
theorem xr_astore {a : Nat} {x : Nat} (loc' : xm_L) (hi : (P.1 y).1 pc = some (.astore a, pn)) (hn : a < P.2.1 y) (hl : xm_st1 loc a (xv_r x) = loc') (k : xm_Run P xt d y C0 S0 Q pn loc' st M nc ns) : xm_Run P xt d y C0 S0 Q pc loc (xv_r x :: st) M nc ns := by subst hl; exact xr_step (Or.inr (Or.inl (Or.inr (Or.inr (Or.inr (Or.inr (Or.inl (⟨_, _, _, _, hi, rfl, hn, k⟩))))))))
theorem xr_astore_n {a : Fin 4} {x : Nat} (loc' : xm_L) (hi : (P.1 y).1 pc = some (.astore_n a, pn)) (hn : (a : Nat) < P.2.1 y) (hl : xm_st1 loc (a : Nat) (xv_r x) = loc') (k : xm_Run P xt d y C0 S0 Q pn loc' st M nc ns) : xm_Run P xt d y C0 S0 Q pc loc (xv_r x :: st) M nc ns := by subst hl; exact xr_step (Or.inr (Or.inl (Or.inr (Or.inr (Or.inr (Or.inr (Or.inr (Or.inl (⟨_, _, _, _, hi, rfl, hn, k⟩)))))))))
theorem xr_iinc {a : Nat} {n : Int} {x : Int32} (v : Int32) (loc' : xm_L) (hi : (P.1 y).1 pc = some (.iinc a n, pn)) (hx : loc[a]? = some (some (xv_i x))) (hv : x + Int32.ofInt n = v) (hn : a < P.2.1 y) (hl : xm_st1 loc a (xv_i v) = loc') (k : xm_Run P xt d y C0 S0 Q pn loc' st M nc ns) : xm_Run P xt d y C0 S0 Q pc loc st M nc ns := by subst hv; subst hl; exact xr_step (Or.inr (Or.inl (Or.inr (Or.inr (Or.inr (Or.inr (Or.inr (Or.inr ((⟨_, _, _, _, hi, hx, hn, k⟩))))))))))
theorem xr_iadd {x z : Int32} (hi : (P.1 y).1 pc = some (.iadd, pn))  (k : xm_Run P xt d y C0 S0 Q pn loc (xv_i (x + z) :: st) M nc ns) : xm_Run P xt d y C0 S0 Q pc loc (xv_i z :: xv_i x :: st) M nc ns := xr_step (Or.inr (Or.inr (Or.inl (Or.inl (⟨_, _, _, _, hi, rfl, k⟩)))))
theorem xr_isub {x z : Int32} (hi : (P.1 y).1 pc = some (.isub, pn))  (k : xm_Run P xt d y C0 S0 Q pn loc (xv_i (x - z) :: st) M nc ns) : xm_Run P xt d y C0 S0 Q pc loc (xv_i z :: xv_i x :: st) M nc ns := xr_step (Or.inr (Or.inr (Or.inl (Or.inr (Or.inl (⟨_, _, _, _, hi, rfl, k⟩))))))
theorem xr_imul {x z : Int32} (hi : (P.1 y).1 pc = some (.imul, pn))  (k : xm_Run P xt d y C0 S0 Q pn loc (xv_i (x * z) :: st) M nc ns) : xm_Run P xt d y C0 S0 Q pc loc (xv_i z :: xv_i x :: st) M nc ns := xr_step (Or.inr (Or.inr (Or.inl (Or.inr (Or.inr (Or.inl (⟨_, _, _, _, hi, rfl, k⟩)))))))
theorem xr_iand {x z : Int32} (hi : (P.1 y).1 pc = some (.iand, pn))  (k : xm_Run P xt d y C0 S0 Q pn loc (xv_i (x &&& z) :: st) M nc ns) : xm_Run P xt d y C0 S0 Q pc loc (xv_i z :: xv_i x :: st) M nc ns := xr_step (Or.inr (Or.inr (Or.inl (Or.inr (Or.inr (Or.inr (Or.inl (⟨_, _, _, _, hi, rfl, k⟩))))))))
theorem xr_ior {x z : Int32} (hi : (P.1 y).1 pc = some (.ior, pn))  (k : xm_Run P xt d y C0 S0 Q pn loc (xv_i (x ||| z) :: st) M nc ns) : xm_Run P xt d y C0 S0 Q pc loc (xv_i z :: xv_i x :: st) M nc ns := xr_step (Or.inr (Or.inr (Or.inl (Or.inr (Or.inr (Or.inr (Or.inr (Or.inl (⟨_, _, _, _, hi, rfl, k⟩)))))))))
theorem xr_ixor {x z : Int32} (hi : (P.1 y).1 pc = some (.ixor, pn))  (k : xm_Run P xt d y C0 S0 Q pn loc (xv_i (x ^^^ z) :: st) M nc ns) : xm_Run P xt d y C0 S0 Q pc loc (xv_i z :: xv_i x :: st) M nc ns := xr_step (Or.inr (Or.inr (Or.inl (Or.inr (Or.inr (Or.inr (Or.inr (Or.inr (Or.inl (⟨_, _, _, _, hi, rfl, k⟩))))))))))
theorem xr_ishl {x z : Int32} (hi : (P.1 y).1 pc = some (.ishl, pn))  (k : xm_Run P xt d y C0 S0 Q pn loc (xv_i (x <<< (z &&& 31)) :: st) M nc ns) : xm_Run P xt d y C0 S0 Q pc loc (xv_i z :: xv_i x :: st) M nc ns := xr_step (Or.inr (Or.inr (Or.inl (Or.inr (Or.inr (Or.inr (Or.inr (Or.inr (Or.inr (Or.inl (⟨_, _, _, _, hi, rfl, k⟩)))))))))))
theorem xr_ishr {x z : Int32} (hi : (P.1 y).1 pc = some (.ishr, pn))  (k : xm_Run P xt d y C0 S0 Q pn loc (xv_i (x >>> (z &&& 31)) :: st) M nc ns) : xm_Run P xt d y C0 S0 Q pc loc (xv_i z :: xv_i x :: st) M nc ns := xr_step (Or.inr (Or.inr (Or.inl (Or.inr (Or.inr (Or.inr (Or.inr (Or.inr (Or.inr (Or.inr (Or.inl (⟨_, _, _, _, hi, rfl, k⟩))))))))))))
theorem xr_idiv {x z : Int32} (hi : (P.1 y).1 pc = some (.idiv, pn)) (h0 : ¬ z = 0) (k : xm_Run P xt d y C0 S0 Q pn loc (xv_i (x / z) :: st) M nc ns) : xm_Run P xt d y C0 S0 Q pc loc (xv_i z :: xv_i x :: st) M nc ns := xr_step (Or.inr (Or.inr (Or.inl (Or.inr (Or.inr (Or.inr (Or.inr (Or.inr (Or.inr (Or.inr (Or.inr (Or.inl (⟨_, _, _, _, hi, rfl, h0, k⟩)))))))))))))
theorem xr_ladd {x z : Int64} (hi : (P.1 y).1 pc = some (.ladd, pn))  (k : xm_Run P xt d y C0 S0 Q pn loc (xv_l (x + z) :: st) M nc ns) : xm_Run P xt d y C0 S0 Q pc loc (xv_l z :: xv_l x :: st) M nc ns := xr_step (Or.inr (Or.inr (Or.inl (Or.inr (Or.inr (Or.inr (Or.inr (Or.inr (Or.inr (Or.inr (Or.inr (Or.inr (Or.inl (⟨_, _, _, _, hi, rfl, k⟩))))))))))))))
theorem xr_lsub {x z : Int64} (hi : (P.1 y).1 pc = some (.lsub, pn))  (k : xm_Run P xt d y C0 S0 Q pn loc (xv_l (x - z) :: st) M nc ns) : xm_Run P xt d y C0 S0 Q pc loc (xv_l z :: xv_l x :: st) M nc ns := xr_step (Or.inr (Or.inr (Or.inl (Or.inr (Or.inr (Or.inr (Or.inr (Or.inr (Or.inr (Or.inr (Or.inr (Or.inr (Or.inr (Or.inl (⟨_, _, _, _, hi, rfl, k⟩)))))))))))))))
theorem xr_land {x z : Int64} (hi : (P.1 y).1 pc = some (.land, pn))  (k : xm_Run P xt d y C0 S0 Q pn loc (xv_l (x &&& z) :: st) M nc ns) : xm_Run P xt d y C0 S0 Q pc loc (xv_l z :: xv_l x :: st) M nc ns := xr_step (Or.inr (Or.inr (Or.inl (Or.inr (Or.inr (Or.inr (Or.inr (Or.inr (Or.inr (Or.inr (Or.inr (Or.inr (Or.inr (Or.inr (Or.inl (⟨_, _, _, _, hi, rfl, k⟩))))))))))))))))
theorem xr_lor {x z : Int64} (hi : (P.1 y).1 pc = some (.lor, pn))  (k : xm_Run P xt d y C0 S0 Q pn loc (xv_l (x ||| z) :: st) M nc ns) : xm_Run P xt d y C0 S0 Q pc loc (xv_l z :: xv_l x :: st) M nc ns := xr_step (Or.inr (Or.inr (Or.inl (Or.inr (Or.inr (Or.inr (Or.inr (Or.inr (Or.inr (Or.inr (Or.inr (Or.inr (Or.inr (Or.inr (Or.inr (Or.inl (⟨_, _, _, _, hi, rfl, k⟩)))))))))))))))))
theorem xr_lcmp {x z : Int64} (hi : (P.1 y).1 pc = some (.lcmp, pn))  (k : xm_Run P xt d y C0 S0 Q pn loc (xv_i (lg_cmp x z) :: st) M nc ns) : xm_Run P xt d y C0 S0 Q pc loc (xv_l z :: xv_l x :: st) M nc ns := xr_step (Or.inr (Or.inr (Or.inl (Or.inr (Or.inr (Or.inr (Or.inr (Or.inr (Or.inr (Or.inr (Or.inr (Or.inr (Or.inr (Or.inr (Or.inr (Or.inr (Or.inl (⟨_, _, _, _, hi, rfl, k⟩))))))))))))))))))
theorem xr_lshl {x : Int64} {z : Int32} (hi : (P.1 y).1 pc = some (.lshl, pn))  (k : xm_Run P xt d y C0 S0 Q pn loc (xv_l (x <<< (z.toInt64 &&& 63)) :: st) M nc ns) : xm_Run P xt d y C0 S0 Q pc loc (xv_i z :: xv_l x :: st) M nc ns := xr_step (Or.inr (Or.inr (Or.inl (Or.inr (Or.inr (Or.inr (Or.inr (Or.inr (Or.inr (Or.inr (Or.inr (Or.inr (Or.inr (Or.inr (Or.inr (Or.inr (Or.inr (Or.inl (⟨_, _, _, _, hi, rfl, k⟩)))))))))))))))))))
theorem xr_lshr {x : Int64} {z : Int32} (hi : (P.1 y).1 pc = some (.lshr, pn))  (k : xm_Run P xt d y C0 S0 Q pn loc (xv_l (x >>> (z.toInt64 &&& 63)) :: st) M nc ns) : xm_Run P xt d y C0 S0 Q pc loc (xv_i z :: xv_l x :: st) M nc ns := xr_step (Or.inr (Or.inr (Or.inl (Or.inr (Or.inr (Or.inr (Or.inr (Or.inr (Or.inr (Or.inr (Or.inr (Or.inr (Or.inr (Or.inr (Or.inr (Or.inr (Or.inr (Or.inr (Or.inl (⟨_, _, _, _, hi, rfl, k⟩))))))))))))))))))))
theorem xr_i2l {x : Int32} (hi : (P.1 y).1 pc = some (.i2l, pn))  (k : xm_Run P xt d y C0 S0 Q pn loc (xv_l x.toInt64 :: st) M nc ns) : xm_Run P xt d y C0 S0 Q pc loc (xv_i x :: st) M nc ns := xr_step (Or.inr (Or.inr (Or.inl (Or.inr (Or.inr (Or.inr (Or.inr (Or.inr (Or.inr (Or.inr (Or.inr (Or.inr (Or.inr (Or.inr (Or.inr (Or.inr (Or.inr (Or.inr (Or.inr (Or.inl (⟨_, _, _, hi, rfl, k⟩)))))))))))))))))))))
theorem xr_l2i {x : Int64} (hi : (P.1 y).1 pc = some (.l2i, pn))  (k : xm_Run P xt d y C0 S0 Q pn loc (xv_i x.toInt32 :: st) M nc ns) : xm_Run P xt d y C0 S0 Q pc loc (xv_l x :: st) M nc ns := xr_step (Or.inr (Or.inr (Or.inl (Or.inr (Or.inr (Or.inr (Or.inr (Or.inr (Or.inr (Or.inr (Or.inr (Or.inr (Or.inr (Or.inr (Or.inr (Or.inr (Or.inr (Or.inr (Or.inr (Or.inr ((⟨_, _, _, hi, rfl, k⟩))))))))))))))))))))))
theorem xr_dup {v : xm_V} (hi : (P.1 y).1 pc = some (.dup, pn)) (hc : xm_cat v = 1) (k : xm_Run P xt d y C0 S0 Q pn loc (v :: v :: st) M nc ns) : xm_Run P xt d y C0 S0 Q pc loc (v :: st) M nc ns := xr_step (Or.inr (Or.inr (Or.inr (Or.inl (Or.inl (⟨_, _, _, hi, rfl, hc, k⟩))))))
theorem xr_pop {v : xm_V} (hi : (P.1 y).1 pc = some (.pop, pn)) (hc : xm_cat v = 1) (k : xm_Run P xt d y C0 S0 Q pn loc st M nc ns) : xm_Run P xt d y C0 S0 Q pc loc (v :: st) M nc ns := xr_step (Or.inr (Or.inr (Or.inr (Or.inl (Or.inr (Or.inl (⟨_, _, _, hi, rfl, hc, k⟩)))))))
theorem xr_dup2 {v w : xm_V} (hi : (P.1 y).1 pc = some (.dup2, pn)) (hc : xm_cat v = 1) (hw : xm_cat w = 1) (k : xm_Run P xt d y C0 S0 Q pn loc (v :: w :: v :: w :: st) M nc ns) : xm_Run P xt d y C0 S0 Q pc loc (v :: w :: st) M nc ns := xr_step (Or.inr (Or.inr (Or.inr (Or.inl (Or.inr (Or.inr (Or.inl (⟨_, _, _, _, hi, rfl, hc, hw, k⟩))))))))
theorem xr_goto {off : Int} (t : Nat) (hi : (P.1 y).1 pc = some (.goto off, pn)) (ht : (pc : Int) + off = (t : Int)) (k : xm_Run P xt d y C0 S0 Q t loc st M nc ns) : xm_Run P xt d y C0 S0 Q pc loc st M nc ns := xr_step (Or.inr (Or.inr (Or.inr (Or.inl (Or.inr (Or.inr (Or.inr (Or.inl (⟨_, _, _, hi, ht, k⟩)))))))))
theorem xr_ift {off : Int} {c : Jvm.ClassFile.Cond} {x : Int32} (t : Nat) (hi : (P.1 y).1 pc = some (.ifCond c off, pn)) (ht : (pc : Int) + off = (t : Int)) (hx : xm_c1 c x) (k : xm_Run P xt d y C0 S0 Q t loc st M nc ns) : xm_Run P xt d y C0 S0 Q pc loc (xv_i x :: st) M nc ns := xr_step (Or.inr (Or.inr (Or.inr (Or.inl (Or.inr (Or.inr (Or.inr (Or.inr (Or.inl (⟨_, _, _, _, _, _, hi, rfl, ht, fun _ => k, fun q => absurd hx q⟩))))))))))
theorem xr_iff {off : Int} {c : Jvm.ClassFile.Cond} {x : Int32} (t : Nat) (hi : (P.1 y).1 pc = some (.ifCond c off, pn)) (ht : (pc : Int) + off = (t : Int)) (hx : ¬ xm_c1 c x) (k : xm_Run P xt d y C0 S0 Q pn loc st M nc ns) : xm_Run P xt d y C0 S0 Q pc loc (xv_i x :: st) M nc ns := xr_step (Or.inr (Or.inr (Or.inr (Or.inl (Or.inr (Or.inr (Or.inr (Or.inr (Or.inl (⟨_, _, _, _, _, _, hi, rfl, ht, fun q => absurd q hx, fun _ => k⟩))))))))))
theorem xr_ict {off : Int} {c : Jvm.ClassFile.Cond} {x z : Int32} (t : Nat) (hi : (P.1 y).1 pc = some (.if_icmp c off, pn)) (ht : (pc : Int) + off = (t : Int)) (hx : xm_c2 c x z) (k : xm_Run P xt d y C0 S0 Q t loc st M nc ns) : xm_Run P xt d y C0 S0 Q pc loc (xv_i z :: xv_i x :: st) M nc ns := xr_step (Or.inr (Or.inr (Or.inr (Or.inl (Or.inr (Or.inr (Or.inr (Or.inr (Or.inr (Or.inl (⟨_, _, _, _, _, _, _, hi, rfl, ht, fun _ => k, fun q => absurd hx q⟩)))))))))))
theorem xr_icf {off : Int} {c : Jvm.ClassFile.Cond} {x z : Int32} (t : Nat) (hi : (P.1 y).1 pc = some (.if_icmp c off, pn)) (ht : (pc : Int) + off = (t : Int)) (hx : ¬ xm_c2 c x z) (k : xm_Run P xt d y C0 S0 Q pn loc st M nc ns) : xm_Run P xt d y C0 S0 Q pc loc (xv_i z :: xv_i x :: st) M nc ns := xr_step (Or.inr (Or.inr (Or.inr (Or.inl (Or.inr (Or.inr (Or.inr (Or.inr (Or.inr (Or.inl (⟨_, _, _, _, _, _, _, hi, rfl, ht, fun q => absurd q hx, fun _ => k⟩)))))))))))
theorem xr_swo {df lo up : Int} {os : Array Int} {x : Int32} (t : Nat) (hi : (P.1 y).1 pc = some (.tableswitch df lo up os, pn)) (hx : x.toInt < lo ∨ up < x.toInt) (ht : (pc : Int) + df = (t : Int)) (k : xm_Run P xt d y C0 S0 Q t loc st M nc ns) : xm_Run P xt d y C0 S0 Q pc loc (xv_i x :: st) M nc ns := xr_step (Or.inr (Or.inr (Or.inr (Or.inl (Or.inr (Or.inr (Or.inr (Or.inr (Or.inr (Or.inr (Or.inl (⟨_, _, _, _, _, _, _, _, hi, rfl, hx, ht, k⟩))))))))))))
theorem xr_swi {df lo up : Int} {os : Array Int} {x : Int32} {off : Int} (t : Nat) (hi : (P.1 y).1 pc = some (.tableswitch df lo up os, pn)) (h1 : ¬ x.toInt < lo) (h2 : ¬ up < x.toInt) (ho : os[(x.toInt - lo).toNat]? = some off) (ht : (pc : Int) + off = (t : Int)) (k : xm_Run P xt d y C0 S0 Q t loc st M nc ns) : xm_Run P xt d y C0 S0 Q pc loc (xv_i x :: st) M nc ns := xr_step (Or.inr (Or.inr (Or.inr (Or.inl (Or.inr (Or.inr (Or.inr (Or.inr (Or.inr (Or.inr (Or.inr ((⟨_, _, _, _, _, _, _, _, _, hi, rfl, h1, h2, ho, ht, k⟩)))))))))))))
theorem xr_iald {i : Int32} {a n : Nat} (hi : (P.1 y).1 pc = some (.iaload, pn)) (ha : M.1[a]? = some (xt_r 0 n)) (hn : vp_in i n) (k : xm_Run P xt d y C0 S0 Q pn loc (xv_i (M.2.1 a i.toNatClampNeg) :: st) M nc ns) : xm_Run P xt d y C0 S0 Q pc loc (xv_i i :: xv_r a :: st) M nc ns := xr_step (Or.inr (Or.inr (Or.inr (Or.inr (Or.inl (Or.inl (⟨_, _, _, _, _, hi, rfl, ha, hn, k⟩)))))))
theorem xr_ialdx {i : Int32} {q : Nat} (hi : (P.1 y).1 pc = some (.iaload, pn)) (hn : vp_in i (xt q).1) (k : xm_Run P xt d y C0 S0 Q pn loc (xv_i ((xt q).2 i.toNatClampNeg) :: st) M nc ns) : xm_Run P xt d y C0 S0 Q pc loc (xv_i i :: xv_x q :: st) M nc ns := xr_step (Or.inr (Or.inr (Or.inr (Or.inr (Or.inl (Or.inr (Or.inl (⟨_, _, _, _, hi, rfl, hn, k⟩))))))))
theorem xr_bald {i : Int32} {a n : Nat} (hi : (P.1 y).1 pc = some (.baload, pn)) (ha : M.1[a]? = some (xt_r 2 n)) (hn : vp_in i n) (k : xm_Run P xt d y C0 S0 Q pn loc (xv_i (M.2.1 a i.toNatClampNeg) :: st) M nc ns) : xm_Run P xt d y C0 S0 Q pc loc (xv_i i :: xv_r a :: st) M nc ns := xr_step (Or.inr (Or.inr (Or.inr (Or.inr (Or.inl (Or.inr (Or.inr (Or.inl (⟨_, _, _, _, _, hi, rfl, ha, hn, k⟩)))))))))
theorem xr_lald {i : Int32} {a n : Nat} (hi : (P.1 y).1 pc = some (.laload, pn)) (ha : M.1[a]? = some (xt_r 1 n)) (hn : vp_in i n) (k : xm_Run P xt d y C0 S0 Q pn loc (xv_l (M.2.2 a i.toNatClampNeg) :: st) M nc ns) : xm_Run P xt d y C0 S0 Q pc loc (xv_i i :: xv_r a :: st) M nc ns := xr_step (Or.inr (Or.inr (Or.inr (Or.inr (Or.inl (Or.inr (Or.inr (Or.inr (Or.inl (⟨_, _, _, _, _, hi, rfl, ha, hn, k⟩))))))))))
theorem xr_iast {i x : Int32} {a n : Nat} (hi : (P.1 y).1 pc = some (.iastore, pn)) (ha : M.1[a]? = some (xt_r 0 n)) (hn : vp_in i n) (k : xm_Run P xt d y C0 S0 Q pn loc st (M.1, xu_2 M.2.1 a i.toNatClampNeg x, M.2.2) nc ns) : xm_Run P xt d y C0 S0 Q pc loc (xv_i x :: xv_i i :: xv_r a :: st) M nc ns := xr_step (Or.inr (Or.inr (Or.inr (Or.inr (Or.inr (Or.inl (Or.inl (⟨_, _, _, _, _, _, hi, rfl, ha, hn, k⟩))))))))
theorem xr_bast {i x : Int32} {a n : Nat} (hi : (P.1 y).1 pc = some (.bastore, pn)) (ha : M.1[a]? = some (xt_r 2 n)) (hn : vp_in i n) (hx : x = 0 ∨ x = 1) (k : xm_Run P xt d y C0 S0 Q pn loc st (M.1, xu_2 M.2.1 a i.toNatClampNeg x, M.2.2) nc ns) : xm_Run P xt d y C0 S0 Q pc loc (xv_i x :: xv_i i :: xv_r a :: st) M nc ns := xr_step (Or.inr (Or.inr (Or.inr (Or.inr (Or.inr (Or.inl (Or.inr (Or.inl (⟨_, _, _, _, _, _, hi, rfl, ha, hn, hx, k⟩)))))))))
theorem xr_last {i : Int32} {x : Int64} {a n : Nat} (hi : (P.1 y).1 pc = some (.lastore, pn)) (ha : M.1[a]? = some (xt_r 1 n)) (hn : vp_in i n) (k : xm_Run P xt d y C0 S0 Q pn loc st (M.1, M.2.1, xu_2 M.2.2 a i.toNatClampNeg x) nc ns) : xm_Run P xt d y C0 S0 Q pc loc (xv_l x :: xv_i i :: xv_r a :: st) M nc ns := xr_step (Or.inr (Or.inr (Or.inr (Or.inr (Or.inr (Or.inl (Or.inr (Or.inr (Or.inl (⟨_, _, _, _, _, _, hi, rfl, ha, hn, k⟩))))))))))
theorem xr_alen {a t n : Nat} (v : Int32) (hi : (P.1 y).1 pc = some (.arraylength, pn)) (ha : M.1[a]? = some (xt_r t n)) (ht : t < 3) (hv : nI n = v) (k : xm_Run P xt d y C0 S0 Q pn loc (xv_i v :: st) M nc ns) : xm_Run P xt d y C0 S0 Q pc loc (xv_r a :: st) M nc ns := xr_step (Or.inr (Or.inr (Or.inr (Or.inr (Or.inl (Or.inr (Or.inr (Or.inr (Or.inr (Or.inl (⟨_, _, _, _, _, hi, rfl, ha, ht, by rw [hv]; exact k⟩)))))))))))
theorem xr_alenx {q : Nat} (hi : (P.1 y).1 pc = some (.arraylength, pn))  (k : xm_Run P xt d y C0 S0 Q pn loc (xv_i (nI (xt q).1) :: st) M nc ns) : xm_Run P xt d y C0 S0 Q pc loc (xv_x q :: st) M nc ns := xr_step (Or.inr (Or.inr (Or.inr (Or.inr (Or.inl (Or.inr (Or.inr (Or.inr (Or.inr (Or.inr (Or.inl (⟨_, _, _, hi, rfl, k⟩))))))))))))
theorem xr_get {ix ci j ty a : Nat} {fs : List xm_F} {f : xm_F} (v : xm_V) (hi : (P.1 y).1 pc = some (.getfield ix, pn)) (hf : (P.1 y).2.2.1 ix = some (ci, j, ty)) (ha : M.1[a]? = some (xt_o ci fs)) (hj : fs[j]? = some f) (hv : xm_fv M.2.1 a j f = v) (k : xm_Run P xt d y C0 S0 Q pn loc (v :: st) M nc ns) : xm_Run P xt d y C0 S0 Q pc loc (xv_r a :: st) M nc ns := xr_step (Or.inr (Or.inr (Or.inr (Or.inr (Or.inl (Or.inr (Or.inr (Or.inr (Or.inr (Or.inr (Or.inr (Or.inl (⟨_, _, _, _, _, _, _, _, _, hi, hf, rfl, ha, hj, by rw [hv]; exact k⟩)))))))))))))
theorem xr_put {ix ci j ty a : Nat} {fs : List xm_F} {x : Int32} (hi : (P.1 y).1 pc = some (.putfield ix, pn)) (hf : (P.1 y).2.2.1 ix = some (ci, j, ty)) (ha : M.1[a]? = some (xt_o ci fs)) (hj : fs[j]? = some none) (ht : ty = 0 ∨ (ty = 3 ∧ (x = 0 ∨ x = 1))) (k : xm_Run P xt d y C0 S0 Q pn loc st (M.1, xu_2 M.2.1 a j x, M.2.2) nc ns) : xm_Run P xt d y C0 S0 Q pc loc (xv_i x :: xv_r a :: st) M nc ns := xr_step (Or.inr (Or.inr (Or.inr (Or.inr (Or.inr (Or.inl (Or.inr (Or.inr (Or.inr (Or.inl (⟨_, _, _, _, _, _, _, _, _, hi, hf, rfl, ha, hj, ht, k⟩)))))))))))
theorem xr_putr {ix ci j t a q : Nat} {fs : List xm_F} {w : Option Nat} (T' : List xm_T) (hi : (P.1 y).1 pc = some (.putfield ix, pn)) (hf : (P.1 y).2.2.1 ix = some (ci, j, t)) (ht : t = 2 ∨ (t = 12 ∧ (P.1 y).2.2.2.2.2 0 = 9)) (ha : M.1[a]? = some (xt_o ci fs)) (hj : fs[j]? = some (some w)) (hT : M.1.set a (xt_o ci (fs.set j (some (some q)))) = T') (k : xm_Run P xt d y C0 S0 Q pn loc st (T', M.2.1, M.2.2) nc ns) : xm_Run P xt d y C0 S0 Q pc loc (xv_r q :: xv_r a :: st) M nc ns := xr_step (Or.inr (Or.inr (Or.inr (Or.inr (Or.inr (Or.inl (Or.inr (Or.inr (Or.inr (Or.inr ((⟨_, _, _, _, _, _, _, _, _, _, hi, hf, ht, rfl, ha, hj, by rw [hT]; exact k⟩))))))))))))
theorem xr_gets {ix q : Nat} (hi : (P.1 y).1 pc = some (.getstatic ix, pn)) (hf : (P.1 y).2.2.2.2.1 ix = some q) (k : xm_Run P xt d y C0 S0 Q pn loc (xv_x q :: st) M nc ns) : xm_Run P xt d y C0 S0 Q pc loc st M nc ns := xr_step (Or.inr (Or.inr (Or.inr (Or.inr (Or.inl (Or.inr (Or.inr (Or.inr (Or.inr (Or.inr (Or.inr (Or.inr ((⟨_, _, _, hi, hf, k⟩))))))))))))))
theorem xr_new {ix ci : Nat} {fs : List xm_F} (q m1 : Nat) (T' : List xm_T) (hi : (P.1 y).1 pc = some (.new ix, pn)) (hf : (P.1 y).2.2.2.1 ix = some (ci, fs)) (hm : fs.length = m1) (hq : M.1.length = q) (hT : M.1 ++ [xt_o ci fs] = T') (k : xm_Run P xt d y C0 S0 Q pn loc (xv_r q :: st) (T', xz_2 M.2.1 q 0, M.2.2) (nc + 1) (ns + m1)) : xm_Run P xt d y C0 S0 Q pc loc st M nc ns := by subst hm; subst hq; subst hT; exact xr_step (Or.inr (Or.inr (Or.inr (Or.inr (Or.inr (Or.inr ((Or.inl (⟨_, _, _, _, hi, hf, k⟩)))))))))
theorem xr_newa {ty : Jvm.ClassFile.ArrayType} {n : Int32} (t N q : Nat) (T' : List xm_T) (hi : (P.1 y).1 pc = some (.newarray ty, pn)) (hn : ¬ n < 0) (hN : n.toNatClampNeg = N) (hN2 : N ≤ 67108864) (ht : (ty = .int ∧ t = 0) ∨ (ty = .long ∧ t = 1) ∨ (ty = .boolean ∧ t = 2)) (hq : M.1.length = q) (hT : M.1 ++ [xt_r t N] = T') (k : xm_Run P xt d y C0 S0 Q pn loc (xv_r q :: st) (T', xz_2 M.2.1 q 0, xz_2 M.2.2 q 0) (nc + 1) (ns + N)) : xm_Run P xt d y C0 S0 Q pc loc (xv_i n :: st) M nc ns := by
  subst hq; subst hT
  rcases ht with ⟨rfl, rfl⟩ | ⟨rfl, rfl⟩ | ⟨rfl, rfl⟩
  · exact xr_step (Or.inr (Or.inr (Or.inr (Or.inr (Or.inr (Or.inr ((Or.inr (Or.inl (⟨_, _, _, _, hi, rfl, hn, hN, hN2, k⟩))))))))))
  · exact xr_step (Or.inr (Or.inr (Or.inr (Or.inr (Or.inr (Or.inr ((Or.inr (Or.inr (Or.inl (⟨_, _, _, _, hi, rfl, hn, hN, hN2, k⟩)))))))))))
  · exact xr_step (Or.inr (Or.inr (Or.inr (Or.inr (Or.inr (Or.inr ((Or.inr (Or.inr (Or.inr (Or.inl (⟨_, _, _, _, hi, rfl, hn, hN, hN2, k⟩))))))))))))
theorem xr_obj {ix a : Nat} (hi : (P.1 y).1 pc = some (.invokespecial ix, pn)) (hx : (P.1 y).2.2.2.2.2 ix = 2) (h8 : xm_c8 st = true) (k : xm_Run P xt d y C0 S0 Q pn loc st M nc ns) : xm_Run P xt d y C0 S0 Q pc loc (xv_r a :: st) M nc ns := xr_step (Or.inr (Or.inr (Or.inr (Or.inr (Or.inr (Or.inr ((Or.inr (Or.inr (Or.inr (Or.inr (Or.inl (⟨_, _, _, _, hi, hx, rfl, h8, k⟩)))))))))))))
theorem xr_copy {ix ks kd n0 nd : Nat} {n dp sp : Int32} (hi : (P.1 y).1 pc = some (.invokestatic ix, pn)) (hx : (P.1 y).2.2.2.2.2 ix = 1) (h8 : xm_c8 st = true) (ha : M.1[ks]? = some (xt_r 1 n0)) (hb : M.1[kd]? = some (xt_r 1 nd)) (h1 : ¬ sp < 0) (h2 : ¬ dp < 0) (h3 : ¬ n < 0) (h4 : sp.toNatClampNeg + n.toNatClampNeg ≤ n0) (h5 : dp.toNatClampNeg + n.toNatClampNeg ≤ nd) (hk : ks ≠ kd) (k : xm_Run P xt d y C0 S0 Q pn loc st (M.1, M.2.1, xc_y M.2.2 kd (va_cpy (M.2.2 ks) (M.2.2 kd) sp.toNatClampNeg dp.toNatClampNeg n.toNatClampNeg)) nc ns) : xm_Run P xt d y C0 S0 Q pc loc (xv_i n :: xv_i dp :: xv_r kd :: xv_i sp :: xv_r ks :: st) M nc ns := xr_step (Or.inr (Or.inr (Or.inr (Or.inr (Or.inr (Or.inr ((Or.inr (Or.inr (Or.inr (Or.inr (Or.inr ((⟨_, _, _, _, _, _, _, _, _, _, hi, hx, rfl, ha, hb, h1, h2, h3, h4, h5, hk, h8, k⟩))))))))))))))
theorem xr_vret (hk : P.2.2.1 y = 0) (hi : (P.1 y).1 pc = some (.return_, pn)) (h1 : nc ≤ C0) (h2 : ns ≤ S0) (hq : Q none M) : xm_Run P xt d y C0 S0 Q pc loc [] M nc ns := xr_ret0 (r := none) (by rw [hk]; exact ⟨_, hi⟩) h1 h2 hq
theorem xr_iret {x : Int32} (hk : P.2.2.1 y = 1) (hi : (P.1 y).1 pc = some (.ireturn, pn)) (h1 : nc ≤ C0) (h2 : ns ≤ S0) (hq : Q (some (xv_i x)) M) : xm_Run P xt d y C0 S0 Q pc loc [xv_i x] M nc ns := xr_ret0 (r := some (xv_i x)) (by rw [hk]; exact ⟨_, hi⟩) h1 h2 hq
theorem xr_zret {x : Int32} (hk : P.2.2.1 y = 4) (hi : (P.1 y).1 pc = some (.ireturn, pn)) (hx : x = 0 ∨ x = 1) (h1 : nc ≤ C0) (h2 : ns ≤ S0) (hq : Q (some (xv_i x)) M) : xm_Run P xt d y C0 S0 Q pc loc [xv_i x] M nc ns := xr_ret0 (r := some (xv_i x)) (by rw [hk]; exact ⟨_, hi, hx⟩) h1 h2 hq
theorem xr_lret {x : Int64} (hk : P.2.2.1 y = 2) (hi : (P.1 y).1 pc = some (.lreturn, pn)) (h1 : nc ≤ C0) (h2 : ns ≤ S0) (hq : Q (some (xv_l x)) M) : xm_Run P xt d y C0 S0 Q pc loc [xv_l x] M nc ns := xr_ret0 (r := some (xv_l x)) (by rw [hk]; exact ⟨_, hi⟩) h1 h2 hq
theorem xr_aret {x : Nat} (hk : P.2.2.1 y = 3) (hi : (P.1 y).1 pc = some (.areturn, pn)) (h1 : nc ≤ C0) (h2 : ns ≤ S0) (hq : Q (some (xv_r x)) M) : xm_Run P xt d y C0 S0 Q pc loc [xv_r x] M nc ns := xr_ret0 (r := some (xv_r x)) (by rw [hk]; exact ⟨_, hi⟩) h1 h2 hq
end RUN
-- memory with its shape apart
abbrev xm_S : Type := (Nat → Nat → Int32) × (Nat → Nat → Int64)
abbrev xq_2 (T : List xm_T) (m : xm_S) : xm_M := (T, m.1, m.2)
abbrev xQ_i (T : List xm_T) (r : Int32) (m : xm_S) : xm_P := fun r' M1 => r' = some (xv_i r) ∧ M1 = xq_2 T m
abbrev xQ_l (T : List xm_T) (r : Int64) (m : xm_S) : xm_P := fun r' M1 => r' = some (xv_l r) ∧ M1 = xq_2 T m
abbrev xQ_r (T : List xm_T) (r : Nat) (m : xm_S) : xm_P := fun r' M1 => r' = some (xv_r r) ∧ M1 = xq_2 T m
abbrev xQ_v (T : List xm_T) (m : xm_S) : xm_P := fun r' M1 => r' = none ∧ M1 = xq_2 T m
def xw_i (m : xm_S) (k j : Nat) (x : Int32) : xm_S := (xu_2 m.1 k j x, m.2)
def xw_l (m : xm_S) (k j : Nat) (x : Int64) : xm_S := (m.1, xu_2 m.2 k j x)
def xw_c (m : xm_S) (kd ks sp dp n : Nat) : xm_S := (m.1, xc_y m.2 kd (va_cpy (m.2 ks) (m.2 kd) sp dp n))
def xw_o (m : xm_S) (q : Nat) : xm_S := (xz_2 m.1 q 0, m.2)
def xw_a (m : xm_S) (q : Nat) : xm_S := (xz_2 m.1 q 0, xz_2 m.2 q 0)
section RUNQ
variable {P : xm_Pr} {xt : Nat → Nat × (Nat → Int32)} {d y C0 S0 : Nat} {Q : xm_P} {pc pn : Nat} {loc : xm_L} {st : List xm_V} {T : List xm_T} {m : xm_S} {nc ns : Nat}
theorem xq_iald {i : Int32} {a n : Nat} (hi : (P.1 y).1 pc = some (.iaload, pn)) (ha : T[a]? = some (xt_r 0 n)) (hn : vp_in i n) (k : xm_Run P xt d y C0 S0 Q pn loc (xv_i (m.1 a i.toNatClampNeg) :: st) (xq_2 T m) nc ns) : xm_Run P xt d y C0 S0 Q pc loc (xv_i i :: xv_r a :: st) (xq_2 T m) nc ns := xr_iald hi ha hn k
theorem xq_bald {i : Int32} {a n : Nat} (hi : (P.1 y).1 pc = some (.baload, pn)) (ha : T[a]? = some (xt_r 2 n)) (hn : vp_in i n) (k : xm_Run P xt d y C0 S0 Q pn loc (xv_i (m.1 a i.toNatClampNeg) :: st) (xq_2 T m) nc ns) : xm_Run P xt d y C0 S0 Q pc loc (xv_i i :: xv_r a :: st) (xq_2 T m) nc ns := xr_bald hi ha hn k
theorem xq_lald {i : Int32} {a n : Nat} (hi : (P.1 y).1 pc = some (.laload, pn)) (ha : T[a]? = some (xt_r 1 n)) (hn : vp_in i n) (k : xm_Run P xt d y C0 S0 Q pn loc (xv_l (m.2 a i.toNatClampNeg) :: st) (xq_2 T m) nc ns) : xm_Run P xt d y C0 S0 Q pc loc (xv_i i :: xv_r a :: st) (xq_2 T m) nc ns := xr_lald hi ha hn k
theorem xq_iast {i x : Int32} {a n : Nat} (hi : (P.1 y).1 pc = some (.iastore, pn)) (ha : T[a]? = some (xt_r 0 n)) (hn : vp_in i n) (k : xm_Run P xt d y C0 S0 Q pn loc st (xq_2 T (xw_i m a i.toNatClampNeg x)) nc ns) : xm_Run P xt d y C0 S0 Q pc loc (xv_i x :: xv_i i :: xv_r a :: st) (xq_2 T m) nc ns := xr_iast hi ha hn k
theorem xq_bast {i x : Int32} {a n : Nat} (hi : (P.1 y).1 pc = some (.bastore, pn)) (ha : T[a]? = some (xt_r 2 n)) (hn : vp_in i n) (hx : x = 0 ∨ x = 1) (k : xm_Run P xt d y C0 S0 Q pn loc st (xq_2 T (xw_i m a i.toNatClampNeg x)) nc ns) : xm_Run P xt d y C0 S0 Q pc loc (xv_i x :: xv_i i :: xv_r a :: st) (xq_2 T m) nc ns := xr_bast hi ha hn hx k
theorem xq_last {i : Int32} {x : Int64} {a n : Nat} (hi : (P.1 y).1 pc = some (.lastore, pn)) (ha : T[a]? = some (xt_r 1 n)) (hn : vp_in i n) (k : xm_Run P xt d y C0 S0 Q pn loc st (xq_2 T (xw_l m a i.toNatClampNeg x)) nc ns) : xm_Run P xt d y C0 S0 Q pc loc (xv_l x :: xv_i i :: xv_r a :: st) (xq_2 T m) nc ns := xr_last hi ha hn k
theorem xq_alen {a t n : Nat} (hi : (P.1 y).1 pc = some (.arraylength, pn)) (ha : T[a]? = some (xt_r t n)) (ht : t < 3) (k : xm_Run P xt d y C0 S0 Q pn loc (xv_i (nI n) :: st) (xq_2 T m) nc ns) : xm_Run P xt d y C0 S0 Q pc loc (xv_r a :: st) (xq_2 T m) nc ns := xr_alen _ hi ha ht rfl k
theorem xq_geti {ix ci j ty a : Nat} {fs : List xm_F} (hi : (P.1 y).1 pc = some (.getfield ix, pn)) (hf : (P.1 y).2.2.1 ix = some (ci, j, ty)) (ha : T[a]? = some (xt_o ci fs)) (hj : fs[j]? = some none) (k : xm_Run P xt d y C0 S0 Q pn loc (xv_i (m.1 a j) :: st) (xq_2 T m) nc ns) : xm_Run P xt d y C0 S0 Q pc loc (xv_r a :: st) (xq_2 T m) nc ns := xr_get _ hi hf ha hj rfl k
theorem xq_getr {ix ci j ty a q : Nat} {fs : List xm_F} (hi : (P.1 y).1 pc = some (.getfield ix, pn)) (hf : (P.1 y).2.2.1 ix = some (ci, j, ty)) (ha : T[a]? = some (xt_o ci fs)) (hj : fs[j]? = some (some (some q))) (k : xm_Run P xt d y C0 S0 Q pn loc (xv_r q :: st) (xq_2 T m) nc ns) : xm_Run P xt d y C0 S0 Q pc loc (xv_r a :: st) (xq_2 T m) nc ns := xr_get _ hi hf ha hj rfl k
theorem xq_put {ix ci j ty a : Nat} {fs : List xm_F} {x : Int32} (hi : (P.1 y).1 pc = some (.putfield ix, pn)) (hf : (P.1 y).2.2.1 ix = some (ci, j, ty)) (ha : T[a]? = some (xt_o ci fs)) (hj : fs[j]? = some none) (ht : ty = 0 ∨ (ty = 3 ∧ (x = 0 ∨ x = 1))) (k : xm_Run P xt d y C0 S0 Q pn loc st (xq_2 T (xw_i m a j x)) nc ns) : xm_Run P xt d y C0 S0 Q pc loc (xv_i x :: xv_r a :: st) (xq_2 T m) nc ns := xr_put hi hf ha hj ht k
theorem xq_putr {ix ci j t a q : Nat} {fs : List xm_F} {w : Option Nat} (T' : List xm_T) (hi : (P.1 y).1 pc = some (.putfield ix, pn)) (hf : (P.1 y).2.2.1 ix = some (ci, j, t)) (ht : t = 2 ∨ (t = 12 ∧ (P.1 y).2.2.2.2.2 0 = 9)) (ha : T[a]? = some (xt_o ci fs)) (hj : fs[j]? = some (some w)) (hT : T.set a (xt_o ci (fs.set j (some (some q)))) = T') (k : xm_Run P xt d y C0 S0 Q pn loc st (xq_2 T' m) nc ns) : xm_Run P xt d y C0 S0 Q pc loc (xv_r q :: xv_r a :: st) (xq_2 T m) nc ns := xr_putr T' hi hf ht ha hj hT k
theorem xq_new {ix ci : Nat} {fs : List xm_F} (q m1 : Nat) (T' : List xm_T) (hi : (P.1 y).1 pc = some (.new ix, pn)) (hf : (P.1 y).2.2.2.1 ix = some (ci, fs)) (hm : fs.length = m1) (hq : T.length = q) (hT : T ++ [xt_o ci fs] = T') (k : xm_Run P xt d y C0 S0 Q pn loc (xv_r q :: st) (xq_2 T' (xw_o m q)) (nc + 1) (ns + m1)) : xm_Run P xt d y C0 S0 Q pc loc st (xq_2 T m) nc ns := xr_new q m1 T' hi hf hm hq hT k
theorem xq_newa {ty : Jvm.ClassFile.ArrayType} {n : Int32} (t N q : Nat) (T' : List xm_T) (hi : (P.1 y).1 pc = some (.newarray ty, pn)) (hn : ¬ n < 0) (hN : n.toNatClampNeg = N) (hN2 : N ≤ 67108864) (ht : (ty = .int ∧ t = 0) ∨ (ty = .long ∧ t = 1) ∨ (ty = .boolean ∧ t = 2)) (hq : T.length = q) (hT : T ++ [xt_r t N] = T') (k : xm_Run P xt d y C0 S0 Q pn loc (xv_r q :: st) (xq_2 T' (xw_a m q)) (nc + 1) (ns + N)) : xm_Run P xt d y C0 S0 Q pc loc (xv_i n :: st) (xq_2 T m) nc ns := xr_newa t N q T' hi hn hN hN2 ht hq hT k
theorem xq_copy {ix ks kd n0 nd : Nat} {n dp sp : Int32} (hi : (P.1 y).1 pc = some (.invokestatic ix, pn)) (hx : (P.1 y).2.2.2.2.2 ix = 1) (h8 : xm_c8 st = true) (ha : T[ks]? = some (xt_r 1 n0)) (hb : T[kd]? = some (xt_r 1 nd)) (h1 : ¬ sp < 0) (h2 : ¬ dp < 0) (h3 : ¬ n < 0) (h4 : sp.toNatClampNeg + n.toNatClampNeg ≤ n0) (h5 : dp.toNatClampNeg + n.toNatClampNeg ≤ nd) (hk : ks ≠ kd) (k : xm_Run P xt d y C0 S0 Q pn loc st (xq_2 T (xw_c m kd ks sp.toNatClampNeg dp.toNatClampNeg n.toNatClampNeg)) nc ns) : xm_Run P xt d y C0 S0 Q pc loc (xv_i n :: xv_i dp :: xv_r kd :: xv_i sp :: xv_r ks :: st) (xq_2 T m) nc ns := xr_copy hi hx h8 ha hb h1 h2 h3 h4 h5 hk k
theorem xq_calla {ix y' kd ci : Nat} (av rest : List xm_V) {v : xm_V} {T' : List xm_T} {m' : xm_S} (loc1 : xm_L) {st0 : List xm_V} (hi : xm_isCall (P.1 y) T av pc ix pn kd ci) (hc : P.2.2.2 y ix = some (y', av.length, kd, ci)) (hst : av.reverse ++ rest = st0) (h8 : xm_c8 rest = true) (hle : Nat.ble (xm_en av).length (P.2.1 y') = true) (hl : xm_ent (P.2.1 y') av = loc1) (hy : xm_Run P xt d y' 0 0 (fun r' M1 => r' = some v ∧ M1 = xq_2 T' m') 0 loc1 [] (xq_2 T m) 0 0) (k : xm_Run P xt (d + 1) y C0 S0 Q pn loc (v :: rest) (xq_2 T' m') nc ns) : xm_Run P xt (d + 1) y C0 S0 Q pc loc st0 (xq_2 T m) nc ns := by subst hst; subst hl; exact xr_call0 av hi hc (Nat.le_of_ble_eq_true hle) h8 hy (fun r' M1 q => by obtain ⟨rfl, rfl⟩ := q; exact k)
theorem xq_callan {ix y' kd ci c1 s1 : Nat} (av rest : List xm_V) {v : xm_V} {T' : List xm_T} {m' : xm_S} (loc1 : xm_L) {st0 : List xm_V} (hi : xm_isCall (P.1 y) T av pc ix pn kd ci) (hc : P.2.2.2 y ix = some (y', av.length, kd, ci)) (hst : av.reverse ++ rest = st0) (h8 : xm_c8 rest = true) (hle : Nat.ble (xm_en av).length (P.2.1 y') = true) (hl : xm_ent (P.2.1 y') av = loc1) (hy : xm_Run P xt d y' c1 s1 (fun r' M1 => r' = some v ∧ M1 = xq_2 T' m') 0 loc1 [] (xq_2 T m) 0 0) (k : xm_Run P xt (d + 1) y C0 S0 Q pn loc (v :: rest) (xq_2 T' m') (nc + c1) (ns + s1)) : xm_Run P xt (d + 1) y C0 S0 Q pc loc st0 (xq_2 T m) nc ns := by subst hst; subst hl; exact xr_call0 av hi hc (Nat.le_of_ble_eq_true hle) h8 hy (fun r' M1 q => by obtain ⟨rfl, rfl⟩ := q; exact k)
theorem xq_callv {ix y' kd ci : Nat} (av rest : List xm_V) {T' : List xm_T} {m' : xm_S} (loc1 : xm_L) {st0 : List xm_V} (hi : xm_isCall (P.1 y) T av pc ix pn kd ci) (hc : P.2.2.2 y ix = some (y', av.length, kd, ci)) (hst : av.reverse ++ rest = st0) (h8 : xm_c8 rest = true) (hle : Nat.ble (xm_en av).length (P.2.1 y') = true) (hl : xm_ent (P.2.1 y') av = loc1) (hy : xm_Run P xt d y' 0 0 (fun r' M1 => r' = none ∧ M1 = xq_2 T' m') 0 loc1 [] (xq_2 T m) 0 0) (k : xm_Run P xt (d + 1) y C0 S0 Q pn loc (rest) (xq_2 T' m') nc ns) : xm_Run P xt (d + 1) y C0 S0 Q pc loc st0 (xq_2 T m) nc ns := by subst hst; subst hl; exact xr_call0 av hi hc (Nat.le_of_ble_eq_true hle) h8 hy (fun r' M1 q => by obtain ⟨rfl, rfl⟩ := q; exact k)
theorem xq_callvn {ix y' kd ci c1 s1 : Nat} (av rest : List xm_V) {T' : List xm_T} {m' : xm_S} (loc1 : xm_L) {st0 : List xm_V} (hi : xm_isCall (P.1 y) T av pc ix pn kd ci) (hc : P.2.2.2 y ix = some (y', av.length, kd, ci)) (hst : av.reverse ++ rest = st0) (h8 : xm_c8 rest = true) (hle : Nat.ble (xm_en av).length (P.2.1 y') = true) (hl : xm_ent (P.2.1 y') av = loc1) (hy : xm_Run P xt d y' c1 s1 (fun r' M1 => r' = none ∧ M1 = xq_2 T' m') 0 loc1 [] (xq_2 T m) 0 0) (k : xm_Run P xt (d + 1) y C0 S0 Q pn loc (rest) (xq_2 T' m') (nc + c1) (ns + s1)) : xm_Run P xt (d + 1) y C0 S0 Q pc loc st0 (xq_2 T m) nc ns := by subst hst; subst hl; exact xr_call0 av hi hc (Nat.le_of_ble_eq_true hle) h8 hy (fun r' M1 q => by obtain ⟨rfl, rfl⟩ := q; exact k)
end RUNQ
end
section
/-! The abstract machine is true of the machine: relations. -/
def xm_v (ad ex : Nat → Nat) : xm_V → Value
  | Sum.inl x => .int x
  | Sum.inr (Sum.inl x) => .long x
  | Sum.inr (Sum.inr (Sum.inl (some k))) => .ref (ad k)
  | Sum.inr (Sum.inr (Sum.inl none)) => .null
  | Sum.inr (Sum.inr (Sum.inr k)) => .ref (ex k)
-- a reference names a cell that is there
def xm_sc (n : Nat) : xm_V → Prop
  | Sum.inr (Sum.inr (Sum.inl (some k))) => k < n
  | _ => True
def xm_fw (ad : Nat → Nat) (I : Nat → Nat → Int32) (k j : Nat) : xm_F → Value
  | none => .int (I k j)
  | some none => .null
  | some (some q) => .ref (ad q)
def xm_e (ad : Nat → Nat) (ca : Nat → ClassId) (I : Nat → Nat → Int32) (J : Nat → Nat → Int64) (k : Nat) : xm_T → va_E
  | Sum.inl (t, n) => bif Nat.beq t 1 then .inl (ca k, n, .inr (.inl (J k))) else .inl (ca k, n, .inl (I k))
  | Sum.inr (ci, fs) => .inr (ci, fs.mapIdx fun j f => xm_fw ad I k j f)
def xm_ty : xm_T → Option FieldType
  | Sum.inl (t, _) => bif Nat.beq t 0 then some .int else bif Nat.beq t 1 then some .long else bif Nat.beq t 2 then some .boolean else none
  | Sum.inr _ => none
def xm_w (ad : Nat → Nat) (ca : Nat → ClassId) (M : xm_M) : va_W := M.1.mapIdx fun k t => (ad k, xm_e ad ca M.2.1 M.2.2 k t)
theorem xm_w_at {ad : Nat → Nat} {ca : Nat → ClassId} {M : xm_M} {k : Nat} {e : xm_T} (h : M.1[k]? = some e) : (xm_w ad ca M)[k]? = some (ad k, xm_e ad ca M.2.1 M.2.2 k e) := by
  simp [xm_w, h]
theorem xm_fv_v {ad ex : Nat → Nat} {I : Nat → Nat → Int32} {k j : Nat} (f : xm_F) : xm_v ad ex (xm_fv I k j f) = xm_fw ad I k j f := by
  rcases f with _ | _ | q <;> rfl
-- shapes are the same but at k, contents are the same but at k
theorem xm_w_set {ad : Nat → Nat} {ca : Nat → ClassId} {M : xm_M} {k : Nat} {T' : List xm_T} {e : xm_T} {I' : Nat → Nat → Int32} {J' : Nat → Nat → Int64} (hk : T'[k]? = some e) (hT : ∀ a, a ≠ k → T'[a]? = M.1[a]?) (hl : T'.length = M.1.length) (hI : ∀ a, a ≠ k → I' a = M.2.1 a) (hJ : ∀ a, a ≠ k → J' a = M.2.2 a) :
    (xm_w ad ca M).set k (ad k, xm_e ad ca I' J' k e) = xm_w ad ca (T', I', J') := by
  apply List.ext_getElem?
  intro a
  by_cases h : k = a
  · subst h
    have hlt : k < M.1.length := by rw [← hl]; exact (List.getElem?_eq_some_iff.mp hk).1
    rw [List.getElem?_set]
    simp [xm_w, hk, hlt]
  · have h2 : a ≠ k := fun q => h q.symm
    rw [List.getElem?_set_ne h]
    simp only [xm_w, List.getElem?_mapIdx, hT a h2]
    cases M.1[a]? with
    | none => rfl
    | some t =>
      rcases t with ⟨t, n⟩ | ⟨ci, fs⟩
      · simp [xm_e, hI a h2, hJ a h2]
      · have e1 : ∀ (j : Nat) (f : xm_F), xm_fw ad I' a j f = xm_fw ad M.2.1 a j f := fun j f => by rcases f with _ | _ | q <;> simp [xm_fw, hI a h2]
        simp [xm_e, e1]
def xm_scM (T : List xm_T) : Prop := ∀ (k ci : Nat) (fs : List xm_F), T[k]? = some (xt_o ci fs) → ∀ q, some (some q) ∈ fs → q < T.length
def xm_ka (ca : Nat → ClassId) (T : List xm_T) (U : State) : Prop := ∀ (k : Nat) (e : xm_T) (ty : FieldType), T[k]? = some e → xm_ty e = some ty → ArrOfT U (ca k) ty ∧ va_RA U (ca k) ty
def xm_hl (ad ex : Nat → Nat) (n nL : Nat) (ls : Array Slot) (loc : xm_L) : Prop := (ls.size = nL ∧ lv_wf ls) ∧ ∀ (i : Nat) (v : xm_V), loc[i]? = some (some v) → ls[i]? = some (.val (xm_v ad ex v)) ∧ xm_sc n v
def xm_hs (n : Nat) (st : List xm_V) : Prop := ∀ v, v ∈ st → xm_sc n v
-- memory against heap, at a method's state s (its entry) and now
def xm_hm (D : va_G) (cl : List vw_C) (A : Nat → Prop) (s : State) (ad : Nat → Nat) (ca : Nat → ClassId) (H : Heap) (locs : List Loc) (M : xm_M) : Prop :=
  xm_scM M.1 ∧ va_P D cl (xm_w ad ca M) H ∧ va_D A (xm_w ad ca M) ∧ va_S A s.heap H locs ∧ xm_ka ca M.1 s
-- a reading of the locals as the kit has it
def xm_fl (ad ex : Nat → Nat) (loc : xm_L) : List (Nat × Value) := loc.zipIdx.filterMap fun q => q.1.map fun v => (q.2, xm_v ad ex v)
theorem xm_fl_mem {ad ex : Nat → Nat} {loc : xm_L} {i : Nat} {w : Value} : (i, w) ∈ xm_fl ad ex loc ↔ ∃ v, loc[i]? = some (some v) ∧ w = xm_v ad ex v := by
  simp only [xm_fl, List.mem_filterMap]
  constructor
  · rintro ⟨⟨o, j⟩, hm, he⟩
    rw [List.mk_mem_zipIdx_iff_getElem?] at hm
    cases o with
    | none => simp at he
    | some v => simp at he; obtain ⟨rfl, rfl⟩ := he; exact ⟨v, hm, rfl⟩
  · rintro ⟨v, hv, rfl⟩
    exact ⟨(some v, i), (List.mk_mem_zipIdx_iff_getElem?).mpr hv, by simp⟩
theorem xm_hl.has {ad ex : Nat → Nat} {n nL : Nat} {ls : Array Slot} {loc : xm_L} (h : xm_hl ad ex n nL ls loc) : lv_has ls nL (xm_fl ad ex loc) := by
  refine ⟨h.1.1, h.1.2, fun q hq => ?_⟩
  obtain ⟨i, w⟩ := q
  obtain ⟨v, hv, rfl⟩ := xm_fl_mem.mp hq
  exact (h.2 i v hv).1
theorem xm_cat_v (ad ex : Nat → Nat) (v : xm_V) : (xm_v ad ex v).category = xm_cat v := by
  rcases v with x | x | (_ | k) | k <;> rfl
-- a store of a value of one word, of two words
theorem xm_brk_at {loc : xm_L} {i j : Nat} {v : xm_V} (h : (xm_brk loc i)[j]? = some (some v)) : loc[j]? = some (some v) ∧ ¬ (j + 1 = i ∧ xm_cat v = 2) := by
  unfold xm_brk at h
  cases i with
  | zero => exact ⟨h, by omega⟩
  | succ k =>
    simp only at h
    split at h
    · rename_i x hx
      by_cases hj : k = j
      · subst hj
        rw [List.getElem?_set] at h
        split at h <;> simp_all
      · rw [List.getElem?_set_ne hj] at h
        exact ⟨h, by omega⟩
    · rename_i hn
      refine ⟨h, fun ⟨e1, e2⟩ => ?_⟩
      have e1 : j = k := by omega
      subst e1
      rcases v with x | x | (_ | q) | q <;> simp [xm_cat] at e2
      exact hn x h
theorem xm_hl.st1 {ad ex : Nat → Nat} {n nL i : Nat} {ls ls' : Array Slot} {loc : xm_L} {v : xm_V} (h : xm_hl ad ex n nL ls loc) (hv : xm_sc n v)
    (h' : lv_has ls' nL ((i, xm_v ad ex v) :: (xm_fl ad ex loc).filter (fun q => !(q.1 == i) && !(q.1 + 1 == i && q.2.category == 2)))) : xm_hl ad ex n nL ls' (xm_st1 loc i v) := by
  refine ⟨⟨h'.1, h'.2.1⟩, fun j w hw => ?_⟩
  unfold xm_st1 at hw
  by_cases hj : i = j
  · subst hj
    rw [List.getElem?_set, if_pos rfl] at hw
    split at hw
    · simp at hw
      subst hw
      exact ⟨h'.2.2 _ List.mem_cons_self, hv⟩
    · cases hw
  · rw [List.getElem?_set_ne hj] at hw
    obtain ⟨h1, h2⟩ := xm_brk_at hw
    refine ⟨h'.2.2 (j, xm_v ad ex w) (List.mem_cons_of_mem _ (List.mem_filter.mpr ⟨xm_fl_mem.mpr ⟨w, h1, rfl⟩, ?_⟩)), (h.2 j w h1).2⟩
    simp only [xm_cat_v]
    simp only [Bool.and_eq_true, Bool.not_eq_true', beq_eq_false_iff_ne, Bool.and_eq_false_iff]
    refine ⟨fun e => hj e.symm, ?_⟩
    by_cases e1 : j + 1 = i
    · exact Or.inr (by simpa using fun e2 => h2 ⟨e1, e2⟩)
    · exact Or.inl e1
theorem xm_hl.st2 {ad ex : Nat → Nat} {n nL i : Nat} {ls ls' : Array Slot} {loc : xm_L} {v : xm_V} (h : xm_hl ad ex n nL ls loc) (hv : xm_sc n v)
    (h' : lv_has ls' nL ((i, xm_v ad ex v) :: (xm_fl ad ex loc).filter (fun q => !(q.1 == i) && (!(q.1 == i + 1) && !(q.1 + 1 == i && q.2.category == 2))))) : xm_hl ad ex n nL ls' (xm_st2 loc i v) := by
  refine ⟨⟨h'.1, h'.2.1⟩, fun j w hw => ?_⟩
  unfold xm_st2 at hw
  by_cases hk : i + 1 = j
  · subst hk
    rw [List.getElem?_set, if_pos rfl] at hw
    split at hw <;> simp at hw
  · rw [List.getElem?_set_ne hk] at hw
    by_cases hj : i = j
    · subst hj
      rw [List.getElem?_set, if_pos rfl] at hw
      split at hw
      · simp at hw
        subst hw
        exact ⟨h'.2.2 _ List.mem_cons_self, hv⟩
      · cases hw
    · rw [List.getElem?_set_ne hj] at hw
      obtain ⟨h1, h2⟩ := xm_brk_at hw
      refine ⟨h'.2.2 (j, xm_v ad ex w) (List.mem_cons_of_mem _ (List.mem_filter.mpr ⟨xm_fl_mem.mpr ⟨w, h1, rfl⟩, ?_⟩)), (h.2 j w h1).2⟩
      simp only [xm_cat_v]
      simp only [Bool.and_eq_true, Bool.not_eq_true', beq_eq_false_iff_ne, Bool.and_eq_false_iff]
      refine ⟨fun e => hj e.symm, fun e => hk e.symm, ?_⟩
      by_cases e1 : j + 1 = i
      · exact Or.inr (by simpa using fun e2 => h2 ⟨e1, e2⟩)
      · exact Or.inl e1
theorem xm_le_at {i : Nat} {v : xm_V} : ∀ {a b : xm_L}, xm_le a b → a[i]? = some (some v) → b[i]? = some (some v)
  | [], [], _, h => by simp at h
  | none :: a, _ :: b, hl, h => by
    cases i with
    | zero => simp at h
    | succ i => simpa using xm_le_at (a := a) (b := b) hl (by simpa using h)
  | some w :: a, x :: b, hl, h => by
    obtain ⟨rfl, hl⟩ := hl
    cases i with
    | zero => simpa using h
    | succ i => simpa using xm_le_at (a := a) (b := b) hl (by simpa using h)
  | [], _ :: _, hl, _ => hl.elim
  | none :: _, [], hl, _ => hl.elim
  | some _ :: _, [], hl, _ => hl.elim
theorem xm_in_mem {pc : Nat} {i : Jvm.ClassFile.Instr × Nat} : ∀ {l : List xm_I}, xm_in pc l = some i → (pc, i) ∈ l
  | [], h => by cases h
  | q :: r, h => by
    unfold xm_in at h
    cases hb : Nat.beq q.1 pc with
    | true =>
      rw [hb] at h
      have e : q.1 = pc := Nat.eq_of_beq_eq_true hb
      have e2 : q.2 = i := Option.some.inj h
      rw [← e, ← e2]
      exact List.mem_cons_self
    | false =>
      rw [hb] at h
      exact List.mem_cons_of_mem _ (xm_in_mem h)
theorem xm_tb_mem {pc : Nat} {i : Jvm.ClassFile.Instr × Nat} : ∀ {l : List (Nat × List xm_I)}, xm_tb pc l = some i → ∃ q ∈ l, (pc, i) ∈ q.2
  | [], h => by cases h
  | q :: r, h => by
    unfold xm_tb at h
    cases hb : Nat.blt pc q.1 with
    | true => rw [hb] at h; exact ⟨q, List.mem_cons_self, xm_in_mem h⟩
    | false =>
      rw [hb] at h
      obtain ⟨q', h1, h2⟩ := xm_tb_mem h
      exact ⟨q', List.mem_cons_of_mem _ h1, h2⟩
-- a method's table is true of its bytes
def xm_dec (cc : ByteArray) (q : xm_I) : Prop := ∃ n, decode cc q.1 = .ok (q.2.1, n) ∧ q.2.2 = q.1 + n ∧ (xm_len q.2.1 = 0 ∨ n = xm_len q.2.1)
-- what links say, of one method's code in the tables' words Ts
def xm_fok (own : String) (Ts : List Cond) (cl : List vw_C) (ix ci j t : Nat) : Prop :=
  ∃ (C : String) (T : u_T) (N : Nat) (ty : Nat → FieldType), cl[ci]? = some (C, T, N) ∧ j < N ∧ (∀ w ∈ u_ws C T N, w ∈ Ts) ∧ (∀ k, k < N → parseFieldDescriptor (T k).2.2.1 = some (ty k)) ∧ (∀ a, a < N → ∀ b, b < N → a ≠ b → (T a).2.1 ≠ (T b).2.1) ∧
    (Cond.fieldLink own ix (T j).1 (T j).2.1 (T j).2.2.1 ∈ Ts ∨ ∃ host, Cond.fieldLinkNest own ix (T j).1 (T j).2.1 (T j).2.2.1 host ∈ Ts) ∧
    ((t = 0 ∧ ty j = .int ∧ (T j).2.2.2 = false) ∨ (t = 3 ∧ ty j = .boolean ∧ (T j).2.2.2 = false) ∨ (t = 2 ∧ ((∃ n, ty j = .object n) ∨ ∃ a, ty j = .array a) ∧ (T j).2.2.2 = false) ∨ (t = 12 ∧ ((∃ n, ty j = .object n) ∨ ∃ a, ty j = .array a) ∧ (T j).2.2.2 = true ∧ (T j).1 = own ∧ Cond.fieldLink own ix (T j).1 (T j).2.1 (T j).2.2.1 ∈ Ts) ∨ t = 22)
def xm_nok (own : String) (Ts : List Cond) (cl : List vw_C) (ix ci : Nat) (fs : List xm_F) : Prop :=
  ∃ (C : String) (T : u_T) (N : Nat) (ty : Nat → FieldType), cl[ci]? = some (C, T, N) ∧ (∀ w ∈ u_ws C T N, w ∈ Ts) ∧ (∀ k, k < N → parseFieldDescriptor (T k).2.2.1 = some (ty k)) ∧
    Cond.classLink own ix C ∈ Ts ∧ Cond.instantiable C N ∈ Ts ∧ Cond.initialized C ∈ Ts ∧ fs.length = N ∧ (∀ f, f ∈ fs → f = none ∨ f = some none) ∧ ∀ j, j < N → ∀ (ad : Nat → Nat) (I : Nat → Nat → Int32) (k : Nat), (∀ b, I k b = 0) → defaultValue (ty j) = vp_V (fs.mapIdx fun j f => xm_fw ad I k j f) j
def xm_yok (own : String) (cc : ByteArray) (Ts : List Cond) (cl : List vw_C) (Y : xm_Y) : Prop :=
  (∀ pc i, Y.1 pc = some i → xm_dec cc (pc, i)) ∧ (∀ ix v, Y.2.1 ix = some (xv_i v) → Jvm.Cond.constant own ix v ∈ Ts) ∧ (∀ ix v, Y.2.1 ix = some (xv_l v) → Jvm.Cond.constantLong own ix v ∈ Ts) ∧
  (∀ ix ci j t, Y.2.2.1 ix = some (ci, j, t) → xm_fok own Ts cl ix ci j t) ∧ (∀ ix ci fs, Y.2.2.2.1 ix = some (ci, fs) → xm_nok own Ts cl ix ci fs) ∧
  (∀ ix, Y.2.2.2.2.2 ix = 2 → Cond.methodLink own ix objectInit ∈ Ts) ∧ (∀ ix, Y.2.2.2.2.2 ix = 1 → Cond.methodLink own ix arraycopyName ∈ Ts)
-- what stands fixed through a method
def xm_fx (own : String) (cc : ByteArray) (nL : Nat) (Ts : List Cond) (ex : Nat → Nat) (xt : Nat → Nat × (Nat → Int32)) (C0 S0 : Nat) (p : Program) (R : Room) (s : State) (m : MethodId) (args : Array Value) (c : Code) (D : va_G) (cl : List vw_C) (A : Nat → Prop) : Prop :=
  p.tables.exec = Jvm.exec ∧ c.code = cc ∧ c.maxLocals = nL ∧ s.vm.findClass own = some m.cls ∧ (∀ w ∈ Ts, w.before args s = true) ∧ va_K D cl [] s ∧ (∀ q : Nat, s.heap.size ≤ q → A q) ∧ (C0 ≤ R.cells ∧ S0 ≤ R.slots) ∧
  (∀ k, va_T .int (ex k) (xt k).1 (fun j => .int ((xt k).2 j)) A s s.heap)
theorem xm_hs_cons {n : Nat} {v : xm_V} {r : List xm_V} (h : xm_hs n (v :: r)) : xm_sc n v ∧ xm_hs n r := ⟨h v List.mem_cons_self, fun w hw => h w (List.mem_cons_of_mem _ hw)⟩
theorem xm_hs_push {n : Nat} {v : xm_V} {r : List xm_V} (hv : xm_sc n v) (h : xm_hs n r) : xm_hs n (v :: r) := fun w hw => by
  rcases List.mem_cons.mp hw with rfl | hw
  · exact hv
  · exact h w hw
end
section
/-! The one step is true of the machine. -/
theorem xm_ln {i : Jvm.ClassFile.Instr} {n : Nat} (k : Nat) (h : xm_len i = 0 ∨ n = xm_len i) (hk : xm_len i = k + 1) : n = k + 1 := by
  rcases h with h | h
  · rw [hk] at h; cases h
  · rw [h, hk]
theorem xm_K1 {D : va_G} {cl : List vw_C} {s : State} {cA : ClassId} {ty : FieldType} (hK : va_K D cl [] s) (h : ArrOfT s cA ty ∧ va_RA s cA ty) : va_K D cl [(cA, ty)] s := by
  refine ⟨hK.1, fun k q hq => ?_⟩
  cases k with
  | zero => cases hq; exact h
  | succ k => cases hq
theorem xm_K2 {D : va_G} {cl : List vw_C} {s : State} {cA cB : ClassId} {ty : FieldType} (hK : va_K D cl [] s) (h : ArrOfT s cA ty ∧ va_RA s cA ty) (h2 : ArrOfT s cB ty ∧ va_RA s cB ty) : va_K D cl [(cA, ty), (cB, ty)] s := by
  refine ⟨hK.1, fun k q hq => ?_⟩
  match k, hq with
  | 0, hq => cases hq; exact h
  | 1, hq => cases hq; exact h2
  | k + 2, hq => cases hq
theorem xm_map_congr {α β : Type} {l : List α} {f g : Nat → α → β} (h : ∀ i a, l[i]? = some a → f i a = g i a) : l.mapIdx f = l.mapIdx g := by
  apply List.ext_getElem?
  intro i
  simp only [List.getElem?_mapIdx]
  cases hl : l[i]? with
  | none => rfl
  | some a => simp [h i a hl]
theorem xm_sc_le {n n' : Nat} (h : n ≤ n') {v : xm_V} (hv : xm_sc n v) : xm_sc n' v := by
  rcases v with x | x | (_ | k) | k
  · trivial
  · trivial
  · trivial
  · exact Nat.lt_of_lt_of_le (show k < n from hv) h
  · trivial
theorem xm_v_up {ad ex : Nat → Nat} {n q : Nat} {v : xm_V} (h : xm_sc n v) : xm_v (va_up ad n q) ex v = xm_v ad ex v := by
  rcases v with x | x | (_ | k) | k
  · rfl
  · rfl
  · rfl
  · have hk : k < n := h
    show Value.ref (va_up ad n q k) = Value.ref (ad k)
    simp [va_up, Nat.ne_of_lt hk]
  · rfl
theorem xm_st_up {ad ex : Nat → Nat} {n q : Nat} {st : List xm_V} (h : xm_hs n st) : st.map (xm_v (va_up ad n q) ex) = st.map (xm_v ad ex) := List.map_congr_left fun v hv => xm_v_up (h v hv)
theorem xm_hl.up {ad ex : Nat → Nat} {n nL q : Nat} {ls : Array Slot} {loc : xm_L} (h : xm_hl ad ex n nL ls loc) : xm_hl (va_up ad n q) ex (n + 1) nL ls loc :=
  ⟨h.1, fun i v hv => ⟨by rw [xm_v_up (h.2 i v hv).2]; exact (h.2 i v hv).1, xm_sc_le (Nat.le_succ n) (h.2 i v hv).2⟩⟩
theorem xm_hs.up {n n' : Nat} {st : List xm_V} (h : xm_hs n st) (hn : n ≤ n') : xm_hs n' st := fun v hv => xm_sc_le hn (h v hv)
theorem xm_sum8 {ad ex : Nat → Nat} {r : List xm_V} (h : xm_c8 r = true) : ((r.map (xm_v ad ex)).map fun v => v.category).sum ≤ 8 := by
  rw [List.map_map]
  have e : ((fun v : Value => v.category) ∘ xm_v ad ex) = xm_cat := funext fun v => xm_cat_v ad ex v
  rw [e]
  exact Nat.le_of_ble_eq_true h
theorem xm_w_push {ad : Nat → Nat} {ca ca' : Nat → ClassId} {M : xm_M} {q : Nat} {t : xm_T} {I' : Nat → Nat → Int32} {J' : Nat → Nat → Int64} (hsc : xm_scM M.1) (hca : ∀ k, k < M.1.length → ca' k = ca k) (hI : ∀ k, k < M.1.length → I' k = M.2.1 k) (hJ : ∀ k, k < M.1.length → J' k = M.2.2 k) :
    xm_w ad ca M ++ [(q, xm_e (va_up ad M.1.length q) ca' I' J' M.1.length t)] = xm_w (va_up ad M.1.length q) ca' (M.1 ++ [t], I', J') := by
  unfold xm_w
  rw [List.mapIdx_concat]
  congr 1
  · refine xm_map_congr fun i a hi => ?_
    have hlt : i < M.1.length := (List.getElem?_eq_some_iff.mp hi).1
    have e1 : va_up ad M.1.length q i = ad i := by simp [va_up, Nat.ne_of_lt hlt]
    rw [e1]
    rcases a with ⟨t', n⟩ | ⟨ci, fs⟩
    · simp only [xm_e, hca i hlt, hI i hlt, hJ i hlt]
    · have e2 : (fs.mapIdx fun j f => xm_fw ad M.2.1 i j f) = fs.mapIdx fun j f => xm_fw (va_up ad M.1.length q) I' i j f := by
        refine xm_map_congr fun j f hf => ?_
        rcases f with _ | _ | z
        · simp [xm_fw, hI i hlt]
        · rfl
        · have hz : z < M.1.length := hsc i ci fs hi z (List.mem_of_getElem? hf)
          simp [xm_fw, va_up, Nat.ne_of_lt hz]
      simp only [xm_e, e2]
  · simp [va_up]
theorem xm_push {D : va_G} {cl : List vw_C} {A : Nat → Prop} {s : State} {ad : Nat → Nat} {ca ca' : Nat → ClassId} {H H1 : Heap} {locs : List Loc} {M : xm_M} {q : Nat} {t : xm_T} {I' : Nat → Nat → Int32} {J' : Nat → Nat → Int64} {e : va_E} (hm : xm_hm D cl A s ad ca H locs M) (hca : ∀ k, k < M.1.length → ca' k = ca k) (hI : ∀ k, k < M.1.length → I' k = M.2.1 k) (hJ : ∀ k, k < M.1.length → J' k = M.2.2 k)
    (hsc : ∀ ci fs, t = xt_o ci fs → ∀ f, f ∈ fs → f = none ∨ f = some none) (hka : ∀ ty, xm_ty t = some ty → ArrOfT s (ca' M.1.length) ty ∧ va_RA s (ca' M.1.length) ty) (he : e = xm_e (va_up ad M.1.length q) ca' I' J' M.1.length t)
    (hP : va_P D cl (xm_w ad ca M ++ [(q, e)]) H1) (hD : va_D A (xm_w ad ca M ++ [(q, e)])) (hS : va_S A s.heap H1 locs) : xm_hm D cl A s (va_up ad M.1.length q) ca' H1 locs (M.1 ++ [t], I', J') := by
  subst he
  rw [xm_w_push hm.1 hca hI hJ] at hP hD
  refine ⟨fun k ci fs hk z hz => ?_, hP, hD, hS, fun k e ty hk hty => ?_⟩
  · have hk : (M.1 ++ [t])[k]? = some (xt_o ci fs) := hk
    show z < (M.1 ++ [t]).length
    rw [List.length_append, List.length_singleton]
    by_cases hlt : k < M.1.length
    · rw [List.getElem?_append_left hlt] at hk
      exact Nat.lt_succ_of_lt (hm.1 k ci fs hk z hz)
    · rw [List.getElem?_append_right (Nat.le_of_not_lt hlt)] at hk
      cases hj : k - M.1.length with
      | zero =>
        rw [hj] at hk
        rcases hsc ci fs (Option.some.inj hk) _ hz with q | q <;> cases q
      | succ j => rw [hj] at hk; cases hk
  · have hk : (M.1 ++ [t])[k]? = some e := hk
    by_cases hlt : k < M.1.length
    · rw [List.getElem?_append_left hlt] at hk
      rw [hca k hlt]
      exact hm.2.2.2.2 k e ty hk hty
    · rw [List.getElem?_append_right (Nat.le_of_not_lt hlt)] at hk
      cases hj : k - M.1.length with
      | zero =>
        rw [hj] at hk
        have hk0 : k = M.1.length := by omega
        subst hk0
        have hk2 : (M.1 ++ [t])[M.1.length]? = some e := hk
        have ht : t = e := by simpa using hk2
        subst ht
        exact hka ty hty
      | succ j => rw [hj] at hk; cases hk
theorem xm_eu {α : Type} {f : Nat → Nat → α} {k j : Nat} {x : α} : xu_2 f k j x k = fun b => if b = j then x else f k b := by funext b; simp [xu_2]
-- contents change at k alone, shapes stay
theorem xm_hm.store {D : va_G} {cl : List vw_C} {A : Nat → Prop} {s : State} {ad : Nat → Nat} {ca : Nat → ClassId} {H H1 : Heap} {locs locs1 : List Loc} {M : xm_M} {k : Nat} {t : xm_T} {I' : Nat → Nat → Int32} {J' : Nat → Nat → Int64} {e : va_E} (hm : xm_hm D cl A s ad ca H locs M) (hk : M.1[k]? = some t) (hI : ∀ a, a ≠ k → I' a = M.2.1 a) (hJ : ∀ a, a ≠ k → J' a = M.2.2 a) (he : e = xm_e ad ca I' J' k t)
    (hP : va_P D cl ((xm_w ad ca M).set k (ad k, e)) H1) (hD : va_D A ((xm_w ad ca M).set k (ad k, e))) (hS : va_S A s.heap H1 locs1) : xm_hm D cl A s ad ca H1 locs1 (M.1, I', J') := by
  subst he
  rw [xm_w_set (T' := M.1) hk (fun _ _ => rfl) rfl hI hJ] at hP hD
  exact ⟨hm.1, hP, hD, hS, hm.2.2.2.2⟩
theorem xm_xu_k {α : Type} {f : Nat → Nat → α} {k j : Nat} {x : α} (a : Nat) (h : a ≠ k) : xu_2 f k j x a = f a := by funext b; simp [xu_2, h]
theorem xm_xc_k {α : Type} {f : Nat → Nat → α} {k : Nat} {g : Nat → α} (a : Nat) (h : a ≠ k) : xc_y f k g a = f a := by funext b; simp [xc_y, h]
theorem xm_ez {α : Type} {f : Nat → Nat → α} {k : Nat} {x : α} : xz_2 f k x k = fun _ => x := by funext b; simp [xz_2]
theorem xm_ec {α : Type} {f : Nat → Nat → α} {k : Nat} {g : Nat → α} : xc_y f k g k = g := by funext b; simp [xc_y]
theorem xm_xz_k {α : Type} {f : Nat → Nat → α} {k : Nat} {x : α} (a : Nat) (h : a < k) : xz_2 f k x a = f a := by funext b; simp [xz_2, Nat.ne_of_lt h]
theorem xm_put_e {ad : Nat → Nat} {I : Nat → Nat → Int32} {k j : Nat} {fs : List xm_F} {x : Int32} (hj : fs[j]? = some none) : (fs.mapIdx fun b f => xm_fw ad I k b f).set j (.int x) = fs.mapIdx fun b f => xm_fw ad (xu_2 I k j x) k b f := by
  apply List.ext_getElem?
  intro b
  by_cases h : j = b
  · subst h
    have e1 : (fs.mapIdx fun b f => xm_fw ad (xu_2 I k j x) k b f)[j]? = some (.int x) := by
      rw [List.getElem?_mapIdx, hj]
      show some (Value.int (xu_2 I k j x k j)) = _
      simp [xu_2]
    rw [e1, List.getElem?_set]
    simp [(List.getElem?_eq_some_iff.mp hj).1]
  · rw [List.getElem?_set_ne h]
    simp only [List.getElem?_mapIdx]
    cases fs[b]? with
    | none => rfl
    | some f =>
      have h2 : ¬ b = j := fun q => h q.symm
      rcases f with _ | _ | q <;> simp [xm_fw, xu_2, h2]
theorem xm_putr_e {ad : Nat → Nat} {I : Nat → Nat → Int32} {k j q : Nat} {fs : List xm_F} : (fs.mapIdx fun b f => xm_fw ad I k b f).set j (.ref (ad q)) = (fs.set j (some (some q))).mapIdx fun b f => xm_fw ad I k b f := by
  apply List.ext_getElem?
  intro b
  simp only [List.getElem?_mapIdx, List.getElem?_set, List.length_mapIdx]
  by_cases h : j = b
  · subst h
    by_cases h2 : j < fs.length
    · simp [h2, xm_fw]
    · simp [h2]
  · simp [h]
def xm_W1 (p : Program) (l : Launch) (e : Env) (R : Room) (s : State) (m : MethodId) (args : Array Value) (below : List Frame) (meth : Method) (c : Code) (Q : State → Prop) (D : va_G) (cl : List vw_C) (ex : Nat → Nat) (A : Nat → Prop) (nL n0 : Nat) (ad0 : Nat → Nat) (ca0 : Nat → ClassId) : xm_K := fun pc loc st M nc ns =>
  ∀ (ad : Nat → Nat) (ca : Nat → ClassId) (ls : Array Slot) (H : Heap) (locs : List Loc), n0 ≤ M.1.length → (∀ k, k < n0 → ad k = ad0 k ∧ ca k = ca0 k) → xm_hl ad ex M.1.length nL ls loc → xm_hs M.1.length st → xm_hm D cl A s ad ca H locs M →
    W p l e R s m args below meth c H locs nc ns Q (F0 m pc ls (st.map (xm_v ad ex)))
end
section
/-! Steps of the group A are true of the machine. -/
section XSTEP
variable {p : Program} {l : Launch} {e : Env} {R : Room} {s : State} {m : MethodId} {args : Array Value} {below : List Frame} {meth : Method} {c : Code} {Q : State → Prop} {D : va_G} {cl : List vw_C} {ex : Nat → Nat} {A : Nat → Prop} {nL n0 : Nat} {ad0 : Nat → Nat} {ca0 : Nat → ClassId}
variable {own : String} {cc : ByteArray} {Ts : List Cond} {xt : Nat → Nat × (Nat → Int32)} {C0 S0 : Nat} {Y : xm_Y} {K : xm_K} {pc : Nat} {loc : xm_L} {st : List xm_V} {M : xm_M} {nc ns : Nat}
set_option maxHeartbeats 2000000 in
theorem xm_snd_iconst (F : xm_fx own cc nL Ts ex xt C0 S0 p R s m args c D cl A) (O : xm_yok own cc Ts cl Y) (hini : Y.2.2.2.2.2 0 = 9 → meth.name = "<init>") (hRf : 1 ≤ R.frames) (hRl : 100 ≤ R.locals)
    (hoi : (Cond.instanceMethod objectInit).before args s = true ∧ (Cond.code objectInit ⟨#[0xb1]⟩ 1 none).before args s = true)
    (har : (Cond.arrayClass .int).before args s = true ∧ (Cond.arrayClass .long).before args s = true ∧ (Cond.arrayClass .boolean).before args s = true)
    (hcy : (Cond.native arraycopyName).before args s = true ∧ (Cond.static arraycopyName).before args s = true ∧ (Cond.initialized "java/lang/System").before args s = true)
    (hst : ∀ ix q, Y.2.2.2.2.1 ix = some q → ∃ (C n d : String), va_Z C n d (.ref (ex q)) A s s.heap ∧ (Cond.fieldLink own ix C n d).before args s = true)
    (hr : ∀ a1 a2 a3 a4 a5 a6, K a1 a2 a3 a4 a5 a6 → a5 ≤ C0 ∧ a6 ≤ S0)
    (kk : ∀ a1 a2 a3 a4 a5 a6, K a1 a2 a3 a4 a5 a6 → xm_W1 p l e R s m args below meth c Q D cl ex A nL n0 ad0 ca0 a1 a2 a3 a4 a5 a6) (h : (∃ (n : Int) (pn : Nat), Y.1 pc = some (.iconst n, pn) ∧ K pn loc (xv_i (Int32.ofInt n) :: st) M nc ns)) : xm_W1 p l e R s m args below meth c Q D cl ex A nL n0 ad0 ca0 pc loc st M nc ns := by
  obtain ⟨hx, hb, hml, hown, hts, hK, hA, ⟨hRc, hRs⟩, hT⟩ := F
  obtain ⟨hdec, hkc, hkl, hfo, hno, hob, hcp⟩ := O
  intro ad ca ls H locs hn hag hl hs hm
  obtain ⟨n, pn, hi, h⟩ := h
  obtain ⟨ln, hd, hpn, hln⟩ := hdec pc _ hi
  dsimp only at hd hpn hln
  obtain rfl := xm_ln 0 hln rfl
  subst hpn
  exact lv_iconst hx hb hd rfl (kk _ _ _ _ _ _ h ad ca ls H locs hn hag hl (xm_hs_push trivial hs) hm)
set_option maxHeartbeats 2000000 in
theorem xm_snd_bipush (F : xm_fx own cc nL Ts ex xt C0 S0 p R s m args c D cl A) (O : xm_yok own cc Ts cl Y) (hini : Y.2.2.2.2.2 0 = 9 → meth.name = "<init>") (hRf : 1 ≤ R.frames) (hRl : 100 ≤ R.locals)
    (hoi : (Cond.instanceMethod objectInit).before args s = true ∧ (Cond.code objectInit ⟨#[0xb1]⟩ 1 none).before args s = true)
    (har : (Cond.arrayClass .int).before args s = true ∧ (Cond.arrayClass .long).before args s = true ∧ (Cond.arrayClass .boolean).before args s = true)
    (hcy : (Cond.native arraycopyName).before args s = true ∧ (Cond.static arraycopyName).before args s = true ∧ (Cond.initialized "java/lang/System").before args s = true)
    (hst : ∀ ix q, Y.2.2.2.2.1 ix = some q → ∃ (C n d : String), va_Z C n d (.ref (ex q)) A s s.heap ∧ (Cond.fieldLink own ix C n d).before args s = true)
    (hr : ∀ a1 a2 a3 a4 a5 a6, K a1 a2 a3 a4 a5 a6 → a5 ≤ C0 ∧ a6 ≤ S0)
    (kk : ∀ a1 a2 a3 a4 a5 a6, K a1 a2 a3 a4 a5 a6 → xm_W1 p l e R s m args below meth c Q D cl ex A nL n0 ad0 ca0 a1 a2 a3 a4 a5 a6) (h : (∃ (n : Int) (pn : Nat), Y.1 pc = some (.bipush n, pn) ∧ K pn loc (xv_i (Int8.ofInt n).toInt32 :: st) M nc ns)) : xm_W1 p l e R s m args below meth c Q D cl ex A nL n0 ad0 ca0 pc loc st M nc ns := by
  obtain ⟨hx, hb, hml, hown, hts, hK, hA, ⟨hRc, hRs⟩, hT⟩ := F
  obtain ⟨hdec, hkc, hkl, hfo, hno, hob, hcp⟩ := O
  intro ad ca ls H locs hn hag hl hs hm
  obtain ⟨n, pn, hi, h⟩ := h
  obtain ⟨ln, hd, hpn, hln⟩ := hdec pc _ hi
  dsimp only at hd hpn hln
  obtain rfl := xm_ln 1 hln rfl
  subst hpn
  exact lv_bipush hx hb hd rfl (kk _ _ _ _ _ _ h ad ca ls H locs hn hag hl (xm_hs_push trivial hs) hm)
set_option maxHeartbeats 2000000 in
theorem xm_snd_sipush (F : xm_fx own cc nL Ts ex xt C0 S0 p R s m args c D cl A) (O : xm_yok own cc Ts cl Y) (hini : Y.2.2.2.2.2 0 = 9 → meth.name = "<init>") (hRf : 1 ≤ R.frames) (hRl : 100 ≤ R.locals)
    (hoi : (Cond.instanceMethod objectInit).before args s = true ∧ (Cond.code objectInit ⟨#[0xb1]⟩ 1 none).before args s = true)
    (har : (Cond.arrayClass .int).before args s = true ∧ (Cond.arrayClass .long).before args s = true ∧ (Cond.arrayClass .boolean).before args s = true)
    (hcy : (Cond.native arraycopyName).before args s = true ∧ (Cond.static arraycopyName).before args s = true ∧ (Cond.initialized "java/lang/System").before args s = true)
    (hst : ∀ ix q, Y.2.2.2.2.1 ix = some q → ∃ (C n d : String), va_Z C n d (.ref (ex q)) A s s.heap ∧ (Cond.fieldLink own ix C n d).before args s = true)
    (hr : ∀ a1 a2 a3 a4 a5 a6, K a1 a2 a3 a4 a5 a6 → a5 ≤ C0 ∧ a6 ≤ S0)
    (kk : ∀ a1 a2 a3 a4 a5 a6, K a1 a2 a3 a4 a5 a6 → xm_W1 p l e R s m args below meth c Q D cl ex A nL n0 ad0 ca0 a1 a2 a3 a4 a5 a6) (h : (∃ (n : Int) (pn : Nat), Y.1 pc = some (.sipush n, pn) ∧ K pn loc (xv_i (Int16.ofInt n).toInt32 :: st) M nc ns)) : xm_W1 p l e R s m args below meth c Q D cl ex A nL n0 ad0 ca0 pc loc st M nc ns := by
  obtain ⟨hx, hb, hml, hown, hts, hK, hA, ⟨hRc, hRs⟩, hT⟩ := F
  obtain ⟨hdec, hkc, hkl, hfo, hno, hob, hcp⟩ := O
  intro ad ca ls H locs hn hag hl hs hm
  obtain ⟨n, pn, hi, h⟩ := h
  obtain ⟨ln, hd, hpn, hln⟩ := hdec pc _ hi
  dsimp only at hd hpn hln
  obtain rfl := xm_ln 2 hln rfl
  subst hpn
  exact lv_sipush hx hb hd rfl (kk _ _ _ _ _ _ h ad ca ls H locs hn hag hl (xm_hs_push trivial hs) hm)
set_option maxHeartbeats 2000000 in
theorem xm_snd_lconst (F : xm_fx own cc nL Ts ex xt C0 S0 p R s m args c D cl A) (O : xm_yok own cc Ts cl Y) (hini : Y.2.2.2.2.2 0 = 9 → meth.name = "<init>") (hRf : 1 ≤ R.frames) (hRl : 100 ≤ R.locals)
    (hoi : (Cond.instanceMethod objectInit).before args s = true ∧ (Cond.code objectInit ⟨#[0xb1]⟩ 1 none).before args s = true)
    (har : (Cond.arrayClass .int).before args s = true ∧ (Cond.arrayClass .long).before args s = true ∧ (Cond.arrayClass .boolean).before args s = true)
    (hcy : (Cond.native arraycopyName).before args s = true ∧ (Cond.static arraycopyName).before args s = true ∧ (Cond.initialized "java/lang/System").before args s = true)
    (hst : ∀ ix q, Y.2.2.2.2.1 ix = some q → ∃ (C n d : String), va_Z C n d (.ref (ex q)) A s s.heap ∧ (Cond.fieldLink own ix C n d).before args s = true)
    (hr : ∀ a1 a2 a3 a4 a5 a6, K a1 a2 a3 a4 a5 a6 → a5 ≤ C0 ∧ a6 ≤ S0)
    (kk : ∀ a1 a2 a3 a4 a5 a6, K a1 a2 a3 a4 a5 a6 → xm_W1 p l e R s m args below meth c Q D cl ex A nL n0 ad0 ca0 a1 a2 a3 a4 a5 a6) (h : (∃ (n : Fin 2) (pn : Nat), Y.1 pc = some (.lconst n, pn) ∧ K pn loc (xv_l (Int64.ofNat (n : Nat)) :: st) M nc ns)) : xm_W1 p l e R s m args below meth c Q D cl ex A nL n0 ad0 ca0 pc loc st M nc ns := by
  obtain ⟨hx, hb, hml, hown, hts, hK, hA, ⟨hRc, hRs⟩, hT⟩ := F
  obtain ⟨hdec, hkc, hkl, hfo, hno, hob, hcp⟩ := O
  intro ad ca ls H locs hn hag hl hs hm
  obtain ⟨n, pn, hi, h⟩ := h
  obtain ⟨ln, hd, hpn, hln⟩ := hdec pc _ hi
  dsimp only at hd hpn hln
  obtain rfl := xm_ln 0 hln rfl
  subst hpn
  exact lv_lconst hx hb hd rfl (kk _ _ _ _ _ _ h ad ca ls H locs hn hag hl (xm_hs_push trivial hs) hm)
set_option maxHeartbeats 2000000 in
theorem xm_snd_ldc (F : xm_fx own cc nL Ts ex xt C0 S0 p R s m args c D cl A) (O : xm_yok own cc Ts cl Y) (hini : Y.2.2.2.2.2 0 = 9 → meth.name = "<init>") (hRf : 1 ≤ R.frames) (hRl : 100 ≤ R.locals)
    (hoi : (Cond.instanceMethod objectInit).before args s = true ∧ (Cond.code objectInit ⟨#[0xb1]⟩ 1 none).before args s = true)
    (har : (Cond.arrayClass .int).before args s = true ∧ (Cond.arrayClass .long).before args s = true ∧ (Cond.arrayClass .boolean).before args s = true)
    (hcy : (Cond.native arraycopyName).before args s = true ∧ (Cond.static arraycopyName).before args s = true ∧ (Cond.initialized "java/lang/System").before args s = true)
    (hst : ∀ ix q, Y.2.2.2.2.1 ix = some q → ∃ (C n d : String), va_Z C n d (.ref (ex q)) A s s.heap ∧ (Cond.fieldLink own ix C n d).before args s = true)
    (hr : ∀ a1 a2 a3 a4 a5 a6, K a1 a2 a3 a4 a5 a6 → a5 ≤ C0 ∧ a6 ≤ S0)
    (kk : ∀ a1 a2 a3 a4 a5 a6, K a1 a2 a3 a4 a5 a6 → xm_W1 p l e R s m args below meth c Q D cl ex A nL n0 ad0 ca0 a1 a2 a3 a4 a5 a6) (h : (∃ (ix : Nat) (v : Int32) (pn : Nat), Y.1 pc = some (.ldc ix, pn) ∧ Y.2.1 ix = some (xv_i v) ∧ K pn loc (xv_i v :: st) M nc ns)) : xm_W1 p l e R s m args below meth c Q D cl ex A nL n0 ad0 ca0 pc loc st M nc ns := by
  obtain ⟨hx, hb, hml, hown, hts, hK, hA, ⟨hRc, hRs⟩, hT⟩ := F
  obtain ⟨hdec, hkc, hkl, hfo, hno, hob, hcp⟩ := O
  intro ad ca ls H locs hn hag hl hs hm
  obtain ⟨ix, v, pn, hi, hv, h⟩ := h
  obtain ⟨ln, hd, hpn, hln⟩ := hdec pc _ hi
  dsimp only at hd hpn hln
  obtain rfl := xm_ln 1 hln rfl
  subst hpn
  exact lv_ldc hx hb hown (hts _ (hkc ix v hv)) hd (kk _ _ _ _ _ _ h ad ca ls H locs hn hag hl (xm_hs_push trivial hs) hm)
set_option maxHeartbeats 2000000 in
theorem xm_snd_ldc2 (F : xm_fx own cc nL Ts ex xt C0 S0 p R s m args c D cl A) (O : xm_yok own cc Ts cl Y) (hini : Y.2.2.2.2.2 0 = 9 → meth.name = "<init>") (hRf : 1 ≤ R.frames) (hRl : 100 ≤ R.locals)
    (hoi : (Cond.instanceMethod objectInit).before args s = true ∧ (Cond.code objectInit ⟨#[0xb1]⟩ 1 none).before args s = true)
    (har : (Cond.arrayClass .int).before args s = true ∧ (Cond.arrayClass .long).before args s = true ∧ (Cond.arrayClass .boolean).before args s = true)
    (hcy : (Cond.native arraycopyName).before args s = true ∧ (Cond.static arraycopyName).before args s = true ∧ (Cond.initialized "java/lang/System").before args s = true)
    (hst : ∀ ix q, Y.2.2.2.2.1 ix = some q → ∃ (C n d : String), va_Z C n d (.ref (ex q)) A s s.heap ∧ (Cond.fieldLink own ix C n d).before args s = true)
    (hr : ∀ a1 a2 a3 a4 a5 a6, K a1 a2 a3 a4 a5 a6 → a5 ≤ C0 ∧ a6 ≤ S0)
    (kk : ∀ a1 a2 a3 a4 a5 a6, K a1 a2 a3 a4 a5 a6 → xm_W1 p l e R s m args below meth c Q D cl ex A nL n0 ad0 ca0 a1 a2 a3 a4 a5 a6) (h : (∃ (ix : Nat) (v : Int64) (pn : Nat), Y.1 pc = some (.ldc2_w ix, pn) ∧ Y.2.1 ix = some (xv_l v) ∧ K pn loc (xv_l v :: st) M nc ns)) : xm_W1 p l e R s m args below meth c Q D cl ex A nL n0 ad0 ca0 pc loc st M nc ns := by
  obtain ⟨hx, hb, hml, hown, hts, hK, hA, ⟨hRc, hRs⟩, hT⟩ := F
  obtain ⟨hdec, hkc, hkl, hfo, hno, hob, hcp⟩ := O
  intro ad ca ls H locs hn hag hl hs hm
  obtain ⟨ix, v, pn, hi, hv, h⟩ := h
  obtain ⟨ln, hd, hpn, hln⟩ := hdec pc _ hi
  dsimp only at hd hpn hln
  obtain rfl := xm_ln 2 hln rfl
  subst hpn
  exact lv_ldc2 hx hb hown (hts _ (hkl ix v hv)) hd (kk _ _ _ _ _ _ h ad ca ls H locs hn hag hl (xm_hs_push trivial hs) hm)
set_option maxHeartbeats 2000000 in
theorem xm_snd_iload (F : xm_fx own cc nL Ts ex xt C0 S0 p R s m args c D cl A) (O : xm_yok own cc Ts cl Y) (hini : Y.2.2.2.2.2 0 = 9 → meth.name = "<init>") (hRf : 1 ≤ R.frames) (hRl : 100 ≤ R.locals)
    (hoi : (Cond.instanceMethod objectInit).before args s = true ∧ (Cond.code objectInit ⟨#[0xb1]⟩ 1 none).before args s = true)
    (har : (Cond.arrayClass .int).before args s = true ∧ (Cond.arrayClass .long).before args s = true ∧ (Cond.arrayClass .boolean).before args s = true)
    (hcy : (Cond.native arraycopyName).before args s = true ∧ (Cond.static arraycopyName).before args s = true ∧ (Cond.initialized "java/lang/System").before args s = true)
    (hst : ∀ ix q, Y.2.2.2.2.1 ix = some q → ∃ (C n d : String), va_Z C n d (.ref (ex q)) A s s.heap ∧ (Cond.fieldLink own ix C n d).before args s = true)
    (hr : ∀ a1 a2 a3 a4 a5 a6, K a1 a2 a3 a4 a5 a6 → a5 ≤ C0 ∧ a6 ≤ S0)
    (kk : ∀ a1 a2 a3 a4 a5 a6, K a1 a2 a3 a4 a5 a6 → xm_W1 p l e R s m args below meth c Q D cl ex A nL n0 ad0 ca0 a1 a2 a3 a4 a5 a6) (h : (∃ (k : Nat) (x : Int32) (pn : Nat), Y.1 pc = some (.iload k, pn) ∧ loc[k]? = some (some (xv_i x)) ∧ K pn loc (xv_i x :: st) M nc ns)) : xm_W1 p l e R s m args below meth c Q D cl ex A nL n0 ad0 ca0 pc loc st M nc ns := by
  obtain ⟨hx, hb, hml, hown, hts, hK, hA, ⟨hRc, hRs⟩, hT⟩ := F
  obtain ⟨hdec, hkc, hkl, hfo, hno, hob, hcp⟩ := O
  intro ad ca ls H locs hn hag hl hs hm
  obtain ⟨k, x, pn, hi, hv, h⟩ := h
  obtain ⟨ln, hd, hpn, hln⟩ := hdec pc _ hi
  dsimp only at hd hpn hln
  obtain rfl := xm_ln 1 hln rfl
  subst hpn
  exact lv_iload hx hb hd (hl.2 _ _ hv).1 (kk _ _ _ _ _ _ h ad ca ls H locs hn hag hl (xm_hs_push trivial hs) hm)
set_option maxHeartbeats 2000000 in
theorem xm_snd_iload_n (F : xm_fx own cc nL Ts ex xt C0 S0 p R s m args c D cl A) (O : xm_yok own cc Ts cl Y) (hini : Y.2.2.2.2.2 0 = 9 → meth.name = "<init>") (hRf : 1 ≤ R.frames) (hRl : 100 ≤ R.locals)
    (hoi : (Cond.instanceMethod objectInit).before args s = true ∧ (Cond.code objectInit ⟨#[0xb1]⟩ 1 none).before args s = true)
    (har : (Cond.arrayClass .int).before args s = true ∧ (Cond.arrayClass .long).before args s = true ∧ (Cond.arrayClass .boolean).before args s = true)
    (hcy : (Cond.native arraycopyName).before args s = true ∧ (Cond.static arraycopyName).before args s = true ∧ (Cond.initialized "java/lang/System").before args s = true)
    (hst : ∀ ix q, Y.2.2.2.2.1 ix = some q → ∃ (C n d : String), va_Z C n d (.ref (ex q)) A s s.heap ∧ (Cond.fieldLink own ix C n d).before args s = true)
    (hr : ∀ a1 a2 a3 a4 a5 a6, K a1 a2 a3 a4 a5 a6 → a5 ≤ C0 ∧ a6 ≤ S0)
    (kk : ∀ a1 a2 a3 a4 a5 a6, K a1 a2 a3 a4 a5 a6 → xm_W1 p l e R s m args below meth c Q D cl ex A nL n0 ad0 ca0 a1 a2 a3 a4 a5 a6) (h : (∃ (k : Fin 4) (x : Int32) (pn : Nat), Y.1 pc = some (.iload_n k, pn) ∧ loc[(k : Nat)]? = some (some (xv_i x)) ∧ K pn loc (xv_i x :: st) M nc ns)) : xm_W1 p l e R s m args below meth c Q D cl ex A nL n0 ad0 ca0 pc loc st M nc ns := by
  obtain ⟨hx, hb, hml, hown, hts, hK, hA, ⟨hRc, hRs⟩, hT⟩ := F
  obtain ⟨hdec, hkc, hkl, hfo, hno, hob, hcp⟩ := O
  intro ad ca ls H locs hn hag hl hs hm
  obtain ⟨k, x, pn, hi, hv, h⟩ := h
  obtain ⟨ln, hd, hpn, hln⟩ := hdec pc _ hi
  dsimp only at hd hpn hln
  obtain rfl := xm_ln 0 hln rfl
  subst hpn
  exact lv_iload_n hx hb hd rfl (hl.2 _ _ hv).1 (kk _ _ _ _ _ _ h ad ca ls H locs hn hag hl (xm_hs_push trivial hs) hm)
set_option maxHeartbeats 2000000 in
theorem xm_snd_lload (F : xm_fx own cc nL Ts ex xt C0 S0 p R s m args c D cl A) (O : xm_yok own cc Ts cl Y) (hini : Y.2.2.2.2.2 0 = 9 → meth.name = "<init>") (hRf : 1 ≤ R.frames) (hRl : 100 ≤ R.locals)
    (hoi : (Cond.instanceMethod objectInit).before args s = true ∧ (Cond.code objectInit ⟨#[0xb1]⟩ 1 none).before args s = true)
    (har : (Cond.arrayClass .int).before args s = true ∧ (Cond.arrayClass .long).before args s = true ∧ (Cond.arrayClass .boolean).before args s = true)
    (hcy : (Cond.native arraycopyName).before args s = true ∧ (Cond.static arraycopyName).before args s = true ∧ (Cond.initialized "java/lang/System").before args s = true)
    (hst : ∀ ix q, Y.2.2.2.2.1 ix = some q → ∃ (C n d : String), va_Z C n d (.ref (ex q)) A s s.heap ∧ (Cond.fieldLink own ix C n d).before args s = true)
    (hr : ∀ a1 a2 a3 a4 a5 a6, K a1 a2 a3 a4 a5 a6 → a5 ≤ C0 ∧ a6 ≤ S0)
    (kk : ∀ a1 a2 a3 a4 a5 a6, K a1 a2 a3 a4 a5 a6 → xm_W1 p l e R s m args below meth c Q D cl ex A nL n0 ad0 ca0 a1 a2 a3 a4 a5 a6) (h : (∃ (k : Nat) (x : Int64) (pn : Nat), Y.1 pc = some (.lload k, pn) ∧ loc[k]? = some (some (xv_l x)) ∧ K pn loc (xv_l x :: st) M nc ns)) : xm_W1 p l e R s m args below meth c Q D cl ex A nL n0 ad0 ca0 pc loc st M nc ns := by
  obtain ⟨hx, hb, hml, hown, hts, hK, hA, ⟨hRc, hRs⟩, hT⟩ := F
  obtain ⟨hdec, hkc, hkl, hfo, hno, hob, hcp⟩ := O
  intro ad ca ls H locs hn hag hl hs hm
  obtain ⟨k, x, pn, hi, hv, h⟩ := h
  obtain ⟨ln, hd, hpn, hln⟩ := hdec pc _ hi
  dsimp only at hd hpn hln
  obtain rfl := xm_ln 1 hln rfl
  subst hpn
  exact lv_lload hx hb hd (hl.2 _ _ hv).1 (kk _ _ _ _ _ _ h ad ca ls H locs hn hag hl (xm_hs_push trivial hs) hm)
set_option maxHeartbeats 2000000 in
theorem xm_snd_lload_n (F : xm_fx own cc nL Ts ex xt C0 S0 p R s m args c D cl A) (O : xm_yok own cc Ts cl Y) (hini : Y.2.2.2.2.2 0 = 9 → meth.name = "<init>") (hRf : 1 ≤ R.frames) (hRl : 100 ≤ R.locals)
    (hoi : (Cond.instanceMethod objectInit).before args s = true ∧ (Cond.code objectInit ⟨#[0xb1]⟩ 1 none).before args s = true)
    (har : (Cond.arrayClass .int).before args s = true ∧ (Cond.arrayClass .long).before args s = true ∧ (Cond.arrayClass .boolean).before args s = true)
    (hcy : (Cond.native arraycopyName).before args s = true ∧ (Cond.static arraycopyName).before args s = true ∧ (Cond.initialized "java/lang/System").before args s = true)
    (hst : ∀ ix q, Y.2.2.2.2.1 ix = some q → ∃ (C n d : String), va_Z C n d (.ref (ex q)) A s s.heap ∧ (Cond.fieldLink own ix C n d).before args s = true)
    (hr : ∀ a1 a2 a3 a4 a5 a6, K a1 a2 a3 a4 a5 a6 → a5 ≤ C0 ∧ a6 ≤ S0)
    (kk : ∀ a1 a2 a3 a4 a5 a6, K a1 a2 a3 a4 a5 a6 → xm_W1 p l e R s m args below meth c Q D cl ex A nL n0 ad0 ca0 a1 a2 a3 a4 a5 a6) (h : (∃ (k : Fin 4) (x : Int64) (pn : Nat), Y.1 pc = some (.lload_n k, pn) ∧ loc[(k : Nat)]? = some (some (xv_l x)) ∧ K pn loc (xv_l x :: st) M nc ns)) : xm_W1 p l e R s m args below meth c Q D cl ex A nL n0 ad0 ca0 pc loc st M nc ns := by
  obtain ⟨hx, hb, hml, hown, hts, hK, hA, ⟨hRc, hRs⟩, hT⟩ := F
  obtain ⟨hdec, hkc, hkl, hfo, hno, hob, hcp⟩ := O
  intro ad ca ls H locs hn hag hl hs hm
  obtain ⟨k, x, pn, hi, hv, h⟩ := h
  obtain ⟨ln, hd, hpn, hln⟩ := hdec pc _ hi
  dsimp only at hd hpn hln
  obtain rfl := xm_ln 0 hln rfl
  subst hpn
  exact lv_lload_n hx hb hd rfl (hl.2 _ _ hv).1 (kk _ _ _ _ _ _ h ad ca ls H locs hn hag hl (xm_hs_push trivial hs) hm)
set_option maxHeartbeats 2000000 in
theorem xm_snd_aload (F : xm_fx own cc nL Ts ex xt C0 S0 p R s m args c D cl A) (O : xm_yok own cc Ts cl Y) (hini : Y.2.2.2.2.2 0 = 9 → meth.name = "<init>") (hRf : 1 ≤ R.frames) (hRl : 100 ≤ R.locals)
    (hoi : (Cond.instanceMethod objectInit).before args s = true ∧ (Cond.code objectInit ⟨#[0xb1]⟩ 1 none).before args s = true)
    (har : (Cond.arrayClass .int).before args s = true ∧ (Cond.arrayClass .long).before args s = true ∧ (Cond.arrayClass .boolean).before args s = true)
    (hcy : (Cond.native arraycopyName).before args s = true ∧ (Cond.static arraycopyName).before args s = true ∧ (Cond.initialized "java/lang/System").before args s = true)
    (hst : ∀ ix q, Y.2.2.2.2.1 ix = some q → ∃ (C n d : String), va_Z C n d (.ref (ex q)) A s s.heap ∧ (Cond.fieldLink own ix C n d).before args s = true)
    (hr : ∀ a1 a2 a3 a4 a5 a6, K a1 a2 a3 a4 a5 a6 → a5 ≤ C0 ∧ a6 ≤ S0)
    (kk : ∀ a1 a2 a3 a4 a5 a6, K a1 a2 a3 a4 a5 a6 → xm_W1 p l e R s m args below meth c Q D cl ex A nL n0 ad0 ca0 a1 a2 a3 a4 a5 a6) (h : (∃ (k : Nat) (q : Nat) (pn : Nat), Y.1 pc = some (.aload k, pn) ∧ loc[k]? = some (some (xv_r q)) ∧ K pn loc (xv_r q :: st) M nc ns)) : xm_W1 p l e R s m args below meth c Q D cl ex A nL n0 ad0 ca0 pc loc st M nc ns := by
  obtain ⟨hx, hb, hml, hown, hts, hK, hA, ⟨hRc, hRs⟩, hT⟩ := F
  obtain ⟨hdec, hkc, hkl, hfo, hno, hob, hcp⟩ := O
  intro ad ca ls H locs hn hag hl hs hm
  obtain ⟨k, q, pn, hi, hv, h⟩ := h
  obtain ⟨ln, hd, hpn, hln⟩ := hdec pc _ hi
  dsimp only at hd hpn hln
  obtain rfl := xm_ln 1 hln rfl
  subst hpn
  exact lv_aload hx hb hd (hl.2 _ _ hv).1 (kk _ _ _ _ _ _ h ad ca ls H locs hn hag hl (xm_hs_push (hl.2 _ _ hv).2 hs) hm)
set_option maxHeartbeats 2000000 in
theorem xm_snd_aload_n (F : xm_fx own cc nL Ts ex xt C0 S0 p R s m args c D cl A) (O : xm_yok own cc Ts cl Y) (hini : Y.2.2.2.2.2 0 = 9 → meth.name = "<init>") (hRf : 1 ≤ R.frames) (hRl : 100 ≤ R.locals)
    (hoi : (Cond.instanceMethod objectInit).before args s = true ∧ (Cond.code objectInit ⟨#[0xb1]⟩ 1 none).before args s = true)
    (har : (Cond.arrayClass .int).before args s = true ∧ (Cond.arrayClass .long).before args s = true ∧ (Cond.arrayClass .boolean).before args s = true)
    (hcy : (Cond.native arraycopyName).before args s = true ∧ (Cond.static arraycopyName).before args s = true ∧ (Cond.initialized "java/lang/System").before args s = true)
    (hst : ∀ ix q, Y.2.2.2.2.1 ix = some q → ∃ (C n d : String), va_Z C n d (.ref (ex q)) A s s.heap ∧ (Cond.fieldLink own ix C n d).before args s = true)
    (hr : ∀ a1 a2 a3 a4 a5 a6, K a1 a2 a3 a4 a5 a6 → a5 ≤ C0 ∧ a6 ≤ S0)
    (kk : ∀ a1 a2 a3 a4 a5 a6, K a1 a2 a3 a4 a5 a6 → xm_W1 p l e R s m args below meth c Q D cl ex A nL n0 ad0 ca0 a1 a2 a3 a4 a5 a6) (h : (∃ (k : Fin 4) (q : Nat) (pn : Nat), Y.1 pc = some (.aload_n k, pn) ∧ loc[(k : Nat)]? = some (some (xv_r q)) ∧ K pn loc (xv_r q :: st) M nc ns)) : xm_W1 p l e R s m args below meth c Q D cl ex A nL n0 ad0 ca0 pc loc st M nc ns := by
  obtain ⟨hx, hb, hml, hown, hts, hK, hA, ⟨hRc, hRs⟩, hT⟩ := F
  obtain ⟨hdec, hkc, hkl, hfo, hno, hob, hcp⟩ := O
  intro ad ca ls H locs hn hag hl hs hm
  obtain ⟨k, q, pn, hi, hv, h⟩ := h
  obtain ⟨ln, hd, hpn, hln⟩ := hdec pc _ hi
  dsimp only at hd hpn hln
  obtain rfl := xm_ln 0 hln rfl
  subst hpn
  exact lv_aload_n hx hb hd rfl (hl.2 _ _ hv).1 (kk _ _ _ _ _ _ h ad ca ls H locs hn hag hl (xm_hs_push (hl.2 _ _ hv).2 hs) hm)
set_option maxHeartbeats 2000000 in
theorem xm_snd_aloadx (F : xm_fx own cc nL Ts ex xt C0 S0 p R s m args c D cl A) (O : xm_yok own cc Ts cl Y) (hini : Y.2.2.2.2.2 0 = 9 → meth.name = "<init>") (hRf : 1 ≤ R.frames) (hRl : 100 ≤ R.locals)
    (hoi : (Cond.instanceMethod objectInit).before args s = true ∧ (Cond.code objectInit ⟨#[0xb1]⟩ 1 none).before args s = true)
    (har : (Cond.arrayClass .int).before args s = true ∧ (Cond.arrayClass .long).before args s = true ∧ (Cond.arrayClass .boolean).before args s = true)
    (hcy : (Cond.native arraycopyName).before args s = true ∧ (Cond.static arraycopyName).before args s = true ∧ (Cond.initialized "java/lang/System").before args s = true)
    (hst : ∀ ix q, Y.2.2.2.2.1 ix = some q → ∃ (C n d : String), va_Z C n d (.ref (ex q)) A s s.heap ∧ (Cond.fieldLink own ix C n d).before args s = true)
    (hr : ∀ a1 a2 a3 a4 a5 a6, K a1 a2 a3 a4 a5 a6 → a5 ≤ C0 ∧ a6 ≤ S0)
    (kk : ∀ a1 a2 a3 a4 a5 a6, K a1 a2 a3 a4 a5 a6 → xm_W1 p l e R s m args below meth c Q D cl ex A nL n0 ad0 ca0 a1 a2 a3 a4 a5 a6) (h : (∃ (k : Nat) (q : Nat) (pn : Nat), Y.1 pc = some (.aload k, pn) ∧ loc[k]? = some (some (xv_x q)) ∧ K pn loc (xv_x q :: st) M nc ns)) : xm_W1 p l e R s m args below meth c Q D cl ex A nL n0 ad0 ca0 pc loc st M nc ns := by
  obtain ⟨hx, hb, hml, hown, hts, hK, hA, ⟨hRc, hRs⟩, hT⟩ := F
  obtain ⟨hdec, hkc, hkl, hfo, hno, hob, hcp⟩ := O
  intro ad ca ls H locs hn hag hl hs hm
  obtain ⟨k, q, pn, hi, hv, h⟩ := h
  obtain ⟨ln, hd, hpn, hln⟩ := hdec pc _ hi
  dsimp only at hd hpn hln
  obtain rfl := xm_ln 1 hln rfl
  subst hpn
  exact lv_aload hx hb hd (hl.2 _ _ hv).1 (kk _ _ _ _ _ _ h ad ca ls H locs hn hag hl (xm_hs_push trivial hs) hm)
set_option maxHeartbeats 2000000 in
theorem xm_snd_aload_nx (F : xm_fx own cc nL Ts ex xt C0 S0 p R s m args c D cl A) (O : xm_yok own cc Ts cl Y) (hini : Y.2.2.2.2.2 0 = 9 → meth.name = "<init>") (hRf : 1 ≤ R.frames) (hRl : 100 ≤ R.locals)
    (hoi : (Cond.instanceMethod objectInit).before args s = true ∧ (Cond.code objectInit ⟨#[0xb1]⟩ 1 none).before args s = true)
    (har : (Cond.arrayClass .int).before args s = true ∧ (Cond.arrayClass .long).before args s = true ∧ (Cond.arrayClass .boolean).before args s = true)
    (hcy : (Cond.native arraycopyName).before args s = true ∧ (Cond.static arraycopyName).before args s = true ∧ (Cond.initialized "java/lang/System").before args s = true)
    (hst : ∀ ix q, Y.2.2.2.2.1 ix = some q → ∃ (C n d : String), va_Z C n d (.ref (ex q)) A s s.heap ∧ (Cond.fieldLink own ix C n d).before args s = true)
    (hr : ∀ a1 a2 a3 a4 a5 a6, K a1 a2 a3 a4 a5 a6 → a5 ≤ C0 ∧ a6 ≤ S0)
    (kk : ∀ a1 a2 a3 a4 a5 a6, K a1 a2 a3 a4 a5 a6 → xm_W1 p l e R s m args below meth c Q D cl ex A nL n0 ad0 ca0 a1 a2 a3 a4 a5 a6) (h : (∃ (k : Fin 4) (q : Nat) (pn : Nat), Y.1 pc = some (.aload_n k, pn) ∧ loc[(k : Nat)]? = some (some (xv_x q)) ∧ K pn loc (xv_x q :: st) M nc ns)) : xm_W1 p l e R s m args below meth c Q D cl ex A nL n0 ad0 ca0 pc loc st M nc ns := by
  obtain ⟨hx, hb, hml, hown, hts, hK, hA, ⟨hRc, hRs⟩, hT⟩ := F
  obtain ⟨hdec, hkc, hkl, hfo, hno, hob, hcp⟩ := O
  intro ad ca ls H locs hn hag hl hs hm
  obtain ⟨k, q, pn, hi, hv, h⟩ := h
  obtain ⟨ln, hd, hpn, hln⟩ := hdec pc _ hi
  dsimp only at hd hpn hln
  obtain rfl := xm_ln 0 hln rfl
  subst hpn
  exact lv_aload_n hx hb hd rfl (hl.2 _ _ hv).1 (kk _ _ _ _ _ _ h ad ca ls H locs hn hag hl (xm_hs_push trivial hs) hm)
theorem xm_sndA (F : xm_fx own cc nL Ts ex xt C0 S0 p R s m args c D cl A) (O : xm_yok own cc Ts cl Y) (hini : Y.2.2.2.2.2 0 = 9 → meth.name = "<init>") (hRf : 1 ≤ R.frames) (hRl : 100 ≤ R.locals)
    (hoi : (Cond.instanceMethod objectInit).before args s = true ∧ (Cond.code objectInit ⟨#[0xb1]⟩ 1 none).before args s = true)
    (har : (Cond.arrayClass .int).before args s = true ∧ (Cond.arrayClass .long).before args s = true ∧ (Cond.arrayClass .boolean).before args s = true)
    (hcy : (Cond.native arraycopyName).before args s = true ∧ (Cond.static arraycopyName).before args s = true ∧ (Cond.initialized "java/lang/System").before args s = true)
    (hst : ∀ ix q, Y.2.2.2.2.1 ix = some q → ∃ (C n d : String), va_Z C n d (.ref (ex q)) A s s.heap ∧ (Cond.fieldLink own ix C n d).before args s = true)
    (hr : ∀ a1 a2 a3 a4 a5 a6, K a1 a2 a3 a4 a5 a6 → a5 ≤ C0 ∧ a6 ≤ S0)
    (kk : ∀ a1 a2 a3 a4 a5 a6, K a1 a2 a3 a4 a5 a6 → xm_W1 p l e R s m args below meth c Q D cl ex A nL n0 ad0 ca0 a1 a2 a3 a4 a5 a6) (h : xm_sA Y xt nL pc loc st M nc ns K) : xm_W1 p l e R s m args below meth c Q D cl ex A nL n0 ad0 ca0 pc loc st M nc ns := by
  unfold xm_sA at h
  rcases h with h | h | h | h | h | h | h | h | h | h | h | h | h | h
  · exact xm_snd_iconst F O hini hRf hRl hoi har hcy hst hr kk h
  · exact xm_snd_bipush F O hini hRf hRl hoi har hcy hst hr kk h
  · exact xm_snd_sipush F O hini hRf hRl hoi har hcy hst hr kk h
  · exact xm_snd_lconst F O hini hRf hRl hoi har hcy hst hr kk h
  · exact xm_snd_ldc F O hini hRf hRl hoi har hcy hst hr kk h
  · exact xm_snd_ldc2 F O hini hRf hRl hoi har hcy hst hr kk h
  · exact xm_snd_iload F O hini hRf hRl hoi har hcy hst hr kk h
  · exact xm_snd_iload_n F O hini hRf hRl hoi har hcy hst hr kk h
  · exact xm_snd_lload F O hini hRf hRl hoi har hcy hst hr kk h
  · exact xm_snd_lload_n F O hini hRf hRl hoi har hcy hst hr kk h
  · exact xm_snd_aload F O hini hRf hRl hoi har hcy hst hr kk h
  · exact xm_snd_aload_n F O hini hRf hRl hoi har hcy hst hr kk h
  · exact xm_snd_aloadx F O hini hRf hRl hoi har hcy hst hr kk h
  · exact xm_snd_aload_nx F O hini hRf hRl hoi har hcy hst hr kk h
theorem xm_exA (h : xm_sA Y xt nL pc loc st M nc ns K) : ∃ a1 a2 a3 a4 a5 a6, K a1 a2 a3 a4 a5 a6 ∧ nc ≤ a5 ∧ ns ≤ a6 := by
  unfold xm_sA at h
  rcases h with h | h | h | h | h | h | h | h | h | h | h | h | h | h
  · obtain ⟨_, _, _, h⟩ := h
    exact ⟨_, _, _, _, _, _, h, Nat.le_refl _, Nat.le_refl _⟩
  · obtain ⟨_, _, _, h⟩ := h
    exact ⟨_, _, _, _, _, _, h, Nat.le_refl _, Nat.le_refl _⟩
  · obtain ⟨_, _, _, h⟩ := h
    exact ⟨_, _, _, _, _, _, h, Nat.le_refl _, Nat.le_refl _⟩
  · obtain ⟨_, _, _, h⟩ := h
    exact ⟨_, _, _, _, _, _, h, Nat.le_refl _, Nat.le_refl _⟩
  · obtain ⟨_, _, _, _, _, h⟩ := h
    exact ⟨_, _, _, _, _, _, h, Nat.le_refl _, Nat.le_refl _⟩
  · obtain ⟨_, _, _, _, _, h⟩ := h
    exact ⟨_, _, _, _, _, _, h, Nat.le_refl _, Nat.le_refl _⟩
  · obtain ⟨_, _, _, _, _, h⟩ := h
    exact ⟨_, _, _, _, _, _, h, Nat.le_refl _, Nat.le_refl _⟩
  · obtain ⟨_, _, _, _, _, h⟩ := h
    exact ⟨_, _, _, _, _, _, h, Nat.le_refl _, Nat.le_refl _⟩
  · obtain ⟨_, _, _, _, _, h⟩ := h
    exact ⟨_, _, _, _, _, _, h, Nat.le_refl _, Nat.le_refl _⟩
  · obtain ⟨_, _, _, _, _, h⟩ := h
    exact ⟨_, _, _, _, _, _, h, Nat.le_refl _, Nat.le_refl _⟩
  · obtain ⟨_, _, _, _, _, h⟩ := h
    exact ⟨_, _, _, _, _, _, h, Nat.le_refl _, Nat.le_refl _⟩
  · obtain ⟨_, _, _, _, _, h⟩ := h
    exact ⟨_, _, _, _, _, _, h, Nat.le_refl _, Nat.le_refl _⟩
  · obtain ⟨_, _, _, _, _, h⟩ := h
    exact ⟨_, _, _, _, _, _, h, Nat.le_refl _, Nat.le_refl _⟩
  · obtain ⟨_, _, _, _, _, h⟩ := h
    exact ⟨_, _, _, _, _, _, h, Nat.le_refl _, Nat.le_refl _⟩
end XSTEP
end
section
/-! Steps of the group B are true of the machine. -/
section XSTEP
variable {p : Program} {l : Launch} {e : Env} {R : Room} {s : State} {m : MethodId} {args : Array Value} {below : List Frame} {meth : Method} {c : Code} {Q : State → Prop} {D : va_G} {cl : List vw_C} {ex : Nat → Nat} {A : Nat → Prop} {nL n0 : Nat} {ad0 : Nat → Nat} {ca0 : Nat → ClassId}
variable {own : String} {cc : ByteArray} {Ts : List Cond} {xt : Nat → Nat × (Nat → Int32)} {C0 S0 : Nat} {Y : xm_Y} {K : xm_K} {pc : Nat} {loc : xm_L} {st : List xm_V} {M : xm_M} {nc ns : Nat}
set_option maxHeartbeats 2000000 in
theorem xm_snd_istore (F : xm_fx own cc nL Ts ex xt C0 S0 p R s m args c D cl A) (O : xm_yok own cc Ts cl Y) (hini : Y.2.2.2.2.2 0 = 9 → meth.name = "<init>") (hRf : 1 ≤ R.frames) (hRl : 100 ≤ R.locals)
    (hoi : (Cond.instanceMethod objectInit).before args s = true ∧ (Cond.code objectInit ⟨#[0xb1]⟩ 1 none).before args s = true)
    (har : (Cond.arrayClass .int).before args s = true ∧ (Cond.arrayClass .long).before args s = true ∧ (Cond.arrayClass .boolean).before args s = true)
    (hcy : (Cond.native arraycopyName).before args s = true ∧ (Cond.static arraycopyName).before args s = true ∧ (Cond.initialized "java/lang/System").before args s = true)
    (hst : ∀ ix q, Y.2.2.2.2.1 ix = some q → ∃ (C n d : String), va_Z C n d (.ref (ex q)) A s s.heap ∧ (Cond.fieldLink own ix C n d).before args s = true)
    (hr : ∀ a1 a2 a3 a4 a5 a6, K a1 a2 a3 a4 a5 a6 → a5 ≤ C0 ∧ a6 ≤ S0)
    (kk : ∀ a1 a2 a3 a4 a5 a6, K a1 a2 a3 a4 a5 a6 → xm_W1 p l e R s m args below meth c Q D cl ex A nL n0 ad0 ca0 a1 a2 a3 a4 a5 a6) (h : (∃ (k : Nat) (x : Int32) (r : List xm_V) (pn : Nat), Y.1 pc = some (.istore k, pn) ∧ st = xv_i x :: r ∧ k < nL ∧ K pn (xm_st1 loc k (xv_i x)) r M nc ns)) : xm_W1 p l e R s m args below meth c Q D cl ex A nL n0 ad0 ca0 pc loc st M nc ns := by
  obtain ⟨hx, hb, hml, hown, hts, hK, hA, ⟨hRc, hRs⟩, hT⟩ := F
  obtain ⟨hdec, hkc, hkl, hfo, hno, hob, hcp⟩ := O
  intro ad ca ls H locs hn hag hl hs hm
  obtain ⟨k, x, r, pn, hi, rfl, hk, h⟩ := h
  obtain ⟨ln, hd, hpn, hln⟩ := hdec pc _ hi
  dsimp only at hd hpn hln
  obtain rfl := xm_ln 1 hln rfl
  subst hpn
  exact lv_istore hx hb hd hl.has hk rfl (fun ls' hl' => kk _ _ _ _ _ _ h ad ca ls' H locs hn hag (hl.st1 trivial hl') (xm_hs_cons hs).2 hm)
set_option maxHeartbeats 2000000 in
theorem xm_snd_istore_n (F : xm_fx own cc nL Ts ex xt C0 S0 p R s m args c D cl A) (O : xm_yok own cc Ts cl Y) (hini : Y.2.2.2.2.2 0 = 9 → meth.name = "<init>") (hRf : 1 ≤ R.frames) (hRl : 100 ≤ R.locals)
    (hoi : (Cond.instanceMethod objectInit).before args s = true ∧ (Cond.code objectInit ⟨#[0xb1]⟩ 1 none).before args s = true)
    (har : (Cond.arrayClass .int).before args s = true ∧ (Cond.arrayClass .long).before args s = true ∧ (Cond.arrayClass .boolean).before args s = true)
    (hcy : (Cond.native arraycopyName).before args s = true ∧ (Cond.static arraycopyName).before args s = true ∧ (Cond.initialized "java/lang/System").before args s = true)
    (hst : ∀ ix q, Y.2.2.2.2.1 ix = some q → ∃ (C n d : String), va_Z C n d (.ref (ex q)) A s s.heap ∧ (Cond.fieldLink own ix C n d).before args s = true)
    (hr : ∀ a1 a2 a3 a4 a5 a6, K a1 a2 a3 a4 a5 a6 → a5 ≤ C0 ∧ a6 ≤ S0)
    (kk : ∀ a1 a2 a3 a4 a5 a6, K a1 a2 a3 a4 a5 a6 → xm_W1 p l e R s m args below meth c Q D cl ex A nL n0 ad0 ca0 a1 a2 a3 a4 a5 a6) (h : (∃ (k : Fin 4) (x : Int32) (r : List xm_V) (pn : Nat), Y.1 pc = some (.istore_n k, pn) ∧ st = xv_i x :: r ∧ (k : Nat) < nL ∧ K pn (xm_st1 loc k (xv_i x)) r M nc ns)) : xm_W1 p l e R s m args below meth c Q D cl ex A nL n0 ad0 ca0 pc loc st M nc ns := by
  obtain ⟨hx, hb, hml, hown, hts, hK, hA, ⟨hRc, hRs⟩, hT⟩ := F
  obtain ⟨hdec, hkc, hkl, hfo, hno, hob, hcp⟩ := O
  intro ad ca ls H locs hn hag hl hs hm
  obtain ⟨k, x, r, pn, hi, rfl, hk, h⟩ := h
  obtain ⟨ln, hd, hpn, hln⟩ := hdec pc _ hi
  dsimp only at hd hpn hln
  obtain rfl := xm_ln 0 hln rfl
  subst hpn
  exact lv_istore_n hx hb hd rfl hl.has hk rfl (fun ls' hl' => kk _ _ _ _ _ _ h ad ca ls' H locs hn hag (hl.st1 trivial hl') (xm_hs_cons hs).2 hm)
set_option maxHeartbeats 2000000 in
theorem xm_snd_lstore (F : xm_fx own cc nL Ts ex xt C0 S0 p R s m args c D cl A) (O : xm_yok own cc Ts cl Y) (hini : Y.2.2.2.2.2 0 = 9 → meth.name = "<init>") (hRf : 1 ≤ R.frames) (hRl : 100 ≤ R.locals)
    (hoi : (Cond.instanceMethod objectInit).before args s = true ∧ (Cond.code objectInit ⟨#[0xb1]⟩ 1 none).before args s = true)
    (har : (Cond.arrayClass .int).before args s = true ∧ (Cond.arrayClass .long).before args s = true ∧ (Cond.arrayClass .boolean).before args s = true)
    (hcy : (Cond.native arraycopyName).before args s = true ∧ (Cond.static arraycopyName).before args s = true ∧ (Cond.initialized "java/lang/System").before args s = true)
    (hst : ∀ ix q, Y.2.2.2.2.1 ix = some q → ∃ (C n d : String), va_Z C n d (.ref (ex q)) A s s.heap ∧ (Cond.fieldLink own ix C n d).before args s = true)
    (hr : ∀ a1 a2 a3 a4 a5 a6, K a1 a2 a3 a4 a5 a6 → a5 ≤ C0 ∧ a6 ≤ S0)
    (kk : ∀ a1 a2 a3 a4 a5 a6, K a1 a2 a3 a4 a5 a6 → xm_W1 p l e R s m args below meth c Q D cl ex A nL n0 ad0 ca0 a1 a2 a3 a4 a5 a6) (h : (∃ (k : Nat) (x : Int64) (r : List xm_V) (pn : Nat), Y.1 pc = some (.lstore k, pn) ∧ st = xv_l x :: r ∧ k + 1 < nL ∧ K pn (xm_st2 loc k (xv_l x)) r M nc ns)) : xm_W1 p l e R s m args below meth c Q D cl ex A nL n0 ad0 ca0 pc loc st M nc ns := by
  obtain ⟨hx, hb, hml, hown, hts, hK, hA, ⟨hRc, hRs⟩, hT⟩ := F
  obtain ⟨hdec, hkc, hkl, hfo, hno, hob, hcp⟩ := O
  intro ad ca ls H locs hn hag hl hs hm
  obtain ⟨k, x, r, pn, hi, rfl, hk, h⟩ := h
  obtain ⟨ln, hd, hpn, hln⟩ := hdec pc _ hi
  dsimp only at hd hpn hln
  obtain rfl := xm_ln 1 hln rfl
  subst hpn
  exact lv_lstore hx hb hd hl.has hk rfl (fun ls' hl' => kk _ _ _ _ _ _ h ad ca ls' H locs hn hag (hl.st2 trivial hl') (xm_hs_cons hs).2 hm)
set_option maxHeartbeats 2000000 in
theorem xm_snd_lstore_n (F : xm_fx own cc nL Ts ex xt C0 S0 p R s m args c D cl A) (O : xm_yok own cc Ts cl Y) (hini : Y.2.2.2.2.2 0 = 9 → meth.name = "<init>") (hRf : 1 ≤ R.frames) (hRl : 100 ≤ R.locals)
    (hoi : (Cond.instanceMethod objectInit).before args s = true ∧ (Cond.code objectInit ⟨#[0xb1]⟩ 1 none).before args s = true)
    (har : (Cond.arrayClass .int).before args s = true ∧ (Cond.arrayClass .long).before args s = true ∧ (Cond.arrayClass .boolean).before args s = true)
    (hcy : (Cond.native arraycopyName).before args s = true ∧ (Cond.static arraycopyName).before args s = true ∧ (Cond.initialized "java/lang/System").before args s = true)
    (hst : ∀ ix q, Y.2.2.2.2.1 ix = some q → ∃ (C n d : String), va_Z C n d (.ref (ex q)) A s s.heap ∧ (Cond.fieldLink own ix C n d).before args s = true)
    (hr : ∀ a1 a2 a3 a4 a5 a6, K a1 a2 a3 a4 a5 a6 → a5 ≤ C0 ∧ a6 ≤ S0)
    (kk : ∀ a1 a2 a3 a4 a5 a6, K a1 a2 a3 a4 a5 a6 → xm_W1 p l e R s m args below meth c Q D cl ex A nL n0 ad0 ca0 a1 a2 a3 a4 a5 a6) (h : (∃ (k : Fin 4) (x : Int64) (r : List xm_V) (pn : Nat), Y.1 pc = some (.lstore_n k, pn) ∧ st = xv_l x :: r ∧ (k : Nat) + 1 < nL ∧ K pn (xm_st2 loc k (xv_l x)) r M nc ns)) : xm_W1 p l e R s m args below meth c Q D cl ex A nL n0 ad0 ca0 pc loc st M nc ns := by
  obtain ⟨hx, hb, hml, hown, hts, hK, hA, ⟨hRc, hRs⟩, hT⟩ := F
  obtain ⟨hdec, hkc, hkl, hfo, hno, hob, hcp⟩ := O
  intro ad ca ls H locs hn hag hl hs hm
  obtain ⟨k, x, r, pn, hi, rfl, hk, h⟩ := h
  obtain ⟨ln, hd, hpn, hln⟩ := hdec pc _ hi
  dsimp only at hd hpn hln
  obtain rfl := xm_ln 0 hln rfl
  subst hpn
  exact lv_lstore_n hx hb hd rfl hl.has hk rfl (fun ls' hl' => kk _ _ _ _ _ _ h ad ca ls' H locs hn hag (hl.st2 trivial hl') (xm_hs_cons hs).2 hm)
set_option maxHeartbeats 2000000 in
theorem xm_snd_astore (F : xm_fx own cc nL Ts ex xt C0 S0 p R s m args c D cl A) (O : xm_yok own cc Ts cl Y) (hini : Y.2.2.2.2.2 0 = 9 → meth.name = "<init>") (hRf : 1 ≤ R.frames) (hRl : 100 ≤ R.locals)
    (hoi : (Cond.instanceMethod objectInit).before args s = true ∧ (Cond.code objectInit ⟨#[0xb1]⟩ 1 none).before args s = true)
    (har : (Cond.arrayClass .int).before args s = true ∧ (Cond.arrayClass .long).before args s = true ∧ (Cond.arrayClass .boolean).before args s = true)
    (hcy : (Cond.native arraycopyName).before args s = true ∧ (Cond.static arraycopyName).before args s = true ∧ (Cond.initialized "java/lang/System").before args s = true)
    (hst : ∀ ix q, Y.2.2.2.2.1 ix = some q → ∃ (C n d : String), va_Z C n d (.ref (ex q)) A s s.heap ∧ (Cond.fieldLink own ix C n d).before args s = true)
    (hr : ∀ a1 a2 a3 a4 a5 a6, K a1 a2 a3 a4 a5 a6 → a5 ≤ C0 ∧ a6 ≤ S0)
    (kk : ∀ a1 a2 a3 a4 a5 a6, K a1 a2 a3 a4 a5 a6 → xm_W1 p l e R s m args below meth c Q D cl ex A nL n0 ad0 ca0 a1 a2 a3 a4 a5 a6) (h : (∃ (k : Nat) (x : Nat) (r : List xm_V) (pn : Nat), Y.1 pc = some (.astore k, pn) ∧ st = xv_r x :: r ∧ k < nL ∧ K pn (xm_st1 loc k (xv_r x)) r M nc ns)) : xm_W1 p l e R s m args below meth c Q D cl ex A nL n0 ad0 ca0 pc loc st M nc ns := by
  obtain ⟨hx, hb, hml, hown, hts, hK, hA, ⟨hRc, hRs⟩, hT⟩ := F
  obtain ⟨hdec, hkc, hkl, hfo, hno, hob, hcp⟩ := O
  intro ad ca ls H locs hn hag hl hs hm
  obtain ⟨k, x, r, pn, hi, rfl, hk, h⟩ := h
  obtain ⟨ln, hd, hpn, hln⟩ := hdec pc _ hi
  dsimp only at hd hpn hln
  obtain rfl := xm_ln 1 hln rfl
  subst hpn
  exact lv_astore hx hb hd hl.has hk rfl (fun ls' hl' => kk _ _ _ _ _ _ h ad ca ls' H locs hn hag (hl.st1 (xm_hs_cons hs).1 hl') (xm_hs_cons hs).2 hm)
set_option maxHeartbeats 2000000 in
theorem xm_snd_astore_n (F : xm_fx own cc nL Ts ex xt C0 S0 p R s m args c D cl A) (O : xm_yok own cc Ts cl Y) (hini : Y.2.2.2.2.2 0 = 9 → meth.name = "<init>") (hRf : 1 ≤ R.frames) (hRl : 100 ≤ R.locals)
    (hoi : (Cond.instanceMethod objectInit).before args s = true ∧ (Cond.code objectInit ⟨#[0xb1]⟩ 1 none).before args s = true)
    (har : (Cond.arrayClass .int).before args s = true ∧ (Cond.arrayClass .long).before args s = true ∧ (Cond.arrayClass .boolean).before args s = true)
    (hcy : (Cond.native arraycopyName).before args s = true ∧ (Cond.static arraycopyName).before args s = true ∧ (Cond.initialized "java/lang/System").before args s = true)
    (hst : ∀ ix q, Y.2.2.2.2.1 ix = some q → ∃ (C n d : String), va_Z C n d (.ref (ex q)) A s s.heap ∧ (Cond.fieldLink own ix C n d).before args s = true)
    (hr : ∀ a1 a2 a3 a4 a5 a6, K a1 a2 a3 a4 a5 a6 → a5 ≤ C0 ∧ a6 ≤ S0)
    (kk : ∀ a1 a2 a3 a4 a5 a6, K a1 a2 a3 a4 a5 a6 → xm_W1 p l e R s m args below meth c Q D cl ex A nL n0 ad0 ca0 a1 a2 a3 a4 a5 a6) (h : (∃ (k : Fin 4) (x : Nat) (r : List xm_V) (pn : Nat), Y.1 pc = some (.astore_n k, pn) ∧ st = xv_r x :: r ∧ (k : Nat) < nL ∧ K pn (xm_st1 loc k (xv_r x)) r M nc ns)) : xm_W1 p l e R s m args below meth c Q D cl ex A nL n0 ad0 ca0 pc loc st M nc ns := by
  obtain ⟨hx, hb, hml, hown, hts, hK, hA, ⟨hRc, hRs⟩, hT⟩ := F
  obtain ⟨hdec, hkc, hkl, hfo, hno, hob, hcp⟩ := O
  intro ad ca ls H locs hn hag hl hs hm
  obtain ⟨k, x, r, pn, hi, rfl, hk, h⟩ := h
  obtain ⟨ln, hd, hpn, hln⟩ := hdec pc _ hi
  dsimp only at hd hpn hln
  obtain rfl := xm_ln 0 hln rfl
  subst hpn
  exact lv_astore_n hx hb hd rfl hl.has hk rfl (fun ls' hl' => kk _ _ _ _ _ _ h ad ca ls' H locs hn hag (hl.st1 (xm_hs_cons hs).1 hl') (xm_hs_cons hs).2 hm)
set_option maxHeartbeats 2000000 in
theorem xm_snd_iinc (F : xm_fx own cc nL Ts ex xt C0 S0 p R s m args c D cl A) (O : xm_yok own cc Ts cl Y) (hini : Y.2.2.2.2.2 0 = 9 → meth.name = "<init>") (hRf : 1 ≤ R.frames) (hRl : 100 ≤ R.locals)
    (hoi : (Cond.instanceMethod objectInit).before args s = true ∧ (Cond.code objectInit ⟨#[0xb1]⟩ 1 none).before args s = true)
    (har : (Cond.arrayClass .int).before args s = true ∧ (Cond.arrayClass .long).before args s = true ∧ (Cond.arrayClass .boolean).before args s = true)
    (hcy : (Cond.native arraycopyName).before args s = true ∧ (Cond.static arraycopyName).before args s = true ∧ (Cond.initialized "java/lang/System").before args s = true)
    (hst : ∀ ix q, Y.2.2.2.2.1 ix = some q → ∃ (C n d : String), va_Z C n d (.ref (ex q)) A s s.heap ∧ (Cond.fieldLink own ix C n d).before args s = true)
    (hr : ∀ a1 a2 a3 a4 a5 a6, K a1 a2 a3 a4 a5 a6 → a5 ≤ C0 ∧ a6 ≤ S0)
    (kk : ∀ a1 a2 a3 a4 a5 a6, K a1 a2 a3 a4 a5 a6 → xm_W1 p l e R s m args below meth c Q D cl ex A nL n0 ad0 ca0 a1 a2 a3 a4 a5 a6) (h : (∃ (k : Nat) (n : Int) (x : Int32) (pn : Nat), Y.1 pc = some (.iinc k n, pn) ∧ loc[k]? = some (some (xv_i x)) ∧ k < nL ∧ K pn (xm_st1 loc k (xv_i (x + Int32.ofInt n))) st M nc ns)) : xm_W1 p l e R s m args below meth c Q D cl ex A nL n0 ad0 ca0 pc loc st M nc ns := by
  obtain ⟨hx, hb, hml, hown, hts, hK, hA, ⟨hRc, hRs⟩, hT⟩ := F
  obtain ⟨hdec, hkc, hkl, hfo, hno, hob, hcp⟩ := O
  intro ad ca ls H locs hn hag hl hs hm
  obtain ⟨k, n, x, pn, hi, hv, hk, h⟩ := h
  obtain ⟨ln, hd, hpn, hln⟩ := hdec pc _ hi
  dsimp only at hd hpn hln
  obtain rfl := xm_ln 2 hln rfl
  subst hpn
  obtain ⟨q, hq⟩ := List.mem_iff_getElem?.mp ((xm_fl_mem (ad := ad) (ex := ex)).mpr ⟨_, hv, rfl⟩)
  exact lv_iinc hx hb hd hl.has hq rfl hk rfl (fun ls' hl' => kk _ _ _ _ _ _ h ad ca ls' H locs hn hag (hl.st1 trivial hl') hs hm)
theorem xm_sndB (F : xm_fx own cc nL Ts ex xt C0 S0 p R s m args c D cl A) (O : xm_yok own cc Ts cl Y) (hini : Y.2.2.2.2.2 0 = 9 → meth.name = "<init>") (hRf : 1 ≤ R.frames) (hRl : 100 ≤ R.locals)
    (hoi : (Cond.instanceMethod objectInit).before args s = true ∧ (Cond.code objectInit ⟨#[0xb1]⟩ 1 none).before args s = true)
    (har : (Cond.arrayClass .int).before args s = true ∧ (Cond.arrayClass .long).before args s = true ∧ (Cond.arrayClass .boolean).before args s = true)
    (hcy : (Cond.native arraycopyName).before args s = true ∧ (Cond.static arraycopyName).before args s = true ∧ (Cond.initialized "java/lang/System").before args s = true)
    (hst : ∀ ix q, Y.2.2.2.2.1 ix = some q → ∃ (C n d : String), va_Z C n d (.ref (ex q)) A s s.heap ∧ (Cond.fieldLink own ix C n d).before args s = true)
    (hr : ∀ a1 a2 a3 a4 a5 a6, K a1 a2 a3 a4 a5 a6 → a5 ≤ C0 ∧ a6 ≤ S0)
    (kk : ∀ a1 a2 a3 a4 a5 a6, K a1 a2 a3 a4 a5 a6 → xm_W1 p l e R s m args below meth c Q D cl ex A nL n0 ad0 ca0 a1 a2 a3 a4 a5 a6) (h : xm_sB Y xt nL pc loc st M nc ns K) : xm_W1 p l e R s m args below meth c Q D cl ex A nL n0 ad0 ca0 pc loc st M nc ns := by
  unfold xm_sB at h
  rcases h with h | h | h | h | h | h | h
  · exact xm_snd_istore F O hini hRf hRl hoi har hcy hst hr kk h
  · exact xm_snd_istore_n F O hini hRf hRl hoi har hcy hst hr kk h
  · exact xm_snd_lstore F O hini hRf hRl hoi har hcy hst hr kk h
  · exact xm_snd_lstore_n F O hini hRf hRl hoi har hcy hst hr kk h
  · exact xm_snd_astore F O hini hRf hRl hoi har hcy hst hr kk h
  · exact xm_snd_astore_n F O hini hRf hRl hoi har hcy hst hr kk h
  · exact xm_snd_iinc F O hini hRf hRl hoi har hcy hst hr kk h
theorem xm_exB (h : xm_sB Y xt nL pc loc st M nc ns K) : ∃ a1 a2 a3 a4 a5 a6, K a1 a2 a3 a4 a5 a6 ∧ nc ≤ a5 ∧ ns ≤ a6 := by
  unfold xm_sB at h
  rcases h with h | h | h | h | h | h | h
  · obtain ⟨_, _, _, _, _, _, _, h⟩ := h
    exact ⟨_, _, _, _, _, _, h, Nat.le_refl _, Nat.le_refl _⟩
  · obtain ⟨_, _, _, _, _, _, _, h⟩ := h
    exact ⟨_, _, _, _, _, _, h, Nat.le_refl _, Nat.le_refl _⟩
  · obtain ⟨_, _, _, _, _, _, _, h⟩ := h
    exact ⟨_, _, _, _, _, _, h, Nat.le_refl _, Nat.le_refl _⟩
  · obtain ⟨_, _, _, _, _, _, _, h⟩ := h
    exact ⟨_, _, _, _, _, _, h, Nat.le_refl _, Nat.le_refl _⟩
  · obtain ⟨_, _, _, _, _, _, _, h⟩ := h
    exact ⟨_, _, _, _, _, _, h, Nat.le_refl _, Nat.le_refl _⟩
  · obtain ⟨_, _, _, _, _, _, _, h⟩ := h
    exact ⟨_, _, _, _, _, _, h, Nat.le_refl _, Nat.le_refl _⟩
  · obtain ⟨_, _, _, _, _, _, _, h⟩ := h
    exact ⟨_, _, _, _, _, _, h, Nat.le_refl _, Nat.le_refl _⟩
end XSTEP
end
section
/-! Steps of the group C are true of the machine. -/
section XSTEP
variable {p : Program} {l : Launch} {e : Env} {R : Room} {s : State} {m : MethodId} {args : Array Value} {below : List Frame} {meth : Method} {c : Code} {Q : State → Prop} {D : va_G} {cl : List vw_C} {ex : Nat → Nat} {A : Nat → Prop} {nL n0 : Nat} {ad0 : Nat → Nat} {ca0 : Nat → ClassId}
variable {own : String} {cc : ByteArray} {Ts : List Cond} {xt : Nat → Nat × (Nat → Int32)} {C0 S0 : Nat} {Y : xm_Y} {K : xm_K} {pc : Nat} {loc : xm_L} {st : List xm_V} {M : xm_M} {nc ns : Nat}
set_option maxHeartbeats 2000000 in
theorem xm_snd_iadd (F : xm_fx own cc nL Ts ex xt C0 S0 p R s m args c D cl A) (O : xm_yok own cc Ts cl Y) (hini : Y.2.2.2.2.2 0 = 9 → meth.name = "<init>") (hRf : 1 ≤ R.frames) (hRl : 100 ≤ R.locals)
    (hoi : (Cond.instanceMethod objectInit).before args s = true ∧ (Cond.code objectInit ⟨#[0xb1]⟩ 1 none).before args s = true)
    (har : (Cond.arrayClass .int).before args s = true ∧ (Cond.arrayClass .long).before args s = true ∧ (Cond.arrayClass .boolean).before args s = true)
    (hcy : (Cond.native arraycopyName).before args s = true ∧ (Cond.static arraycopyName).before args s = true ∧ (Cond.initialized "java/lang/System").before args s = true)
    (hst : ∀ ix q, Y.2.2.2.2.1 ix = some q → ∃ (C n d : String), va_Z C n d (.ref (ex q)) A s s.heap ∧ (Cond.fieldLink own ix C n d).before args s = true)
    (hr : ∀ a1 a2 a3 a4 a5 a6, K a1 a2 a3 a4 a5 a6 → a5 ≤ C0 ∧ a6 ≤ S0)
    (kk : ∀ a1 a2 a3 a4 a5 a6, K a1 a2 a3 a4 a5 a6 → xm_W1 p l e R s m args below meth c Q D cl ex A nL n0 ad0 ca0 a1 a2 a3 a4 a5 a6) (h : (∃ (x : Int32) (y : Int32) (r : List xm_V) (pn : Nat), Y.1 pc = some (.iadd, pn) ∧ st = xv_i y :: xv_i x :: r ∧ K pn loc (xv_i (x + y) :: r) M nc ns)) : xm_W1 p l e R s m args below meth c Q D cl ex A nL n0 ad0 ca0 pc loc st M nc ns := by
  obtain ⟨hx, hb, hml, hown, hts, hK, hA, ⟨hRc, hRs⟩, hT⟩ := F
  obtain ⟨hdec, hkc, hkl, hfo, hno, hob, hcp⟩ := O
  intro ad ca ls H locs hn hag hl hs hm
  obtain ⟨x, y, r, pn, hi, rfl, h⟩ := h
  obtain ⟨ln, hd, hpn, hln⟩ := hdec pc _ hi
  dsimp only at hd hpn hln
  obtain rfl := xm_ln 0 hln rfl
  subst hpn
  exact lv_iadd hx hb hd (kk _ _ _ _ _ _ h ad ca ls H locs hn hag hl (xm_hs_push trivial (xm_hs_cons (xm_hs_cons hs).2).2) hm)
set_option maxHeartbeats 2000000 in
theorem xm_snd_isub (F : xm_fx own cc nL Ts ex xt C0 S0 p R s m args c D cl A) (O : xm_yok own cc Ts cl Y) (hini : Y.2.2.2.2.2 0 = 9 → meth.name = "<init>") (hRf : 1 ≤ R.frames) (hRl : 100 ≤ R.locals)
    (hoi : (Cond.instanceMethod objectInit).before args s = true ∧ (Cond.code objectInit ⟨#[0xb1]⟩ 1 none).before args s = true)
    (har : (Cond.arrayClass .int).before args s = true ∧ (Cond.arrayClass .long).before args s = true ∧ (Cond.arrayClass .boolean).before args s = true)
    (hcy : (Cond.native arraycopyName).before args s = true ∧ (Cond.static arraycopyName).before args s = true ∧ (Cond.initialized "java/lang/System").before args s = true)
    (hst : ∀ ix q, Y.2.2.2.2.1 ix = some q → ∃ (C n d : String), va_Z C n d (.ref (ex q)) A s s.heap ∧ (Cond.fieldLink own ix C n d).before args s = true)
    (hr : ∀ a1 a2 a3 a4 a5 a6, K a1 a2 a3 a4 a5 a6 → a5 ≤ C0 ∧ a6 ≤ S0)
    (kk : ∀ a1 a2 a3 a4 a5 a6, K a1 a2 a3 a4 a5 a6 → xm_W1 p l e R s m args below meth c Q D cl ex A nL n0 ad0 ca0 a1 a2 a3 a4 a5 a6) (h : (∃ (x : Int32) (y : Int32) (r : List xm_V) (pn : Nat), Y.1 pc = some (.isub, pn) ∧ st = xv_i y :: xv_i x :: r ∧ K pn loc (xv_i (x - y) :: r) M nc ns)) : xm_W1 p l e R s m args below meth c Q D cl ex A nL n0 ad0 ca0 pc loc st M nc ns := by
  obtain ⟨hx, hb, hml, hown, hts, hK, hA, ⟨hRc, hRs⟩, hT⟩ := F
  obtain ⟨hdec, hkc, hkl, hfo, hno, hob, hcp⟩ := O
  intro ad ca ls H locs hn hag hl hs hm
  obtain ⟨x, y, r, pn, hi, rfl, h⟩ := h
  obtain ⟨ln, hd, hpn, hln⟩ := hdec pc _ hi
  dsimp only at hd hpn hln
  obtain rfl := xm_ln 0 hln rfl
  subst hpn
  exact lv_isub hx hb hd (kk _ _ _ _ _ _ h ad ca ls H locs hn hag hl (xm_hs_push trivial (xm_hs_cons (xm_hs_cons hs).2).2) hm)
set_option maxHeartbeats 2000000 in
theorem xm_snd_imul (F : xm_fx own cc nL Ts ex xt C0 S0 p R s m args c D cl A) (O : xm_yok own cc Ts cl Y) (hini : Y.2.2.2.2.2 0 = 9 → meth.name = "<init>") (hRf : 1 ≤ R.frames) (hRl : 100 ≤ R.locals)
    (hoi : (Cond.instanceMethod objectInit).before args s = true ∧ (Cond.code objectInit ⟨#[0xb1]⟩ 1 none).before args s = true)
    (har : (Cond.arrayClass .int).before args s = true ∧ (Cond.arrayClass .long).before args s = true ∧ (Cond.arrayClass .boolean).before args s = true)
    (hcy : (Cond.native arraycopyName).before args s = true ∧ (Cond.static arraycopyName).before args s = true ∧ (Cond.initialized "java/lang/System").before args s = true)
    (hst : ∀ ix q, Y.2.2.2.2.1 ix = some q → ∃ (C n d : String), va_Z C n d (.ref (ex q)) A s s.heap ∧ (Cond.fieldLink own ix C n d).before args s = true)
    (hr : ∀ a1 a2 a3 a4 a5 a6, K a1 a2 a3 a4 a5 a6 → a5 ≤ C0 ∧ a6 ≤ S0)
    (kk : ∀ a1 a2 a3 a4 a5 a6, K a1 a2 a3 a4 a5 a6 → xm_W1 p l e R s m args below meth c Q D cl ex A nL n0 ad0 ca0 a1 a2 a3 a4 a5 a6) (h : (∃ (x : Int32) (y : Int32) (r : List xm_V) (pn : Nat), Y.1 pc = some (.imul, pn) ∧ st = xv_i y :: xv_i x :: r ∧ K pn loc (xv_i (x * y) :: r) M nc ns)) : xm_W1 p l e R s m args below meth c Q D cl ex A nL n0 ad0 ca0 pc loc st M nc ns := by
  obtain ⟨hx, hb, hml, hown, hts, hK, hA, ⟨hRc, hRs⟩, hT⟩ := F
  obtain ⟨hdec, hkc, hkl, hfo, hno, hob, hcp⟩ := O
  intro ad ca ls H locs hn hag hl hs hm
  obtain ⟨x, y, r, pn, hi, rfl, h⟩ := h
  obtain ⟨ln, hd, hpn, hln⟩ := hdec pc _ hi
  dsimp only at hd hpn hln
  obtain rfl := xm_ln 0 hln rfl
  subst hpn
  exact lv_imul hx hb hd (kk _ _ _ _ _ _ h ad ca ls H locs hn hag hl (xm_hs_push trivial (xm_hs_cons (xm_hs_cons hs).2).2) hm)
set_option maxHeartbeats 2000000 in
theorem xm_snd_iand (F : xm_fx own cc nL Ts ex xt C0 S0 p R s m args c D cl A) (O : xm_yok own cc Ts cl Y) (hini : Y.2.2.2.2.2 0 = 9 → meth.name = "<init>") (hRf : 1 ≤ R.frames) (hRl : 100 ≤ R.locals)
    (hoi : (Cond.instanceMethod objectInit).before args s = true ∧ (Cond.code objectInit ⟨#[0xb1]⟩ 1 none).before args s = true)
    (har : (Cond.arrayClass .int).before args s = true ∧ (Cond.arrayClass .long).before args s = true ∧ (Cond.arrayClass .boolean).before args s = true)
    (hcy : (Cond.native arraycopyName).before args s = true ∧ (Cond.static arraycopyName).before args s = true ∧ (Cond.initialized "java/lang/System").before args s = true)
    (hst : ∀ ix q, Y.2.2.2.2.1 ix = some q → ∃ (C n d : String), va_Z C n d (.ref (ex q)) A s s.heap ∧ (Cond.fieldLink own ix C n d).before args s = true)
    (hr : ∀ a1 a2 a3 a4 a5 a6, K a1 a2 a3 a4 a5 a6 → a5 ≤ C0 ∧ a6 ≤ S0)
    (kk : ∀ a1 a2 a3 a4 a5 a6, K a1 a2 a3 a4 a5 a6 → xm_W1 p l e R s m args below meth c Q D cl ex A nL n0 ad0 ca0 a1 a2 a3 a4 a5 a6) (h : (∃ (x : Int32) (y : Int32) (r : List xm_V) (pn : Nat), Y.1 pc = some (.iand, pn) ∧ st = xv_i y :: xv_i x :: r ∧ K pn loc (xv_i (x &&& y) :: r) M nc ns)) : xm_W1 p l e R s m args below meth c Q D cl ex A nL n0 ad0 ca0 pc loc st M nc ns := by
  obtain ⟨hx, hb, hml, hown, hts, hK, hA, ⟨hRc, hRs⟩, hT⟩ := F
  obtain ⟨hdec, hkc, hkl, hfo, hno, hob, hcp⟩ := O
  intro ad ca ls H locs hn hag hl hs hm
  obtain ⟨x, y, r, pn, hi, rfl, h⟩ := h
  obtain ⟨ln, hd, hpn, hln⟩ := hdec pc _ hi
  dsimp only at hd hpn hln
  obtain rfl := xm_ln 0 hln rfl
  subst hpn
  exact lv_iand hx hb hd (kk _ _ _ _ _ _ h ad ca ls H locs hn hag hl (xm_hs_push trivial (xm_hs_cons (xm_hs_cons hs).2).2) hm)
set_option maxHeartbeats 2000000 in
theorem xm_snd_ior (F : xm_fx own cc nL Ts ex xt C0 S0 p R s m args c D cl A) (O : xm_yok own cc Ts cl Y) (hini : Y.2.2.2.2.2 0 = 9 → meth.name = "<init>") (hRf : 1 ≤ R.frames) (hRl : 100 ≤ R.locals)
    (hoi : (Cond.instanceMethod objectInit).before args s = true ∧ (Cond.code objectInit ⟨#[0xb1]⟩ 1 none).before args s = true)
    (har : (Cond.arrayClass .int).before args s = true ∧ (Cond.arrayClass .long).before args s = true ∧ (Cond.arrayClass .boolean).before args s = true)
    (hcy : (Cond.native arraycopyName).before args s = true ∧ (Cond.static arraycopyName).before args s = true ∧ (Cond.initialized "java/lang/System").before args s = true)
    (hst : ∀ ix q, Y.2.2.2.2.1 ix = some q → ∃ (C n d : String), va_Z C n d (.ref (ex q)) A s s.heap ∧ (Cond.fieldLink own ix C n d).before args s = true)
    (hr : ∀ a1 a2 a3 a4 a5 a6, K a1 a2 a3 a4 a5 a6 → a5 ≤ C0 ∧ a6 ≤ S0)
    (kk : ∀ a1 a2 a3 a4 a5 a6, K a1 a2 a3 a4 a5 a6 → xm_W1 p l e R s m args below meth c Q D cl ex A nL n0 ad0 ca0 a1 a2 a3 a4 a5 a6) (h : (∃ (x : Int32) (y : Int32) (r : List xm_V) (pn : Nat), Y.1 pc = some (.ior, pn) ∧ st = xv_i y :: xv_i x :: r ∧ K pn loc (xv_i (x ||| y) :: r) M nc ns)) : xm_W1 p l e R s m args below meth c Q D cl ex A nL n0 ad0 ca0 pc loc st M nc ns := by
  obtain ⟨hx, hb, hml, hown, hts, hK, hA, ⟨hRc, hRs⟩, hT⟩ := F
  obtain ⟨hdec, hkc, hkl, hfo, hno, hob, hcp⟩ := O
  intro ad ca ls H locs hn hag hl hs hm
  obtain ⟨x, y, r, pn, hi, rfl, h⟩ := h
  obtain ⟨ln, hd, hpn, hln⟩ := hdec pc _ hi
  dsimp only at hd hpn hln
  obtain rfl := xm_ln 0 hln rfl
  subst hpn
  exact lv_ior hx hb hd (kk _ _ _ _ _ _ h ad ca ls H locs hn hag hl (xm_hs_push trivial (xm_hs_cons (xm_hs_cons hs).2).2) hm)
set_option maxHeartbeats 2000000 in
theorem xm_snd_ixor (F : xm_fx own cc nL Ts ex xt C0 S0 p R s m args c D cl A) (O : xm_yok own cc Ts cl Y) (hini : Y.2.2.2.2.2 0 = 9 → meth.name = "<init>") (hRf : 1 ≤ R.frames) (hRl : 100 ≤ R.locals)
    (hoi : (Cond.instanceMethod objectInit).before args s = true ∧ (Cond.code objectInit ⟨#[0xb1]⟩ 1 none).before args s = true)
    (har : (Cond.arrayClass .int).before args s = true ∧ (Cond.arrayClass .long).before args s = true ∧ (Cond.arrayClass .boolean).before args s = true)
    (hcy : (Cond.native arraycopyName).before args s = true ∧ (Cond.static arraycopyName).before args s = true ∧ (Cond.initialized "java/lang/System").before args s = true)
    (hst : ∀ ix q, Y.2.2.2.2.1 ix = some q → ∃ (C n d : String), va_Z C n d (.ref (ex q)) A s s.heap ∧ (Cond.fieldLink own ix C n d).before args s = true)
    (hr : ∀ a1 a2 a3 a4 a5 a6, K a1 a2 a3 a4 a5 a6 → a5 ≤ C0 ∧ a6 ≤ S0)
    (kk : ∀ a1 a2 a3 a4 a5 a6, K a1 a2 a3 a4 a5 a6 → xm_W1 p l e R s m args below meth c Q D cl ex A nL n0 ad0 ca0 a1 a2 a3 a4 a5 a6) (h : (∃ (x : Int32) (y : Int32) (r : List xm_V) (pn : Nat), Y.1 pc = some (.ixor, pn) ∧ st = xv_i y :: xv_i x :: r ∧ K pn loc (xv_i (x ^^^ y) :: r) M nc ns)) : xm_W1 p l e R s m args below meth c Q D cl ex A nL n0 ad0 ca0 pc loc st M nc ns := by
  obtain ⟨hx, hb, hml, hown, hts, hK, hA, ⟨hRc, hRs⟩, hT⟩ := F
  obtain ⟨hdec, hkc, hkl, hfo, hno, hob, hcp⟩ := O
  intro ad ca ls H locs hn hag hl hs hm
  obtain ⟨x, y, r, pn, hi, rfl, h⟩ := h
  obtain ⟨ln, hd, hpn, hln⟩ := hdec pc _ hi
  dsimp only at hd hpn hln
  obtain rfl := xm_ln 0 hln rfl
  subst hpn
  exact lv_ixor hx hb hd (kk _ _ _ _ _ _ h ad ca ls H locs hn hag hl (xm_hs_push trivial (xm_hs_cons (xm_hs_cons hs).2).2) hm)
set_option maxHeartbeats 2000000 in
theorem xm_snd_ishl (F : xm_fx own cc nL Ts ex xt C0 S0 p R s m args c D cl A) (O : xm_yok own cc Ts cl Y) (hini : Y.2.2.2.2.2 0 = 9 → meth.name = "<init>") (hRf : 1 ≤ R.frames) (hRl : 100 ≤ R.locals)
    (hoi : (Cond.instanceMethod objectInit).before args s = true ∧ (Cond.code objectInit ⟨#[0xb1]⟩ 1 none).before args s = true)
    (har : (Cond.arrayClass .int).before args s = true ∧ (Cond.arrayClass .long).before args s = true ∧ (Cond.arrayClass .boolean).before args s = true)
    (hcy : (Cond.native arraycopyName).before args s = true ∧ (Cond.static arraycopyName).before args s = true ∧ (Cond.initialized "java/lang/System").before args s = true)
    (hst : ∀ ix q, Y.2.2.2.2.1 ix = some q → ∃ (C n d : String), va_Z C n d (.ref (ex q)) A s s.heap ∧ (Cond.fieldLink own ix C n d).before args s = true)
    (hr : ∀ a1 a2 a3 a4 a5 a6, K a1 a2 a3 a4 a5 a6 → a5 ≤ C0 ∧ a6 ≤ S0)
    (kk : ∀ a1 a2 a3 a4 a5 a6, K a1 a2 a3 a4 a5 a6 → xm_W1 p l e R s m args below meth c Q D cl ex A nL n0 ad0 ca0 a1 a2 a3 a4 a5 a6) (h : (∃ (x : Int32) (y : Int32) (r : List xm_V) (pn : Nat), Y.1 pc = some (.ishl, pn) ∧ st = xv_i y :: xv_i x :: r ∧ K pn loc (xv_i (x <<< (y &&& 31)) :: r) M nc ns)) : xm_W1 p l e R s m args below meth c Q D cl ex A nL n0 ad0 ca0 pc loc st M nc ns := by
  obtain ⟨hx, hb, hml, hown, hts, hK, hA, ⟨hRc, hRs⟩, hT⟩ := F
  obtain ⟨hdec, hkc, hkl, hfo, hno, hob, hcp⟩ := O
  intro ad ca ls H locs hn hag hl hs hm
  obtain ⟨x, y, r, pn, hi, rfl, h⟩ := h
  obtain ⟨ln, hd, hpn, hln⟩ := hdec pc _ hi
  dsimp only at hd hpn hln
  obtain rfl := xm_ln 0 hln rfl
  subst hpn
  exact lv_ishl hx hb hd (kk _ _ _ _ _ _ h ad ca ls H locs hn hag hl (xm_hs_push trivial (xm_hs_cons (xm_hs_cons hs).2).2) hm)
set_option maxHeartbeats 2000000 in
theorem xm_snd_ishr (F : xm_fx own cc nL Ts ex xt C0 S0 p R s m args c D cl A) (O : xm_yok own cc Ts cl Y) (hini : Y.2.2.2.2.2 0 = 9 → meth.name = "<init>") (hRf : 1 ≤ R.frames) (hRl : 100 ≤ R.locals)
    (hoi : (Cond.instanceMethod objectInit).before args s = true ∧ (Cond.code objectInit ⟨#[0xb1]⟩ 1 none).before args s = true)
    (har : (Cond.arrayClass .int).before args s = true ∧ (Cond.arrayClass .long).before args s = true ∧ (Cond.arrayClass .boolean).before args s = true)
    (hcy : (Cond.native arraycopyName).before args s = true ∧ (Cond.static arraycopyName).before args s = true ∧ (Cond.initialized "java/lang/System").before args s = true)
    (hst : ∀ ix q, Y.2.2.2.2.1 ix = some q → ∃ (C n d : String), va_Z C n d (.ref (ex q)) A s s.heap ∧ (Cond.fieldLink own ix C n d).before args s = true)
    (hr : ∀ a1 a2 a3 a4 a5 a6, K a1 a2 a3 a4 a5 a6 → a5 ≤ C0 ∧ a6 ≤ S0)
    (kk : ∀ a1 a2 a3 a4 a5 a6, K a1 a2 a3 a4 a5 a6 → xm_W1 p l e R s m args below meth c Q D cl ex A nL n0 ad0 ca0 a1 a2 a3 a4 a5 a6) (h : (∃ (x : Int32) (y : Int32) (r : List xm_V) (pn : Nat), Y.1 pc = some (.ishr, pn) ∧ st = xv_i y :: xv_i x :: r ∧ K pn loc (xv_i (x >>> (y &&& 31)) :: r) M nc ns)) : xm_W1 p l e R s m args below meth c Q D cl ex A nL n0 ad0 ca0 pc loc st M nc ns := by
  obtain ⟨hx, hb, hml, hown, hts, hK, hA, ⟨hRc, hRs⟩, hT⟩ := F
  obtain ⟨hdec, hkc, hkl, hfo, hno, hob, hcp⟩ := O
  intro ad ca ls H locs hn hag hl hs hm
  obtain ⟨x, y, r, pn, hi, rfl, h⟩ := h
  obtain ⟨ln, hd, hpn, hln⟩ := hdec pc _ hi
  dsimp only at hd hpn hln
  obtain rfl := xm_ln 0 hln rfl
  subst hpn
  exact lv_ishr hx hb hd (kk _ _ _ _ _ _ h ad ca ls H locs hn hag hl (xm_hs_push trivial (xm_hs_cons (xm_hs_cons hs).2).2) hm)
set_option maxHeartbeats 2000000 in
theorem xm_snd_idiv (F : xm_fx own cc nL Ts ex xt C0 S0 p R s m args c D cl A) (O : xm_yok own cc Ts cl Y) (hini : Y.2.2.2.2.2 0 = 9 → meth.name = "<init>") (hRf : 1 ≤ R.frames) (hRl : 100 ≤ R.locals)
    (hoi : (Cond.instanceMethod objectInit).before args s = true ∧ (Cond.code objectInit ⟨#[0xb1]⟩ 1 none).before args s = true)
    (har : (Cond.arrayClass .int).before args s = true ∧ (Cond.arrayClass .long).before args s = true ∧ (Cond.arrayClass .boolean).before args s = true)
    (hcy : (Cond.native arraycopyName).before args s = true ∧ (Cond.static arraycopyName).before args s = true ∧ (Cond.initialized "java/lang/System").before args s = true)
    (hst : ∀ ix q, Y.2.2.2.2.1 ix = some q → ∃ (C n d : String), va_Z C n d (.ref (ex q)) A s s.heap ∧ (Cond.fieldLink own ix C n d).before args s = true)
    (hr : ∀ a1 a2 a3 a4 a5 a6, K a1 a2 a3 a4 a5 a6 → a5 ≤ C0 ∧ a6 ≤ S0)
    (kk : ∀ a1 a2 a3 a4 a5 a6, K a1 a2 a3 a4 a5 a6 → xm_W1 p l e R s m args below meth c Q D cl ex A nL n0 ad0 ca0 a1 a2 a3 a4 a5 a6) (h : (∃ (x : Int32) (y : Int32) (r : List xm_V) (pn : Nat), Y.1 pc = some (.idiv, pn) ∧ st = xv_i y :: xv_i x :: r ∧ ¬ y = 0 ∧ K pn loc (xv_i (x / y) :: r) M nc ns)) : xm_W1 p l e R s m args below meth c Q D cl ex A nL n0 ad0 ca0 pc loc st M nc ns := by
  obtain ⟨hx, hb, hml, hown, hts, hK, hA, ⟨hRc, hRs⟩, hT⟩ := F
  obtain ⟨hdec, hkc, hkl, hfo, hno, hob, hcp⟩ := O
  intro ad ca ls H locs hn hag hl hs hm
  obtain ⟨x, y, r, pn, hi, rfl, h0, h⟩ := h
  obtain ⟨ln, hd, hpn, hln⟩ := hdec pc _ hi
  dsimp only at hd hpn hln
  obtain rfl := xm_ln 0 hln rfl
  subst hpn
  exact lv_idiv hx hb hd h0 (kk _ _ _ _ _ _ h ad ca ls H locs hn hag hl (xm_hs_push trivial (xm_hs_cons (xm_hs_cons hs).2).2) hm)
set_option maxHeartbeats 2000000 in
theorem xm_snd_ladd (F : xm_fx own cc nL Ts ex xt C0 S0 p R s m args c D cl A) (O : xm_yok own cc Ts cl Y) (hini : Y.2.2.2.2.2 0 = 9 → meth.name = "<init>") (hRf : 1 ≤ R.frames) (hRl : 100 ≤ R.locals)
    (hoi : (Cond.instanceMethod objectInit).before args s = true ∧ (Cond.code objectInit ⟨#[0xb1]⟩ 1 none).before args s = true)
    (har : (Cond.arrayClass .int).before args s = true ∧ (Cond.arrayClass .long).before args s = true ∧ (Cond.arrayClass .boolean).before args s = true)
    (hcy : (Cond.native arraycopyName).before args s = true ∧ (Cond.static arraycopyName).before args s = true ∧ (Cond.initialized "java/lang/System").before args s = true)
    (hst : ∀ ix q, Y.2.2.2.2.1 ix = some q → ∃ (C n d : String), va_Z C n d (.ref (ex q)) A s s.heap ∧ (Cond.fieldLink own ix C n d).before args s = true)
    (hr : ∀ a1 a2 a3 a4 a5 a6, K a1 a2 a3 a4 a5 a6 → a5 ≤ C0 ∧ a6 ≤ S0)
    (kk : ∀ a1 a2 a3 a4 a5 a6, K a1 a2 a3 a4 a5 a6 → xm_W1 p l e R s m args below meth c Q D cl ex A nL n0 ad0 ca0 a1 a2 a3 a4 a5 a6) (h : (∃ (x : Int64) (y : Int64) (r : List xm_V) (pn : Nat), Y.1 pc = some (.ladd, pn) ∧ st = xv_l y :: xv_l x :: r ∧ K pn loc (xv_l (x + y) :: r) M nc ns)) : xm_W1 p l e R s m args below meth c Q D cl ex A nL n0 ad0 ca0 pc loc st M nc ns := by
  obtain ⟨hx, hb, hml, hown, hts, hK, hA, ⟨hRc, hRs⟩, hT⟩ := F
  obtain ⟨hdec, hkc, hkl, hfo, hno, hob, hcp⟩ := O
  intro ad ca ls H locs hn hag hl hs hm
  obtain ⟨x, y, r, pn, hi, rfl, h⟩ := h
  obtain ⟨ln, hd, hpn, hln⟩ := hdec pc _ hi
  dsimp only at hd hpn hln
  obtain rfl := xm_ln 0 hln rfl
  subst hpn
  exact lv_ladd hx hb hd (kk _ _ _ _ _ _ h ad ca ls H locs hn hag hl (xm_hs_push trivial (xm_hs_cons (xm_hs_cons hs).2).2) hm)
set_option maxHeartbeats 2000000 in
theorem xm_snd_lsub (F : xm_fx own cc nL Ts ex xt C0 S0 p R s m args c D cl A) (O : xm_yok own cc Ts cl Y) (hini : Y.2.2.2.2.2 0 = 9 → meth.name = "<init>") (hRf : 1 ≤ R.frames) (hRl : 100 ≤ R.locals)
    (hoi : (Cond.instanceMethod objectInit).before args s = true ∧ (Cond.code objectInit ⟨#[0xb1]⟩ 1 none).before args s = true)
    (har : (Cond.arrayClass .int).before args s = true ∧ (Cond.arrayClass .long).before args s = true ∧ (Cond.arrayClass .boolean).before args s = true)
    (hcy : (Cond.native arraycopyName).before args s = true ∧ (Cond.static arraycopyName).before args s = true ∧ (Cond.initialized "java/lang/System").before args s = true)
    (hst : ∀ ix q, Y.2.2.2.2.1 ix = some q → ∃ (C n d : String), va_Z C n d (.ref (ex q)) A s s.heap ∧ (Cond.fieldLink own ix C n d).before args s = true)
    (hr : ∀ a1 a2 a3 a4 a5 a6, K a1 a2 a3 a4 a5 a6 → a5 ≤ C0 ∧ a6 ≤ S0)
    (kk : ∀ a1 a2 a3 a4 a5 a6, K a1 a2 a3 a4 a5 a6 → xm_W1 p l e R s m args below meth c Q D cl ex A nL n0 ad0 ca0 a1 a2 a3 a4 a5 a6) (h : (∃ (x : Int64) (y : Int64) (r : List xm_V) (pn : Nat), Y.1 pc = some (.lsub, pn) ∧ st = xv_l y :: xv_l x :: r ∧ K pn loc (xv_l (x - y) :: r) M nc ns)) : xm_W1 p l e R s m args below meth c Q D cl ex A nL n0 ad0 ca0 pc loc st M nc ns := by
  obtain ⟨hx, hb, hml, hown, hts, hK, hA, ⟨hRc, hRs⟩, hT⟩ := F
  obtain ⟨hdec, hkc, hkl, hfo, hno, hob, hcp⟩ := O
  intro ad ca ls H locs hn hag hl hs hm
  obtain ⟨x, y, r, pn, hi, rfl, h⟩ := h
  obtain ⟨ln, hd, hpn, hln⟩ := hdec pc _ hi
  dsimp only at hd hpn hln
  obtain rfl := xm_ln 0 hln rfl
  subst hpn
  exact lv_lsub hx hb hd (kk _ _ _ _ _ _ h ad ca ls H locs hn hag hl (xm_hs_push trivial (xm_hs_cons (xm_hs_cons hs).2).2) hm)
set_option maxHeartbeats 2000000 in
theorem xm_snd_land (F : xm_fx own cc nL Ts ex xt C0 S0 p R s m args c D cl A) (O : xm_yok own cc Ts cl Y) (hini : Y.2.2.2.2.2 0 = 9 → meth.name = "<init>") (hRf : 1 ≤ R.frames) (hRl : 100 ≤ R.locals)
    (hoi : (Cond.instanceMethod objectInit).before args s = true ∧ (Cond.code objectInit ⟨#[0xb1]⟩ 1 none).before args s = true)
    (har : (Cond.arrayClass .int).before args s = true ∧ (Cond.arrayClass .long).before args s = true ∧ (Cond.arrayClass .boolean).before args s = true)
    (hcy : (Cond.native arraycopyName).before args s = true ∧ (Cond.static arraycopyName).before args s = true ∧ (Cond.initialized "java/lang/System").before args s = true)
    (hst : ∀ ix q, Y.2.2.2.2.1 ix = some q → ∃ (C n d : String), va_Z C n d (.ref (ex q)) A s s.heap ∧ (Cond.fieldLink own ix C n d).before args s = true)
    (hr : ∀ a1 a2 a3 a4 a5 a6, K a1 a2 a3 a4 a5 a6 → a5 ≤ C0 ∧ a6 ≤ S0)
    (kk : ∀ a1 a2 a3 a4 a5 a6, K a1 a2 a3 a4 a5 a6 → xm_W1 p l e R s m args below meth c Q D cl ex A nL n0 ad0 ca0 a1 a2 a3 a4 a5 a6) (h : (∃ (x : Int64) (y : Int64) (r : List xm_V) (pn : Nat), Y.1 pc = some (.land, pn) ∧ st = xv_l y :: xv_l x :: r ∧ K pn loc (xv_l (x &&& y) :: r) M nc ns)) : xm_W1 p l e R s m args below meth c Q D cl ex A nL n0 ad0 ca0 pc loc st M nc ns := by
  obtain ⟨hx, hb, hml, hown, hts, hK, hA, ⟨hRc, hRs⟩, hT⟩ := F
  obtain ⟨hdec, hkc, hkl, hfo, hno, hob, hcp⟩ := O
  intro ad ca ls H locs hn hag hl hs hm
  obtain ⟨x, y, r, pn, hi, rfl, h⟩ := h
  obtain ⟨ln, hd, hpn, hln⟩ := hdec pc _ hi
  dsimp only at hd hpn hln
  obtain rfl := xm_ln 0 hln rfl
  subst hpn
  exact lv_land hx hb hd (kk _ _ _ _ _ _ h ad ca ls H locs hn hag hl (xm_hs_push trivial (xm_hs_cons (xm_hs_cons hs).2).2) hm)
set_option maxHeartbeats 2000000 in
theorem xm_snd_lor (F : xm_fx own cc nL Ts ex xt C0 S0 p R s m args c D cl A) (O : xm_yok own cc Ts cl Y) (hini : Y.2.2.2.2.2 0 = 9 → meth.name = "<init>") (hRf : 1 ≤ R.frames) (hRl : 100 ≤ R.locals)
    (hoi : (Cond.instanceMethod objectInit).before args s = true ∧ (Cond.code objectInit ⟨#[0xb1]⟩ 1 none).before args s = true)
    (har : (Cond.arrayClass .int).before args s = true ∧ (Cond.arrayClass .long).before args s = true ∧ (Cond.arrayClass .boolean).before args s = true)
    (hcy : (Cond.native arraycopyName).before args s = true ∧ (Cond.static arraycopyName).before args s = true ∧ (Cond.initialized "java/lang/System").before args s = true)
    (hst : ∀ ix q, Y.2.2.2.2.1 ix = some q → ∃ (C n d : String), va_Z C n d (.ref (ex q)) A s s.heap ∧ (Cond.fieldLink own ix C n d).before args s = true)
    (hr : ∀ a1 a2 a3 a4 a5 a6, K a1 a2 a3 a4 a5 a6 → a5 ≤ C0 ∧ a6 ≤ S0)
    (kk : ∀ a1 a2 a3 a4 a5 a6, K a1 a2 a3 a4 a5 a6 → xm_W1 p l e R s m args below meth c Q D cl ex A nL n0 ad0 ca0 a1 a2 a3 a4 a5 a6) (h : (∃ (x : Int64) (y : Int64) (r : List xm_V) (pn : Nat), Y.1 pc = some (.lor, pn) ∧ st = xv_l y :: xv_l x :: r ∧ K pn loc (xv_l (x ||| y) :: r) M nc ns)) : xm_W1 p l e R s m args below meth c Q D cl ex A nL n0 ad0 ca0 pc loc st M nc ns := by
  obtain ⟨hx, hb, hml, hown, hts, hK, hA, ⟨hRc, hRs⟩, hT⟩ := F
  obtain ⟨hdec, hkc, hkl, hfo, hno, hob, hcp⟩ := O
  intro ad ca ls H locs hn hag hl hs hm
  obtain ⟨x, y, r, pn, hi, rfl, h⟩ := h
  obtain ⟨ln, hd, hpn, hln⟩ := hdec pc _ hi
  dsimp only at hd hpn hln
  obtain rfl := xm_ln 0 hln rfl
  subst hpn
  exact lv_lor hx hb hd (kk _ _ _ _ _ _ h ad ca ls H locs hn hag hl (xm_hs_push trivial (xm_hs_cons (xm_hs_cons hs).2).2) hm)
set_option maxHeartbeats 2000000 in
theorem xm_snd_lcmp (F : xm_fx own cc nL Ts ex xt C0 S0 p R s m args c D cl A) (O : xm_yok own cc Ts cl Y) (hini : Y.2.2.2.2.2 0 = 9 → meth.name = "<init>") (hRf : 1 ≤ R.frames) (hRl : 100 ≤ R.locals)
    (hoi : (Cond.instanceMethod objectInit).before args s = true ∧ (Cond.code objectInit ⟨#[0xb1]⟩ 1 none).before args s = true)
    (har : (Cond.arrayClass .int).before args s = true ∧ (Cond.arrayClass .long).before args s = true ∧ (Cond.arrayClass .boolean).before args s = true)
    (hcy : (Cond.native arraycopyName).before args s = true ∧ (Cond.static arraycopyName).before args s = true ∧ (Cond.initialized "java/lang/System").before args s = true)
    (hst : ∀ ix q, Y.2.2.2.2.1 ix = some q → ∃ (C n d : String), va_Z C n d (.ref (ex q)) A s s.heap ∧ (Cond.fieldLink own ix C n d).before args s = true)
    (hr : ∀ a1 a2 a3 a4 a5 a6, K a1 a2 a3 a4 a5 a6 → a5 ≤ C0 ∧ a6 ≤ S0)
    (kk : ∀ a1 a2 a3 a4 a5 a6, K a1 a2 a3 a4 a5 a6 → xm_W1 p l e R s m args below meth c Q D cl ex A nL n0 ad0 ca0 a1 a2 a3 a4 a5 a6) (h : (∃ (x : Int64) (y : Int64) (r : List xm_V) (pn : Nat), Y.1 pc = some (.lcmp, pn) ∧ st = xv_l y :: xv_l x :: r ∧ K pn loc (xv_i (lg_cmp x y) :: r) M nc ns)) : xm_W1 p l e R s m args below meth c Q D cl ex A nL n0 ad0 ca0 pc loc st M nc ns := by
  obtain ⟨hx, hb, hml, hown, hts, hK, hA, ⟨hRc, hRs⟩, hT⟩ := F
  obtain ⟨hdec, hkc, hkl, hfo, hno, hob, hcp⟩ := O
  intro ad ca ls H locs hn hag hl hs hm
  obtain ⟨x, y, r, pn, hi, rfl, h⟩ := h
  obtain ⟨ln, hd, hpn, hln⟩ := hdec pc _ hi
  dsimp only at hd hpn hln
  obtain rfl := xm_ln 0 hln rfl
  subst hpn
  exact W.lcmp hx hb hd (kk _ _ _ _ _ _ h ad ca ls H locs hn hag hl (xm_hs_push trivial (xm_hs_cons (xm_hs_cons hs).2).2) hm)
set_option maxHeartbeats 2000000 in
theorem xm_snd_lshl (F : xm_fx own cc nL Ts ex xt C0 S0 p R s m args c D cl A) (O : xm_yok own cc Ts cl Y) (hini : Y.2.2.2.2.2 0 = 9 → meth.name = "<init>") (hRf : 1 ≤ R.frames) (hRl : 100 ≤ R.locals)
    (hoi : (Cond.instanceMethod objectInit).before args s = true ∧ (Cond.code objectInit ⟨#[0xb1]⟩ 1 none).before args s = true)
    (har : (Cond.arrayClass .int).before args s = true ∧ (Cond.arrayClass .long).before args s = true ∧ (Cond.arrayClass .boolean).before args s = true)
    (hcy : (Cond.native arraycopyName).before args s = true ∧ (Cond.static arraycopyName).before args s = true ∧ (Cond.initialized "java/lang/System").before args s = true)
    (hst : ∀ ix q, Y.2.2.2.2.1 ix = some q → ∃ (C n d : String), va_Z C n d (.ref (ex q)) A s s.heap ∧ (Cond.fieldLink own ix C n d).before args s = true)
    (hr : ∀ a1 a2 a3 a4 a5 a6, K a1 a2 a3 a4 a5 a6 → a5 ≤ C0 ∧ a6 ≤ S0)
    (kk : ∀ a1 a2 a3 a4 a5 a6, K a1 a2 a3 a4 a5 a6 → xm_W1 p l e R s m args below meth c Q D cl ex A nL n0 ad0 ca0 a1 a2 a3 a4 a5 a6) (h : (∃ (x : Int64) (y : Int32) (r : List xm_V) (pn : Nat), Y.1 pc = some (.lshl, pn) ∧ st = xv_i y :: xv_l x :: r ∧ K pn loc (xv_l (x <<< (y.toInt64 &&& 63)) :: r) M nc ns)) : xm_W1 p l e R s m args below meth c Q D cl ex A nL n0 ad0 ca0 pc loc st M nc ns := by
  obtain ⟨hx, hb, hml, hown, hts, hK, hA, ⟨hRc, hRs⟩, hT⟩ := F
  obtain ⟨hdec, hkc, hkl, hfo, hno, hob, hcp⟩ := O
  intro ad ca ls H locs hn hag hl hs hm
  obtain ⟨x, y, r, pn, hi, rfl, h⟩ := h
  obtain ⟨ln, hd, hpn, hln⟩ := hdec pc _ hi
  dsimp only at hd hpn hln
  obtain rfl := xm_ln 0 hln rfl
  subst hpn
  exact lv_lshl hx hb hd rfl (kk _ _ _ _ _ _ h ad ca ls H locs hn hag hl (xm_hs_push trivial (xm_hs_cons (xm_hs_cons hs).2).2) hm)
set_option maxHeartbeats 2000000 in
theorem xm_snd_lshr (F : xm_fx own cc nL Ts ex xt C0 S0 p R s m args c D cl A) (O : xm_yok own cc Ts cl Y) (hini : Y.2.2.2.2.2 0 = 9 → meth.name = "<init>") (hRf : 1 ≤ R.frames) (hRl : 100 ≤ R.locals)
    (hoi : (Cond.instanceMethod objectInit).before args s = true ∧ (Cond.code objectInit ⟨#[0xb1]⟩ 1 none).before args s = true)
    (har : (Cond.arrayClass .int).before args s = true ∧ (Cond.arrayClass .long).before args s = true ∧ (Cond.arrayClass .boolean).before args s = true)
    (hcy : (Cond.native arraycopyName).before args s = true ∧ (Cond.static arraycopyName).before args s = true ∧ (Cond.initialized "java/lang/System").before args s = true)
    (hst : ∀ ix q, Y.2.2.2.2.1 ix = some q → ∃ (C n d : String), va_Z C n d (.ref (ex q)) A s s.heap ∧ (Cond.fieldLink own ix C n d).before args s = true)
    (hr : ∀ a1 a2 a3 a4 a5 a6, K a1 a2 a3 a4 a5 a6 → a5 ≤ C0 ∧ a6 ≤ S0)
    (kk : ∀ a1 a2 a3 a4 a5 a6, K a1 a2 a3 a4 a5 a6 → xm_W1 p l e R s m args below meth c Q D cl ex A nL n0 ad0 ca0 a1 a2 a3 a4 a5 a6) (h : (∃ (x : Int64) (y : Int32) (r : List xm_V) (pn : Nat), Y.1 pc = some (.lshr, pn) ∧ st = xv_i y :: xv_l x :: r ∧ K pn loc (xv_l (x >>> (y.toInt64 &&& 63)) :: r) M nc ns)) : xm_W1 p l e R s m args below meth c Q D cl ex A nL n0 ad0 ca0 pc loc st M nc ns := by
  obtain ⟨hx, hb, hml, hown, hts, hK, hA, ⟨hRc, hRs⟩, hT⟩ := F
  obtain ⟨hdec, hkc, hkl, hfo, hno, hob, hcp⟩ := O
  intro ad ca ls H locs hn hag hl hs hm
  obtain ⟨x, y, r, pn, hi, rfl, h⟩ := h
  obtain ⟨ln, hd, hpn, hln⟩ := hdec pc _ hi
  dsimp only at hd hpn hln
  obtain rfl := xm_ln 0 hln rfl
  subst hpn
  exact lv_lshr hx hb hd rfl (kk _ _ _ _ _ _ h ad ca ls H locs hn hag hl (xm_hs_push trivial (xm_hs_cons (xm_hs_cons hs).2).2) hm)
set_option maxHeartbeats 2000000 in
theorem xm_snd_i2l (F : xm_fx own cc nL Ts ex xt C0 S0 p R s m args c D cl A) (O : xm_yok own cc Ts cl Y) (hini : Y.2.2.2.2.2 0 = 9 → meth.name = "<init>") (hRf : 1 ≤ R.frames) (hRl : 100 ≤ R.locals)
    (hoi : (Cond.instanceMethod objectInit).before args s = true ∧ (Cond.code objectInit ⟨#[0xb1]⟩ 1 none).before args s = true)
    (har : (Cond.arrayClass .int).before args s = true ∧ (Cond.arrayClass .long).before args s = true ∧ (Cond.arrayClass .boolean).before args s = true)
    (hcy : (Cond.native arraycopyName).before args s = true ∧ (Cond.static arraycopyName).before args s = true ∧ (Cond.initialized "java/lang/System").before args s = true)
    (hst : ∀ ix q, Y.2.2.2.2.1 ix = some q → ∃ (C n d : String), va_Z C n d (.ref (ex q)) A s s.heap ∧ (Cond.fieldLink own ix C n d).before args s = true)
    (hr : ∀ a1 a2 a3 a4 a5 a6, K a1 a2 a3 a4 a5 a6 → a5 ≤ C0 ∧ a6 ≤ S0)
    (kk : ∀ a1 a2 a3 a4 a5 a6, K a1 a2 a3 a4 a5 a6 → xm_W1 p l e R s m args below meth c Q D cl ex A nL n0 ad0 ca0 a1 a2 a3 a4 a5 a6) (h : (∃ (x : Int32) (r : List xm_V) (pn : Nat), Y.1 pc = some (.i2l, pn) ∧ st = xv_i x :: r ∧ K pn loc (xv_l x.toInt64 :: r) M nc ns)) : xm_W1 p l e R s m args below meth c Q D cl ex A nL n0 ad0 ca0 pc loc st M nc ns := by
  obtain ⟨hx, hb, hml, hown, hts, hK, hA, ⟨hRc, hRs⟩, hT⟩ := F
  obtain ⟨hdec, hkc, hkl, hfo, hno, hob, hcp⟩ := O
  intro ad ca ls H locs hn hag hl hs hm
  obtain ⟨x, r, pn, hi, rfl, h⟩ := h
  obtain ⟨ln, hd, hpn, hln⟩ := hdec pc _ hi
  dsimp only at hd hpn hln
  obtain rfl := xm_ln 0 hln rfl
  subst hpn
  exact lv_i2l hx hb hd rfl (kk _ _ _ _ _ _ h ad ca ls H locs hn hag hl (xm_hs_push trivial (xm_hs_cons hs).2) hm)
set_option maxHeartbeats 2000000 in
theorem xm_snd_l2i (F : xm_fx own cc nL Ts ex xt C0 S0 p R s m args c D cl A) (O : xm_yok own cc Ts cl Y) (hini : Y.2.2.2.2.2 0 = 9 → meth.name = "<init>") (hRf : 1 ≤ R.frames) (hRl : 100 ≤ R.locals)
    (hoi : (Cond.instanceMethod objectInit).before args s = true ∧ (Cond.code objectInit ⟨#[0xb1]⟩ 1 none).before args s = true)
    (har : (Cond.arrayClass .int).before args s = true ∧ (Cond.arrayClass .long).before args s = true ∧ (Cond.arrayClass .boolean).before args s = true)
    (hcy : (Cond.native arraycopyName).before args s = true ∧ (Cond.static arraycopyName).before args s = true ∧ (Cond.initialized "java/lang/System").before args s = true)
    (hst : ∀ ix q, Y.2.2.2.2.1 ix = some q → ∃ (C n d : String), va_Z C n d (.ref (ex q)) A s s.heap ∧ (Cond.fieldLink own ix C n d).before args s = true)
    (hr : ∀ a1 a2 a3 a4 a5 a6, K a1 a2 a3 a4 a5 a6 → a5 ≤ C0 ∧ a6 ≤ S0)
    (kk : ∀ a1 a2 a3 a4 a5 a6, K a1 a2 a3 a4 a5 a6 → xm_W1 p l e R s m args below meth c Q D cl ex A nL n0 ad0 ca0 a1 a2 a3 a4 a5 a6) (h : (∃ (x : Int64) (r : List xm_V) (pn : Nat), Y.1 pc = some (.l2i, pn) ∧ st = xv_l x :: r ∧ K pn loc (xv_i x.toInt32 :: r) M nc ns)) : xm_W1 p l e R s m args below meth c Q D cl ex A nL n0 ad0 ca0 pc loc st M nc ns := by
  obtain ⟨hx, hb, hml, hown, hts, hK, hA, ⟨hRc, hRs⟩, hT⟩ := F
  obtain ⟨hdec, hkc, hkl, hfo, hno, hob, hcp⟩ := O
  intro ad ca ls H locs hn hag hl hs hm
  obtain ⟨x, r, pn, hi, rfl, h⟩ := h
  obtain ⟨ln, hd, hpn, hln⟩ := hdec pc _ hi
  dsimp only at hd hpn hln
  obtain rfl := xm_ln 0 hln rfl
  subst hpn
  exact lv_l2i hx hb hd rfl (kk _ _ _ _ _ _ h ad ca ls H locs hn hag hl (xm_hs_push trivial (xm_hs_cons hs).2) hm)
theorem xm_sndC (F : xm_fx own cc nL Ts ex xt C0 S0 p R s m args c D cl A) (O : xm_yok own cc Ts cl Y) (hini : Y.2.2.2.2.2 0 = 9 → meth.name = "<init>") (hRf : 1 ≤ R.frames) (hRl : 100 ≤ R.locals)
    (hoi : (Cond.instanceMethod objectInit).before args s = true ∧ (Cond.code objectInit ⟨#[0xb1]⟩ 1 none).before args s = true)
    (har : (Cond.arrayClass .int).before args s = true ∧ (Cond.arrayClass .long).before args s = true ∧ (Cond.arrayClass .boolean).before args s = true)
    (hcy : (Cond.native arraycopyName).before args s = true ∧ (Cond.static arraycopyName).before args s = true ∧ (Cond.initialized "java/lang/System").before args s = true)
    (hst : ∀ ix q, Y.2.2.2.2.1 ix = some q → ∃ (C n d : String), va_Z C n d (.ref (ex q)) A s s.heap ∧ (Cond.fieldLink own ix C n d).before args s = true)
    (hr : ∀ a1 a2 a3 a4 a5 a6, K a1 a2 a3 a4 a5 a6 → a5 ≤ C0 ∧ a6 ≤ S0)
    (kk : ∀ a1 a2 a3 a4 a5 a6, K a1 a2 a3 a4 a5 a6 → xm_W1 p l e R s m args below meth c Q D cl ex A nL n0 ad0 ca0 a1 a2 a3 a4 a5 a6) (h : xm_sC Y xt nL pc loc st M nc ns K) : xm_W1 p l e R s m args below meth c Q D cl ex A nL n0 ad0 ca0 pc loc st M nc ns := by
  unfold xm_sC at h
  rcases h with h | h | h | h | h | h | h | h | h | h | h | h | h | h | h | h | h | h
  · exact xm_snd_iadd F O hini hRf hRl hoi har hcy hst hr kk h
  · exact xm_snd_isub F O hini hRf hRl hoi har hcy hst hr kk h
  · exact xm_snd_imul F O hini hRf hRl hoi har hcy hst hr kk h
  · exact xm_snd_iand F O hini hRf hRl hoi har hcy hst hr kk h
  · exact xm_snd_ior F O hini hRf hRl hoi har hcy hst hr kk h
  · exact xm_snd_ixor F O hini hRf hRl hoi har hcy hst hr kk h
  · exact xm_snd_ishl F O hini hRf hRl hoi har hcy hst hr kk h
  · exact xm_snd_ishr F O hini hRf hRl hoi har hcy hst hr kk h
  · exact xm_snd_idiv F O hini hRf hRl hoi har hcy hst hr kk h
  · exact xm_snd_ladd F O hini hRf hRl hoi har hcy hst hr kk h
  · exact xm_snd_lsub F O hini hRf hRl hoi har hcy hst hr kk h
  · exact xm_snd_land F O hini hRf hRl hoi har hcy hst hr kk h
  · exact xm_snd_lor F O hini hRf hRl hoi har hcy hst hr kk h
  · exact xm_snd_lcmp F O hini hRf hRl hoi har hcy hst hr kk h
  · exact xm_snd_lshl F O hini hRf hRl hoi har hcy hst hr kk h
  · exact xm_snd_lshr F O hini hRf hRl hoi har hcy hst hr kk h
  · exact xm_snd_i2l F O hini hRf hRl hoi har hcy hst hr kk h
  · exact xm_snd_l2i F O hini hRf hRl hoi har hcy hst hr kk h
theorem xm_exC (h : xm_sC Y xt nL pc loc st M nc ns K) : ∃ a1 a2 a3 a4 a5 a6, K a1 a2 a3 a4 a5 a6 ∧ nc ≤ a5 ∧ ns ≤ a6 := by
  unfold xm_sC at h
  rcases h with h | h | h | h | h | h | h | h | h | h | h | h | h | h | h | h | h | h
  · obtain ⟨_, _, _, _, _, _, h⟩ := h
    exact ⟨_, _, _, _, _, _, h, Nat.le_refl _, Nat.le_refl _⟩
  · obtain ⟨_, _, _, _, _, _, h⟩ := h
    exact ⟨_, _, _, _, _, _, h, Nat.le_refl _, Nat.le_refl _⟩
  · obtain ⟨_, _, _, _, _, _, h⟩ := h
    exact ⟨_, _, _, _, _, _, h, Nat.le_refl _, Nat.le_refl _⟩
  · obtain ⟨_, _, _, _, _, _, h⟩ := h
    exact ⟨_, _, _, _, _, _, h, Nat.le_refl _, Nat.le_refl _⟩
  · obtain ⟨_, _, _, _, _, _, h⟩ := h
    exact ⟨_, _, _, _, _, _, h, Nat.le_refl _, Nat.le_refl _⟩
  · obtain ⟨_, _, _, _, _, _, h⟩ := h
    exact ⟨_, _, _, _, _, _, h, Nat.le_refl _, Nat.le_refl _⟩
  · obtain ⟨_, _, _, _, _, _, h⟩ := h
    exact ⟨_, _, _, _, _, _, h, Nat.le_refl _, Nat.le_refl _⟩
  · obtain ⟨_, _, _, _, _, _, h⟩ := h
    exact ⟨_, _, _, _, _, _, h, Nat.le_refl _, Nat.le_refl _⟩
  · obtain ⟨_, _, _, _, _, _, _, h⟩ := h
    exact ⟨_, _, _, _, _, _, h, Nat.le_refl _, Nat.le_refl _⟩
  · obtain ⟨_, _, _, _, _, _, h⟩ := h
    exact ⟨_, _, _, _, _, _, h, Nat.le_refl _, Nat.le_refl _⟩
  · obtain ⟨_, _, _, _, _, _, h⟩ := h
    exact ⟨_, _, _, _, _, _, h, Nat.le_refl _, Nat.le_refl _⟩
  · obtain ⟨_, _, _, _, _, _, h⟩ := h
    exact ⟨_, _, _, _, _, _, h, Nat.le_refl _, Nat.le_refl _⟩
  · obtain ⟨_, _, _, _, _, _, h⟩ := h
    exact ⟨_, _, _, _, _, _, h, Nat.le_refl _, Nat.le_refl _⟩
  · obtain ⟨_, _, _, _, _, _, h⟩ := h
    exact ⟨_, _, _, _, _, _, h, Nat.le_refl _, Nat.le_refl _⟩
  · obtain ⟨_, _, _, _, _, _, h⟩ := h
    exact ⟨_, _, _, _, _, _, h, Nat.le_refl _, Nat.le_refl _⟩
  · obtain ⟨_, _, _, _, _, _, h⟩ := h
    exact ⟨_, _, _, _, _, _, h, Nat.le_refl _, Nat.le_refl _⟩
  · obtain ⟨_, _, _, _, _, h⟩ := h
    exact ⟨_, _, _, _, _, _, h, Nat.le_refl _, Nat.le_refl _⟩
  · obtain ⟨_, _, _, _, _, h⟩ := h
    exact ⟨_, _, _, _, _, _, h, Nat.le_refl _, Nat.le_refl _⟩
end XSTEP
end
section
/-! Steps of the group D are true of the machine. -/
section XSTEP
variable {p : Program} {l : Launch} {e : Env} {R : Room} {s : State} {m : MethodId} {args : Array Value} {below : List Frame} {meth : Method} {c : Code} {Q : State → Prop} {D : va_G} {cl : List vw_C} {ex : Nat → Nat} {A : Nat → Prop} {nL n0 : Nat} {ad0 : Nat → Nat} {ca0 : Nat → ClassId}
variable {own : String} {cc : ByteArray} {Ts : List Cond} {xt : Nat → Nat × (Nat → Int32)} {C0 S0 : Nat} {Y : xm_Y} {K : xm_K} {pc : Nat} {loc : xm_L} {st : List xm_V} {M : xm_M} {nc ns : Nat}
set_option maxHeartbeats 2000000 in
theorem xm_snd_dup (F : xm_fx own cc nL Ts ex xt C0 S0 p R s m args c D cl A) (O : xm_yok own cc Ts cl Y) (hini : Y.2.2.2.2.2 0 = 9 → meth.name = "<init>") (hRf : 1 ≤ R.frames) (hRl : 100 ≤ R.locals)
    (hoi : (Cond.instanceMethod objectInit).before args s = true ∧ (Cond.code objectInit ⟨#[0xb1]⟩ 1 none).before args s = true)
    (har : (Cond.arrayClass .int).before args s = true ∧ (Cond.arrayClass .long).before args s = true ∧ (Cond.arrayClass .boolean).before args s = true)
    (hcy : (Cond.native arraycopyName).before args s = true ∧ (Cond.static arraycopyName).before args s = true ∧ (Cond.initialized "java/lang/System").before args s = true)
    (hst : ∀ ix q, Y.2.2.2.2.1 ix = some q → ∃ (C n d : String), va_Z C n d (.ref (ex q)) A s s.heap ∧ (Cond.fieldLink own ix C n d).before args s = true)
    (hr : ∀ a1 a2 a3 a4 a5 a6, K a1 a2 a3 a4 a5 a6 → a5 ≤ C0 ∧ a6 ≤ S0)
    (kk : ∀ a1 a2 a3 a4 a5 a6, K a1 a2 a3 a4 a5 a6 → xm_W1 p l e R s m args below meth c Q D cl ex A nL n0 ad0 ca0 a1 a2 a3 a4 a5 a6) (h : (∃ (v : xm_V) (r : List xm_V) (pn : Nat), Y.1 pc = some (.dup, pn) ∧ st = v :: r ∧ xm_cat v = 1 ∧ K pn loc (v :: v :: r) M nc ns)) : xm_W1 p l e R s m args below meth c Q D cl ex A nL n0 ad0 ca0 pc loc st M nc ns := by
  obtain ⟨hx, hb, hml, hown, hts, hK, hA, ⟨hRc, hRs⟩, hT⟩ := F
  obtain ⟨hdec, hkc, hkl, hfo, hno, hob, hcp⟩ := O
  intro ad ca ls H locs hn hag hl hs hm
  obtain ⟨v, r, pn, hi, rfl, hc, h⟩ := h
  obtain ⟨ln, hd, hpn, hln⟩ := hdec pc _ hi
  dsimp only at hd hpn hln
  obtain rfl := xm_ln 0 hln rfl
  subst hpn
  exact lv_dup hx hb hd (by rw [xm_cat_v]; exact hc) (kk _ _ _ _ _ _ h ad ca ls H locs hn hag hl (xm_hs_push (xm_hs_cons hs).1 hs) hm)
set_option maxHeartbeats 2000000 in
theorem xm_snd_pop (F : xm_fx own cc nL Ts ex xt C0 S0 p R s m args c D cl A) (O : xm_yok own cc Ts cl Y) (hini : Y.2.2.2.2.2 0 = 9 → meth.name = "<init>") (hRf : 1 ≤ R.frames) (hRl : 100 ≤ R.locals)
    (hoi : (Cond.instanceMethod objectInit).before args s = true ∧ (Cond.code objectInit ⟨#[0xb1]⟩ 1 none).before args s = true)
    (har : (Cond.arrayClass .int).before args s = true ∧ (Cond.arrayClass .long).before args s = true ∧ (Cond.arrayClass .boolean).before args s = true)
    (hcy : (Cond.native arraycopyName).before args s = true ∧ (Cond.static arraycopyName).before args s = true ∧ (Cond.initialized "java/lang/System").before args s = true)
    (hst : ∀ ix q, Y.2.2.2.2.1 ix = some q → ∃ (C n d : String), va_Z C n d (.ref (ex q)) A s s.heap ∧ (Cond.fieldLink own ix C n d).before args s = true)
    (hr : ∀ a1 a2 a3 a4 a5 a6, K a1 a2 a3 a4 a5 a6 → a5 ≤ C0 ∧ a6 ≤ S0)
    (kk : ∀ a1 a2 a3 a4 a5 a6, K a1 a2 a3 a4 a5 a6 → xm_W1 p l e R s m args below meth c Q D cl ex A nL n0 ad0 ca0 a1 a2 a3 a4 a5 a6) (h : (∃ (v : xm_V) (r : List xm_V) (pn : Nat), Y.1 pc = some (.pop, pn) ∧ st = v :: r ∧ xm_cat v = 1 ∧ K pn loc r M nc ns)) : xm_W1 p l e R s m args below meth c Q D cl ex A nL n0 ad0 ca0 pc loc st M nc ns := by
  obtain ⟨hx, hb, hml, hown, hts, hK, hA, ⟨hRc, hRs⟩, hT⟩ := F
  obtain ⟨hdec, hkc, hkl, hfo, hno, hob, hcp⟩ := O
  intro ad ca ls H locs hn hag hl hs hm
  obtain ⟨v, r, pn, hi, rfl, hc, h⟩ := h
  obtain ⟨ln, hd, hpn, hln⟩ := hdec pc _ hi
  dsimp only at hd hpn hln
  obtain rfl := xm_ln 0 hln rfl
  subst hpn
  exact lv_pop hx hb hd (by rw [xm_cat_v]; exact hc) (kk _ _ _ _ _ _ h ad ca ls H locs hn hag hl (xm_hs_cons hs).2 hm)
set_option maxHeartbeats 2000000 in
theorem xm_snd_dup2 (F : xm_fx own cc nL Ts ex xt C0 S0 p R s m args c D cl A) (O : xm_yok own cc Ts cl Y) (hini : Y.2.2.2.2.2 0 = 9 → meth.name = "<init>") (hRf : 1 ≤ R.frames) (hRl : 100 ≤ R.locals)
    (hoi : (Cond.instanceMethod objectInit).before args s = true ∧ (Cond.code objectInit ⟨#[0xb1]⟩ 1 none).before args s = true)
    (har : (Cond.arrayClass .int).before args s = true ∧ (Cond.arrayClass .long).before args s = true ∧ (Cond.arrayClass .boolean).before args s = true)
    (hcy : (Cond.native arraycopyName).before args s = true ∧ (Cond.static arraycopyName).before args s = true ∧ (Cond.initialized "java/lang/System").before args s = true)
    (hst : ∀ ix q, Y.2.2.2.2.1 ix = some q → ∃ (C n d : String), va_Z C n d (.ref (ex q)) A s s.heap ∧ (Cond.fieldLink own ix C n d).before args s = true)
    (hr : ∀ a1 a2 a3 a4 a5 a6, K a1 a2 a3 a4 a5 a6 → a5 ≤ C0 ∧ a6 ≤ S0)
    (kk : ∀ a1 a2 a3 a4 a5 a6, K a1 a2 a3 a4 a5 a6 → xm_W1 p l e R s m args below meth c Q D cl ex A nL n0 ad0 ca0 a1 a2 a3 a4 a5 a6) (h : (∃ (v : xm_V) (w : xm_V) (r : List xm_V) (pn : Nat), Y.1 pc = some (.dup2, pn) ∧ st = v :: w :: r ∧ xm_cat v = 1 ∧ xm_cat w = 1 ∧ K pn loc (v :: w :: v :: w :: r) M nc ns)) : xm_W1 p l e R s m args below meth c Q D cl ex A nL n0 ad0 ca0 pc loc st M nc ns := by
  obtain ⟨hx, hb, hml, hown, hts, hK, hA, ⟨hRc, hRs⟩, hT⟩ := F
  obtain ⟨hdec, hkc, hkl, hfo, hno, hob, hcp⟩ := O
  intro ad ca ls H locs hn hag hl hs hm
  obtain ⟨v, w, r, pn, hi, rfl, hc, hc2, h⟩ := h
  obtain ⟨ln, hd, hpn, hln⟩ := hdec pc _ hi
  dsimp only at hd hpn hln
  obtain rfl := xm_ln 0 hln rfl
  subst hpn
  exact lv_dup2_11 hx hb hd (by rw [xm_cat_v]; exact hc) (by rw [xm_cat_v]; exact hc2) (kk _ _ _ _ _ _ h ad ca ls H locs hn hag hl (xm_hs_push (xm_hs_cons hs).1 (xm_hs_push (xm_hs_cons (xm_hs_cons hs).2).1 hs)) hm)
set_option maxHeartbeats 2000000 in
theorem xm_snd_goto (F : xm_fx own cc nL Ts ex xt C0 S0 p R s m args c D cl A) (O : xm_yok own cc Ts cl Y) (hini : Y.2.2.2.2.2 0 = 9 → meth.name = "<init>") (hRf : 1 ≤ R.frames) (hRl : 100 ≤ R.locals)
    (hoi : (Cond.instanceMethod objectInit).before args s = true ∧ (Cond.code objectInit ⟨#[0xb1]⟩ 1 none).before args s = true)
    (har : (Cond.arrayClass .int).before args s = true ∧ (Cond.arrayClass .long).before args s = true ∧ (Cond.arrayClass .boolean).before args s = true)
    (hcy : (Cond.native arraycopyName).before args s = true ∧ (Cond.static arraycopyName).before args s = true ∧ (Cond.initialized "java/lang/System").before args s = true)
    (hst : ∀ ix q, Y.2.2.2.2.1 ix = some q → ∃ (C n d : String), va_Z C n d (.ref (ex q)) A s s.heap ∧ (Cond.fieldLink own ix C n d).before args s = true)
    (hr : ∀ a1 a2 a3 a4 a5 a6, K a1 a2 a3 a4 a5 a6 → a5 ≤ C0 ∧ a6 ≤ S0)
    (kk : ∀ a1 a2 a3 a4 a5 a6, K a1 a2 a3 a4 a5 a6 → xm_W1 p l e R s m args below meth c Q D cl ex A nL n0 ad0 ca0 a1 a2 a3 a4 a5 a6) (h : (∃ (off : Int) (t : Nat) (pn : Nat), Y.1 pc = some (.goto off, pn) ∧ (pc : Int) + off = (t : Int) ∧ K t loc st M nc ns)) : xm_W1 p l e R s m args below meth c Q D cl ex A nL n0 ad0 ca0 pc loc st M nc ns := by
  obtain ⟨hx, hb, hml, hown, hts, hK, hA, ⟨hRc, hRs⟩, hT⟩ := F
  obtain ⟨hdec, hkc, hkl, hfo, hno, hob, hcp⟩ := O
  intro ad ca ls H locs hn hag hl hs hm
  obtain ⟨off, t, pn, hi, ht, h⟩ := h
  obtain ⟨ln, hd, hpn, hln⟩ := hdec pc _ hi
  dsimp only at hd hpn hln
  obtain rfl := xm_ln 2 hln rfl
  subst hpn
  exact lv_goto hx hb hd ht (kk _ _ _ _ _ _ h ad ca ls H locs hn hag hl hs hm)
set_option maxHeartbeats 2000000 in
theorem xm_snd_if (F : xm_fx own cc nL Ts ex xt C0 S0 p R s m args c D cl A) (O : xm_yok own cc Ts cl Y) (hini : Y.2.2.2.2.2 0 = 9 → meth.name = "<init>") (hRf : 1 ≤ R.frames) (hRl : 100 ≤ R.locals)
    (hoi : (Cond.instanceMethod objectInit).before args s = true ∧ (Cond.code objectInit ⟨#[0xb1]⟩ 1 none).before args s = true)
    (har : (Cond.arrayClass .int).before args s = true ∧ (Cond.arrayClass .long).before args s = true ∧ (Cond.arrayClass .boolean).before args s = true)
    (hcy : (Cond.native arraycopyName).before args s = true ∧ (Cond.static arraycopyName).before args s = true ∧ (Cond.initialized "java/lang/System").before args s = true)
    (hst : ∀ ix q, Y.2.2.2.2.1 ix = some q → ∃ (C n d : String), va_Z C n d (.ref (ex q)) A s s.heap ∧ (Cond.fieldLink own ix C n d).before args s = true)
    (hr : ∀ a1 a2 a3 a4 a5 a6, K a1 a2 a3 a4 a5 a6 → a5 ≤ C0 ∧ a6 ≤ S0)
    (kk : ∀ a1 a2 a3 a4 a5 a6, K a1 a2 a3 a4 a5 a6 → xm_W1 p l e R s m args below meth c Q D cl ex A nL n0 ad0 ca0 a1 a2 a3 a4 a5 a6) (h : (∃ (c : Jvm.ClassFile.Cond) (off : Int) (x : Int32) (r : List xm_V) (t : Nat) (pn : Nat), Y.1 pc = some (.ifCond c off, pn) ∧ st = xv_i x :: r ∧ (pc : Int) + off = (t : Int) ∧ (xm_c1 c x → K t loc r M nc ns) ∧ (¬ xm_c1 c x → K pn loc r M nc ns))) : xm_W1 p l e R s m args below meth c Q D cl ex A nL n0 ad0 ca0 pc loc st M nc ns := by
  obtain ⟨hx, hb, hml, hown, hts, hK, hA, ⟨hRc, hRs⟩, hT⟩ := F
  obtain ⟨hdec, hkc, hkl, hfo, hno, hob, hcp⟩ := O
  intro ad ca ls H locs hn hag hl hs hm
  obtain ⟨co, off, x, r, t, pn, hi, rfl, ht, h1, h2⟩ := h
  obtain ⟨ln, hd, hpn, hln⟩ := hdec pc _ hi
  dsimp only at hd hpn hln
  obtain rfl := xm_ln 2 hln rfl
  subst hpn
  cases co
  case eq => exact lv_if_eq hx hb hd ht (fun b => kk _ _ _ _ _ _ (h1 b) ad ca ls H locs hn hag hl (xm_hs_cons hs).2 hm) (fun b => kk _ _ _ _ _ _ (h2 b) ad ca ls H locs hn hag hl (xm_hs_cons hs).2 hm)
  case ne => exact lv_if_ne hx hb hd ht (fun b => kk _ _ _ _ _ _ (h1 b) ad ca ls H locs hn hag hl (xm_hs_cons hs).2 hm) (fun b => kk _ _ _ _ _ _ (h2 fun nb => nb b) ad ca ls H locs hn hag hl (xm_hs_cons hs).2 hm)
  case lt => exact lv_if_lt hx hb hd ht (fun b => kk _ _ _ _ _ _ (h1 b) ad ca ls H locs hn hag hl (xm_hs_cons hs).2 hm) (fun b => kk _ _ _ _ _ _ (h2 b) ad ca ls H locs hn hag hl (xm_hs_cons hs).2 hm)
  case ge => exact lv_if_ge hx hb hd ht (fun b => kk _ _ _ _ _ _ (h1 b) ad ca ls H locs hn hag hl (xm_hs_cons hs).2 hm) (fun b => kk _ _ _ _ _ _ (h2 b) ad ca ls H locs hn hag hl (xm_hs_cons hs).2 hm)
  case gt => exact lv_if_gt hx hb hd ht (fun b => kk _ _ _ _ _ _ (h1 b) ad ca ls H locs hn hag hl (xm_hs_cons hs).2 hm) (fun b => kk _ _ _ _ _ _ (h2 b) ad ca ls H locs hn hag hl (xm_hs_cons hs).2 hm)
  case le => exact lv_if_le hx hb hd ht (fun b => kk _ _ _ _ _ _ (h1 b) ad ca ls H locs hn hag hl (xm_hs_cons hs).2 hm) (fun b => kk _ _ _ _ _ _ (h2 b) ad ca ls H locs hn hag hl (xm_hs_cons hs).2 hm)
set_option maxHeartbeats 2000000 in
theorem xm_snd_ic (F : xm_fx own cc nL Ts ex xt C0 S0 p R s m args c D cl A) (O : xm_yok own cc Ts cl Y) (hini : Y.2.2.2.2.2 0 = 9 → meth.name = "<init>") (hRf : 1 ≤ R.frames) (hRl : 100 ≤ R.locals)
    (hoi : (Cond.instanceMethod objectInit).before args s = true ∧ (Cond.code objectInit ⟨#[0xb1]⟩ 1 none).before args s = true)
    (har : (Cond.arrayClass .int).before args s = true ∧ (Cond.arrayClass .long).before args s = true ∧ (Cond.arrayClass .boolean).before args s = true)
    (hcy : (Cond.native arraycopyName).before args s = true ∧ (Cond.static arraycopyName).before args s = true ∧ (Cond.initialized "java/lang/System").before args s = true)
    (hst : ∀ ix q, Y.2.2.2.2.1 ix = some q → ∃ (C n d : String), va_Z C n d (.ref (ex q)) A s s.heap ∧ (Cond.fieldLink own ix C n d).before args s = true)
    (hr : ∀ a1 a2 a3 a4 a5 a6, K a1 a2 a3 a4 a5 a6 → a5 ≤ C0 ∧ a6 ≤ S0)
    (kk : ∀ a1 a2 a3 a4 a5 a6, K a1 a2 a3 a4 a5 a6 → xm_W1 p l e R s m args below meth c Q D cl ex A nL n0 ad0 ca0 a1 a2 a3 a4 a5 a6) (h : (∃ (c : Jvm.ClassFile.Cond) (off : Int) (x : Int32) (y : Int32) (r : List xm_V) (t : Nat) (pn : Nat), Y.1 pc = some (.if_icmp c off, pn) ∧ st = xv_i y :: xv_i x :: r ∧ (pc : Int) + off = (t : Int) ∧ (xm_c2 c x y → K t loc r M nc ns) ∧ (¬ xm_c2 c x y → K pn loc r M nc ns))) : xm_W1 p l e R s m args below meth c Q D cl ex A nL n0 ad0 ca0 pc loc st M nc ns := by
  obtain ⟨hx, hb, hml, hown, hts, hK, hA, ⟨hRc, hRs⟩, hT⟩ := F
  obtain ⟨hdec, hkc, hkl, hfo, hno, hob, hcp⟩ := O
  intro ad ca ls H locs hn hag hl hs hm
  obtain ⟨co, off, x, y, r, t, pn, hi, rfl, ht, h1, h2⟩ := h
  obtain ⟨ln, hd, hpn, hln⟩ := hdec pc _ hi
  dsimp only at hd hpn hln
  obtain rfl := xm_ln 2 hln rfl
  subst hpn
  cases co
  case eq => exact lv_icmp_eq hx hb hd ht (fun b => kk _ _ _ _ _ _ (h1 b) ad ca ls H locs hn hag hl (xm_hs_cons (xm_hs_cons hs).2).2 hm) (fun b => kk _ _ _ _ _ _ (h2 b) ad ca ls H locs hn hag hl (xm_hs_cons (xm_hs_cons hs).2).2 hm)
  case ne => exact lv_icmp_ne hx hb hd ht (fun b => kk _ _ _ _ _ _ (h1 b) ad ca ls H locs hn hag hl (xm_hs_cons (xm_hs_cons hs).2).2 hm) (fun b => kk _ _ _ _ _ _ (h2 fun nb => nb b) ad ca ls H locs hn hag hl (xm_hs_cons (xm_hs_cons hs).2).2 hm)
  case lt => exact lv_icmp_lt hx hb hd ht (fun b => kk _ _ _ _ _ _ (h1 b) ad ca ls H locs hn hag hl (xm_hs_cons (xm_hs_cons hs).2).2 hm) (fun b => kk _ _ _ _ _ _ (h2 b) ad ca ls H locs hn hag hl (xm_hs_cons (xm_hs_cons hs).2).2 hm)
  case ge => exact lv_icmp_ge hx hb hd ht (fun b => kk _ _ _ _ _ _ (h1 b) ad ca ls H locs hn hag hl (xm_hs_cons (xm_hs_cons hs).2).2 hm) (fun b => kk _ _ _ _ _ _ (h2 b) ad ca ls H locs hn hag hl (xm_hs_cons (xm_hs_cons hs).2).2 hm)
  case gt => exact lv_icmp_gt hx hb hd ht (fun b => kk _ _ _ _ _ _ (h1 b) ad ca ls H locs hn hag hl (xm_hs_cons (xm_hs_cons hs).2).2 hm) (fun b => kk _ _ _ _ _ _ (h2 b) ad ca ls H locs hn hag hl (xm_hs_cons (xm_hs_cons hs).2).2 hm)
  case le => exact lv_icmp_le hx hb hd ht (fun b => kk _ _ _ _ _ _ (h1 b) ad ca ls H locs hn hag hl (xm_hs_cons (xm_hs_cons hs).2).2 hm) (fun b => kk _ _ _ _ _ _ (h2 b) ad ca ls H locs hn hag hl (xm_hs_cons (xm_hs_cons hs).2).2 hm)
set_option maxHeartbeats 2000000 in
theorem xm_snd_swo (F : xm_fx own cc nL Ts ex xt C0 S0 p R s m args c D cl A) (O : xm_yok own cc Ts cl Y) (hini : Y.2.2.2.2.2 0 = 9 → meth.name = "<init>") (hRf : 1 ≤ R.frames) (hRl : 100 ≤ R.locals)
    (hoi : (Cond.instanceMethod objectInit).before args s = true ∧ (Cond.code objectInit ⟨#[0xb1]⟩ 1 none).before args s = true)
    (har : (Cond.arrayClass .int).before args s = true ∧ (Cond.arrayClass .long).before args s = true ∧ (Cond.arrayClass .boolean).before args s = true)
    (hcy : (Cond.native arraycopyName).before args s = true ∧ (Cond.static arraycopyName).before args s = true ∧ (Cond.initialized "java/lang/System").before args s = true)
    (hst : ∀ ix q, Y.2.2.2.2.1 ix = some q → ∃ (C n d : String), va_Z C n d (.ref (ex q)) A s s.heap ∧ (Cond.fieldLink own ix C n d).before args s = true)
    (hr : ∀ a1 a2 a3 a4 a5 a6, K a1 a2 a3 a4 a5 a6 → a5 ≤ C0 ∧ a6 ≤ S0)
    (kk : ∀ a1 a2 a3 a4 a5 a6, K a1 a2 a3 a4 a5 a6 → xm_W1 p l e R s m args below meth c Q D cl ex A nL n0 ad0 ca0 a1 a2 a3 a4 a5 a6) (h : (∃ (df : Int) (lo : Int) (up : Int) (os : Array Int) (x : Int32) (r : List xm_V) (t : Nat) (pn : Nat), Y.1 pc = some (.tableswitch df lo up os, pn) ∧ st = xv_i x :: r ∧ (x.toInt < lo ∨ up < x.toInt) ∧ (pc : Int) + df = (t : Int) ∧ K t loc r M nc ns)) : xm_W1 p l e R s m args below meth c Q D cl ex A nL n0 ad0 ca0 pc loc st M nc ns := by
  obtain ⟨hx, hb, hml, hown, hts, hK, hA, ⟨hRc, hRs⟩, hT⟩ := F
  obtain ⟨hdec, hkc, hkl, hfo, hno, hob, hcp⟩ := O
  intro ad ca ls H locs hn hag hl hs hm
  obtain ⟨df, lo, up, os, x, r, t, pn, hi, rfl, b, ht, h⟩ := h
  obtain ⟨ln, hd, hpn, hln⟩ := hdec pc _ hi
  dsimp only at hd hpn hln
  exact lv_tableOut hx hb hd b ht (kk _ _ _ _ _ _ h ad ca ls H locs hn hag hl (xm_hs_cons hs).2 hm)
set_option maxHeartbeats 2000000 in
theorem xm_snd_swi (F : xm_fx own cc nL Ts ex xt C0 S0 p R s m args c D cl A) (O : xm_yok own cc Ts cl Y) (hini : Y.2.2.2.2.2 0 = 9 → meth.name = "<init>") (hRf : 1 ≤ R.frames) (hRl : 100 ≤ R.locals)
    (hoi : (Cond.instanceMethod objectInit).before args s = true ∧ (Cond.code objectInit ⟨#[0xb1]⟩ 1 none).before args s = true)
    (har : (Cond.arrayClass .int).before args s = true ∧ (Cond.arrayClass .long).before args s = true ∧ (Cond.arrayClass .boolean).before args s = true)
    (hcy : (Cond.native arraycopyName).before args s = true ∧ (Cond.static arraycopyName).before args s = true ∧ (Cond.initialized "java/lang/System").before args s = true)
    (hst : ∀ ix q, Y.2.2.2.2.1 ix = some q → ∃ (C n d : String), va_Z C n d (.ref (ex q)) A s s.heap ∧ (Cond.fieldLink own ix C n d).before args s = true)
    (hr : ∀ a1 a2 a3 a4 a5 a6, K a1 a2 a3 a4 a5 a6 → a5 ≤ C0 ∧ a6 ≤ S0)
    (kk : ∀ a1 a2 a3 a4 a5 a6, K a1 a2 a3 a4 a5 a6 → xm_W1 p l e R s m args below meth c Q D cl ex A nL n0 ad0 ca0 a1 a2 a3 a4 a5 a6) (h : (∃ (df : Int) (lo : Int) (up : Int) (os : Array Int) (x : Int32) (r : List xm_V) (off : Int) (t : Nat) (pn : Nat), Y.1 pc = some (.tableswitch df lo up os, pn) ∧ st = xv_i x :: r ∧ ¬ x.toInt < lo ∧ ¬ up < x.toInt ∧ os[(x.toInt - lo).toNat]? = some off ∧ (pc : Int) + off = (t : Int) ∧ K t loc r M nc ns)) : xm_W1 p l e R s m args below meth c Q D cl ex A nL n0 ad0 ca0 pc loc st M nc ns := by
  obtain ⟨hx, hb, hml, hown, hts, hK, hA, ⟨hRc, hRs⟩, hT⟩ := F
  obtain ⟨hdec, hkc, hkl, hfo, hno, hob, hcp⟩ := O
  intro ad ca ls H locs hn hag hl hs hm
  obtain ⟨df, lo, up, os, x, r, off, t, pn, hi, rfl, b1, b2, ho, ht, h⟩ := h
  obtain ⟨ln, hd, hpn, hln⟩ := hdec pc _ hi
  dsimp only at hd hpn hln
  exact lv_tableIn hx hb hd b1 b2 ho ht (kk _ _ _ _ _ _ h ad ca ls H locs hn hag hl (xm_hs_cons hs).2 hm)
theorem xm_sndD (F : xm_fx own cc nL Ts ex xt C0 S0 p R s m args c D cl A) (O : xm_yok own cc Ts cl Y) (hini : Y.2.2.2.2.2 0 = 9 → meth.name = "<init>") (hRf : 1 ≤ R.frames) (hRl : 100 ≤ R.locals)
    (hoi : (Cond.instanceMethod objectInit).before args s = true ∧ (Cond.code objectInit ⟨#[0xb1]⟩ 1 none).before args s = true)
    (har : (Cond.arrayClass .int).before args s = true ∧ (Cond.arrayClass .long).before args s = true ∧ (Cond.arrayClass .boolean).before args s = true)
    (hcy : (Cond.native arraycopyName).before args s = true ∧ (Cond.static arraycopyName).before args s = true ∧ (Cond.initialized "java/lang/System").before args s = true)
    (hst : ∀ ix q, Y.2.2.2.2.1 ix = some q → ∃ (C n d : String), va_Z C n d (.ref (ex q)) A s s.heap ∧ (Cond.fieldLink own ix C n d).before args s = true)
    (hr : ∀ a1 a2 a3 a4 a5 a6, K a1 a2 a3 a4 a5 a6 → a5 ≤ C0 ∧ a6 ≤ S0)
    (kk : ∀ a1 a2 a3 a4 a5 a6, K a1 a2 a3 a4 a5 a6 → xm_W1 p l e R s m args below meth c Q D cl ex A nL n0 ad0 ca0 a1 a2 a3 a4 a5 a6) (h : xm_sD Y xt nL pc loc st M nc ns K) : xm_W1 p l e R s m args below meth c Q D cl ex A nL n0 ad0 ca0 pc loc st M nc ns := by
  unfold xm_sD at h
  rcases h with h | h | h | h | h | h | h | h
  · exact xm_snd_dup F O hini hRf hRl hoi har hcy hst hr kk h
  · exact xm_snd_pop F O hini hRf hRl hoi har hcy hst hr kk h
  · exact xm_snd_dup2 F O hini hRf hRl hoi har hcy hst hr kk h
  · exact xm_snd_goto F O hini hRf hRl hoi har hcy hst hr kk h
  · exact xm_snd_if F O hini hRf hRl hoi har hcy hst hr kk h
  · exact xm_snd_ic F O hini hRf hRl hoi har hcy hst hr kk h
  · exact xm_snd_swo F O hini hRf hRl hoi har hcy hst hr kk h
  · exact xm_snd_swi F O hini hRf hRl hoi har hcy hst hr kk h
theorem xm_exD (h : xm_sD Y xt nL pc loc st M nc ns K) : ∃ a1 a2 a3 a4 a5 a6, K a1 a2 a3 a4 a5 a6 ∧ nc ≤ a5 ∧ ns ≤ a6 := by
  unfold xm_sD at h
  rcases h with h | h | h | h | h | h | h | h
  · obtain ⟨_, _, _, _, _, _, h⟩ := h
    exact ⟨_, _, _, _, _, _, h, Nat.le_refl _, Nat.le_refl _⟩
  · obtain ⟨_, _, _, _, _, _, h⟩ := h
    exact ⟨_, _, _, _, _, _, h, Nat.le_refl _, Nat.le_refl _⟩
  · obtain ⟨_, _, _, _, _, _, _, _, h⟩ := h
    exact ⟨_, _, _, _, _, _, h, Nat.le_refl _, Nat.le_refl _⟩
  · obtain ⟨_, _, _, _, _, h⟩ := h
    exact ⟨_, _, _, _, _, _, h, Nat.le_refl _, Nat.le_refl _⟩
  · obtain ⟨co, _, x, _, _, _, _, _, _, h1, h2⟩ := h
    by_cases b : xm_c1 co x
    · exact ⟨_, _, _, _, _, _, h1 b, Nat.le_refl _, Nat.le_refl _⟩
    · exact ⟨_, _, _, _, _, _, h2 b, Nat.le_refl _, Nat.le_refl _⟩
  · obtain ⟨co, _, x, y, _, _, _, _, _, _, h1, h2⟩ := h
    by_cases b : xm_c2 co x y
    · exact ⟨_, _, _, _, _, _, h1 b, Nat.le_refl _, Nat.le_refl _⟩
    · exact ⟨_, _, _, _, _, _, h2 b, Nat.le_refl _, Nat.le_refl _⟩
  · obtain ⟨_, _, _, _, _, _, _, _, _, _, _, _, h⟩ := h
    exact ⟨_, _, _, _, _, _, h, Nat.le_refl _, Nat.le_refl _⟩
  · obtain ⟨_, _, _, _, _, _, _, _, _, _, _, _, _, _, _, h⟩ := h
    exact ⟨_, _, _, _, _, _, h, Nat.le_refl _, Nat.le_refl _⟩
end XSTEP
end
section
/-! Steps of the group E are true of the machine. -/
section XSTEP
variable {p : Program} {l : Launch} {e : Env} {R : Room} {s : State} {m : MethodId} {args : Array Value} {below : List Frame} {meth : Method} {c : Code} {Q : State → Prop} {D : va_G} {cl : List vw_C} {ex : Nat → Nat} {A : Nat → Prop} {nL n0 : Nat} {ad0 : Nat → Nat} {ca0 : Nat → ClassId}
variable {own : String} {cc : ByteArray} {Ts : List Cond} {xt : Nat → Nat × (Nat → Int32)} {C0 S0 : Nat} {Y : xm_Y} {K : xm_K} {pc : Nat} {loc : xm_L} {st : List xm_V} {M : xm_M} {nc ns : Nat}
set_option maxHeartbeats 2000000 in
theorem xm_snd_iald (F : xm_fx own cc nL Ts ex xt C0 S0 p R s m args c D cl A) (O : xm_yok own cc Ts cl Y) (hini : Y.2.2.2.2.2 0 = 9 → meth.name = "<init>") (hRf : 1 ≤ R.frames) (hRl : 100 ≤ R.locals)
    (hoi : (Cond.instanceMethod objectInit).before args s = true ∧ (Cond.code objectInit ⟨#[0xb1]⟩ 1 none).before args s = true)
    (har : (Cond.arrayClass .int).before args s = true ∧ (Cond.arrayClass .long).before args s = true ∧ (Cond.arrayClass .boolean).before args s = true)
    (hcy : (Cond.native arraycopyName).before args s = true ∧ (Cond.static arraycopyName).before args s = true ∧ (Cond.initialized "java/lang/System").before args s = true)
    (hst : ∀ ix q, Y.2.2.2.2.1 ix = some q → ∃ (C n d : String), va_Z C n d (.ref (ex q)) A s s.heap ∧ (Cond.fieldLink own ix C n d).before args s = true)
    (hr : ∀ a1 a2 a3 a4 a5 a6, K a1 a2 a3 a4 a5 a6 → a5 ≤ C0 ∧ a6 ≤ S0)
    (kk : ∀ a1 a2 a3 a4 a5 a6, K a1 a2 a3 a4 a5 a6 → xm_W1 p l e R s m args below meth c Q D cl ex A nL n0 ad0 ca0 a1 a2 a3 a4 a5 a6) (h : (∃ (i : Int32) (k : Nat) (n : Nat) (r : List xm_V) (pn : Nat), Y.1 pc = some (.iaload, pn) ∧ st = xv_i i :: xv_r k :: r ∧ M.1[k]? = some (xt_r 0 n) ∧ vp_in i n ∧ K pn loc (xv_i (M.2.1 k i.toNatClampNeg) :: r) M nc ns)) : xm_W1 p l e R s m args below meth c Q D cl ex A nL n0 ad0 ca0 pc loc st M nc ns := by
  obtain ⟨hx, hb, hml, hown, hts, hK, hA, ⟨hRc, hRs⟩, hT⟩ := F
  obtain ⟨hdec, hkc, hkl, hfo, hno, hob, hcp⟩ := O
  intro ad ca ls H locs hn hag hl hs hm
  obtain ⟨i, k, n, r, pn, hi, rfl, hM, hin, h⟩ := h
  obtain ⟨ln, hd, hpn, hln⟩ := hdec pc _ hi
  dsimp only at hd hpn hln
  obtain rfl := xm_ln 0 hln rfl
  subst hpn
  exact va_iald hx hb (xm_K1 hK (hm.2.2.2.2 k _ .int hM rfl)) hm.2.1 k 0 (xm_w_at hM) rfl hin hd (kk _ _ _ _ _ _ h ad ca ls H locs hn hag hl (xm_hs_push trivial (xm_hs_cons (xm_hs_cons hs).2).2) hm)
set_option maxHeartbeats 2000000 in
theorem xm_snd_ialdx (F : xm_fx own cc nL Ts ex xt C0 S0 p R s m args c D cl A) (O : xm_yok own cc Ts cl Y) (hini : Y.2.2.2.2.2 0 = 9 → meth.name = "<init>") (hRf : 1 ≤ R.frames) (hRl : 100 ≤ R.locals)
    (hoi : (Cond.instanceMethod objectInit).before args s = true ∧ (Cond.code objectInit ⟨#[0xb1]⟩ 1 none).before args s = true)
    (har : (Cond.arrayClass .int).before args s = true ∧ (Cond.arrayClass .long).before args s = true ∧ (Cond.arrayClass .boolean).before args s = true)
    (hcy : (Cond.native arraycopyName).before args s = true ∧ (Cond.static arraycopyName).before args s = true ∧ (Cond.initialized "java/lang/System").before args s = true)
    (hst : ∀ ix q, Y.2.2.2.2.1 ix = some q → ∃ (C n d : String), va_Z C n d (.ref (ex q)) A s s.heap ∧ (Cond.fieldLink own ix C n d).before args s = true)
    (hr : ∀ a1 a2 a3 a4 a5 a6, K a1 a2 a3 a4 a5 a6 → a5 ≤ C0 ∧ a6 ≤ S0)
    (kk : ∀ a1 a2 a3 a4 a5 a6, K a1 a2 a3 a4 a5 a6 → xm_W1 p l e R s m args below meth c Q D cl ex A nL n0 ad0 ca0 a1 a2 a3 a4 a5 a6) (h : (∃ (i : Int32) (q : Nat) (r : List xm_V) (pn : Nat), Y.1 pc = some (.iaload, pn) ∧ st = xv_i i :: xv_x q :: r ∧ vp_in i (xt q).1 ∧ K pn loc (xv_i ((xt q).2 i.toNatClampNeg) :: r) M nc ns)) : xm_W1 p l e R s m args below meth c Q D cl ex A nL n0 ad0 ca0 pc loc st M nc ns := by
  obtain ⟨hx, hb, hml, hown, hts, hK, hA, ⟨hRc, hRs⟩, hT⟩ := F
  obtain ⟨hdec, hkc, hkl, hfo, hno, hob, hcp⟩ := O
  intro ad ca ls H locs hn hag hl hs hm
  obtain ⟨i, q, r, pn, hi, rfl, hin, h⟩ := h
  obtain ⟨ln, hd, hpn, hln⟩ := hdec pc _ hi
  dsimp only at hd hpn hln
  obtain rfl := xm_ln 0 hln rfl
  subst hpn
  exact va_ti hx hb (hT q) hm.2.2.2.1 hin rfl hd (kk _ _ _ _ _ _ h ad ca ls H locs hn hag hl (xm_hs_push trivial (xm_hs_cons (xm_hs_cons hs).2).2) hm)
set_option maxHeartbeats 2000000 in
theorem xm_snd_bald (F : xm_fx own cc nL Ts ex xt C0 S0 p R s m args c D cl A) (O : xm_yok own cc Ts cl Y) (hini : Y.2.2.2.2.2 0 = 9 → meth.name = "<init>") (hRf : 1 ≤ R.frames) (hRl : 100 ≤ R.locals)
    (hoi : (Cond.instanceMethod objectInit).before args s = true ∧ (Cond.code objectInit ⟨#[0xb1]⟩ 1 none).before args s = true)
    (har : (Cond.arrayClass .int).before args s = true ∧ (Cond.arrayClass .long).before args s = true ∧ (Cond.arrayClass .boolean).before args s = true)
    (hcy : (Cond.native arraycopyName).before args s = true ∧ (Cond.static arraycopyName).before args s = true ∧ (Cond.initialized "java/lang/System").before args s = true)
    (hst : ∀ ix q, Y.2.2.2.2.1 ix = some q → ∃ (C n d : String), va_Z C n d (.ref (ex q)) A s s.heap ∧ (Cond.fieldLink own ix C n d).before args s = true)
    (hr : ∀ a1 a2 a3 a4 a5 a6, K a1 a2 a3 a4 a5 a6 → a5 ≤ C0 ∧ a6 ≤ S0)
    (kk : ∀ a1 a2 a3 a4 a5 a6, K a1 a2 a3 a4 a5 a6 → xm_W1 p l e R s m args below meth c Q D cl ex A nL n0 ad0 ca0 a1 a2 a3 a4 a5 a6) (h : (∃ (i : Int32) (k : Nat) (n : Nat) (r : List xm_V) (pn : Nat), Y.1 pc = some (.baload, pn) ∧ st = xv_i i :: xv_r k :: r ∧ M.1[k]? = some (xt_r 2 n) ∧ vp_in i n ∧ K pn loc (xv_i (M.2.1 k i.toNatClampNeg) :: r) M nc ns)) : xm_W1 p l e R s m args below meth c Q D cl ex A nL n0 ad0 ca0 pc loc st M nc ns := by
  obtain ⟨hx, hb, hml, hown, hts, hK, hA, ⟨hRc, hRs⟩, hT⟩ := F
  obtain ⟨hdec, hkc, hkl, hfo, hno, hob, hcp⟩ := O
  intro ad ca ls H locs hn hag hl hs hm
  obtain ⟨i, k, n, r, pn, hi, rfl, hM, hin, h⟩ := h
  obtain ⟨ln, hd, hpn, hln⟩ := hdec pc _ hi
  dsimp only at hd hpn hln
  obtain rfl := xm_ln 0 hln rfl
  subst hpn
  exact va_zald hx hb (xm_K1 hK (hm.2.2.2.2 k _ .boolean hM rfl)) hm.2.1 k 0 (xm_w_at hM) rfl hin hd (kk _ _ _ _ _ _ h ad ca ls H locs hn hag hl (xm_hs_push trivial (xm_hs_cons (xm_hs_cons hs).2).2) hm)
set_option maxHeartbeats 2000000 in
theorem xm_snd_lald (F : xm_fx own cc nL Ts ex xt C0 S0 p R s m args c D cl A) (O : xm_yok own cc Ts cl Y) (hini : Y.2.2.2.2.2 0 = 9 → meth.name = "<init>") (hRf : 1 ≤ R.frames) (hRl : 100 ≤ R.locals)
    (hoi : (Cond.instanceMethod objectInit).before args s = true ∧ (Cond.code objectInit ⟨#[0xb1]⟩ 1 none).before args s = true)
    (har : (Cond.arrayClass .int).before args s = true ∧ (Cond.arrayClass .long).before args s = true ∧ (Cond.arrayClass .boolean).before args s = true)
    (hcy : (Cond.native arraycopyName).before args s = true ∧ (Cond.static arraycopyName).before args s = true ∧ (Cond.initialized "java/lang/System").before args s = true)
    (hst : ∀ ix q, Y.2.2.2.2.1 ix = some q → ∃ (C n d : String), va_Z C n d (.ref (ex q)) A s s.heap ∧ (Cond.fieldLink own ix C n d).before args s = true)
    (hr : ∀ a1 a2 a3 a4 a5 a6, K a1 a2 a3 a4 a5 a6 → a5 ≤ C0 ∧ a6 ≤ S0)
    (kk : ∀ a1 a2 a3 a4 a5 a6, K a1 a2 a3 a4 a5 a6 → xm_W1 p l e R s m args below meth c Q D cl ex A nL n0 ad0 ca0 a1 a2 a3 a4 a5 a6) (h : (∃ (i : Int32) (k : Nat) (n : Nat) (r : List xm_V) (pn : Nat), Y.1 pc = some (.laload, pn) ∧ st = xv_i i :: xv_r k :: r ∧ M.1[k]? = some (xt_r 1 n) ∧ vp_in i n ∧ K pn loc (xv_l (M.2.2 k i.toNatClampNeg) :: r) M nc ns)) : xm_W1 p l e R s m args below meth c Q D cl ex A nL n0 ad0 ca0 pc loc st M nc ns := by
  obtain ⟨hx, hb, hml, hown, hts, hK, hA, ⟨hRc, hRs⟩, hT⟩ := F
  obtain ⟨hdec, hkc, hkl, hfo, hno, hob, hcp⟩ := O
  intro ad ca ls H locs hn hag hl hs hm
  obtain ⟨i, k, n, r, pn, hi, rfl, hM, hin, h⟩ := h
  obtain ⟨ln, hd, hpn, hln⟩ := hdec pc _ hi
  dsimp only at hd hpn hln
  obtain rfl := xm_ln 0 hln rfl
  subst hpn
  exact va_lald hx hb (xm_K1 hK (hm.2.2.2.2 k _ .long hM rfl)) hm.2.1 k 0 (xm_w_at hM) rfl hin hd (kk _ _ _ _ _ _ h ad ca ls H locs hn hag hl (xm_hs_push trivial (xm_hs_cons (xm_hs_cons hs).2).2) hm)
set_option maxHeartbeats 2000000 in
theorem xm_snd_alen (F : xm_fx own cc nL Ts ex xt C0 S0 p R s m args c D cl A) (O : xm_yok own cc Ts cl Y) (hini : Y.2.2.2.2.2 0 = 9 → meth.name = "<init>") (hRf : 1 ≤ R.frames) (hRl : 100 ≤ R.locals)
    (hoi : (Cond.instanceMethod objectInit).before args s = true ∧ (Cond.code objectInit ⟨#[0xb1]⟩ 1 none).before args s = true)
    (har : (Cond.arrayClass .int).before args s = true ∧ (Cond.arrayClass .long).before args s = true ∧ (Cond.arrayClass .boolean).before args s = true)
    (hcy : (Cond.native arraycopyName).before args s = true ∧ (Cond.static arraycopyName).before args s = true ∧ (Cond.initialized "java/lang/System").before args s = true)
    (hst : ∀ ix q, Y.2.2.2.2.1 ix = some q → ∃ (C n d : String), va_Z C n d (.ref (ex q)) A s s.heap ∧ (Cond.fieldLink own ix C n d).before args s = true)
    (hr : ∀ a1 a2 a3 a4 a5 a6, K a1 a2 a3 a4 a5 a6 → a5 ≤ C0 ∧ a6 ≤ S0)
    (kk : ∀ a1 a2 a3 a4 a5 a6, K a1 a2 a3 a4 a5 a6 → xm_W1 p l e R s m args below meth c Q D cl ex A nL n0 ad0 ca0 a1 a2 a3 a4 a5 a6) (h : (∃ (k : Nat) (t : Nat) (n : Nat) (r : List xm_V) (pn : Nat), Y.1 pc = some (.arraylength, pn) ∧ st = xv_r k :: r ∧ M.1[k]? = some (xt_r t n) ∧ t < 3 ∧ K pn loc (xv_i (nI n) :: r) M nc ns)) : xm_W1 p l e R s m args below meth c Q D cl ex A nL n0 ad0 ca0 pc loc st M nc ns := by
  obtain ⟨hx, hb, hml, hown, hts, hK, hA, ⟨hRc, hRs⟩, hT⟩ := F
  obtain ⟨hdec, hkc, hkl, hfo, hno, hob, hcp⟩ := O
  intro ad ca ls H locs hn hag hl hs hm
  obtain ⟨k, t, n, r, pn, hi, rfl, hM, ht3, h⟩ := h
  obtain ⟨ln, hd, hpn, hln⟩ := hdec pc _ hi
  dsimp only at hd hpn hln
  obtain rfl := xm_ln 0 hln rfl
  subst hpn
  match t, hM, ht3 with
  | 0, hM, _ => exact va_alen hx hb (xm_K1 hK (hm.2.2.2.2 k _ .int hM rfl)) hm.2.1 k 0 (xm_w_at hM) rfl rfl hd (kk _ _ _ _ _ _ h ad ca ls H locs hn hag hl (xm_hs_push trivial (xm_hs_cons hs).2) hm)
  | 1, hM, _ => exact va_alen hx hb (xm_K1 hK (hm.2.2.2.2 k _ .long hM rfl)) hm.2.1 k 0 (xm_w_at hM) rfl rfl hd (kk _ _ _ _ _ _ h ad ca ls H locs hn hag hl (xm_hs_push trivial (xm_hs_cons hs).2) hm)
  | 2, hM, _ => exact va_alen hx hb (xm_K1 hK (hm.2.2.2.2 k _ .boolean hM rfl)) hm.2.1 k 0 (xm_w_at hM) rfl rfl hd (kk _ _ _ _ _ _ h ad ca ls H locs hn hag hl (xm_hs_push trivial (xm_hs_cons hs).2) hm)
  | t + 3, hM, ht3 => exact absurd ht3 (by omega)
set_option maxHeartbeats 2000000 in
theorem xm_snd_alenx (F : xm_fx own cc nL Ts ex xt C0 S0 p R s m args c D cl A) (O : xm_yok own cc Ts cl Y) (hini : Y.2.2.2.2.2 0 = 9 → meth.name = "<init>") (hRf : 1 ≤ R.frames) (hRl : 100 ≤ R.locals)
    (hoi : (Cond.instanceMethod objectInit).before args s = true ∧ (Cond.code objectInit ⟨#[0xb1]⟩ 1 none).before args s = true)
    (har : (Cond.arrayClass .int).before args s = true ∧ (Cond.arrayClass .long).before args s = true ∧ (Cond.arrayClass .boolean).before args s = true)
    (hcy : (Cond.native arraycopyName).before args s = true ∧ (Cond.static arraycopyName).before args s = true ∧ (Cond.initialized "java/lang/System").before args s = true)
    (hst : ∀ ix q, Y.2.2.2.2.1 ix = some q → ∃ (C n d : String), va_Z C n d (.ref (ex q)) A s s.heap ∧ (Cond.fieldLink own ix C n d).before args s = true)
    (hr : ∀ a1 a2 a3 a4 a5 a6, K a1 a2 a3 a4 a5 a6 → a5 ≤ C0 ∧ a6 ≤ S0)
    (kk : ∀ a1 a2 a3 a4 a5 a6, K a1 a2 a3 a4 a5 a6 → xm_W1 p l e R s m args below meth c Q D cl ex A nL n0 ad0 ca0 a1 a2 a3 a4 a5 a6) (h : (∃ (q : Nat) (r : List xm_V) (pn : Nat), Y.1 pc = some (.arraylength, pn) ∧ st = xv_x q :: r ∧ K pn loc (xv_i (nI (xt q).1) :: r) M nc ns)) : xm_W1 p l e R s m args below meth c Q D cl ex A nL n0 ad0 ca0 pc loc st M nc ns := by
  obtain ⟨hx, hb, hml, hown, hts, hK, hA, ⟨hRc, hRs⟩, hT⟩ := F
  obtain ⟨hdec, hkc, hkl, hfo, hno, hob, hcp⟩ := O
  intro ad ca ls H locs hn hag hl hs hm
  obtain ⟨q, r, pn, hi, rfl, h⟩ := h
  obtain ⟨ln, hd, hpn, hln⟩ := hdec pc _ hi
  dsimp only at hd hpn hln
  obtain rfl := xm_ln 0 hln rfl
  subst hpn
  exact va_tlen hx hb (hT q) hm.2.2.2.1 rfl hd (kk _ _ _ _ _ _ h ad ca ls H locs hn hag hl (xm_hs_push trivial (xm_hs_cons hs).2) hm)
set_option maxHeartbeats 2000000 in
theorem xm_snd_get (F : xm_fx own cc nL Ts ex xt C0 S0 p R s m args c D cl A) (O : xm_yok own cc Ts cl Y) (hini : Y.2.2.2.2.2 0 = 9 → meth.name = "<init>") (hRf : 1 ≤ R.frames) (hRl : 100 ≤ R.locals)
    (hoi : (Cond.instanceMethod objectInit).before args s = true ∧ (Cond.code objectInit ⟨#[0xb1]⟩ 1 none).before args s = true)
    (har : (Cond.arrayClass .int).before args s = true ∧ (Cond.arrayClass .long).before args s = true ∧ (Cond.arrayClass .boolean).before args s = true)
    (hcy : (Cond.native arraycopyName).before args s = true ∧ (Cond.static arraycopyName).before args s = true ∧ (Cond.initialized "java/lang/System").before args s = true)
    (hst : ∀ ix q, Y.2.2.2.2.1 ix = some q → ∃ (C n d : String), va_Z C n d (.ref (ex q)) A s s.heap ∧ (Cond.fieldLink own ix C n d).before args s = true)
    (hr : ∀ a1 a2 a3 a4 a5 a6, K a1 a2 a3 a4 a5 a6 → a5 ≤ C0 ∧ a6 ≤ S0)
    (kk : ∀ a1 a2 a3 a4 a5 a6, K a1 a2 a3 a4 a5 a6 → xm_W1 p l e R s m args below meth c Q D cl ex A nL n0 ad0 ca0 a1 a2 a3 a4 a5 a6) (h : (∃ (ix : Nat) (ci : Nat) (j : Nat) (ty : Nat) (k : Nat) (fs : List xm_F) (f : xm_F) (r : List xm_V) (pn : Nat), Y.1 pc = some (.getfield ix, pn) ∧ Y.2.2.1 ix = some (ci, j, ty) ∧ st = xv_r k :: r ∧ M.1[k]? = some (xt_o ci fs) ∧ fs[j]? = some f ∧ K pn loc (xm_fv M.2.1 k j f :: r) M nc ns)) : xm_W1 p l e R s m args below meth c Q D cl ex A nL n0 ad0 ca0 pc loc st M nc ns := by
  obtain ⟨hx, hb, hml, hown, hts, hK, hA, ⟨hRc, hRs⟩, hT⟩ := F
  obtain ⟨hdec, hkc, hkl, hfo, hno, hob, hcp⟩ := O
  intro ad ca ls H locs hn hag hl hs hm
  obtain ⟨ix, ci, j, t, k, fs, f, r, pn, hi, hY, rfl, hM, hf, h⟩ := h
  obtain ⟨ln, hd, hpn, hln⟩ := hdec pc _ hi
  dsimp only at hd hpn hln
  obtain rfl := xm_ln 2 hln rfl
  subst hpn
  obtain ⟨C, T, N, ty, hc, hjN, hin, hty, hnm, hlk, -⟩ := hfo ix _ j t hY
  have hv2 : (fs.mapIdx fun b f => xm_fw ad M.2.1 k b f)[j]? = some (xm_v ad ex (xm_fv M.2.1 k j f)) := by rw [xm_fv_v, List.getElem?_mapIdx, hf]; rfl
  have hsv : xm_sc M.1.length (xm_fv M.2.1 k j f) := by
    rcases f with _ | _ | q
    · trivial
    · trivial
    · exact hm.1 k ci fs hM q (List.mem_of_getElem? hf)
  rcases hlk with hlk | ⟨host, hlk⟩
  · exact va_get hx hb hts hin hown hK hm.2.1 k (xm_w_at hM) hc j hjN (hts _ hlk) (fun _ q => q) hv2 hd (kk _ _ _ _ _ _ h ad ca ls H locs hn hag hl (xm_hs_push hsv (xm_hs_cons hs).2) hm)
  · exact va_getN hx hb hts hin hown hK hm.2.1 k (xm_w_at hM) hc j hjN (hts _ hlk) (fun _ q => q) hv2 hd (kk _ _ _ _ _ _ h ad ca ls H locs hn hag hl (xm_hs_push hsv (xm_hs_cons hs).2) hm)
set_option maxHeartbeats 2000000 in
theorem xm_snd_gets (F : xm_fx own cc nL Ts ex xt C0 S0 p R s m args c D cl A) (O : xm_yok own cc Ts cl Y) (hini : Y.2.2.2.2.2 0 = 9 → meth.name = "<init>") (hRf : 1 ≤ R.frames) (hRl : 100 ≤ R.locals)
    (hoi : (Cond.instanceMethod objectInit).before args s = true ∧ (Cond.code objectInit ⟨#[0xb1]⟩ 1 none).before args s = true)
    (har : (Cond.arrayClass .int).before args s = true ∧ (Cond.arrayClass .long).before args s = true ∧ (Cond.arrayClass .boolean).before args s = true)
    (hcy : (Cond.native arraycopyName).before args s = true ∧ (Cond.static arraycopyName).before args s = true ∧ (Cond.initialized "java/lang/System").before args s = true)
    (hst : ∀ ix q, Y.2.2.2.2.1 ix = some q → ∃ (C n d : String), va_Z C n d (.ref (ex q)) A s s.heap ∧ (Cond.fieldLink own ix C n d).before args s = true)
    (hr : ∀ a1 a2 a3 a4 a5 a6, K a1 a2 a3 a4 a5 a6 → a5 ≤ C0 ∧ a6 ≤ S0)
    (kk : ∀ a1 a2 a3 a4 a5 a6, K a1 a2 a3 a4 a5 a6 → xm_W1 p l e R s m args below meth c Q D cl ex A nL n0 ad0 ca0 a1 a2 a3 a4 a5 a6) (h : (∃ (ix : Nat) (q : Nat) (pn : Nat), Y.1 pc = some (.getstatic ix, pn) ∧ Y.2.2.2.2.1 ix = some q ∧ K pn loc (xv_x q :: st) M nc ns)) : xm_W1 p l e R s m args below meth c Q D cl ex A nL n0 ad0 ca0 pc loc st M nc ns := by
  obtain ⟨hx, hb, hml, hown, hts, hK, hA, ⟨hRc, hRs⟩, hT⟩ := F
  obtain ⟨hdec, hkc, hkl, hfo, hno, hob, hcp⟩ := O
  intro ad ca ls H locs hn hag hl hs hm
  obtain ⟨ix, q, pn, hi, hq, h⟩ := h
  obtain ⟨ln, hd, hpn, hln⟩ := hdec pc _ hi
  dsimp only at hd hpn hln
  obtain rfl := xm_ln 2 hln rfl
  subst hpn
  obtain ⟨C, n, d, hZ, hlk⟩ := hst ix q hq
  exact va_gets hx hb hZ hm.2.2.2.1 hown hlk (fun _ q => q) hd (kk _ _ _ _ _ _ h ad ca ls H locs hn hag hl (xm_hs_push trivial hs) hm)
theorem xm_sndE (F : xm_fx own cc nL Ts ex xt C0 S0 p R s m args c D cl A) (O : xm_yok own cc Ts cl Y) (hini : Y.2.2.2.2.2 0 = 9 → meth.name = "<init>") (hRf : 1 ≤ R.frames) (hRl : 100 ≤ R.locals)
    (hoi : (Cond.instanceMethod objectInit).before args s = true ∧ (Cond.code objectInit ⟨#[0xb1]⟩ 1 none).before args s = true)
    (har : (Cond.arrayClass .int).before args s = true ∧ (Cond.arrayClass .long).before args s = true ∧ (Cond.arrayClass .boolean).before args s = true)
    (hcy : (Cond.native arraycopyName).before args s = true ∧ (Cond.static arraycopyName).before args s = true ∧ (Cond.initialized "java/lang/System").before args s = true)
    (hst : ∀ ix q, Y.2.2.2.2.1 ix = some q → ∃ (C n d : String), va_Z C n d (.ref (ex q)) A s s.heap ∧ (Cond.fieldLink own ix C n d).before args s = true)
    (hr : ∀ a1 a2 a3 a4 a5 a6, K a1 a2 a3 a4 a5 a6 → a5 ≤ C0 ∧ a6 ≤ S0)
    (kk : ∀ a1 a2 a3 a4 a5 a6, K a1 a2 a3 a4 a5 a6 → xm_W1 p l e R s m args below meth c Q D cl ex A nL n0 ad0 ca0 a1 a2 a3 a4 a5 a6) (h : xm_sE Y xt nL pc loc st M nc ns K) : xm_W1 p l e R s m args below meth c Q D cl ex A nL n0 ad0 ca0 pc loc st M nc ns := by
  unfold xm_sE at h
  rcases h with h | h | h | h | h | h | h | h
  · exact xm_snd_iald F O hini hRf hRl hoi har hcy hst hr kk h
  · exact xm_snd_ialdx F O hini hRf hRl hoi har hcy hst hr kk h
  · exact xm_snd_bald F O hini hRf hRl hoi har hcy hst hr kk h
  · exact xm_snd_lald F O hini hRf hRl hoi har hcy hst hr kk h
  · exact xm_snd_alen F O hini hRf hRl hoi har hcy hst hr kk h
  · exact xm_snd_alenx F O hini hRf hRl hoi har hcy hst hr kk h
  · exact xm_snd_get F O hini hRf hRl hoi har hcy hst hr kk h
  · exact xm_snd_gets F O hini hRf hRl hoi har hcy hst hr kk h
theorem xm_exE (h : xm_sE Y xt nL pc loc st M nc ns K) : ∃ a1 a2 a3 a4 a5 a6, K a1 a2 a3 a4 a5 a6 ∧ nc ≤ a5 ∧ ns ≤ a6 := by
  unfold xm_sE at h
  rcases h with h | h | h | h | h | h | h | h
  · obtain ⟨_, _, _, _, _, _, _, _, _, h⟩ := h
    exact ⟨_, _, _, _, _, _, h, Nat.le_refl _, Nat.le_refl _⟩
  · obtain ⟨_, _, _, _, _, _, _, h⟩ := h
    exact ⟨_, _, _, _, _, _, h, Nat.le_refl _, Nat.le_refl _⟩
  · obtain ⟨_, _, _, _, _, _, _, _, _, h⟩ := h
    exact ⟨_, _, _, _, _, _, h, Nat.le_refl _, Nat.le_refl _⟩
  · obtain ⟨_, _, _, _, _, _, _, _, _, h⟩ := h
    exact ⟨_, _, _, _, _, _, h, Nat.le_refl _, Nat.le_refl _⟩
  · obtain ⟨_, _, _, _, _, _, _, _, _, h⟩ := h
    exact ⟨_, _, _, _, _, _, h, Nat.le_refl _, Nat.le_refl _⟩
  · obtain ⟨_, _, _, _, _, h⟩ := h
    exact ⟨_, _, _, _, _, _, h, Nat.le_refl _, Nat.le_refl _⟩
  · obtain ⟨_, _, _, _, _, _, _, _, _, _, _, _, _, _, h⟩ := h
    exact ⟨_, _, _, _, _, _, h, Nat.le_refl _, Nat.le_refl _⟩
  · obtain ⟨_, _, _, _, _, h⟩ := h
    exact ⟨_, _, _, _, _, _, h, Nat.le_refl _, Nat.le_refl _⟩
end XSTEP
end
section
/-! Steps of the group F are true of the machine. -/
section XSTEP
variable {p : Program} {l : Launch} {e : Env} {R : Room} {s : State} {m : MethodId} {args : Array Value} {below : List Frame} {meth : Method} {c : Code} {Q : State → Prop} {D : va_G} {cl : List vw_C} {ex : Nat → Nat} {A : Nat → Prop} {nL n0 : Nat} {ad0 : Nat → Nat} {ca0 : Nat → ClassId}
variable {own : String} {cc : ByteArray} {Ts : List Cond} {xt : Nat → Nat × (Nat → Int32)} {C0 S0 : Nat} {Y : xm_Y} {K : xm_K} {pc : Nat} {loc : xm_L} {st : List xm_V} {M : xm_M} {nc ns : Nat}
set_option maxHeartbeats 2000000 in
theorem xm_snd_iast (F : xm_fx own cc nL Ts ex xt C0 S0 p R s m args c D cl A) (O : xm_yok own cc Ts cl Y) (hini : Y.2.2.2.2.2 0 = 9 → meth.name = "<init>") (hRf : 1 ≤ R.frames) (hRl : 100 ≤ R.locals)
    (hoi : (Cond.instanceMethod objectInit).before args s = true ∧ (Cond.code objectInit ⟨#[0xb1]⟩ 1 none).before args s = true)
    (har : (Cond.arrayClass .int).before args s = true ∧ (Cond.arrayClass .long).before args s = true ∧ (Cond.arrayClass .boolean).before args s = true)
    (hcy : (Cond.native arraycopyName).before args s = true ∧ (Cond.static arraycopyName).before args s = true ∧ (Cond.initialized "java/lang/System").before args s = true)
    (hst : ∀ ix q, Y.2.2.2.2.1 ix = some q → ∃ (C n d : String), va_Z C n d (.ref (ex q)) A s s.heap ∧ (Cond.fieldLink own ix C n d).before args s = true)
    (hr : ∀ a1 a2 a3 a4 a5 a6, K a1 a2 a3 a4 a5 a6 → a5 ≤ C0 ∧ a6 ≤ S0)
    (kk : ∀ a1 a2 a3 a4 a5 a6, K a1 a2 a3 a4 a5 a6 → xm_W1 p l e R s m args below meth c Q D cl ex A nL n0 ad0 ca0 a1 a2 a3 a4 a5 a6) (h : (∃ (i : Int32) (x : Int32) (k : Nat) (n : Nat) (r : List xm_V) (pn : Nat), Y.1 pc = some (.iastore, pn) ∧ st = xv_i x :: xv_i i :: xv_r k :: r ∧ M.1[k]? = some (xt_r 0 n) ∧ vp_in i n ∧ K pn loc r (M.1, xu_2 M.2.1 k i.toNatClampNeg x, M.2.2) nc ns)) : xm_W1 p l e R s m args below meth c Q D cl ex A nL n0 ad0 ca0 pc loc st M nc ns := by
  obtain ⟨hx, hb, hml, hown, hts, hK, hA, ⟨hRc, hRs⟩, hT⟩ := F
  obtain ⟨hdec, hkc, hkl, hfo, hno, hob, hcp⟩ := O
  intro ad ca ls H locs hn hag hl hs hm
  obtain ⟨i, x, k, n, r, pn, hi, rfl, hM, hin, h⟩ := h
  obtain ⟨ln, hd, hpn, hln⟩ := hdec pc _ hi
  dsimp only at hd hpn hln
  obtain rfl := xm_ln 0 hln rfl
  subst hpn
  refine va_iast hx hb (xm_K1 hK (hm.2.2.2.2 k _ .int hM rfl)) hm.2.1 hm.2.2.1 hm.2.2.2.1 k 0 (xm_w_at hM) rfl hin hd (fun H1 locs1 hP hD hS => ?_)
  have he : (Sum.inl (ca k, n, Sum.inl (upd (M.2.1 k) i.toNatClampNeg x)) : va_E) = Sum.inl (ca k, n, Sum.inl (xu_2 M.2.1 k i.toNatClampNeg x k)) := by rw [xm_eu]; rfl
  exact kk _ _ _ _ _ _ h ad ca ls H1 locs1 hn hag hl (xm_hs_cons (xm_hs_cons (xm_hs_cons hs).2).2).2 (hm.store hM xm_xu_k (fun _ _ => rfl) he hP hD hS)
set_option maxHeartbeats 2000000 in
theorem xm_snd_bast (F : xm_fx own cc nL Ts ex xt C0 S0 p R s m args c D cl A) (O : xm_yok own cc Ts cl Y) (hini : Y.2.2.2.2.2 0 = 9 → meth.name = "<init>") (hRf : 1 ≤ R.frames) (hRl : 100 ≤ R.locals)
    (hoi : (Cond.instanceMethod objectInit).before args s = true ∧ (Cond.code objectInit ⟨#[0xb1]⟩ 1 none).before args s = true)
    (har : (Cond.arrayClass .int).before args s = true ∧ (Cond.arrayClass .long).before args s = true ∧ (Cond.arrayClass .boolean).before args s = true)
    (hcy : (Cond.native arraycopyName).before args s = true ∧ (Cond.static arraycopyName).before args s = true ∧ (Cond.initialized "java/lang/System").before args s = true)
    (hst : ∀ ix q, Y.2.2.2.2.1 ix = some q → ∃ (C n d : String), va_Z C n d (.ref (ex q)) A s s.heap ∧ (Cond.fieldLink own ix C n d).before args s = true)
    (hr : ∀ a1 a2 a3 a4 a5 a6, K a1 a2 a3 a4 a5 a6 → a5 ≤ C0 ∧ a6 ≤ S0)
    (kk : ∀ a1 a2 a3 a4 a5 a6, K a1 a2 a3 a4 a5 a6 → xm_W1 p l e R s m args below meth c Q D cl ex A nL n0 ad0 ca0 a1 a2 a3 a4 a5 a6) (h : (∃ (i : Int32) (x : Int32) (k : Nat) (n : Nat) (r : List xm_V) (pn : Nat), Y.1 pc = some (.bastore, pn) ∧ st = xv_i x :: xv_i i :: xv_r k :: r ∧ M.1[k]? = some (xt_r 2 n) ∧ vp_in i n ∧ (x = 0 ∨ x = 1) ∧ K pn loc r (M.1, xu_2 M.2.1 k i.toNatClampNeg x, M.2.2) nc ns)) : xm_W1 p l e R s m args below meth c Q D cl ex A nL n0 ad0 ca0 pc loc st M nc ns := by
  obtain ⟨hx, hb, hml, hown, hts, hK, hA, ⟨hRc, hRs⟩, hT⟩ := F
  obtain ⟨hdec, hkc, hkl, hfo, hno, hob, hcp⟩ := O
  intro ad ca ls H locs hn hag hl hs hm
  obtain ⟨i, x, k, n, r, pn, hi, rfl, hM, hin, h01, h⟩ := h
  obtain ⟨ln, hd, hpn, hln⟩ := hdec pc _ hi
  dsimp only at hd hpn hln
  obtain rfl := xm_ln 0 hln rfl
  subst hpn
  refine va_zast hx hb (xm_K1 hK (hm.2.2.2.2 k _ .boolean hM rfl)) hm.2.1 hm.2.2.1 hm.2.2.2.1 k 0 (xm_w_at hM) rfl hin hd (fun H1 locs1 hP hD hS => ?_)
  rw [show vp_nar .boolean x = x by rcases h01 with rfl | rfl <;> rfl] at hP hD
  have he : (Sum.inl (ca k, n, Sum.inl (upd (M.2.1 k) i.toNatClampNeg x)) : va_E) = Sum.inl (ca k, n, Sum.inl (xu_2 M.2.1 k i.toNatClampNeg x k)) := by rw [xm_eu]; rfl
  exact kk _ _ _ _ _ _ h ad ca ls H1 locs1 hn hag hl (xm_hs_cons (xm_hs_cons (xm_hs_cons hs).2).2).2 (hm.store hM xm_xu_k (fun _ _ => rfl) he hP hD hS)
set_option maxHeartbeats 2000000 in
theorem xm_snd_last (F : xm_fx own cc nL Ts ex xt C0 S0 p R s m args c D cl A) (O : xm_yok own cc Ts cl Y) (hini : Y.2.2.2.2.2 0 = 9 → meth.name = "<init>") (hRf : 1 ≤ R.frames) (hRl : 100 ≤ R.locals)
    (hoi : (Cond.instanceMethod objectInit).before args s = true ∧ (Cond.code objectInit ⟨#[0xb1]⟩ 1 none).before args s = true)
    (har : (Cond.arrayClass .int).before args s = true ∧ (Cond.arrayClass .long).before args s = true ∧ (Cond.arrayClass .boolean).before args s = true)
    (hcy : (Cond.native arraycopyName).before args s = true ∧ (Cond.static arraycopyName).before args s = true ∧ (Cond.initialized "java/lang/System").before args s = true)
    (hst : ∀ ix q, Y.2.2.2.2.1 ix = some q → ∃ (C n d : String), va_Z C n d (.ref (ex q)) A s s.heap ∧ (Cond.fieldLink own ix C n d).before args s = true)
    (hr : ∀ a1 a2 a3 a4 a5 a6, K a1 a2 a3 a4 a5 a6 → a5 ≤ C0 ∧ a6 ≤ S0)
    (kk : ∀ a1 a2 a3 a4 a5 a6, K a1 a2 a3 a4 a5 a6 → xm_W1 p l e R s m args below meth c Q D cl ex A nL n0 ad0 ca0 a1 a2 a3 a4 a5 a6) (h : (∃ (i : Int32) (x : Int64) (k : Nat) (n : Nat) (r : List xm_V) (pn : Nat), Y.1 pc = some (.lastore, pn) ∧ st = xv_l x :: xv_i i :: xv_r k :: r ∧ M.1[k]? = some (xt_r 1 n) ∧ vp_in i n ∧ K pn loc r (M.1, M.2.1, xu_2 M.2.2 k i.toNatClampNeg x) nc ns)) : xm_W1 p l e R s m args below meth c Q D cl ex A nL n0 ad0 ca0 pc loc st M nc ns := by
  obtain ⟨hx, hb, hml, hown, hts, hK, hA, ⟨hRc, hRs⟩, hT⟩ := F
  obtain ⟨hdec, hkc, hkl, hfo, hno, hob, hcp⟩ := O
  intro ad ca ls H locs hn hag hl hs hm
  obtain ⟨i, x, k, n, r, pn, hi, rfl, hM, hin, h⟩ := h
  obtain ⟨ln, hd, hpn, hln⟩ := hdec pc _ hi
  dsimp only at hd hpn hln
  obtain rfl := xm_ln 0 hln rfl
  subst hpn
  refine va_last hx hb (xm_K1 hK (hm.2.2.2.2 k _ .long hM rfl)) hm.2.1 hm.2.2.1 hm.2.2.2.1 k 0 (xm_w_at hM) rfl hin hd (fun H1 locs1 hP hD hS => ?_)
  have he : (Sum.inl (ca k, n, Sum.inr (Sum.inl (vp_updL (M.2.2 k) i.toNatClampNeg x))) : va_E) = Sum.inl (ca k, n, Sum.inr (Sum.inl (xu_2 M.2.2 k i.toNatClampNeg x k))) := by rw [xm_eu]; rfl
  exact kk _ _ _ _ _ _ h ad ca ls H1 locs1 hn hag hl (xm_hs_cons (xm_hs_cons (xm_hs_cons hs).2).2).2 (hm.store hM (fun _ _ => rfl) xm_xu_k he hP hD hS)
set_option maxHeartbeats 2000000 in
theorem xm_snd_put (F : xm_fx own cc nL Ts ex xt C0 S0 p R s m args c D cl A) (O : xm_yok own cc Ts cl Y) (hini : Y.2.2.2.2.2 0 = 9 → meth.name = "<init>") (hRf : 1 ≤ R.frames) (hRl : 100 ≤ R.locals)
    (hoi : (Cond.instanceMethod objectInit).before args s = true ∧ (Cond.code objectInit ⟨#[0xb1]⟩ 1 none).before args s = true)
    (har : (Cond.arrayClass .int).before args s = true ∧ (Cond.arrayClass .long).before args s = true ∧ (Cond.arrayClass .boolean).before args s = true)
    (hcy : (Cond.native arraycopyName).before args s = true ∧ (Cond.static arraycopyName).before args s = true ∧ (Cond.initialized "java/lang/System").before args s = true)
    (hst : ∀ ix q, Y.2.2.2.2.1 ix = some q → ∃ (C n d : String), va_Z C n d (.ref (ex q)) A s s.heap ∧ (Cond.fieldLink own ix C n d).before args s = true)
    (hr : ∀ a1 a2 a3 a4 a5 a6, K a1 a2 a3 a4 a5 a6 → a5 ≤ C0 ∧ a6 ≤ S0)
    (kk : ∀ a1 a2 a3 a4 a5 a6, K a1 a2 a3 a4 a5 a6 → xm_W1 p l e R s m args below meth c Q D cl ex A nL n0 ad0 ca0 a1 a2 a3 a4 a5 a6) (h : (∃ (ix : Nat) (ci : Nat) (j : Nat) (ty : Nat) (k : Nat) (fs : List xm_F) (x : Int32) (r : List xm_V) (pn : Nat), Y.1 pc = some (.putfield ix, pn) ∧ Y.2.2.1 ix = some (ci, j, ty) ∧ st = xv_i x :: xv_r k :: r ∧ M.1[k]? = some (xt_o ci fs) ∧ fs[j]? = some none ∧ (ty = 0 ∨ (ty = 3 ∧ (x = 0 ∨ x = 1))) ∧ K pn loc r (M.1, xu_2 M.2.1 k j x, M.2.2) nc ns)) : xm_W1 p l e R s m args below meth c Q D cl ex A nL n0 ad0 ca0 pc loc st M nc ns := by
  obtain ⟨hx, hb, hml, hown, hts, hK, hA, ⟨hRc, hRs⟩, hT⟩ := F
  obtain ⟨hdec, hkc, hkl, hfo, hno, hob, hcp⟩ := O
  intro ad ca ls H locs hn hag hl hs hm
  obtain ⟨ix, ci, j, t, k, fs, x, r, pn, hi, hY, rfl, hM, hf, htx, h⟩ := h
  obtain ⟨ln, hd, hpn, hln⟩ := hdec pc _ hi
  dsimp only at hd hpn hln
  obtain rfl := xm_ln 2 hln rfl
  subst hpn
  have go : ∀ (ci j t k : Nat) (fs : List xm_F) (f : xm_F) (v : xm_V) (r : List xm_V), Y.2.2.1 ix = some (ci, j, t) → M.1[k]? = some (xt_o ci fs) → fs[j]? = some f →
      ((t = 0 ∧ ∃ x, v = xv_i x) ∨ (t = 3 ∧ ∃ x, v = xv_i x ∧ (x = 0 ∨ x = 1)) ∨ (t = 2 ∧ ∃ q, v = xv_r q) ∨ (t = 12 ∧ Y.2.2.2.2.2 0 = 9 ∧ ∃ q, v = xv_r q)) →
      (∀ (H1 : Heap) (locs1 : List Loc), va_P D cl ((xm_w ad ca M).set k (ad k, .inr (ci, (fs.mapIdx fun b f => xm_fw ad M.2.1 k b f).set j (xm_v ad ex v)))) H1 → va_D A ((xm_w ad ca M).set k (ad k, .inr (ci, (fs.mapIdx fun b f => xm_fw ad M.2.1 k b f).set j (xm_v ad ex v)))) → va_S A s.heap H1 locs1 → W p l e R s m args below meth c H1 locs1 nc ns Q (F0 m (pc + 3) ls (r.map (xm_v ad ex)))) →
      W p l e R s m args below meth c H locs nc ns Q (F0 m pc ls ((v :: xv_r k :: r).map (xm_v ad ex))) := by
    intro ci j t k fs f v r hY hM hf hv fin
    obtain ⟨C, T, N, ty, hc, hjN, hin, hty, hnm, hlk, htt⟩ := hfo ix _ j t hY
    have hjl : j < (fs.mapIdx fun b f => xm_fw ad M.2.1 k b f).length := by rw [List.length_mapIdx]; exact (List.getElem?_eq_some_iff.mp hf).1
    have put : narrow (ty j) (xm_v ad ex v) = xm_v ad ex v → fits (ty j) (xm_v ad ex v) = true → (T j).2.2.2 = false → W p l e R s m args below meth c H locs nc ns Q (F0 m pc ls ((v :: xv_r k :: r).map (xm_v ad ex))) := by
      intro hn1 hf1 hb2
      rcases hlk with hlk | ⟨host, hlk⟩
      · exact va_put hx hb hts hin ty hty hnm hown hK hm.2.1 hm.2.2.1 hm.2.2.2.1 k (xm_w_at hM) hc j hjN (hts _ hlk) (fun _ q => q) hb2 (hty j hjN) hn1 hf1 hjl hd fin
      · exact va_putN hx hb hts hin ty hty hnm hown hK hm.2.1 hm.2.2.1 hm.2.2.2.1 k (xm_w_at hM) hc j hjN (hts _ hlk) (fun _ q => q) hb2 (hty j hjN) hn1 hf1 hjl hd fin
    rcases hv with ⟨rfl, x, rfl⟩ | ⟨rfl, x, rfl, h01⟩ | ⟨rfl, q, rfl⟩ | ⟨rfl, h9, q, rfl⟩
    · rcases htt with ⟨-, e1, e2⟩ | ⟨ctr, -⟩ | ⟨ctr, -⟩ | ⟨ctr, -⟩ | ctr <;> try exact absurd ctr (by decide)
      exact put (by rw [e1]; rfl) (by rw [e1]; rfl) e2
    · rcases htt with ⟨ctr, -⟩ | ⟨-, e1, e2⟩ | ⟨ctr, -⟩ | ⟨ctr, -⟩ | ctr <;> try exact absurd ctr (by decide)
      exact put (by rw [e1]; rcases h01 with rfl | rfl <;> rfl) (by rw [e1]; rcases h01 with rfl | rfl <;> rfl) e2
    · rcases htt with ⟨ctr, -⟩ | ⟨ctr, -⟩ | ⟨-, ⟨n, e1⟩ | ⟨n, e1⟩, e2⟩ | ⟨ctr, -⟩ | ctr <;> try exact absurd ctr (by decide)
      · exact put (by rw [e1]; rfl) (by rw [e1]; rfl) e2
      · exact put (by rw [e1]; rfl) (by rw [e1]; rfl) e2
    · rcases htt with ⟨ctr, -⟩ | ⟨ctr, -⟩ | ⟨ctr, -⟩ | ⟨-, e1, hb2, h2, h3⟩ | ctr <;> try exact absurd ctr (by decide)
      have nf : narrow (ty j) (xm_v ad ex (xv_r q)) = xm_v ad ex (xv_r q) ∧ fits (ty j) (xm_v ad ex (xv_r q)) = true := by
        rcases e1 with ⟨n, e1⟩ | ⟨n, e1⟩ <;> rw [e1] <;> exact ⟨rfl, rfl⟩
      exact va_putF hx hb hts hin ty hty hnm hown hK hm.2.1 hm.2.2.1 hm.2.2.2.1 k (xm_w_at hM) hc j hjN (hts _ h3) (fun _ q => q) hb2 (hini h9) h2 (hty j hjN) nf.1 nf.2 hjl hd fin
  refine go ci j t k fs none (xv_i x) r hY hM hf (htx.elim (fun q => Or.inl ⟨q, x, rfl⟩) (fun q => Or.inr (Or.inl ⟨q.1, x, rfl, q.2⟩))) ?_
  intro H1 locs1 hP hD hS
  have he : (Sum.inr (ci, (fs.mapIdx fun b f => xm_fw ad M.2.1 k b f).set j (.int x)) : va_E) = Sum.inr (ci, fs.mapIdx fun b f => xm_fw ad (xu_2 M.2.1 k j x) k b f) := by rw [xm_put_e hf]
  exact kk _ _ _ _ _ _ h ad ca ls H1 locs1 hn hag hl (xm_hs_cons (xm_hs_cons hs).2).2 (hm.store hM xm_xu_k (fun _ _ => rfl) he hP hD hS)
set_option maxHeartbeats 2000000 in
theorem xm_snd_putr (F : xm_fx own cc nL Ts ex xt C0 S0 p R s m args c D cl A) (O : xm_yok own cc Ts cl Y) (hini : Y.2.2.2.2.2 0 = 9 → meth.name = "<init>") (hRf : 1 ≤ R.frames) (hRl : 100 ≤ R.locals)
    (hoi : (Cond.instanceMethod objectInit).before args s = true ∧ (Cond.code objectInit ⟨#[0xb1]⟩ 1 none).before args s = true)
    (har : (Cond.arrayClass .int).before args s = true ∧ (Cond.arrayClass .long).before args s = true ∧ (Cond.arrayClass .boolean).before args s = true)
    (hcy : (Cond.native arraycopyName).before args s = true ∧ (Cond.static arraycopyName).before args s = true ∧ (Cond.initialized "java/lang/System").before args s = true)
    (hst : ∀ ix q, Y.2.2.2.2.1 ix = some q → ∃ (C n d : String), va_Z C n d (.ref (ex q)) A s s.heap ∧ (Cond.fieldLink own ix C n d).before args s = true)
    (hr : ∀ a1 a2 a3 a4 a5 a6, K a1 a2 a3 a4 a5 a6 → a5 ≤ C0 ∧ a6 ≤ S0)
    (kk : ∀ a1 a2 a3 a4 a5 a6, K a1 a2 a3 a4 a5 a6 → xm_W1 p l e R s m args below meth c Q D cl ex A nL n0 ad0 ca0 a1 a2 a3 a4 a5 a6) (h : (∃ (ix : Nat) (ci : Nat) (j : Nat) (t : Nat) (k : Nat) (fs : List xm_F) (q : Nat) (o : Option Nat) (r : List xm_V) (pn : Nat), Y.1 pc = some (.putfield ix, pn) ∧ Y.2.2.1 ix = some (ci, j, t) ∧ (t = 2 ∨ (t = 12 ∧ Y.2.2.2.2.2 0 = 9)) ∧ st = xv_r q :: xv_r k :: r ∧ M.1[k]? = some (xt_o ci fs) ∧ fs[j]? = some (some o) ∧ K pn loc r (M.1.set k (xt_o ci (fs.set j (some (some q)))), M.2.1, M.2.2) nc ns)) : xm_W1 p l e R s m args below meth c Q D cl ex A nL n0 ad0 ca0 pc loc st M nc ns := by
  obtain ⟨hx, hb, hml, hown, hts, hK, hA, ⟨hRc, hRs⟩, hT⟩ := F
  obtain ⟨hdec, hkc, hkl, hfo, hno, hob, hcp⟩ := O
  intro ad ca ls H locs hn hag hl hs hm
  obtain ⟨ix, ci, j, t, k, fs, q, w, r, pn, hi, hY, htt, rfl, hM, hf, h⟩ := h
  obtain ⟨ln, hd, hpn, hln⟩ := hdec pc _ hi
  dsimp only at hd hpn hln
  obtain rfl := xm_ln 2 hln rfl
  subst hpn
  have go : ∀ (ci j t k : Nat) (fs : List xm_F) (f : xm_F) (v : xm_V) (r : List xm_V), Y.2.2.1 ix = some (ci, j, t) → M.1[k]? = some (xt_o ci fs) → fs[j]? = some f →
      ((t = 0 ∧ ∃ x, v = xv_i x) ∨ (t = 3 ∧ ∃ x, v = xv_i x ∧ (x = 0 ∨ x = 1)) ∨ (t = 2 ∧ ∃ q, v = xv_r q) ∨ (t = 12 ∧ Y.2.2.2.2.2 0 = 9 ∧ ∃ q, v = xv_r q)) →
      (∀ (H1 : Heap) (locs1 : List Loc), va_P D cl ((xm_w ad ca M).set k (ad k, .inr (ci, (fs.mapIdx fun b f => xm_fw ad M.2.1 k b f).set j (xm_v ad ex v)))) H1 → va_D A ((xm_w ad ca M).set k (ad k, .inr (ci, (fs.mapIdx fun b f => xm_fw ad M.2.1 k b f).set j (xm_v ad ex v)))) → va_S A s.heap H1 locs1 → W p l e R s m args below meth c H1 locs1 nc ns Q (F0 m (pc + 3) ls (r.map (xm_v ad ex)))) →
      W p l e R s m args below meth c H locs nc ns Q (F0 m pc ls ((v :: xv_r k :: r).map (xm_v ad ex))) := by
    intro ci j t k fs f v r hY hM hf hv fin
    obtain ⟨C, T, N, ty, hc, hjN, hin, hty, hnm, hlk, htt⟩ := hfo ix _ j t hY
    have hjl : j < (fs.mapIdx fun b f => xm_fw ad M.2.1 k b f).length := by rw [List.length_mapIdx]; exact (List.getElem?_eq_some_iff.mp hf).1
    have put : narrow (ty j) (xm_v ad ex v) = xm_v ad ex v → fits (ty j) (xm_v ad ex v) = true → (T j).2.2.2 = false → W p l e R s m args below meth c H locs nc ns Q (F0 m pc ls ((v :: xv_r k :: r).map (xm_v ad ex))) := by
      intro hn1 hf1 hb2
      rcases hlk with hlk | ⟨host, hlk⟩
      · exact va_put hx hb hts hin ty hty hnm hown hK hm.2.1 hm.2.2.1 hm.2.2.2.1 k (xm_w_at hM) hc j hjN (hts _ hlk) (fun _ q => q) hb2 (hty j hjN) hn1 hf1 hjl hd fin
      · exact va_putN hx hb hts hin ty hty hnm hown hK hm.2.1 hm.2.2.1 hm.2.2.2.1 k (xm_w_at hM) hc j hjN (hts _ hlk) (fun _ q => q) hb2 (hty j hjN) hn1 hf1 hjl hd fin
    rcases hv with ⟨rfl, x, rfl⟩ | ⟨rfl, x, rfl, h01⟩ | ⟨rfl, q, rfl⟩ | ⟨rfl, h9, q, rfl⟩
    · rcases htt with ⟨-, e1, e2⟩ | ⟨ctr, -⟩ | ⟨ctr, -⟩ | ⟨ctr, -⟩ | ctr <;> try exact absurd ctr (by decide)
      exact put (by rw [e1]; rfl) (by rw [e1]; rfl) e2
    · rcases htt with ⟨ctr, -⟩ | ⟨-, e1, e2⟩ | ⟨ctr, -⟩ | ⟨ctr, -⟩ | ctr <;> try exact absurd ctr (by decide)
      exact put (by rw [e1]; rcases h01 with rfl | rfl <;> rfl) (by rw [e1]; rcases h01 with rfl | rfl <;> rfl) e2
    · rcases htt with ⟨ctr, -⟩ | ⟨ctr, -⟩ | ⟨-, ⟨n, e1⟩ | ⟨n, e1⟩, e2⟩ | ⟨ctr, -⟩ | ctr <;> try exact absurd ctr (by decide)
      · exact put (by rw [e1]; rfl) (by rw [e1]; rfl) e2
      · exact put (by rw [e1]; rfl) (by rw [e1]; rfl) e2
    · rcases htt with ⟨ctr, -⟩ | ⟨ctr, -⟩ | ⟨ctr, -⟩ | ⟨-, e1, hb2, h2, h3⟩ | ctr <;> try exact absurd ctr (by decide)
      have nf : narrow (ty j) (xm_v ad ex (xv_r q)) = xm_v ad ex (xv_r q) ∧ fits (ty j) (xm_v ad ex (xv_r q)) = true := by
        rcases e1 with ⟨n, e1⟩ | ⟨n, e1⟩ <;> rw [e1] <;> exact ⟨rfl, rfl⟩
      exact va_putF hx hb hts hin ty hty hnm hown hK hm.2.1 hm.2.2.1 hm.2.2.2.1 k (xm_w_at hM) hc j hjN (hts _ h3) (fun _ q => q) hb2 (hini h9) h2 (hty j hjN) nf.1 nf.2 hjl hd fin
  refine go ci j t k fs (some w) (xv_r q) r hY hM hf (htt.elim (fun e => Or.inr (Or.inr (Or.inl ⟨e, q, rfl⟩))) (fun e => Or.inr (Or.inr (Or.inr ⟨e.1, e.2, q, rfl⟩)))) ?_
  · intro H1 locs1 hP hD hS
    have hlt : k < M.1.length := (List.getElem?_eq_some_iff.mp hM).1
    have hq : q < M.1.length := (xm_hs_cons hs).1
    have eM : (M.1.set k (xt_o ci (fs.set j (some (some q)))))[k]? = some (xt_o ci (fs.set j (some (some q)))) := by rw [List.getElem?_set]; simp [hlt]
    have e9 := xm_w_set (ad := ad) (ca := ca) (M := M) (k := k) (T' := M.1.set k (xt_o ci (fs.set j (some (some q))))) (I' := M.2.1) (J' := M.2.2) eM (fun a ha => List.getElem?_set_ne (fun q => ha q.symm)) (List.length_set ..) (fun _ _ => rfl) (fun _ _ => rfl)
    have e8 : (Sum.inr (ci, (fs.mapIdx fun b f => xm_fw ad M.2.1 k b f).set j (.ref (ad q))) : va_E) = xm_e ad ca M.2.1 M.2.2 k (xt_o ci (fs.set j (some (some q)))) := by rw [xm_putr_e]; rfl
    have hP : va_P D cl ((xm_w ad ca M).set k (ad k, .inr (ci, (fs.mapIdx fun b f => xm_fw ad M.2.1 k b f).set j (.ref (ad q))))) H1 := hP
    have hD : va_D A ((xm_w ad ca M).set k (ad k, .inr (ci, (fs.mapIdx fun b f => xm_fw ad M.2.1 k b f).set j (.ref (ad q))))) := hD
    rw [e8, e9] at hP hD
    refine kk _ _ _ _ _ _ h ad ca ls H1 locs1 (by rw [List.length_set]; exact hn) hag (by rw [List.length_set]; exact hl) (by rw [List.length_set]; exact (xm_hs_cons (xm_hs_cons hs).2).2) ⟨?_, hP, hD, hS, ?_⟩
    · intro k' ci' fs' hk' z hz
      have hk' : (M.1.set k (xt_o ci (fs.set j (some (some q)))))[k']? = some (xt_o ci' fs') := hk'
      show z < (M.1.set k (xt_o ci (fs.set j (some (some q))))).length
      rw [List.length_set]
      by_cases hkk : k = k'
      · subst hkk
        rw [eM] at hk'
        have e7 := Option.some.inj hk'
        injection e7 with e7
        obtain ⟨-, rfl⟩ := Prod.mk.inj e7
        rcases List.mem_or_eq_of_mem_set hz with hz | hz
        · exact hm.1 k ci fs hM z hz
        · injection hz with hz
          injection hz with hz
          rw [hz]; exact hq
      · rw [List.getElem?_set_ne hkk] at hk'
        exact hm.1 k' ci' fs' hk' z hz
    · intro k' e' ty' hk' hty'
      have hk' : (M.1.set k (xt_o ci (fs.set j (some (some q)))))[k']? = some e' := hk'
      by_cases hkk : k = k'
      · subst hkk
        rw [eM] at hk'
        obtain rfl := Option.some.inj hk'
        cases hty'
      · rw [List.getElem?_set_ne hkk] at hk'
        exact hm.2.2.2.2 k' e' ty' hk' hty'
theorem xm_sndF (F : xm_fx own cc nL Ts ex xt C0 S0 p R s m args c D cl A) (O : xm_yok own cc Ts cl Y) (hini : Y.2.2.2.2.2 0 = 9 → meth.name = "<init>") (hRf : 1 ≤ R.frames) (hRl : 100 ≤ R.locals)
    (hoi : (Cond.instanceMethod objectInit).before args s = true ∧ (Cond.code objectInit ⟨#[0xb1]⟩ 1 none).before args s = true)
    (har : (Cond.arrayClass .int).before args s = true ∧ (Cond.arrayClass .long).before args s = true ∧ (Cond.arrayClass .boolean).before args s = true)
    (hcy : (Cond.native arraycopyName).before args s = true ∧ (Cond.static arraycopyName).before args s = true ∧ (Cond.initialized "java/lang/System").before args s = true)
    (hst : ∀ ix q, Y.2.2.2.2.1 ix = some q → ∃ (C n d : String), va_Z C n d (.ref (ex q)) A s s.heap ∧ (Cond.fieldLink own ix C n d).before args s = true)
    (hr : ∀ a1 a2 a3 a4 a5 a6, K a1 a2 a3 a4 a5 a6 → a5 ≤ C0 ∧ a6 ≤ S0)
    (kk : ∀ a1 a2 a3 a4 a5 a6, K a1 a2 a3 a4 a5 a6 → xm_W1 p l e R s m args below meth c Q D cl ex A nL n0 ad0 ca0 a1 a2 a3 a4 a5 a6) (h : xm_sF Y xt nL pc loc st M nc ns K) : xm_W1 p l e R s m args below meth c Q D cl ex A nL n0 ad0 ca0 pc loc st M nc ns := by
  unfold xm_sF at h
  rcases h with h | h | h | h | h
  · exact xm_snd_iast F O hini hRf hRl hoi har hcy hst hr kk h
  · exact xm_snd_bast F O hini hRf hRl hoi har hcy hst hr kk h
  · exact xm_snd_last F O hini hRf hRl hoi har hcy hst hr kk h
  · exact xm_snd_put F O hini hRf hRl hoi har hcy hst hr kk h
  · exact xm_snd_putr F O hini hRf hRl hoi har hcy hst hr kk h
theorem xm_exF (h : xm_sF Y xt nL pc loc st M nc ns K) : ∃ a1 a2 a3 a4 a5 a6, K a1 a2 a3 a4 a5 a6 ∧ nc ≤ a5 ∧ ns ≤ a6 := by
  unfold xm_sF at h
  rcases h with h | h | h | h | h
  · obtain ⟨_, _, _, _, _, _, _, _, _, _, h⟩ := h
    exact ⟨_, _, _, _, _, _, h, Nat.le_refl _, Nat.le_refl _⟩
  · obtain ⟨_, _, _, _, _, _, _, _, _, _, _, h⟩ := h
    exact ⟨_, _, _, _, _, _, h, Nat.le_refl _, Nat.le_refl _⟩
  · obtain ⟨_, _, _, _, _, _, _, _, _, _, h⟩ := h
    exact ⟨_, _, _, _, _, _, h, Nat.le_refl _, Nat.le_refl _⟩
  · obtain ⟨_, _, _, _, _, _, _, _, _, _, _, _, _, _, _, h⟩ := h
    exact ⟨_, _, _, _, _, _, h, Nat.le_refl _, Nat.le_refl _⟩
  · obtain ⟨_, _, _, _, _, _, _, _, _, _, _, _, _, _, _, _, h⟩ := h
    exact ⟨_, _, _, _, _, _, h, Nat.le_refl _, Nat.le_refl _⟩
end XSTEP
end
section
/-! Steps of the group G are true of the machine. -/
section XSTEP
variable {p : Program} {l : Launch} {e : Env} {R : Room} {s : State} {m : MethodId} {args : Array Value} {below : List Frame} {meth : Method} {c : Code} {Q : State → Prop} {D : va_G} {cl : List vw_C} {ex : Nat → Nat} {A : Nat → Prop} {nL n0 : Nat} {ad0 : Nat → Nat} {ca0 : Nat → ClassId}
variable {own : String} {cc : ByteArray} {Ts : List Cond} {xt : Nat → Nat × (Nat → Int32)} {C0 S0 : Nat} {Y : xm_Y} {K : xm_K} {pc : Nat} {loc : xm_L} {st : List xm_V} {M : xm_M} {nc ns : Nat}
set_option maxHeartbeats 2000000 in
theorem xm_snd_new (F : xm_fx own cc nL Ts ex xt C0 S0 p R s m args c D cl A) (O : xm_yok own cc Ts cl Y) (hini : Y.2.2.2.2.2 0 = 9 → meth.name = "<init>") (hRf : 1 ≤ R.frames) (hRl : 100 ≤ R.locals)
    (hoi : (Cond.instanceMethod objectInit).before args s = true ∧ (Cond.code objectInit ⟨#[0xb1]⟩ 1 none).before args s = true)
    (har : (Cond.arrayClass .int).before args s = true ∧ (Cond.arrayClass .long).before args s = true ∧ (Cond.arrayClass .boolean).before args s = true)
    (hcy : (Cond.native arraycopyName).before args s = true ∧ (Cond.static arraycopyName).before args s = true ∧ (Cond.initialized "java/lang/System").before args s = true)
    (hst : ∀ ix q, Y.2.2.2.2.1 ix = some q → ∃ (C n d : String), va_Z C n d (.ref (ex q)) A s s.heap ∧ (Cond.fieldLink own ix C n d).before args s = true)
    (hr : ∀ a1 a2 a3 a4 a5 a6, K a1 a2 a3 a4 a5 a6 → a5 ≤ C0 ∧ a6 ≤ S0)
    (kk : ∀ a1 a2 a3 a4 a5 a6, K a1 a2 a3 a4 a5 a6 → xm_W1 p l e R s m args below meth c Q D cl ex A nL n0 ad0 ca0 a1 a2 a3 a4 a5 a6) (h : (∃ (ix : Nat) (ci : Nat) (fs : List xm_F) (pn : Nat), Y.1 pc = some (.new ix, pn) ∧ Y.2.2.2.1 ix = some (ci, fs) ∧ K pn loc (xv_r M.1.length :: st) (M.1 ++ [xt_o ci fs], xz_2 M.2.1 M.1.length 0, M.2.2) (nc + 1) (ns + fs.length))) : xm_W1 p l e R s m args below meth c Q D cl ex A nL n0 ad0 ca0 pc loc st M nc ns := by
  obtain ⟨hx, hb, hml, hown, hts, hK, hA, ⟨hRc, hRs⟩, hT⟩ := F
  obtain ⟨hdec, hkc, hkl, hfo, hno, hob, hcp⟩ := O
  intro ad ca ls H locs hn hag hl hs hm
  obtain ⟨ix, ci, fs, pn, hi, hY, h⟩ := h
  obtain ⟨ln, hd, hpn, hln⟩ := hdec pc _ hi
  dsimp only at hd hpn hln
  obtain rfl := xm_ln 2 hln rfl
  subst hpn
  obtain ⟨hc1, hs1⟩ := hr _ _ _ _ _ _ h
  obtain ⟨C, T, N, ty, hc, hin, hty, hcl, hinst, hinit, hNl, hdef, hdv⟩ := hno ix ci fs hY
  subst hNl
  refine va_new hx hb hts hin ty hty hown (hts _ hcl) (hts _ hinst) (hts _ hinit) hK hm.2.1 hm.2.2.1 hm.2.2.2.1 hA hc (fs := fs.mapIdx fun j f => xm_fw ad (xz_2 M.2.1 M.1.length 0) M.1.length j f) (fun j hj => hdv j hj ad _ _ (fun b => by simp [xz_2])) (Nat.le_trans hc1 hRc) (Nat.le_trans hs1 hRs) hd (fun q H1 hP hD hS => ?_)
  have e1 : (fs.mapIdx fun j f => xm_fw ad (xz_2 M.2.1 M.1.length 0) M.1.length j f) = fs.mapIdx fun j f => xm_fw (va_up ad M.1.length q) (xz_2 M.2.1 M.1.length 0) M.1.length j f := xm_map_congr fun j f hf => by
    rcases hdef f (List.mem_of_getElem? hf) with rfl | rfl <;> rfl
  rw [← xm_st_up (q := q) hs]
  have he : (Sum.inr (ci, fs.mapIdx fun j f => xm_fw ad (xz_2 M.2.1 M.1.length 0) M.1.length j f) : va_E) = xm_e (va_up ad M.1.length q) ca (xz_2 M.2.1 M.1.length 0) M.2.2 M.1.length (xt_o ci fs) := by rw [e1]; rfl
  have hm2 := xm_push (t := xt_o ci fs) hm (fun _ _ => rfl) (fun a ha => xm_xz_k (x := (0 : Int32)) a ha) (fun _ _ => rfl) (fun ci' fs' e f hf => by injection e with e; obtain ⟨-, rfl⟩ := Prod.mk.inj e; exact hdef f hf) (fun _ q => by cases q) he hP hD hS
  have hw := kk _ _ _ _ _ _ h (va_up ad M.1.length q) ca ls H1 locs (by rw [List.length_append]; exact Nat.le_add_right_of_le hn) (fun k hk => ⟨by rw [← (hag k hk).1]; simp [va_up, Nat.ne_of_lt (Nat.lt_of_lt_of_le hk hn)], (hag k hk).2⟩) (by rw [List.length_append]; exact hl.up) (by rw [List.length_append]; exact xm_hs_push (Nat.lt_succ_self _) (xm_hs.up hs (Nat.le_succ _))) hm2
  have eq : xm_v (va_up ad M.1.length q) ex (xv_r M.1.length) = .ref q := by show Value.ref _ = _; simp [va_up]
  rw [List.map_cons, eq] at hw
  exact hw
set_option maxHeartbeats 2000000 in
theorem xm_snd_newa0 (F : xm_fx own cc nL Ts ex xt C0 S0 p R s m args c D cl A) (O : xm_yok own cc Ts cl Y) (hini : Y.2.2.2.2.2 0 = 9 → meth.name = "<init>") (hRf : 1 ≤ R.frames) (hRl : 100 ≤ R.locals)
    (hoi : (Cond.instanceMethod objectInit).before args s = true ∧ (Cond.code objectInit ⟨#[0xb1]⟩ 1 none).before args s = true)
    (har : (Cond.arrayClass .int).before args s = true ∧ (Cond.arrayClass .long).before args s = true ∧ (Cond.arrayClass .boolean).before args s = true)
    (hcy : (Cond.native arraycopyName).before args s = true ∧ (Cond.static arraycopyName).before args s = true ∧ (Cond.initialized "java/lang/System").before args s = true)
    (hst : ∀ ix q, Y.2.2.2.2.1 ix = some q → ∃ (C n d : String), va_Z C n d (.ref (ex q)) A s s.heap ∧ (Cond.fieldLink own ix C n d).before args s = true)
    (hr : ∀ a1 a2 a3 a4 a5 a6, K a1 a2 a3 a4 a5 a6 → a5 ≤ C0 ∧ a6 ≤ S0)
    (kk : ∀ a1 a2 a3 a4 a5 a6, K a1 a2 a3 a4 a5 a6 → xm_W1 p l e R s m args below meth c Q D cl ex A nL n0 ad0 ca0 a1 a2 a3 a4 a5 a6) (h : (∃ (n : Int32) (N : Nat) (r : List xm_V) (pn : Nat), Y.1 pc = some (.newarray .int, pn) ∧ st = xv_i n :: r ∧ ¬ n < 0 ∧ n.toNatClampNeg = N ∧ N ≤ 67108864 ∧ K pn loc (xv_r M.1.length :: r) (M.1 ++ [xt_r 0 N], xz_2 M.2.1 M.1.length 0, xz_2 M.2.2 M.1.length 0) (nc + 1) (ns + N))) : xm_W1 p l e R s m args below meth c Q D cl ex A nL n0 ad0 ca0 pc loc st M nc ns := by
  obtain ⟨hx, hb, hml, hown, hts, hK, hA, ⟨hRc, hRs⟩, hT⟩ := F
  obtain ⟨hdec, hkc, hkl, hfo, hno, hob, hcp⟩ := O
  intro ad ca ls H locs hn hag hl hs hm
  obtain ⟨n, N, r, pn, hi, rfl, hn0, hN, hN2, h⟩ := h
  obtain ⟨ln, hd, hpn, hln⟩ := hdec pc _ hi
  dsimp only at hd hpn hln
  obtain rfl := xm_ln 1 hln rfl
  subst hpn
  obtain ⟨hc1, hs1⟩ := hr _ _ _ _ _ _ h
  refine va_newa (atype := .int) hx hb (show (Cond.arrayClass (newarray.typeOf .int)).before args s = true from har.1) (ty := .int) rfl hK hm.2.1 hm.2.2.1 hm.2.2.2.1 hA (a0 := (N, Sum.inl fun _ => 0)) (fun cA => rfl) hn0 hN (by show N * 4 ≤ 536870912; omega) (Nat.le_trans hc1 hRc) (Nat.le_trans hs1 hRs) hd (fun q cA H1 hK1 hP hD hS => ?_)
  rw [← xm_st_up (q := q) (xm_hs_cons hs).2]
  have e0 : va_up ca M.1.length cA M.1.length = cA := by simp [va_up]
  have he : (Sum.inl (cA, N, Sum.inl fun _ => 0) : va_E) = Sum.inl (va_up ca M.1.length cA M.1.length, N, Sum.inl (xz_2 M.2.1 M.1.length 0 M.1.length)) := by rw [e0, xm_ez]
  have hm2 := xm_push (t := xt_r 0 N) (I' := xz_2 M.2.1 M.1.length 0) (J' := xz_2 M.2.2 M.1.length 0) (ca' := va_up ca M.1.length cA) hm (fun k hk => by simp [va_up, Nat.ne_of_lt hk]) (fun a ha => xm_xz_k a ha) (fun a ha => xm_xz_k a ha) (fun ci' fs' e => by cases e) (fun ty' e => by have e := Option.some.inj e; subst e; rw [e0]; exact hK1.2 0 (cA, .int) rfl) he hP hD hS
  have hw := kk _ _ _ _ _ _ h (va_up ad M.1.length q) (va_up ca M.1.length cA) ls H1 locs (by rw [List.length_append]; exact Nat.le_add_right_of_le hn) (fun k hk => ⟨by rw [← (hag k hk).1]; simp [va_up, Nat.ne_of_lt (Nat.lt_of_lt_of_le hk hn)], by rw [← (hag k hk).2]; simp [va_up, Nat.ne_of_lt (Nat.lt_of_lt_of_le hk hn)]⟩) (by rw [List.length_append]; exact hl.up) (by rw [List.length_append]; exact xm_hs_push (Nat.lt_succ_self _) (xm_hs.up (xm_hs_cons hs).2 (Nat.le_succ _))) hm2
  have eq : xm_v (va_up ad M.1.length q) ex (xv_r M.1.length) = .ref q := by show Value.ref _ = _; simp [va_up]
  rw [List.map_cons, eq] at hw
  exact hw
set_option maxHeartbeats 2000000 in
theorem xm_snd_newa1 (F : xm_fx own cc nL Ts ex xt C0 S0 p R s m args c D cl A) (O : xm_yok own cc Ts cl Y) (hini : Y.2.2.2.2.2 0 = 9 → meth.name = "<init>") (hRf : 1 ≤ R.frames) (hRl : 100 ≤ R.locals)
    (hoi : (Cond.instanceMethod objectInit).before args s = true ∧ (Cond.code objectInit ⟨#[0xb1]⟩ 1 none).before args s = true)
    (har : (Cond.arrayClass .int).before args s = true ∧ (Cond.arrayClass .long).before args s = true ∧ (Cond.arrayClass .boolean).before args s = true)
    (hcy : (Cond.native arraycopyName).before args s = true ∧ (Cond.static arraycopyName).before args s = true ∧ (Cond.initialized "java/lang/System").before args s = true)
    (hst : ∀ ix q, Y.2.2.2.2.1 ix = some q → ∃ (C n d : String), va_Z C n d (.ref (ex q)) A s s.heap ∧ (Cond.fieldLink own ix C n d).before args s = true)
    (hr : ∀ a1 a2 a3 a4 a5 a6, K a1 a2 a3 a4 a5 a6 → a5 ≤ C0 ∧ a6 ≤ S0)
    (kk : ∀ a1 a2 a3 a4 a5 a6, K a1 a2 a3 a4 a5 a6 → xm_W1 p l e R s m args below meth c Q D cl ex A nL n0 ad0 ca0 a1 a2 a3 a4 a5 a6) (h : (∃ (n : Int32) (N : Nat) (r : List xm_V) (pn : Nat), Y.1 pc = some (.newarray .long, pn) ∧ st = xv_i n :: r ∧ ¬ n < 0 ∧ n.toNatClampNeg = N ∧ N ≤ 67108864 ∧ K pn loc (xv_r M.1.length :: r) (M.1 ++ [xt_r 1 N], xz_2 M.2.1 M.1.length 0, xz_2 M.2.2 M.1.length 0) (nc + 1) (ns + N))) : xm_W1 p l e R s m args below meth c Q D cl ex A nL n0 ad0 ca0 pc loc st M nc ns := by
  obtain ⟨hx, hb, hml, hown, hts, hK, hA, ⟨hRc, hRs⟩, hT⟩ := F
  obtain ⟨hdec, hkc, hkl, hfo, hno, hob, hcp⟩ := O
  intro ad ca ls H locs hn hag hl hs hm
  obtain ⟨n, N, r, pn, hi, rfl, hn0, hN, hN2, h⟩ := h
  obtain ⟨ln, hd, hpn, hln⟩ := hdec pc _ hi
  dsimp only at hd hpn hln
  obtain rfl := xm_ln 1 hln rfl
  subst hpn
  obtain ⟨hc1, hs1⟩ := hr _ _ _ _ _ _ h
  refine va_newa (atype := .long) hx hb (show (Cond.arrayClass (newarray.typeOf .long)).before args s = true from har.2.1) (ty := .long) rfl hK hm.2.1 hm.2.2.1 hm.2.2.2.1 hA (a0 := (N, Sum.inr (Sum.inl fun _ => 0))) (fun cA => rfl) hn0 hN (by show N * 8 ≤ 536870912; omega) (Nat.le_trans hc1 hRc) (Nat.le_trans hs1 hRs) hd (fun q cA H1 hK1 hP hD hS => ?_)
  rw [← xm_st_up (q := q) (xm_hs_cons hs).2]
  have e0 : va_up ca M.1.length cA M.1.length = cA := by simp [va_up]
  have he : (Sum.inl (cA, N, Sum.inr (Sum.inl fun _ => 0)) : va_E) = Sum.inl (va_up ca M.1.length cA M.1.length, N, Sum.inr (Sum.inl (xz_2 M.2.2 M.1.length 0 M.1.length))) := by rw [e0, xm_ez]
  have hm2 := xm_push (t := xt_r 1 N) (I' := xz_2 M.2.1 M.1.length 0) (J' := xz_2 M.2.2 M.1.length 0) (ca' := va_up ca M.1.length cA) hm (fun k hk => by simp [va_up, Nat.ne_of_lt hk]) (fun a ha => xm_xz_k a ha) (fun a ha => xm_xz_k a ha) (fun ci' fs' e => by cases e) (fun ty' e => by have e := Option.some.inj e; subst e; rw [e0]; exact hK1.2 0 (cA, .long) rfl) he hP hD hS
  have hw := kk _ _ _ _ _ _ h (va_up ad M.1.length q) (va_up ca M.1.length cA) ls H1 locs (by rw [List.length_append]; exact Nat.le_add_right_of_le hn) (fun k hk => ⟨by rw [← (hag k hk).1]; simp [va_up, Nat.ne_of_lt (Nat.lt_of_lt_of_le hk hn)], by rw [← (hag k hk).2]; simp [va_up, Nat.ne_of_lt (Nat.lt_of_lt_of_le hk hn)]⟩) (by rw [List.length_append]; exact hl.up) (by rw [List.length_append]; exact xm_hs_push (Nat.lt_succ_self _) (xm_hs.up (xm_hs_cons hs).2 (Nat.le_succ _))) hm2
  have eq : xm_v (va_up ad M.1.length q) ex (xv_r M.1.length) = .ref q := by show Value.ref _ = _; simp [va_up]
  rw [List.map_cons, eq] at hw
  exact hw
set_option maxHeartbeats 2000000 in
theorem xm_snd_newa2 (F : xm_fx own cc nL Ts ex xt C0 S0 p R s m args c D cl A) (O : xm_yok own cc Ts cl Y) (hini : Y.2.2.2.2.2 0 = 9 → meth.name = "<init>") (hRf : 1 ≤ R.frames) (hRl : 100 ≤ R.locals)
    (hoi : (Cond.instanceMethod objectInit).before args s = true ∧ (Cond.code objectInit ⟨#[0xb1]⟩ 1 none).before args s = true)
    (har : (Cond.arrayClass .int).before args s = true ∧ (Cond.arrayClass .long).before args s = true ∧ (Cond.arrayClass .boolean).before args s = true)
    (hcy : (Cond.native arraycopyName).before args s = true ∧ (Cond.static arraycopyName).before args s = true ∧ (Cond.initialized "java/lang/System").before args s = true)
    (hst : ∀ ix q, Y.2.2.2.2.1 ix = some q → ∃ (C n d : String), va_Z C n d (.ref (ex q)) A s s.heap ∧ (Cond.fieldLink own ix C n d).before args s = true)
    (hr : ∀ a1 a2 a3 a4 a5 a6, K a1 a2 a3 a4 a5 a6 → a5 ≤ C0 ∧ a6 ≤ S0)
    (kk : ∀ a1 a2 a3 a4 a5 a6, K a1 a2 a3 a4 a5 a6 → xm_W1 p l e R s m args below meth c Q D cl ex A nL n0 ad0 ca0 a1 a2 a3 a4 a5 a6) (h : (∃ (n : Int32) (N : Nat) (r : List xm_V) (pn : Nat), Y.1 pc = some (.newarray .boolean, pn) ∧ st = xv_i n :: r ∧ ¬ n < 0 ∧ n.toNatClampNeg = N ∧ N ≤ 67108864 ∧ K pn loc (xv_r M.1.length :: r) (M.1 ++ [xt_r 2 N], xz_2 M.2.1 M.1.length 0, xz_2 M.2.2 M.1.length 0) (nc + 1) (ns + N))) : xm_W1 p l e R s m args below meth c Q D cl ex A nL n0 ad0 ca0 pc loc st M nc ns := by
  obtain ⟨hx, hb, hml, hown, hts, hK, hA, ⟨hRc, hRs⟩, hT⟩ := F
  obtain ⟨hdec, hkc, hkl, hfo, hno, hob, hcp⟩ := O
  intro ad ca ls H locs hn hag hl hs hm
  obtain ⟨n, N, r, pn, hi, rfl, hn0, hN, hN2, h⟩ := h
  obtain ⟨ln, hd, hpn, hln⟩ := hdec pc _ hi
  dsimp only at hd hpn hln
  obtain rfl := xm_ln 1 hln rfl
  subst hpn
  obtain ⟨hc1, hs1⟩ := hr _ _ _ _ _ _ h
  refine va_newa (atype := .boolean) hx hb (show (Cond.arrayClass (newarray.typeOf .boolean)).before args s = true from har.2.2) (ty := .boolean) rfl hK hm.2.1 hm.2.2.1 hm.2.2.2.1 hA (a0 := (N, Sum.inl fun _ => 0)) (fun cA => rfl) hn0 hN (by show N * 1 ≤ 536870912; omega) (Nat.le_trans hc1 hRc) (Nat.le_trans hs1 hRs) hd (fun q cA H1 hK1 hP hD hS => ?_)
  rw [← xm_st_up (q := q) (xm_hs_cons hs).2]
  have e0 : va_up ca M.1.length cA M.1.length = cA := by simp [va_up]
  have he : (Sum.inl (cA, N, Sum.inl fun _ => 0) : va_E) = Sum.inl (va_up ca M.1.length cA M.1.length, N, Sum.inl (xz_2 M.2.1 M.1.length 0 M.1.length)) := by rw [e0, xm_ez]
  have hm2 := xm_push (t := xt_r 2 N) (I' := xz_2 M.2.1 M.1.length 0) (J' := xz_2 M.2.2 M.1.length 0) (ca' := va_up ca M.1.length cA) hm (fun k hk => by simp [va_up, Nat.ne_of_lt hk]) (fun a ha => xm_xz_k a ha) (fun a ha => xm_xz_k a ha) (fun ci' fs' e => by cases e) (fun ty' e => by have e := Option.some.inj e; subst e; rw [e0]; exact hK1.2 0 (cA, .boolean) rfl) he hP hD hS
  have hw := kk _ _ _ _ _ _ h (va_up ad M.1.length q) (va_up ca M.1.length cA) ls H1 locs (by rw [List.length_append]; exact Nat.le_add_right_of_le hn) (fun k hk => ⟨by rw [← (hag k hk).1]; simp [va_up, Nat.ne_of_lt (Nat.lt_of_lt_of_le hk hn)], by rw [← (hag k hk).2]; simp [va_up, Nat.ne_of_lt (Nat.lt_of_lt_of_le hk hn)]⟩) (by rw [List.length_append]; exact hl.up) (by rw [List.length_append]; exact xm_hs_push (Nat.lt_succ_self _) (xm_hs.up (xm_hs_cons hs).2 (Nat.le_succ _))) hm2
  have eq : xm_v (va_up ad M.1.length q) ex (xv_r M.1.length) = .ref q := by show Value.ref _ = _; simp [va_up]
  rw [List.map_cons, eq] at hw
  exact hw
set_option maxHeartbeats 2000000 in
theorem xm_snd_obj (F : xm_fx own cc nL Ts ex xt C0 S0 p R s m args c D cl A) (O : xm_yok own cc Ts cl Y) (hini : Y.2.2.2.2.2 0 = 9 → meth.name = "<init>") (hRf : 1 ≤ R.frames) (hRl : 100 ≤ R.locals)
    (hoi : (Cond.instanceMethod objectInit).before args s = true ∧ (Cond.code objectInit ⟨#[0xb1]⟩ 1 none).before args s = true)
    (har : (Cond.arrayClass .int).before args s = true ∧ (Cond.arrayClass .long).before args s = true ∧ (Cond.arrayClass .boolean).before args s = true)
    (hcy : (Cond.native arraycopyName).before args s = true ∧ (Cond.static arraycopyName).before args s = true ∧ (Cond.initialized "java/lang/System").before args s = true)
    (hst : ∀ ix q, Y.2.2.2.2.1 ix = some q → ∃ (C n d : String), va_Z C n d (.ref (ex q)) A s s.heap ∧ (Cond.fieldLink own ix C n d).before args s = true)
    (hr : ∀ a1 a2 a3 a4 a5 a6, K a1 a2 a3 a4 a5 a6 → a5 ≤ C0 ∧ a6 ≤ S0)
    (kk : ∀ a1 a2 a3 a4 a5 a6, K a1 a2 a3 a4 a5 a6 → xm_W1 p l e R s m args below meth c Q D cl ex A nL n0 ad0 ca0 a1 a2 a3 a4 a5 a6) (h : (∃ (ix : Nat) (k : Nat) (r : List xm_V) (pn : Nat), Y.1 pc = some (.invokespecial ix, pn) ∧ Y.2.2.2.2.2 ix = 2 ∧ st = xv_r k :: r ∧ xm_c8 r = true ∧ K pn loc r M nc ns)) : xm_W1 p l e R s m args below meth c Q D cl ex A nL n0 ad0 ca0 pc loc st M nc ns := by
  obtain ⟨hx, hb, hml, hown, hts, hK, hA, ⟨hRc, hRs⟩, hT⟩ := F
  obtain ⟨hdec, hkc, hkl, hfo, hno, hob, hcp⟩ := O
  intro ad ca ls H locs hn hag hl hs hm
  obtain ⟨ix, k, r, pn, hi, hx2, rfl, h8, h⟩ := h
  obtain ⟨ln, hd, hpn, hln⟩ := hdec pc _ hi
  dsimp only at hd hpn hln
  obtain rfl := xm_ln 2 hln rfl
  subst hpn
  have h9 := xm_sum8 (ad := ad) (ex := ex) h8
  exact W.objInit hx hb hown (hts _ (hob ix hx2)) hoi.1 hoi.2 (g := F0 m pc ls ((xv_r k :: r).map (xm_v ad ex))) rfl (hl.1.1.trans hml.symm) rfl hd hRf (by show 2 * 0 + _ + 12 ≤ _; omega) (kk _ _ _ _ _ _ h ad ca ls H locs hn hag hl (xm_hs_cons hs).2 hm)
set_option maxHeartbeats 2000000 in
theorem xm_snd_copy (F : xm_fx own cc nL Ts ex xt C0 S0 p R s m args c D cl A) (O : xm_yok own cc Ts cl Y) (hini : Y.2.2.2.2.2 0 = 9 → meth.name = "<init>") (hRf : 1 ≤ R.frames) (hRl : 100 ≤ R.locals)
    (hoi : (Cond.instanceMethod objectInit).before args s = true ∧ (Cond.code objectInit ⟨#[0xb1]⟩ 1 none).before args s = true)
    (har : (Cond.arrayClass .int).before args s = true ∧ (Cond.arrayClass .long).before args s = true ∧ (Cond.arrayClass .boolean).before args s = true)
    (hcy : (Cond.native arraycopyName).before args s = true ∧ (Cond.static arraycopyName).before args s = true ∧ (Cond.initialized "java/lang/System").before args s = true)
    (hst : ∀ ix q, Y.2.2.2.2.1 ix = some q → ∃ (C n d : String), va_Z C n d (.ref (ex q)) A s s.heap ∧ (Cond.fieldLink own ix C n d).before args s = true)
    (hr : ∀ a1 a2 a3 a4 a5 a6, K a1 a2 a3 a4 a5 a6 → a5 ≤ C0 ∧ a6 ≤ S0)
    (kk : ∀ a1 a2 a3 a4 a5 a6, K a1 a2 a3 a4 a5 a6 → xm_W1 p l e R s m args below meth c Q D cl ex A nL n0 ad0 ca0 a1 a2 a3 a4 a5 a6) (h : (∃ (ix : Nat) (n : Int32) (dp : Int32) (sp : Int32) (kd : Nat) (ks : Nat) (nd : Nat) (n0 : Nat) (r : List xm_V) (pn : Nat), Y.1 pc = some (.invokestatic ix, pn) ∧ Y.2.2.2.2.2 ix = 1 ∧ st = xv_i n :: xv_i dp :: xv_r kd :: xv_i sp :: xv_r ks :: r ∧ M.1[ks]? = some (xt_r 1 n0) ∧ M.1[kd]? = some (xt_r 1 nd) ∧ ¬ sp < 0 ∧ ¬ dp < 0 ∧ ¬ n < 0 ∧ sp.toNatClampNeg + n.toNatClampNeg ≤ n0 ∧ dp.toNatClampNeg + n.toNatClampNeg ≤ nd ∧ ks ≠ kd ∧ xm_c8 r = true ∧ K pn loc r (M.1, M.2.1, xc_y M.2.2 kd (va_cpy (M.2.2 ks) (M.2.2 kd) sp.toNatClampNeg dp.toNatClampNeg n.toNatClampNeg)) nc ns)) : xm_W1 p l e R s m args below meth c Q D cl ex A nL n0 ad0 ca0 pc loc st M nc ns := by
  obtain ⟨hx, hb, hml, hown, hts, hK, hA, ⟨hRc, hRs⟩, hT⟩ := F
  obtain ⟨hdec, hkc, hkl, hfo, hno, hob, hcp⟩ := O
  intro ad ca ls H locs hn hag hl hs hm
  obtain ⟨ix, n, dp, sp, kd, ks, nd, n1, r, pn, hi, hx1, rfl, hM0, hM1, h1, h2, h3, h4, h5, hkk, h8, h⟩ := h
  obtain ⟨ln, hd, hpn, hln⟩ := hdec pc _ hi
  dsimp only at hd hpn hln
  obtain rfl := xm_ln 2 hln rfl
  subst hpn
  have h9 := xm_sum8 (ad := ad) (ex := ex) h8
  have h10 : nativeFrameWords "java/lang/System" "arraycopy" 5 ≤ 60 := by decide
  refine va_copyl hx hb (hml.trans hl.1.1.symm) hown (hts _ (hcp ix hx1)) hcy.1 hcy.2.1 hcy.2.2 (xm_K2 hK (hm.2.2.2.2 ks _ .long hM0 rfl) (hm.2.2.2.2 kd _ .long hM1 rfl)) hm.2.1 hm.2.2.1 hm.2.2.2.1 ks kd 0 1 (xm_w_at hM0) (xm_w_at hM1) rfl rfl rfl h1 h2 h3 h4 h5 (fun i _ => rfl) hRf (by omega) hd (fun H1 locs1 hP hD hS => ?_)
  have he : (Sum.inl (ca kd, nd, Sum.inr (Sum.inl (va_cpy (M.2.2 ks) (M.2.2 kd) sp.toNatClampNeg dp.toNatClampNeg n.toNatClampNeg))) : va_E) = Sum.inl (ca kd, nd, Sum.inr (Sum.inl (xc_y M.2.2 kd (va_cpy (M.2.2 ks) (M.2.2 kd) sp.toNatClampNeg dp.toNatClampNeg n.toNatClampNeg) kd))) := by rw [xm_ec]
  exact kk _ _ _ _ _ _ h ad ca ls H1 locs1 hn hag hl (xm_hs_cons (xm_hs_cons (xm_hs_cons (xm_hs_cons (xm_hs_cons hs).2).2).2).2).2 (hm.store hM1 (fun _ _ => rfl) xm_xc_k he hP hD hS)
theorem xm_sndG (F : xm_fx own cc nL Ts ex xt C0 S0 p R s m args c D cl A) (O : xm_yok own cc Ts cl Y) (hini : Y.2.2.2.2.2 0 = 9 → meth.name = "<init>") (hRf : 1 ≤ R.frames) (hRl : 100 ≤ R.locals)
    (hoi : (Cond.instanceMethod objectInit).before args s = true ∧ (Cond.code objectInit ⟨#[0xb1]⟩ 1 none).before args s = true)
    (har : (Cond.arrayClass .int).before args s = true ∧ (Cond.arrayClass .long).before args s = true ∧ (Cond.arrayClass .boolean).before args s = true)
    (hcy : (Cond.native arraycopyName).before args s = true ∧ (Cond.static arraycopyName).before args s = true ∧ (Cond.initialized "java/lang/System").before args s = true)
    (hst : ∀ ix q, Y.2.2.2.2.1 ix = some q → ∃ (C n d : String), va_Z C n d (.ref (ex q)) A s s.heap ∧ (Cond.fieldLink own ix C n d).before args s = true)
    (hr : ∀ a1 a2 a3 a4 a5 a6, K a1 a2 a3 a4 a5 a6 → a5 ≤ C0 ∧ a6 ≤ S0)
    (kk : ∀ a1 a2 a3 a4 a5 a6, K a1 a2 a3 a4 a5 a6 → xm_W1 p l e R s m args below meth c Q D cl ex A nL n0 ad0 ca0 a1 a2 a3 a4 a5 a6) (h : xm_sG Y xt nL pc loc st M nc ns K) : xm_W1 p l e R s m args below meth c Q D cl ex A nL n0 ad0 ca0 pc loc st M nc ns := by
  unfold xm_sG at h
  rcases h with h | h | h | h | h | h
  · exact xm_snd_new F O hini hRf hRl hoi har hcy hst hr kk h
  · exact xm_snd_newa0 F O hini hRf hRl hoi har hcy hst hr kk h
  · exact xm_snd_newa1 F O hini hRf hRl hoi har hcy hst hr kk h
  · exact xm_snd_newa2 F O hini hRf hRl hoi har hcy hst hr kk h
  · exact xm_snd_obj F O hini hRf hRl hoi har hcy hst hr kk h
  · exact xm_snd_copy F O hini hRf hRl hoi har hcy hst hr kk h
theorem xm_exG (h : xm_sG Y xt nL pc loc st M nc ns K) : ∃ a1 a2 a3 a4 a5 a6, K a1 a2 a3 a4 a5 a6 ∧ nc ≤ a5 ∧ ns ≤ a6 := by
  unfold xm_sG at h
  rcases h with h | h | h | h | h | h
  · obtain ⟨_, _, _, _, _, _, h⟩ := h
    exact ⟨_, _, _, _, _, _, h, Nat.le_add_right _ _, Nat.le_add_right _ _⟩
  · obtain ⟨_, _, _, _, _, _, _, _, _, h⟩ := h
    exact ⟨_, _, _, _, _, _, h, Nat.le_add_right _ _, Nat.le_add_right _ _⟩
  · obtain ⟨_, _, _, _, _, _, _, _, _, h⟩ := h
    exact ⟨_, _, _, _, _, _, h, Nat.le_add_right _ _, Nat.le_add_right _ _⟩
  · obtain ⟨_, _, _, _, _, _, _, _, _, h⟩ := h
    exact ⟨_, _, _, _, _, _, h, Nat.le_add_right _ _, Nat.le_add_right _ _⟩
  · obtain ⟨_, _, _, _, _, _, _, _, h⟩ := h
    exact ⟨_, _, _, _, _, _, h, Nat.le_refl _, Nat.le_refl _⟩
  · obtain ⟨_, _, _, _, _, _, _, _, _, _, _, _, _, _, _, _, _, _, _, _, _, _, h⟩ := h
    exact ⟨_, _, _, _, _, _, h, Nat.le_refl _, Nat.le_refl _⟩
end XSTEP
end
section
/-! All steps. -/
section XSTEP
variable {p : Program} {l : Launch} {e : Env} {R : Room} {s : State} {m : MethodId} {args : Array Value} {below : List Frame} {meth : Method} {c : Code} {Q : State → Prop} {D : va_G} {cl : List vw_C} {ex : Nat → Nat} {A : Nat → Prop} {nL n0 : Nat} {ad0 : Nat → Nat} {ca0 : Nat → ClassId}
variable {own : String} {cc : ByteArray} {Ts : List Cond} {xt : Nat → Nat × (Nat → Int32)} {C0 S0 : Nat} {Y : xm_Y} {K : xm_K} {pc : Nat} {loc : xm_L} {st : List xm_V} {M : xm_M} {nc ns : Nat}
theorem xm_sound (F : xm_fx own cc nL Ts ex xt C0 S0 p R s m args c D cl A) (O : xm_yok own cc Ts cl Y) (hini : Y.2.2.2.2.2 0 = 9 → meth.name = "<init>") (hRf : 1 ≤ R.frames) (hRl : 100 ≤ R.locals)
    (hoi : (Cond.instanceMethod objectInit).before args s = true ∧ (Cond.code objectInit ⟨#[0xb1]⟩ 1 none).before args s = true)
    (har : (Cond.arrayClass .int).before args s = true ∧ (Cond.arrayClass .long).before args s = true ∧ (Cond.arrayClass .boolean).before args s = true)
    (hcy : (Cond.native arraycopyName).before args s = true ∧ (Cond.static arraycopyName).before args s = true ∧ (Cond.initialized "java/lang/System").before args s = true)
    (hst : ∀ ix q, Y.2.2.2.2.1 ix = some q → ∃ (C n d : String), va_Z C n d (.ref (ex q)) A s s.heap ∧ (Cond.fieldLink own ix C n d).before args s = true)
    (hr : ∀ a1 a2 a3 a4 a5 a6, K a1 a2 a3 a4 a5 a6 → a5 ≤ C0 ∧ a6 ≤ S0)
    (kk : ∀ a1 a2 a3 a4 a5 a6, K a1 a2 a3 a4 a5 a6 → xm_W1 p l e R s m args below meth c Q D cl ex A nL n0 ad0 ca0 a1 a2 a3 a4 a5 a6) (h : xm_s1 Y xt nL pc loc st M nc ns K) : xm_W1 p l e R s m args below meth c Q D cl ex A nL n0 ad0 ca0 pc loc st M nc ns := by
  unfold xm_s1 at h
  rcases h with h | h | h | h | h | h | h
  · exact xm_sndA F O hini hRf hRl hoi har hcy hst hr kk h
  · exact xm_sndB F O hini hRf hRl hoi har hcy hst hr kk h
  · exact xm_sndC F O hini hRf hRl hoi har hcy hst hr kk h
  · exact xm_sndD F O hini hRf hRl hoi har hcy hst hr kk h
  · exact xm_sndE F O hini hRf hRl hoi har hcy hst hr kk h
  · exact xm_sndF F O hini hRf hRl hoi har hcy hst hr kk h
  · exact xm_sndG F O hini hRf hRl hoi har hcy hst hr kk h
theorem xm_s1_ex (h : xm_s1 Y xt nL pc loc st M nc ns K) : ∃ a1 a2 a3 a4 a5 a6, K a1 a2 a3 a4 a5 a6 ∧ nc ≤ a5 ∧ ns ≤ a6 := by
  unfold xm_s1 at h
  rcases h with h | h | h | h | h | h | h
  · exact xm_exA h
  · exact xm_exB h
  · exact xm_exC h
  · exact xm_exD h
  · exact xm_exE h
  · exact xm_exF h
  · exact xm_exG h
end XSTEP
end
section
/-! A run of the abstract machine is a run of the machine: step, call, return. -/
-- what the methods are to the machine: names, bytes, answers; the words that all have
abbrev xm_N : Type := (Nat → MethodName) × (Nat → ByteArray) × (Nat → Option FieldType) × List Cond
def xm_rm (d C0 S0 : Nat) : Room := { frames := d + 1, cells := C0, slots := S0, locals := 200 * (d + 1) }
def xm_ws (P : xm_Pr) (N : xm_N) (y : Nat) : List Cond := Cond.code (N.1 y) (N.2.1 y) (P.2.1 y) (N.2.2.1 y) :: N.2.2.2
def xm_rt (k : Nat) (t : Option FieldType) : Prop := (k = 0 ∧ t = none) ∨ (k = 1 ∧ t = some .int) ∨ (k = 2 ∧ t = some .long) ∨ (k = 3 ∧ ((∃ n, t = some (.object n)) ∨ ∃ a, t = some (.array a))) ∨ (k = 4 ∧ t = some .boolean)
abbrev xm_A (h0 : Nat) : Nat → Prop := fun q => h0 ≤ q
abbrev xm_Z : Type := String × String × String
-- the world at a state
def xm_wd (D : va_G) (cl : List vw_C) (ex : Nat → Nat) (xt : Nat → Nat × (Nat → Int32)) (h0 : Nat) (z : xm_Z) (U : State) (H : Heap) (M : xm_M) (ad : Nat → Nat) (ca : Nat → ClassId) : Prop :=
  h0 ≤ H.size ∧ xm_scM M.1 ∧ va_P D cl (xm_w ad ca M) H ∧ va_D (xm_A h0) (xm_w ad ca M) ∧ va_K D cl [] U ∧ xm_ka ca M.1 U ∧ (∀ k, va_T .int (ex k) (xt k).1 (fun j => .int ((xt k).2 j)) (xm_A h0) U H) ∧ va_Z z.1 z.2.1 z.2.2 (.ref (ex 1)) (xm_A h0) U H
theorem xm_wd.moved {D : va_G} {cl : List vw_C} {ex : Nat → Nat} {xt : Nat → Nat × (Nat → Int32)} {h0 : Nat} {z : xm_Z} {u U : State} {H : Heap} {M : xm_M} {ad : Nat → Nat} {ca : Nat → ClassId} (hvm : u.vm.Alike U.vm) (h : xm_wd D cl ex xt h0 z u H M ad ca) : xm_wd D cl ex xt h0 z U H M ad ca := by
  obtain ⟨h1, h2, h3, h4, h5, h6, h7, h8⟩ := h
  exact ⟨h1, h2, h3, h4, va_K.moved hvm h5, fun k e ty a b => ⟨arrOfT_moved hvm (h6 k e ty a b).1, (h6 k e ty a b).2.moved hvm⟩, fun k => (h7 k).moved hvm, h8.moved hvm⟩
-- a method's end
def xm_Qc (D : va_G) (cl : List vw_C) (ex : Nat → Nat) (xt : Nat → Nat × (Nat → Int32)) (h0 : Nat) (z : xm_Z) (Q : xm_P) (n0 : Nat) (ad0 : Nat → Nat) (ca0 : Nat → ClassId) : Array Value → State → Outcome → State → Prop := fun _ st oc t =>
  (∃ (r : Option xm_V) (M : xm_M) (ad : Nat → Nat) (ca : Nat → ClassId), Q r M ∧ oc = .returned (r.map (xm_v ad ex)) ∧ n0 ≤ M.1.length ∧ (∀ k, k < n0 → ad k = ad0 k ∧ ca k = ca0 k) ∧ (∀ v, r = some v → xm_sc M.1.length v) ∧ xm_wd D cl ex xt h0 z t t.heap M ad ca) ∧ va_F (xm_A h0) st t
-- what a call needs of the tables
def xm_cok (P : xm_Pr) (N : xm_N) (cl : List vw_C) (y ix y' n kd ci : Nat) : Prop :=
  Cond.code (N.1 y') (N.2.1 y') (P.2.1 y') (N.2.2.1 y') ∈ N.2.2.2 ∧ plainName (N.1 y').cls = true ∧ ((N.1 y').cls ≠ "java/lang/invoke/MethodHandle" ∧ (N.1 y').cls ≠ "java/lang/invoke/VarHandle") ∧ Cond.initialized (N.1 y').cls ∈ N.2.2.2 ∧
  (∃ n1 : Nat, (parseMethodDescriptor (N.1 y').desc).map (fun d => d.parameters.length) = some n1 ∧
    ((kd = 0 ∧ n = n1 + 1 ∧ Cond.instanceMethod (N.1 y') ∈ N.2.2.2 ∧ (∃ T K, cl[ci]? = some ((N.1 y').cls, T, K)) ∧ Cond.selects (N.1 y').cls (N.1 y') (N.1 y') ∈ N.2.2.2 ∧ (Cond.methodLink (N.1 y).cls ix (N.1 y') ∈ N.2.2.2 ∨ ∃ host, Cond.methodLinkNest (N.1 y).cls ix (N.1 y') host ∈ N.2.2.2)) ∨
     (kd = 1 ∧ n = n1 ∧ Cond.static (N.1 y') ∈ N.2.2.2 ∧ Cond.methodLink (N.1 y).cls ix (N.1 y') ∈ N.2.2.2) ∨
     (kd = 2 ∧ n = n1 + 1 ∧ Cond.instanceMethod (N.1 y') ∈ N.2.2.2 ∧ (N.1 y').name = "<init>" ∧ N.2.2.1 y' = none ∧ (Cond.methodLink (N.1 y).cls ix (N.1 y') ∈ N.2.2.2 ∨ ∃ host, Cond.methodLinkNest (N.1 y).cls ix (N.1 y') host ∈ N.2.2.2))))
-- the tables are true of the program
def xm_pok (P : xm_Pr) (N : xm_N) (cl : List vw_C) (z : xm_Z) : Prop :=
  (∀ y, xm_yok (N.1 y).cls (N.2.1 y) N.2.2.2 cl (P.1 y) ∧ ((P.1 y).2.2.2.2.2 0 = 9 → (N.1 y).name = "<init>")) ∧ (∀ y, xm_rt (P.2.2.1 y) (N.2.2.1 y)) ∧ (∀ y, P.2.1 y ≤ 100) ∧
  (∀ w ∈ N.2.2.2, goodWord w = true) ∧
  (∀ y ix q, (P.1 y).2.2.2.2.1 ix = some q → q = 1 ∧ Cond.fieldLink (N.1 y).cls ix z.1 z.2.1 z.2.2 ∈ N.2.2.2) ∧
  (∀ y ix y' n kd ci, P.2.2.2 y ix = some (y', n, kd, ci) → xm_cok P N cl y ix y' n kd ci) ∧
  (Cond.instanceMethod objectInit ∈ N.2.2.2 ∧ Cond.code objectInit ⟨#[0xb1]⟩ 1 none ∈ N.2.2.2 ∧ Cond.arrayClass .int ∈ N.2.2.2 ∧ Cond.arrayClass .long ∈ N.2.2.2 ∧ Cond.arrayClass .boolean ∈ N.2.2.2 ∧ Cond.native arraycopyName ∈ N.2.2.2 ∧ Cond.static arraycopyName ∈ N.2.2.2 ∧ Cond.initialized "java/lang/System" ∈ N.2.2.2)
-- a method's own state and all that stands fixed through it
def xm_cx (P : xm_Pr) (N : xm_N) (D : va_G) (cl : List vw_C) (ex : Nat → Nat) (xt : Nat → Nat × (Nat → Int32)) (h0 : Nat) (z : xm_Z) (y : Nat) (p : Program) (s : State) (m : MethodId) (args : Array Value) (meth : Method) (c : Code) : Prop :=
  p.tables.exec = Jvm.exec ∧ c.code = N.2.1 y ∧ c.maxLocals = P.2.1 y ∧ s.vm.findClass (N.1 y).cls = some m.cls ∧ (∀ w ∈ N.2.2.2, w.before args s = true) ∧ meth.sig.returnType = N.2.2.1 y ∧ meth.locks = false ∧ ((N.1 y).name = "<init>" → meth.name = "<init>") ∧
  va_K D cl [] s ∧ h0 ≤ s.heap.size ∧ (∀ k, va_T .int (ex k) (xt k).1 (fun j => .int ((xt k).2 j)) (xm_A h0) s s.heap) ∧ va_Z z.1 z.2.1 z.2.2 (.ref (ex 1)) (xm_A h0) s s.heap
-- what a return needs
def xm_rtn (P : xm_Pr) (D : va_G) (cl : List vw_C) (ex : Nat → Nat) (h0 : Nat) (y C0 S0 : Nat) (Q : xm_P) (p : Program) (l : Launch) (e : Env) (R : Room) (s : State) (m : MethodId) (args : Array Value) (below : List Frame) (meth : Method) (c : Code) (n0 : Nat) (ad0 : Nat → Nat) (ca0 : Nat → ClassId) (Qf : State → Prop) : Prop :=
  ∀ (pc : Nat) (r : Option xm_V) (M : xm_M) (ad : Nat → Nat) (ca : Nat → ClassId) (ls : Array Slot) (H : Heap) (locs : List Loc) (nc ns : Nat), xm_retOk (P.1 y) (P.2.2.1 y) pc r → nc ≤ C0 → ns ≤ S0 → Q r M → n0 ≤ M.1.length → (∀ k, k < n0 → ad k = ad0 k ∧ ca k = ca0 k) → xm_hs M.1.length r.toList → xm_hm D cl (xm_A h0) s ad ca H locs M →
    W p l e R s m args below meth c H locs nc ns Qf (F0 m pc ls (r.toList.map (xm_v ad ex)))
def xm_rok (d C0 S0 : Nat) (R : Room) : Prop := d + 1 ≤ R.frames ∧ C0 ≤ R.cells ∧ S0 ≤ R.slots ∧ 200 * (d + 1) ≤ R.locals
def xm_G (P : xm_Pr) (N : xm_N) (xt : Nat → Nat × (Nat → Int32)) (l : Launch) (D : va_G) (cl : List vw_C) (ex : Nat → Nat) (h0 : Nat) (z : xm_Z) : xm_GT := fun d y C0 S0 Q pc loc st M nc ns =>
  (nc ≤ C0 ∧ ns ≤ S0 ∧ ∃ r M', Q r M') ∧
  ∀ (p : Program) (e : Env) (R : Room) (s : State) (m : MethodId) (args : Array Value) (below : List Frame) (meth : Method) (c : Code) (n0 : Nat) (ad0 : Nat → Nat) (ca0 : Nat → ClassId) (Qf : State → Prop), xm_rok d C0 S0 R → xm_cx P N D cl ex xt h0 z y p s m args meth c → xm_rtn P D cl ex h0 y C0 S0 Q p l e R s m args below meth c n0 ad0 ca0 Qf →
    xm_W1 p l e R s m args below meth c Qf D cl ex (xm_A h0) (P.2.1 y) n0 ad0 ca0 pc loc st M nc ns
theorem xm_en_args {ad ex : Nat → Nat} : ∀ {av : List xm_V} {b i : Nat} {v : xm_V}, (xm_en av)[i]? = some (some v) → (b + i, xm_v ad ex v) ∈ lv_args b (av.map (xm_v ad ex))
  | [], b, i, v, h => by simp [xm_en] at h
  | w :: r, b, i, v, h => by
    unfold xm_en at h
    show (b + i, xm_v ad ex v) ∈ (b, xm_v ad ex w) :: lv_args (if (xm_v ad ex w).category = 2 then b + 2 else b + 1) (r.map (xm_v ad ex))
    rw [xm_cat_v]
    cases hb : Nat.beq (xm_cat w) 2 with
    | true =>
      rw [hb] at h
      rw [if_pos (Nat.eq_of_beq_eq_true hb)]
      match i, h with
      | 0, h => simp at h; subst h; exact List.mem_cons_self
      | 1, h => simp at h
      | i + 2, h =>
        have h2 := xm_en_args (ad := ad) (ex := ex) (av := r) (b := b + 2) (i := i) (v := v) (by simpa using h)
        rw [show b + 2 + i = b + (i + 2) by omega] at h2
        exact List.mem_cons_of_mem _ h2
    | false =>
      rw [hb] at h
      rw [if_neg (fun q => by rw [q] at hb; cases hb)]
      match i, h with
      | 0, h => simp at h; subst h; exact List.mem_cons_self
      | i + 1, h =>
        have h2 := xm_en_args (ad := ad) (ex := ex) (av := r) (b := b + 1) (i := i) (v := v) (by simpa using h)
        rw [show b + 1 + i = b + (i + 1) by omega] at h2
        exact List.mem_cons_of_mem _ h2
theorem xm_en_sl {ad ex : Nat → Nat} : ∀ (av : List xm_V), (lg_sl (av.map (xm_v ad ex))).length = (xm_en av).length
  | [] => rfl
  | w :: r => by
    have ih := xm_en_sl (ad := ad) (ex := ex) r
    unfold xm_en
    show (List.flatMap _ (xm_v ad ex w :: r.map (xm_v ad ex))).length = _
    rw [List.flatMap_cons, List.length_append]
    rw [xm_cat_v]
    have ih : (List.flatMap (fun v : Value => if v.category = 2 then [Slot.val v, .second] else [.val v]) (r.map (xm_v ad ex))).length = (xm_en r).length := ih
    cases hb : Nat.beq (xm_cat w) 2 with
    | true => rw [if_pos (Nat.eq_of_beq_eq_true hb), ih]; simp; omega
    | false => rw [if_neg (fun q => by rw [q] at hb; cases hb), ih]; simp; omega
theorem xm_entry {ad ex : Nat → Nat} {n nL : Nat} {av : List xm_V} (hle : (xm_en av).length ≤ nL) (hs : xm_hs n av) : xm_hl ad ex n nL ((lg_sl (av.map (xm_v ad ex)) ++ List.replicate (nL - (lg_sl (av.map (xm_v ad ex))).length) Slot.unset).toArray) (xm_ent nL av) := by
  have hl := lv_entry (av.map (xm_v ad ex)) (n := nL) (by rw [xm_en_sl]; exact hle)
  refine ⟨⟨hl.1, hl.2.1⟩, fun i v hv => ?_⟩
  unfold xm_ent at hv
  by_cases hi : i < (xm_en av).length
  · rw [List.getElem?_append_left hi] at hv
    have h2 := xm_en_args (ad := ad) (ex := ex) (b := 0) hv
    rw [Nat.zero_add] at h2
    refine ⟨hl.2.2 _ h2, ?_⟩
    have hm : ∀ {a : List xm_V} {i : Nat}, (xm_en a)[i]? = some (some v) → v ∈ a := by
      intro a
      induction a with
      | nil => intro i h; simp [xm_en] at h
      | cons w r ih =>
        intro i h
        unfold xm_en at h
        cases hb : Nat.beq (xm_cat w) 2 with
        | true =>
          rw [hb] at h
          match i, h with
          | 0, h => simp at h; subst h; exact List.mem_cons_self
          | 1, h => simp at h
          | i + 2, h => exact List.mem_cons_of_mem _ (ih (i := i) (by simpa using h))
        | false =>
          rw [hb] at h
          match i, h with
          | 0, h => simp at h; subst h; exact List.mem_cons_self
          | i + 1, h => exact List.mem_cons_of_mem _ (ih (i := i) (by simpa using h))
    exact hs v (hm hv)
  · rw [List.getElem?_append_right (Nat.le_of_not_lt hi)] at hv
    have := List.getElem?_replicate (n := nL - (xm_en av).length) (a := (none : Option xm_V)) (i := i - (xm_en av).length)
    rw [this] at hv
    split at hv <;> simp at hv
section XMET
variable {P : xm_Pr} {N : xm_N} {xt : Nat → Nat × (Nat → Int32)} {l : Launch} {D : va_G} {cl : List vw_C} {ex : Nat → Nat} {h0 : Nat} {z : xm_Z}
theorem xm_goodT (O : xm_pok P N cl z) : GoodIn N.2.2.2 N.2.2.2 := fun w hw => ⟨hw, by
  have h := O.2.2.2.1 w hw
  cases w
  case arrayClass ty => exact Or.inr ⟨ty, rfl⟩
  all_goals exact Or.inl h⟩
-- the world at the call, for the callee
theorem xm_wd_at {s U : State} {H : Heap} {locs : List Loc} {M : xm_M} {ad : Nat → Nat} {ca : Nat → ClassId} (hm : xm_hm D cl (xm_A h0) s ad ca H locs M) (hK : va_K D cl [] s) (hh : h0 ≤ s.heap.size) (hT : ∀ k, va_T .int (ex k) (xt k).1 (fun j => .int ((xt k).2 j)) (xm_A h0) s s.heap) (hZ : va_Z z.1 z.2.1 z.2.2 (.ref (ex 1)) (xm_A h0) s s.heap)
    (hU : U.heap = H) (hvm : s.vm.Alike U.vm) : xm_wd D cl ex xt h0 z U U.heap M ad ca := by
  rw [hU]
  obtain ⟨g1, g2, g3, g4, g5⟩ := hm
  refine xm_wd.moved hvm ⟨Nat.le_trans hh g4.1, g1, g2, g3, hK, g5, fun k => (hT k).kept g4.2.1, hZ.kept g4.2.1⟩
-- the kit's own returns
theorem xm_rets (O : xm_pok P N cl z) {y C0 S0 : Nat} {Q : xm_P} {p : Program} {e : Env} {R : Room} {s : State} {m : MethodId} {args : Array Value} {below : List Frame} {meth : Method} {c : Code} {n0 : Nat} {ad0 : Nat → Nat} {ca0 : Nat → ClassId} (cx : xm_cx P N D cl ex xt h0 z y p s m args meth c) :
    xm_rtn P D cl ex h0 y C0 S0 Q p l e R s m args below meth c n0 ad0 ca0 (MQ below (xm_Qc D cl ex xt h0 z Q n0 ad0 ca0) args s C0 S0 (xm_A h0)) := by
  intro pc r M ad ca ls H locs nc ns hr h1 h2 hq hn hag hs hm
  obtain ⟨q1, q2, q3, q4, q5, q6, q7, q8, q9, q10, q11, q12⟩ := cx
  have hdec := (O.1 y).1.1
  have hrt := O.2.1 y
  have hend : ∀ t : State, t.heap = H → s.WarmedH t.vm → xm_Qc D cl ex xt h0 z Q n0 ad0 ca0 args s (.returned (r.map (xm_v ad ex))) t := fun t ht hW =>
    ⟨⟨r, M, ad, ca, hq, rfl, hn, hag, fun v hv => hs v (by rw [hv]; exact List.mem_cons_self), xm_wd_at hm q9 q10 q11 q12 ht hW.alike⟩, hm.2.2.2.1.F ht⟩
  refine W.widen h1 h2 ?_
  obtain ⟨pn, hr⟩ := hr
  match hk : P.2.2.1 y, r, hr with
  | 0, none, hr =>
    obtain ⟨ln, hd, -, hln⟩ := hdec pc _ hr
    obtain rfl : ln = 1 := xm_ln 0 hln rfl
    rw [hk] at hrt
    rcases hrt with ⟨-, e⟩ | ⟨ctr, -⟩ | ⟨ctr, -⟩ | ⟨ctr, -⟩ | ⟨ctr, -⟩ <;> try exact absurd ctr (by decide)
    exact W.vret q1 q2 (q6.trans e) hend hm.2.2.2.1.2.2 hd q7
  | 1, some (Sum.inl x), hr =>
    obtain ⟨ln, hd, -, hln⟩ := hdec pc _ hr
    obtain rfl : ln = 1 := xm_ln 0 hln rfl
    rw [hk] at hrt
    rcases hrt with ⟨ctr, -⟩ | ⟨-, e⟩ | ⟨ctr, -⟩ | ⟨ctr, -⟩ | ⟨ctr, -⟩ <;> try exact absurd ctr (by decide)
    exact W.iret q1 q2 (q6.trans e) hend hm.2.2.2.1.2.2 hd q7
  | 2, some (Sum.inr (Sum.inl x)), hr =>
    obtain ⟨ln, hd, -, hln⟩ := hdec pc _ hr
    obtain rfl : ln = 1 := xm_ln 0 hln rfl
    rw [hk] at hrt
    rcases hrt with ⟨ctr, -⟩ | ⟨ctr, -⟩ | ⟨-, e⟩ | ⟨ctr, -⟩ | ⟨ctr, -⟩ <;> try exact absurd ctr (by decide)
    exact W.lret q1 q2 (q6.trans e) hend hm.2.2.2.1.2.2 hd q7
  | 3, some (Sum.inr (Sum.inr (Sum.inl (some x)))), hr =>
    obtain ⟨ln, hd, -, hln⟩ := hdec pc _ hr
    obtain rfl : ln = 1 := xm_ln 0 hln rfl
    rw [hk] at hrt
    rcases hrt with ⟨ctr, -⟩ | ⟨ctr, -⟩ | ⟨ctr, -⟩ | ⟨-, ⟨n, e⟩ | ⟨n, e⟩⟩ | ⟨ctr, -⟩ <;> try exact absurd ctr (by decide)
    · exact W.aret q1 q2 (q6.trans e) (Or.inl ⟨n, rfl⟩) (Or.inr ⟨_, rfl⟩) hend hm.2.2.2.1.2.2 hd q7
    · exact W.aret q1 q2 (q6.trans e) (Or.inr ⟨n, rfl⟩) (Or.inr ⟨_, rfl⟩) hend hm.2.2.2.1.2.2 hd q7
  | 4, some (Sum.inl x), hr =>
    obtain ⟨hr, h01⟩ := hr
    obtain ⟨ln, hd, -, hln⟩ := hdec pc _ hr
    obtain rfl : ln = 1 := xm_ln 0 hln rfl
    rw [hk] at hrt
    rcases hrt with ⟨ctr, -⟩ | ⟨ctr, -⟩ | ⟨ctr, -⟩ | ⟨ctr, -⟩ | ⟨-, e⟩ <;> try exact absurd ctr (by decide)
    exact W.zret q1 q2 (q6.trans e) (by rcases h01 with rfl | rfl <;> rfl) hend hm.2.2.2.1.2.2 hd q7
-- a callee's contract
theorem xm_met (O : xm_pok P N cl z) {d y C0 S0 : Nat} {Q : xm_P} {av : List xm_V} {M : xm_M} {ad : Nat → Nat} {ca : Nat → ClassId} (hpl : plainName (N.1 y).cls = true) (hle : (xm_en av).length ≤ P.2.1 y) (hsc : xm_hs M.1.length av)
    (hG : xm_G P N xt l D cl ex h0 z d y C0 S0 Q 0 (xm_ent (P.2.1 y) av) [] M 0 0) :
    Met l (N.1 y) (xm_ws P N y) (xm_rm d C0 S0) (va_Pc (av.map (xm_v ad ex)) (fun U => xm_wd D cl ex xt h0 z U U.heap M ad ca)) (xm_Qc D cl ex xt h0 z Q M.1.length ad ca) C0 S0 (xm_A h0) := by
  refine Met.ofW (cc := N.2.1 y) (maxL := P.2.1 y) (ret := N.2.2.1 y) hpl rfl ?_
  intro p e s m args below meth c s₁ B hml hv
  obtain ⟨rfl, h1, h2, h3, h4, h5, h6, h7, h8⟩ := hv
  have hts := atoms_spec (ws := xm_ws P N y) B.pre
  have cx : xm_cx P N D cl ex xt h0 z y p s m (av.map (xm_v ad ex)).toArray meth c := ⟨B.exec, B.bytes, hml, findClass_of_methodNamed B.named, fun w hw => hts w (List.mem_cons_of_mem _ hw), B.returns, B.notSynchronized, fun q => (name_of_methodNamed B.named B.method).1.trans q, h5, h1, h7, h8⟩
  have w := hG.2 p e (xm_rm d C0 S0) s m _ below meth c M.1.length ad ca _ ⟨Nat.le_refl _, Nat.le_refl _, Nat.le_refl _, Nat.le_refl _⟩ cx (xm_rets O cx) ad ca _ s.heap [] (Nat.le_refl _) (fun _ _ => ⟨rfl, rfl⟩) (xm_entry hle hsc) (fun v hv => by cases hv) ⟨h2, h3, h4, va_S.rf, h6⟩
  rw [lg_entry_eq]
  exact w
-- a call, whatever it answers
theorem xm_call {p : Program} {e : Env} {R : Room} {s : State} {m : MethodId} {args : Array Value} {below : List Frame} {meth : Method} {c : Code} {H : Heap} {locs : List Loc} {nc ns mc ms pc : Nat} {ls : Array Slot} {st0 rest : List Value} {Qa : State → Outcome → State → Prop} {A : Nat → Prop} {Qw : State → Prop}
    (hr : va_Run p l e R s m args below meth c H locs nc ns mc ms (F0 m pc ls st0) rest Qa A) (hS : va_S A s.heap H locs) (hF : ∀ st o t, Qa st o t → va_F A st t)
    (kk : ∀ (v : Option Value) (st t : State) (H1 : Heap) (locs1 : List Loc), t.heap = H1 → s.vm.Alike t.vm → Qa st (.returned v) t → H.size ≤ H1.size → va_S A s.heap H1 locs1 → W p l e R s m args below meth c H1 locs1 (nc + mc) (ns + ms) Qw (F0 m (pc + 3) ls (v.toList ++ rest))) : W p l e R s m args below meth c H locs nc ns Qw (F0 m pc ls st0) := by
  intro T hT X
  obtain ⟨v, st₀, t, T', L, e0, X', hL, e1, e2, hq, st⟩ := hr T hT X
  obtain ⟨hz, hk⟩ := hF _ _ _ hq
  rw [e0] at hz hk
  obtain ⟨t2, a1, b1⟩ := kk v st₀ t T'.heap (locs ++ L) e1.symm (by rw [← e2]; exact X'.warmed.alike) hq (by rw [e1]; exact hz)
    ⟨Nat.le_trans hS.1 (by rw [e1]; exact hz), fun q h1 h2 => by rw [e1, hk q (Nat.lt_of_lt_of_le h1 hS.1) h2]; exact hS.2.1 q h1 h2, fun q hq => by
      rcases List.mem_append.mp hq with h | h
      · exact hS.2.2 q h
      · exact hL q h⟩ T' rfl X'
  exact ⟨t2, st t2 a1, b1⟩
theorem xm_blind {av : List Value} {M : xm_M} {ad : Nat → Nat} {ca : Nat → ClassId} : FrameBlind (va_Pc av (fun U => xm_wd D cl ex xt h0 z U U.heap M ad ca)) := fun a U g mk h => ⟨h.1, xm_wd.moved (u := U) (U := U.calling g mk a) (Vm.Alike.refl U.vm) h.2⟩
theorem xm_clo_S (O : xm_pok P N cl z) : xm_cS P xt (xm_G P N xt l D cl ex h0 z) := by
  intro d y C0 S0 Q pc loc st M nc ns K h hk
  obtain ⟨a1, a2, a3, a4, a5, a6, hK, g1, g2⟩ := xm_s1_ex h
  have r := (hk _ _ _ _ _ _ hK).1
  refine ⟨⟨Nat.le_trans g1 r.1, Nat.le_trans g2 r.2.1, r.2.2⟩, ?_⟩
  intro p e R s m args below meth c n0 ad0 ca0 Qf hR cx hrt
  obtain ⟨q1, q2, q3, q4, q5, q6, q7, q8, q9, q10, q11, q12⟩ := cx
  obtain ⟨o1, o2, o3, o4, o5, o6, o7⟩ := O
  refine xm_sound (own := (N.1 y).cls) (cc := N.2.1 y) (Ts := N.2.2.2) (xt := xt) (C0 := C0) (S0 := S0) (Y := P.1 y) ⟨q1, q2, q3, q4, q5, q9, fun q hq => Nat.le_trans q10 hq, ⟨hR.2.1, hR.2.2.1⟩, q11⟩ (o1 y).1 (fun q => q8 ((o1 y).2 q)) (Nat.le_trans (Nat.le_add_left 1 d) hR.1) (Nat.le_trans (show 100 ≤ 200 * (d + 1) by omega) hR.2.2.2)
    ⟨q5 _ o7.1, q5 _ o7.2.1⟩ ⟨q5 _ o7.2.2.1, q5 _ o7.2.2.2.1, q5 _ o7.2.2.2.2.1⟩ ⟨q5 _ o7.2.2.2.2.2.1, q5 _ o7.2.2.2.2.2.2.1, q5 _ o7.2.2.2.2.2.2.2⟩ ?_ (fun _ _ _ _ _ _ k => ⟨(hk _ _ _ _ _ _ k).1.1, (hk _ _ _ _ _ _ k).1.2.1⟩) (fun _ _ _ _ _ _ k => (hk _ _ _ _ _ _ k).2 p e R s m args below meth c n0 ad0 ca0 Qf hR ⟨q1, q2, q3, q4, q5, q6, q7, q8, q9, q10, q11, q12⟩ hrt) h
  intro ix q hq
  obtain ⟨rfl, hl⟩ := o5 y ix q hq
  exact ⟨_, _, _, q12, q5 _ hl⟩
theorem xm_clo_F : xm_cF (xm_G P N xt l D cl ex h0 z) := by
  intro d y C0 S0 Q pc loc loc' st M nc ns hle h
  refine ⟨h.1, fun p e R s m args below meth c n0 ad0 ca0 Qf hR cx hrt ad ca ls H locs hn hag hl hs hm => ?_⟩
  exact h.2 p e R s m args below meth c n0 ad0 ca0 Qf hR cx hrt ad ca ls H locs hn hag ⟨hl.1, fun i v hv => hl.2 i v (xm_le_at hle hv)⟩ hs hm
theorem xm_clo_R : xm_cR P (xm_G P N xt l D cl ex h0 z) := by
  intro d y C0 S0 Q pc loc M nc ns r hr h1 h2 hq
  refine ⟨⟨h1, h2, r, M, hq⟩, fun p e R s m args below meth c n0 ad0 ca0 Qf hR cx hrt ad ca ls H locs hn hag hl hs hm => ?_⟩
  exact hrt pc r M ad ca ls H locs nc ns hr h1 h2 hq hn hag hs hm
set_option maxHeartbeats 2000000 in
theorem xm_clo_C (O : xm_pok P N cl z) : xm_cC P (xm_G P N xt l D cl ex h0 z) := by
  intro d y C0 S0 Q pc loc M nc ns ix pn y' kd ci c1 s1 av rest Q' hi hc hle h8 hy hk
  have O0 := O
  obtain ⟨o1, o2, o3, o4, o5, o6, o7⟩ := O
  obtain ⟨w1, w2, w3, w4, n1, w5, w6⟩ := o6 y ix y' av.length kd ci hc
  obtain ⟨r0, M0, hq0⟩ := hy.1.2.2
  have rr := (hk r0 M0 hq0).1
  refine ⟨⟨by omega, by omega, rr.2.2⟩, fun p e R s m args below meth c n0 ad0 ca0 Qf hR cx hrt ad ca ls H locs hn hag hl hs hm => ?_⟩
  have cx0 := cx
  obtain ⟨q1, q2, q3, q4, q5, q6, q7, q8, q9, q10, q11, q12⟩ := cx
  have hsa : xm_hs M.1.length av := fun v hv => hs v (List.mem_append_left _ (List.mem_reverse.mpr hv))
  have hsr : xm_hs M.1.length rest := fun v hv => hs v (List.mem_append_right _ hv)
  have hM := xm_met (ad := ad) (ca := ca) O0 w2 hle hsa hy
  have hgT := xm_goodT O0
  have hG : GoodIn N.2.2.2 (xm_ws P N y') := fun w hw => by
    rcases List.mem_cons.mp hw with rfl | hw
    · exact hgT _ w1
    · exact hgT _ hw
  have hRR : (xm_rm d c1 s1).frames + 1 ≤ R.frames ∧ 8 + (P.2.1 y' + 11) + (xm_rm d c1 s1).locals ≤ R.locals := by
    have := o3 y'
    have h2 := hR.2.2.2
    refine ⟨hR.1, ?_⟩
    show 8 + (P.2.1 y' + 11) + 200 * (d + 1) ≤ R.locals
    omega
  have hfit : nc + c1 ≤ R.cells ∧ ns + s1 ≤ R.slots := ⟨Nat.le_trans rr.1 hR.2.1, Nat.le_trans rr.2.1 hR.2.2.1⟩
  have h9 := xm_sum8 (ad := ad) (ex := ex) h8
  have go : pn = pc + 3 → va_Run p l e R s m args below meth c H locs nc ns c1 s1 (F0 m pc ls ((av.reverse ++ rest).map (xm_v ad ex))) (rest.map (xm_v ad ex)) (xm_Qc D cl ex xt h0 z Q' M.1.length ad ca (av.map (xm_v ad ex)).toArray) (xm_A h0) →
      W p l e R s m args below meth c H locs nc ns Qf (F0 m pc ls ((av.reverse ++ rest).map (xm_v ad ex))) := by
    intro hpn hrun
    refine xm_call hrun hm.2.2.2.1 (fun st o t q => q.2) (fun v st t H1 locs1 ht hvm hq hsz hS => ?_)
    obtain ⟨⟨r, M1, ad1, ca1, hQ, hv, hle1, hag1, hsc1, hwd⟩, -⟩ := hq
    have hwd2 := xm_wd.moved hvm.symm hwd
    rw [ht] at hwd2
    obtain ⟨g1, g2, g3, g4, g5, g6, g7, g8⟩ := hwd2
    have e1 : ∀ v, xm_sc M.1.length v → xm_v ad1 ex v = xm_v ad ex v := by
      intro v hv
      rcases v with x | x | (_ | k) | k
      · rfl
      · rfl
      · rfl
      · show Value.ref (ad1 k) = Value.ref (ad k)
        rw [(hag1 k hv).1]
      · rfl
    have e2 : (r.toList ++ rest).map (xm_v ad1 ex) = v.toList ++ rest.map (xm_v ad ex) := by
      injection hv with hv
      rw [hv, List.map_append, List.map_congr_left (fun w hw => e1 w (hsr w hw))]
      cases r <;> rfl
    have w := (hk r M1 hQ).2 p e R s m args below meth c n0 ad0 ca0 Qf hR cx0 hrt ad1 ca1 ls H1 locs1 (Nat.le_trans hn hle1) (fun k hk => ⟨(hag1 k (Nat.lt_of_lt_of_le hk hn)).1.trans (hag k hk).1, (hag1 k (Nat.lt_of_lt_of_le hk hn)).2.trans (hag k hk).2⟩)
      ⟨hl.1, fun i v hv => ⟨by rw [e1 v (hl.2 i v hv).2]; exact (hl.2 i v hv).1, xm_sc_le hle1 (hl.2 i v hv).2⟩⟩
      (fun v hv => by
        rcases List.mem_append.mp hv with hv | hv
        · cases r with
          | none => cases hv
          | some r => simp at hv; subst hv; exact hsc1 v rfl
        · exact xm_sc_le hle1 (hsr v hv))
      ⟨g2, g3, g4, hS, g6⟩
    rw [e2, hpn] at w
    exact w
  have hpre : ∀ U : State, U.heap = H → s.WarmedH U.vm → xm_wd D cl ex xt h0 z U U.heap M ad ca := fun U hU hW => xm_wd_at hm q9 q10 q11 q12 hU hW.alike
  rcases hi with ⟨rfl, hI, k, fs, as, rfl, hT⟩ | ⟨rfl, hI⟩ | ⟨rfl, hI, k, as, rfl⟩
  · obtain ⟨ln, hd, hpn, hln⟩ := (o1 y).1.1 pc _ hI
    obtain rfl : ln = 3 := xm_ln 2 hln rfl
    rcases w6 with ⟨-, hn1, hin, ⟨T1, K1, hcl⟩, hsel, hlk⟩ | ⟨ctr, -⟩ | ⟨ctr, -⟩ <;> try exact absurd ctr (by decide)
    have hrec := va_recv q9 hm.2.1 hcl (xm_w_at hT)
    have hst : ((xv_r k :: as).reverse ++ rest).map (xm_v ad ex) = (as.map (xm_v ad ex)).reverse ++ .ref (ad k) :: rest.map (xm_v ad ex) := by simp [xm_v]
    have hlen : (as.map (xm_v ad ex)).length = n1 := by rw [List.length_map]; simpa using hn1
    rcases hlk with hlk | ⟨host, hlk⟩
    · exact go hpn (va_runV ⟨q1, q2, q3, q4, q5⟩ hM ⟨callB_of n1 q5 hG rfl rfl rfl (q5 _ w4) (q5 _ hlk) ⟨w3.1, w3.2, w5⟩ hRR, q5 _ hin, q5 _ hsel⟩ ⟨xm_blind, hrec, fun U hU hW => ⟨rfl, hpre U hU hW⟩⟩ rfl hlen hl.1.1 hst (by show 2 * 0 + _ ≤ 8; omega) hd hfit)
    · refine go hpn (va_runVN ⟨q1, q2, q3, q4, q5⟩ hM ⟨⟨⟨rfl, rfl, hRR.1, hRR.2, pay_in q5 hG, List.mem_cons_self⟩, q5 _ w1, q5 _ w4, w3, fun sig h => ?_, q5 _ hlk⟩, q5 _ hin, q5 _ hsel⟩ ⟨xm_blind, hrec, fun U hU hW => ⟨rfl, hpre U hU hW⟩⟩ rfl hlen hl.1.1 hst (by show 2 * 0 + _ ≤ 8; omega) hd hfit)
      rw [h] at w5
      exact (Option.some.inj w5).symm
  · obtain ⟨ln, hd, hpn, hln⟩ := (o1 y).1.1 pc _ hI
    obtain rfl : ln = 3 := xm_ln 2 hln rfl
    rcases w6 with ⟨ctr, -⟩ | ⟨-, hn1, hsta, hlk⟩ | ⟨ctr, -⟩ <;> try exact absurd ctr (by decide)
    have hst : (av.reverse ++ rest).map (xm_v ad ex) = (av.map (xm_v ad ex)).reverse ++ rest.map (xm_v ad ex) := by simp
    exact go hpn (va_runS ⟨q1, q2, q3, q4, q5⟩ hM ⟨callB_of n1 q5 hG rfl rfl rfl (q5 _ w4) (q5 _ hlk) ⟨w3.1, w3.2, w5⟩ hRR, q5 _ hsta⟩ ⟨xm_blind, fun U hU hW => ⟨rfl, hpre U hU hW⟩⟩ rfl (by rw [List.length_map]; exact hn1) hl.1.1 hst (by show 2 * 0 + _ ≤ 8; omega) hd hfit)
  · obtain ⟨ln, hd, hpn, hln⟩ := (o1 y).1.1 pc _ hI
    obtain rfl : ln = 3 := xm_ln 2 hln rfl
    rcases w6 with ⟨ctr, -⟩ | ⟨ctr, -⟩ | ⟨-, hn1, hin, hnm, hrn, hlk⟩ <;> try exact absurd ctr (by decide)
    have hst : ((xv_r k :: as).reverse ++ rest).map (xm_v ad ex) = (as.map (xm_v ad ex)).reverse ++ .ref (ad k) :: rest.map (xm_v ad ex) := by simp [xm_v]
    have hlen : (as.map (xm_v ad ex)).length = n1 := by rw [List.length_map]; simpa using hn1
    have hws : xm_ws P N y' = Cond.code (N.1 y') (N.2.1 y') (P.2.1 y') none :: N.2.2.2 := by unfold xm_ws; rw [hrn]
    rcases hlk with hlk | ⟨host, hlk⟩
    · exact go hpn (va_runI ⟨q1, q2, q3, q4, q5⟩ hM ⟨callB_of n1 q5 hG hws rfl rfl (q5 _ w4) (q5 _ hlk) ⟨w3.1, w3.2, w5⟩ hRR, hnm, q5 _ hin⟩ ⟨xm_blind, fun U hU hW => ⟨rfl, hpre U hU hW⟩⟩ rfl hlen hl.1.1 hst (by show 2 * 0 + _ ≤ 8; omega) hd hfit)
    · refine go hpn (va_runIN ⟨q1, q2, q3, q4, q5⟩ hM ⟨⟨⟨rfl, rfl, hRR.1, hRR.2, pay_in q5 hG, by rw [hws]; exact List.mem_cons_self⟩, by rw [← hrn]; exact q5 _ w1, q5 _ w4, w3, fun sig h => ?_, q5 _ hlk⟩, hnm, q5 _ hin⟩ ⟨xm_blind, fun U hU hW => ⟨rfl, hpre U hU hW⟩⟩ rfl hlen hl.1.1 hst (by show 2 * 0 + _ ≤ 8; omega) hd hfit)
      rw [h] at w5
      exact (Option.some.inj w5).symm
theorem xm_clo_all (O : xm_pok P N cl z) : xm_clo P xt (xm_G P N xt l D cl ex h0 z) := ⟨xm_clo_S O, xm_clo_C O, xm_clo_R, xm_clo_F⟩
end XMET
end
section
/-! The program's tables for the abstract machine, written by program out of the Statement's bytes and words. -/
def xm_as {α : Type} (ix : Nat) : List (Nat × α) → Option α
  | [] => none
  | q :: r => bif Nat.beq q.1 ix then some q.2 else xm_as ix r
def xm_nth {α : Type} (d : α) : Nat → List α → α
  | _, [] => d
  | 0, q :: _ => q
  | n + 1, _ :: r => xm_nth d n r
-- sections of lists of methods: sixteen to a run
def xm_nn {α : Type} (d : α) (y : Nat) (l : List (List α)) : α := xm_nth d (y % 16) (xm_nth [] (y / 16) l)
def tb_0 : List (Nat × List xm_I) := [(16, [(0, .new 7, 3), (3, .dup, 4), (4, .invokespecial 9, 7), (7, .astore_n 1, 8), (8, .new 10, 11), (11, .dup, 12), (12, .invokespecial 12, 15), (15, .astore_n 2, 16)]), (25, [(16, .iconst 0, 17), (17, .istore_n 3, 18), (18, .iload_n 3, 19), (19, .aload_n 0, 20), (20, .arraylength, 21), (21, .bipush 8, 23), (23, .isub, 24), (24, .if_icmp .gt 454, 27)]), (90, [(27, .aload_n 0, 28), (28, .iload_n 3, 29), (29, .iaload, 30), (30, .bipush 15, 32), (32, .iand, 33), (33, .tableswitch 439 0 9 #[55, 98, 121, 134, 261, 294, 317, 350, 373, 406], 88), (88, .aload_n 1, 89), (89, .aload_n 0, 90)]), (98, [(90, .iload_n 3, 91), (91, .iconst 1, 92), (92, .iadd, 93), (93, .iaload, 94), (94, .aload_n 0, 95), (95, .iload_n 3, 96), (96, .iconst 2, 97), (97, .iadd, 98)]), (108, [(98, .iaload, 99), (99, .aload_n 0, 100), (100, .iload_n 3, 101), (101, .iconst 3, 102), (102, .iadd, 103), (103, .iaload, 104), (104, .invokevirtual 13, 107), (107, .aload_n 2, 108)]), (116, [(108, .aload_n 0, 109), (109, .iload_n 3, 110), (110, .iconst 1, 111), (111, .iadd, 112), (112, .iaload, 113), (113, .aload_n 0, 114), (114, .iload_n 3, 115), (115, .iconst 2, 116)]), (124, [(116, .iadd, 117), (117, .iaload, 118), (118, .aload_n 0, 119), (119, .iload_n 3, 120), (120, .iconst 3, 121), (121, .iadd, 122), (122, .iaload, 123), (123, .invokevirtual 17, 126)]), (136, [(126, .if_icmp .eq 346, 129), (129, .iconst 0, 130), (130, .ireturn, 131), (131, .aload_n 1, 132), (132, .aload_n 0, 133), (133, .iload_n 3, 134), (134, .iconst 1, 135), (135, .iadd, 136)]), (146, [(136, .iaload, 137), (137, .invokevirtual 18, 140), (140, .aload_n 2, 141), (141, .aload_n 0, 142), (142, .iload_n 3, 143), (143, .iconst 1, 144), (144, .iadd, 145), (145, .iaload, 146)]), (160, [(146, .invokevirtual 22, 149), (149, .if_icmp .eq 323, 152), (152, .iconst 0, 153), (153, .ireturn, 154), (154, .aload_n 1, 155), (155, .invokevirtual 23, 158), (158, .aload_n 2, 159), (159, .invokevirtual 27, 162)]), (172, [(162, .if_icmp .eq 310, 165), (165, .iconst 0, 166), (166, .ireturn, 167), (167, .aload_n 1, 168), (168, .aload_n 0, 169), (169, .iload_n 3, 170), (170, .iconst 1, 171), (171, .iadd, 172)]), (180, [(172, .iaload, 173), (173, .aload_n 0, 174), (174, .iload_n 3, 175), (175, .iconst 2, 176), (176, .iadd, 177), (177, .iaload, 178), (178, .i2l, 179), (179, .bipush 32, 181)]), (189, [(181, .lshl, 182), (182, .aload_n 0, 183), (183, .iload_n 3, 184), (184, .iconst 3, 185), (185, .iadd, 186), (186, .iaload, 187), (187, .i2l, 188), (188, .ldc2_w 28, 191)]), (199, [(191, .land, 192), (192, .lor, 193), (193, .aload_n 0, 194), (194, .iload_n 3, 195), (195, .iconst 4, 196), (196, .iadd, 197), (197, .iaload, 198), (198, .aload_n 0, 199)]), (208, [(199, .iload_n 3, 200), (200, .iconst 5, 201), (201, .iadd, 202), (202, .iaload, 203), (203, .i2l, 204), (204, .bipush 32, 206), (206, .lshl, 207), (207, .aload_n 0, 208)]), (219, [(208, .iload_n 3, 209), (209, .bipush 6, 211), (211, .iadd, 212), (212, .iaload, 213), (213, .i2l, 214), (214, .ldc2_w 28, 217), (217, .land, 218), (218, .lor, 219)]), (230, [(219, .aload_n 0, 220), (220, .iload_n 3, 221), (221, .bipush 7, 223), (223, .iadd, 224), (224, .iaload, 225), (225, .invokevirtual 30, 228), (228, .aload_n 2, 229), (229, .aload_n 0, 230)]), (238, [(230, .iload_n 3, 231), (231, .iconst 1, 232), (232, .iadd, 233), (233, .iaload, 234), (234, .aload_n 0, 235), (235, .iload_n 3, 236), (236, .iconst 2, 237), (237, .iadd, 238)]), (247, [(238, .iaload, 239), (239, .i2l, 240), (240, .bipush 32, 242), (242, .lshl, 243), (243, .aload_n 0, 244), (244, .iload_n 3, 245), (245, .iconst 3, 246), (246, .iadd, 247)]), (257, [(247, .iaload, 248), (248, .i2l, 249), (249, .ldc2_w 28, 252), (252, .land, 253), (253, .lor, 254), (254, .aload_n 0, 255), (255, .iload_n 3, 256), (256, .iconst 4, 257)]), (265, [(257, .iadd, 258), (258, .iaload, 259), (259, .aload_n 0, 260), (260, .iload_n 3, 261), (261, .iconst 5, 262), (262, .iadd, 263), (263, .iaload, 264), (264, .i2l, 265)]), (275, [(265, .bipush 32, 267), (267, .lshl, 268), (268, .aload_n 0, 269), (269, .iload_n 3, 270), (270, .bipush 6, 272), (272, .iadd, 273), (273, .iaload, 274), (274, .i2l, 275)]), (286, [(275, .ldc2_w 28, 278), (278, .land, 279), (279, .lor, 280), (280, .aload_n 0, 281), (281, .iload_n 3, 282), (282, .bipush 7, 284), (284, .iadd, 285), (285, .iaload, 286)]), (298, [(286, .invokevirtual 34, 289), (289, .if_icmp .eq 183, 292), (292, .iconst 0, 293), (293, .ireturn, 294), (294, .aload_n 1, 295), (295, .aload_n 0, 296), (296, .iload_n 3, 297), (297, .iconst 1, 298)]), (306, [(298, .iadd, 299), (299, .iaload, 300), (300, .aload_n 0, 301), (301, .iload_n 3, 302), (302, .iconst 2, 303), (303, .iadd, 304), (304, .iaload, 305), (305, .invokevirtual 35, 308)]), (316, [(308, .aload_n 2, 309), (309, .aload_n 0, 310), (310, .iload_n 3, 311), (311, .iconst 1, 312), (312, .iadd, 313), (313, .iaload, 314), (314, .aload_n 0, 315), (315, .iload_n 3, 316)]), (328, [(316, .iconst 2, 317), (317, .iadd, 318), (318, .iaload, 319), (319, .invokevirtual 39, 322), (322, .if_icmp .eq 150, 325), (325, .iconst 0, 326), (326, .ireturn, 327), (327, .aload_n 1, 328)]), (338, [(328, .aload_n 0, 329), (329, .iload_n 3, 330), (330, .iconst 1, 331), (331, .iadd, 332), (332, .iaload, 333), (333, .invokevirtual 40, 336), (336, .aload_n 2, 337), (337, .aload_n 0, 338)]), (350, [(338, .iload_n 3, 339), (339, .iconst 1, 340), (340, .iadd, 341), (341, .iaload, 342), (342, .invokevirtual 43, 345), (345, .if_icmp .eq 127, 348), (348, .iconst 0, 349), (349, .ireturn, 350)]), (358, [(350, .aload_n 1, 351), (351, .aload_n 0, 352), (352, .iload_n 3, 353), (353, .iconst 1, 354), (354, .iadd, 355), (355, .iaload, 356), (356, .aload_n 0, 357), (357, .iload_n 3, 358)]), (368, [(358, .iconst 2, 359), (359, .iadd, 360), (360, .iaload, 361), (361, .invokevirtual 44, 364), (364, .aload_n 2, 365), (365, .aload_n 0, 366), (366, .iload_n 3, 367), (367, .iconst 1, 368)]), (376, [(368, .iadd, 369), (369, .iaload, 370), (370, .aload_n 0, 371), (371, .iload_n 3, 372), (372, .iconst 2, 373), (373, .iadd, 374), (374, .iaload, 375), (375, .invokevirtual 47, 378)]), (388, [(378, .if_icmp .eq 94, 381), (381, .iconst 0, 382), (382, .ireturn, 383), (383, .aload_n 1, 384), (384, .aload_n 0, 385), (385, .iload_n 3, 386), (386, .iconst 1, 387), (387, .iadd, 388)]), (398, [(388, .iaload, 389), (389, .invokevirtual 48, 392), (392, .aload_n 2, 393), (393, .aload_n 0, 394), (394, .iload_n 3, 395), (395, .iconst 1, 396), (396, .iadd, 397), (397, .iaload, 398)]), (410, [(398, .invokevirtual 51, 401), (401, .if_icmp .eq 71, 404), (404, .iconst 0, 405), (405, .ireturn, 406), (406, .aload_n 1, 407), (407, .aload_n 0, 408), (408, .iload_n 3, 409), (409, .iconst 1, 410)]), (418, [(410, .iadd, 411), (411, .iaload, 412), (412, .aload_n 0, 413), (413, .iload_n 3, 414), (414, .iconst 2, 415), (415, .iadd, 416), (416, .iaload, 417), (417, .invokevirtual 52, 420)]), (428, [(420, .aload_n 2, 421), (421, .aload_n 0, 422), (422, .iload_n 3, 423), (423, .iconst 1, 424), (424, .iadd, 425), (425, .iaload, 426), (426, .aload_n 0, 427), (427, .iload_n 3, 428)]), (440, [(428, .iconst 2, 429), (429, .iadd, 430), (430, .iaload, 431), (431, .invokevirtual 55, 434), (434, .if_icmp .eq 38, 437), (437, .iconst 0, 438), (438, .ireturn, 439), (439, .aload_n 1, 440)]), (448, [(440, .aload_n 0, 441), (441, .iload_n 3, 442), (442, .iconst 1, 443), (443, .iadd, 444), (444, .iaload, 445), (445, .aload_n 0, 446), (446, .iload_n 3, 447), (447, .iconst 2, 448)]), (458, [(448, .iadd, 449), (449, .iaload, 450), (450, .invokevirtual 56, 453), (453, .aload_n 2, 454), (454, .aload_n 0, 455), (455, .iload_n 3, 456), (456, .iconst 1, 457), (457, .iadd, 458)]), (468, [(458, .iaload, 459), (459, .aload_n 0, 460), (460, .iload_n 3, 461), (461, .iconst 2, 462), (462, .iadd, 463), (463, .iaload, 464), (464, .invokevirtual 59, 467), (467, .if_icmp .eq 5, 470)]), (480, [(470, .iconst 0, 471), (471, .ireturn, 472), (472, .iinc 3 8, 475), (475, .goto (-457), 478), (478, .iconst 1, 479), (479, .ireturn, 480)])]
def tb_1 : List (Nat × List xm_I) := [(16, [(0, .aload_n 0, 1), (1, .invokespecial 1, 4), (4, .aload_n 0, 5), (5, .new 7, 8), (8, .dup, 9), (9, .invokespecial 9, 12), (12, .putfield 10, 15), (15, .aload_n 0, 16)]), (32, [(16, .new 16, 19), (19, .dup, 20), (20, .aload_n 0, 21), (21, .getfield 10, 24), (24, .invokespecial 18, 27), (27, .putfield 21, 30), (30, .aload_n 0, 31), (31, .new 25, 34)]), (50, [(34, .dup, 35), (35, .aload_n 0, 36), (36, .getfield 10, 39), (39, .invokespecial 27, 42), (42, .putfield 28, 45), (45, .aload_n 0, 46), (46, .new 32, 49), (49, .dup, 50)]), (66, [(50, .aload_n 0, 51), (51, .getfield 10, 54), (54, .aload_n 0, 55), (55, .getfield 28, 58), (58, .invokespecial 34, 61), (61, .putfield 37, 64), (64, .aload_n 0, 65), (65, .new 41, 68)]), (84, [(68, .dup, 69), (69, .aload_n 0, 70), (70, .getfield 37, 73), (73, .invokespecial 43, 76), (76, .putfield 46, 79), (79, .aload_n 0, 80), (80, .new 50, 83), (83, .dup, 84)]), (95, [(84, .aload_n 0, 85), (85, .getfield 46, 88), (88, .invokespecial 52, 91), (91, .putfield 55, 94), (94, .return_, 95)])]
def tb_2 : List (Nat × List xm_I) := [(14, [(0, .aload_n 0, 1), (1, .invokespecial 3, 4), (4, .aload_n 0, 5), (5, .bipush 28, 7), (7, .newarray .int, 9), (9, .putfield 9, 12), (12, .aload_n 0, 13), (13, .bipush 28, 15)]), (30, [(15, .newarray .int, 17), (17, .putfield 15, 20), (20, .aload_n 0, 21), (21, .bipush 28, 23), (23, .newarray .int, 25), (25, .putfield 18, 28), (28, .aload_n 0, 29), (29, .bipush 28, 31)]), (46, [(31, .newarray .int, 33), (33, .putfield 21, 36), (36, .aload_n 0, 37), (37, .bipush 28, 39), (39, .newarray .int, 41), (41, .putfield 24, 44), (44, .aload_n 0, 45), (45, .getfield 24, 48)]), (53, [(48, .iconst (-1), 49), (49, .invokestatic 27, 52), (52, .return_, 53)])]
def tb_3 : List (Nat × List xm_I) := [(8, [(0, .iconst 0, 1), (1, .istore_n 2, 2), (2, .aload_n 0, 3), (3, .arraylength, 4), (4, .istore_n 3, 5), (5, .iload_n 2, 6), (6, .iload_n 3, 7), (7, .if_icmp .ge 13, 10)]), (21, [(10, .aload_n 0, 11), (11, .iload_n 2, 12), (12, .iload_n 1, 13), (13, .iastore, 14), (14, .iinc 2 1, 17), (17, .goto (-12), 20), (20, .return_, 21)])]
def tb_4 : List (Nat × List xm_I) := [(14, [(0, .aload_n 0, 1), (1, .invokespecial 3, 4), (4, .aload_n 0, 5), (5, .bipush 16, 7), (7, .newarray .int, 9), (9, .putfield 9, 12), (12, .aload_n 0, 13), (13, .bipush 28, 15)]), (26, [(15, .newarray .int, 17), (17, .putfield 15, 20), (20, .aload_n 0, 21), (21, .aload_n 1, 22), (22, .putfield 18, 25), (25, .return_, 26)])]
def tb_5 : List (Nat × List xm_I) := [(15, [(0, .aload_n 0, 1), (1, .invokespecial 3, 4), (4, .aload_n 0, 5), (5, .sipush 448, 8), (8, .newarray .int, 10), (10, .putfield 9, 13), (13, .aload_n 0, 14), (14, .sipush 448, 17)]), (33, [(17, .newarray .int, 19), (19, .putfield 15, 22), (22, .aload_n 0, 23), (23, .sipush 512, 26), (26, .newarray .long, 28), (28, .putfield 18, 31), (31, .aload_n 0, 32), (32, .new 22, 35)]), (51, [(35, .dup, 36), (36, .invokespecial 24, 39), (39, .putfield 25, 42), (42, .aload_n 0, 43), (43, .new 22, 46), (46, .dup, 47), (47, .invokespecial 24, 50), (50, .putfield 29, 53)]), (67, [(53, .aload_n 0, 54), (54, .new 22, 57), (57, .dup, 58), (58, .invokespecial 24, 61), (61, .putfield 32, 64), (64, .aload_n 0, 65), (65, .aload_n 1, 66), (66, .putfield 35, 69)]), (78, [(69, .aload_n 0, 70), (70, .getfield 15, 73), (73, .iconst (-1), 74), (74, .invokestatic 39, 77), (77, .return_, 78)])]
def tb_6 : List (Nat × List xm_I) := [(13, [(0, .aload_n 0, 1), (1, .invokespecial 3, 4), (4, .aload_n 0, 5), (5, .bipush 60, 7), (7, .newarray .long, 9), (9, .putfield 9, 12), (12, .return_, 13)])]
def tb_7 : List (Nat × List xm_I) := [(14, [(0, .aload_n 0, 1), (1, .invokespecial 3, 4), (4, .aload_n 0, 5), (5, .bipush 28, 7), (7, .newarray .int, 9), (9, .putfield 9, 12), (12, .aload_n 0, 13), (13, .bipush 16, 15)]), (30, [(15, .newarray .int, 17), (17, .putfield 15, 20), (20, .aload_n 0, 21), (21, .bipush 16, 23), (23, .newarray .int, 25), (25, .putfield 18, 28), (28, .aload_n 0, 29), (29, .sipush 256, 32)]), (48, [(32, .newarray .int, 34), (34, .putfield 21, 37), (37, .aload_n 0, 38), (38, .sipush 256, 41), (41, .newarray .int, 43), (43, .putfield 24, 46), (46, .aload_n 0, 47), (47, .aload_n 1, 48)]), (57, [(48, .putfield 27, 51), (51, .aload_n 0, 52), (52, .aload_n 2, 53), (53, .putfield 31, 56), (56, .return_, 57)])]
def tb_8 : List (Nat × List xm_I) := [(14, [(0, .aload_n 0, 1), (1, .invokespecial 3, 4), (4, .aload_n 0, 5), (5, .bipush 100, 7), (7, .newarray .long, 9), (9, .putfield 9, 12), (12, .aload_n 0, 13), (13, .sipush 1600, 16)]), (31, [(16, .newarray .int, 18), (18, .putfield 15, 21), (21, .aload_n 0, 22), (22, .bipush 100, 24), (24, .newarray .boolean, 26), (26, .putfield 19, 29), (29, .aload_n 0, 30), (30, .aload_n 1, 31)]), (35, [(31, .putfield 23, 34), (34, .return_, 35)])]
def tb_9 : List (Nat × List xm_I) := [(13, [(0, .aload_n 0, 1), (1, .invokespecial 3, 4), (4, .aload_n 0, 5), (5, .iconst 0, 6), (6, .putfield 9, 9), (9, .aload_n 0, 10), (10, .bipush 100, 12), (12, .newarray .int, 14)]), (30, [(14, .putfield 15, 17), (17, .aload_n 0, 18), (18, .bipush 100, 20), (20, .newarray .int, 22), (22, .putfield 19, 25), (25, .aload_n 0, 26), (26, .sipush 400, 29), (29, .newarray .int, 31)]), (46, [(31, .putfield 22, 34), (34, .aload_n 0, 35), (35, .sipush 400, 38), (38, .newarray .int, 40), (40, .putfield 25, 43), (43, .aload_n 0, 44), (44, .aload_n 1, 45), (45, .putfield 28, 48)]), (49, [(48, .return_, 49)])]
def tb_10 : List (Nat × List xm_I) := [(14, [(0, .aload_n 0, 1), (1, .getfield 10, 4), (4, .iload_n 1, 5), (5, .iload_n 2, 6), (6, .iload_n 3, 7), (7, .invokevirtual 59, 10), (10, .ifCond .ne 5, 13), (13, .iconst (-1), 14)]), (28, [(14, .ireturn, 15), (15, .aload_n 0, 16), (16, .getfield 10, 19), (19, .iload_n 1, 20), (20, .iload_n 1, 21), (21, .invokestatic 63, 24), (24, .ifCond .eq 7, 27), (27, .iload_n 2, 28)]), (44, [(28, .goto 4, 31), (31, .iconst 0, 32), (32, .iload_n 1, 33), (33, .invokestatic 67, 36), (36, .ifCond .eq 7, 39), (39, .iload_n 3, 40), (40, .goto 4, 43), (43, .iconst 0, 44)]), (48, [(44, .invokevirtual 70, 47), (47, .ireturn, 48)])]
def tb_11 : List (Nat × List xm_I) := [(12, [(0, .iload_n 1, 1), (1, .ifCond .eq 8, 4), (4, .iload_n 1, 5), (5, .iconst 1, 6), (6, .if_icmp .ne 5, 9), (9, .iconst 1, 10), (10, .ireturn, 11), (11, .iload_n 1, 12)]), (26, [(12, .iconst 2, 13), (13, .if_icmp .eq 8, 16), (16, .iload_n 1, 17), (17, .iconst 3, 18), (18, .if_icmp .ne 18, 21), (21, .iload_n 2, 22), (22, .ifCond .lt 12, 25), (25, .iload_n 2, 26)]), (38, [(26, .iconst 4, 27), (27, .if_icmp .ge 7, 30), (30, .iconst 1, 31), (31, .goto 4, 34), (34, .iconst 0, 35), (35, .ireturn, 36), (36, .iload_n 1, 37), (37, .bipush 6, 39)]), (53, [(39, .if_icmp .ne 9, 42), (42, .aload_n 0, 43), (43, .iload_n 2, 44), (44, .invokevirtual 41, 47), (47, .ireturn, 48), (48, .iload_n 1, 49), (49, .invokestatic 37, 52), (52, .ifCond .eq 23, 55)]), (69, [(55, .aload_n 0, 56), (56, .iload_n 2, 57), (57, .invokevirtual 41, 60), (60, .ifCond .eq 15, 63), (63, .aload_n 0, 64), (64, .iload_n 3, 65), (65, .invokevirtual 41, 68), (68, .ifCond .eq 7, 71)]), (77, [(71, .iconst 1, 72), (72, .goto 4, 75), (75, .iconst 0, 76), (76, .ireturn, 77)])]
def tb_12 : List (Nat × List xm_I) := [(14, [(0, .iload_n 1, 1), (1, .ifCond .lt 15, 4), (4, .iload_n 1, 5), (5, .aload_n 0, 6), (6, .getfield 33, 9), (9, .if_icmp .ge 7, 12), (12, .iconst 1, 13), (13, .goto 4, 16)]), (18, [(16, .iconst 0, 17), (17, .ireturn, 18)])]
def tb_13 : List (Nat × List xm_I) := [(12, [(0, .iload_n 0, 1), (1, .iconst 4, 2), (2, .if_icmp .eq 20, 5), (5, .iload_n 0, 6), (6, .iconst 5, 7), (7, .if_icmp .eq 15, 10), (10, .iload_n 0, 11), (11, .bipush 7, 13)]), (28, [(13, .if_icmp .eq 9, 16), (16, .iload_n 0, 17), (17, .bipush 8, 19), (19, .if_icmp .ne 7, 22), (22, .iconst 1, 23), (23, .goto 4, 26), (26, .iconst 0, 27), (27, .ireturn, 28)])]
def tb_14 : List (Nat × List xm_I) := [(14, [(0, .iload_n 0, 1), (1, .ifCond .eq 12, 4), (4, .iload_n 0, 5), (5, .iconst 1, 6), (6, .if_icmp .eq 7, 9), (9, .iconst 1, 10), (10, .goto 4, 13), (13, .iconst 0, 14)]), (15, [(14, .ireturn, 15)])]
def tb_15 : List (Nat × List xm_I) := [(5, [(0, .iload_n 0, 1), (1, .invokestatic 37, 4), (4, .ireturn, 5)])]
def tb_16 : List (Nat × List xm_I) := [(14, [(0, .iconst 0, 1), (1, .istore 4, 3), (3, .iload 4, 5), (5, .aload_n 0, 6), (6, .getfield 33, 9), (9, .if_icmp .ge 45, 12), (12, .aload_n 0, 13), (13, .getfield 9, 16)]), (30, [(16, .iload 4, 18), (18, .iaload, 19), (19, .iload_n 1, 20), (20, .if_icmp .ne 28, 23), (23, .aload_n 0, 24), (24, .getfield 15, 27), (27, .iload 4, 29), (29, .iaload, 30)]), (43, [(30, .iload_n 2, 31), (31, .if_icmp .ne 17, 34), (34, .aload_n 0, 35), (35, .getfield 18, 38), (38, .iload 4, 40), (40, .iaload, 41), (41, .iload_n 3, 42), (42, .if_icmp .ne 6, 45)]), (61, [(45, .iload 4, 47), (47, .ireturn, 48), (48, .iinc 4 1, 51), (51, .goto (-48), 54), (54, .aload_n 0, 55), (55, .getfield 33, 58), (58, .bipush 28, 60), (60, .if_icmp .lt 6, 63)]), (77, [(63, .bipush (-2), 65), (65, .ireturn, 66), (66, .aload_n 0, 67), (67, .getfield 33, 70), (70, .istore 4, 72), (72, .aload_n 0, 73), (73, .getfield 9, 76), (76, .iload 4, 78)]), (89, [(78, .iload_n 1, 79), (79, .iastore, 80), (80, .aload_n 0, 81), (81, .getfield 15, 84), (84, .iload 4, 86), (86, .iload_n 2, 87), (87, .iastore, 88), (88, .aload_n 0, 89)]), (103, [(89, .getfield 18, 92), (92, .iload 4, 94), (94, .iload_n 3, 95), (95, .iastore, 96), (96, .aload_n 0, 97), (97, .getfield 21, 100), (100, .iload 4, 102), (102, .iconst 1, 103)]), (116, [(103, .iload 4, 105), (105, .ishl, 106), (106, .iastore, 107), (107, .iload_n 1, 108), (108, .invokestatic 44, 111), (111, .ifCond .eq 19, 114), (114, .aload_n 0, 115), (115, .getfield 21, 118)]), (129, [(118, .iload 4, 120), (120, .dup2, 121), (121, .iaload, 122), (122, .aload_n 0, 123), (123, .getfield 21, 126), (126, .iload_n 2, 127), (127, .iaload, 128), (128, .ior, 129)]), (144, [(129, .iastore, 130), (130, .iload_n 1, 131), (131, .invokestatic 37, 134), (134, .ifCond .eq 19, 137), (137, .aload_n 0, 138), (138, .getfield 21, 141), (141, .iload 4, 143), (143, .dup2, 144)]), (154, [(144, .iaload, 145), (145, .aload_n 0, 146), (146, .getfield 21, 149), (149, .iload_n 3, 150), (150, .iaload, 151), (151, .ior, 152), (152, .iastore, 153), (153, .aload_n 0, 154)]), (166, [(154, .dup, 155), (155, .getfield 33, 158), (158, .iconst 1, 159), (159, .iadd, 160), (160, .putfield 33, 163), (163, .iload 4, 165), (165, .ireturn, 166)])]
def tb_17 : List (Nat × List xm_I) := [(15, [(0, .iload_n 0, 1), (1, .bipush 6, 3), (3, .if_icmp .eq 10, 6), (6, .iload_n 0, 7), (7, .invokestatic 37, 10), (10, .ifCond .eq 7, 13), (13, .iconst 1, 14), (14, .goto 4, 17)]), (19, [(17, .iconst 0, 18), (18, .ireturn, 19)])]
def tb_18 : List (Nat × List xm_I) := [(16, [(0, .aload_n 0, 1), (1, .getfield 10, 4), (4, .iload_n 1, 5), (5, .invokevirtual 74, 8), (8, .ifCond .eq 15, 11), (11, .aload_n 0, 12), (12, .getfield 10, 15), (15, .iload_n 1, 16)]), (25, [(16, .iconst 0, 17), (17, .invokevirtual 77, 20), (20, .goto 4, 23), (23, .iconst (-1), 24), (24, .ireturn, 25)])]
def tb_19 : List (Nat × List xm_I) := [(14, [(0, .iload_n 2, 1), (1, .bipush 28, 3), (3, .if_icmp .lt 6, 6), (6, .bipush (-2), 8), (8, .ireturn, 9), (9, .aload_n 0, 10), (10, .getfield 24, 13), (13, .iload_n 1, 14)]), (26, [(14, .iaload, 15), (15, .iconst (-1), 16), (16, .if_icmp .eq 10, 19), (19, .aload_n 0, 20), (20, .getfield 24, 23), (23, .iload_n 1, 24), (24, .iaload, 25), (25, .ireturn, 26)]), (38, [(26, .aload_n 0, 27), (27, .getfield 9, 30), (30, .iload_n 1, 31), (31, .iaload, 32), (32, .istore_n 3, 33), (33, .aload_n 0, 34), (34, .getfield 15, 37), (37, .iload_n 1, 38)]), (50, [(38, .iaload, 39), (39, .istore 4, 41), (41, .aload_n 0, 42), (42, .getfield 18, 45), (45, .iload_n 1, 46), (46, .iaload, 47), (47, .istore 5, 49), (49, .iload_n 3, 50)]), (63, [(50, .invokestatic 44, 53), (53, .ifCond .eq 14, 56), (56, .aload_n 0, 57), (57, .iload 4, 59), (59, .iload_n 2, 60), (60, .iconst 1, 61), (61, .iadd, 62), (62, .invokevirtual 47, 65)]), (82, [(65, .istore 4, 67), (67, .iload_n 3, 68), (68, .invokestatic 37, 71), (71, .ifCond .eq 21, 74), (74, .iload 4, 76), (76, .bipush (-2), 78), (78, .if_icmp .eq 14, 81), (81, .aload_n 0, 82)]), (95, [(82, .iload 5, 84), (84, .iload_n 2, 85), (85, .iconst 1, 86), (86, .iadd, 87), (87, .invokevirtual 47, 90), (90, .istore 5, 92), (92, .iload 4, 94), (94, .bipush (-2), 96)]), (111, [(96, .if_icmp .eq 10, 99), (99, .iload 5, 101), (101, .bipush (-2), 103), (103, .if_icmp .ne 6, 106), (106, .bipush (-2), 108), (108, .ireturn, 109), (109, .aload_n 0, 110), (110, .getstatic 51, 113)]), (127, [(113, .iload_n 3, 114), (114, .iaload, 115), (115, .iload 4, 117), (117, .iload 5, 119), (119, .invokevirtual 54, 122), (122, .istore 6, 124), (124, .iload 6, 126), (126, .bipush (-2), 128)]), (142, [(128, .if_icmp .eq 11, 131), (131, .aload_n 0, 132), (132, .getfield 24, 135), (135, .iload_n 1, 136), (136, .iload 6, 138), (138, .iastore, 139), (139, .iload 6, 141), (141, .ireturn, 142)])]
def tb_20 : List (Nat × List xm_I) := [(8, [(0, .aload_n 0, 1), (1, .getfield 10, 4), (4, .getfield 81, 7), (7, .ireturn, 8)])]
def tb_21 : List (Nat × List xm_I) := [(17, [(0, .aload_n 0, 1), (1, .getfield 10, 4), (4, .iload_n 1, 5), (5, .invokevirtual 74, 8), (8, .ifCond .eq 28, 11), (11, .iload 4, 13), (13, .ifCond .lt 23, 16), (16, .iload 4, 18)]), (34, [(18, .bipush 8, 20), (20, .if_icmp .gt 16, 23), (23, .iload 7, 25), (25, .iconst 1, 26), (26, .if_icmp .lt 10, 29), (29, .iload 7, 31), (31, .bipush 8, 33), (33, .if_icmp .le 5, 36)]), (48, [(36, .iconst (-1), 37), (37, .ireturn, 38), (38, .aload_n 0, 39), (39, .getfield 21, 42), (42, .lload_n 2, 43), (43, .iload 4, 45), (45, .lload 5, 47), (47, .iload 7, 49)]), (65, [(49, .invokevirtual 85, 52), (52, .aload_n 0, 53), (53, .getfield 21, 56), (56, .iload_n 1, 57), (57, .invokevirtual 89, 60), (60, .ifCond .eq 7, 63), (63, .iconst 1, 64), (64, .goto 4, 67)]), (69, [(67, .iconst 0, 68), (68, .ireturn, 69)])]
def tb_22 : List (Nat × List xm_I) := [(14, [(0, .iconst 0, 1), (1, .istore 7, 3), (3, .iload 7, 5), (5, .iload_n 3, 6), (6, .if_icmp .ge 26, 9), (9, .aload_n 0, 10), (10, .getfield 9, 13), (13, .iload 7, 15)]), (25, [(15, .lload_n 1, 16), (16, .iconst 4, 17), (17, .iload 7, 19), (19, .imul, 20), (20, .lshr, 21), (21, .l2i, 22), (22, .bipush 15, 24), (24, .iand, 25)]), (40, [(25, .iastore, 26), (26, .iinc 7 1, 29), (29, .goto (-26), 32), (32, .iconst 0, 33), (33, .istore 7, 35), (35, .iload 7, 37), (37, .iload 6, 39), (39, .if_icmp .ge 29, 42)]), (54, [(42, .aload_n 0, 43), (43, .getfield 9, 46), (46, .iload_n 3, 47), (47, .iload 7, 49), (49, .iadd, 50), (50, .lload 4, 52), (52, .iconst 4, 53), (53, .iload 7, 55)]), (66, [(55, .imul, 56), (56, .lshr, 57), (57, .l2i, 58), (58, .bipush 15, 60), (60, .iand, 61), (61, .iastore, 62), (62, .iinc 7 1, 65), (65, .goto (-30), 68)]), (79, [(68, .aload_n 0, 69), (69, .iload_n 3, 70), (70, .iload 6, 72), (72, .iadd, 73), (73, .putfield 22, 76), (76, .aload_n 0, 77), (77, .iload_n 3, 78), (78, .putfield 26, 81)]), (82, [(81, .return_, 82)])]
def tb_23 : List (Nat × List xm_I) := [(12, [(0, .iconst 0, 1), (1, .istore_n 2, 2), (2, .iload_n 2, 3), (3, .iload_n 1, 4), (4, .if_icmp .gt 32, 7), (7, .aload_n 0, 8), (8, .getfield 18, 11), (11, .iload_n 2, 12)]), (26, [(12, .iload_n 1, 13), (13, .invokevirtual 29, 16), (16, .ifCond .eq 14, 19), (19, .aload_n 0, 20), (20, .getfield 15, 23), (23, .iload_n 2, 24), (24, .aload_n 0, 25), (25, .iload_n 2, 26)]), (42, [(26, .invokevirtual 35, 29), (29, .iastore, 30), (30, .iinc 2 1, 33), (33, .goto (-31), 36), (36, .aload_n 0, 37), (37, .getfield 15, 40), (40, .iload_n 1, 41), (41, .iaload, 42)]), (53, [(42, .iconst 1, 43), (43, .iand, 44), (44, .ifCond .eq 7, 47), (47, .iconst 1, 48), (48, .goto 4, 51), (51, .iconst 0, 52), (52, .ireturn, 53)])]
def tb_24 : List (Nat × List xm_I) := [(10, [(0, .aload_n 0, 1), (1, .getfield 21, 4), (4, .iload_n 2, 5), (5, .iaload, 6), (6, .iload_n 1, 7), (7, .ishr, 8), (8, .iconst 1, 9), (9, .iand, 10)]), (19, [(10, .ifCond .eq 7, 13), (13, .iconst 1, 14), (14, .goto 4, 17), (17, .iconst 0, 18), (18, .ireturn, 19)])]
def tb_25 : List (Nat × List xm_I) := [(12, [(0, .aload_n 0, 1), (1, .getfield 18, 4), (4, .getfield 39, 7), (7, .iload_n 1, 8), (8, .iaload, 9), (9, .istore_n 2, 10), (10, .aload_n 0, 11), (11, .getfield 18, 14)]), (28, [(14, .getfield 42, 17), (17, .iload_n 1, 18), (18, .iaload, 19), (19, .istore_n 3, 20), (20, .aload_n 0, 21), (21, .getfield 18, 24), (24, .getfield 45, 27), (27, .iload_n 1, 28)]), (88, [(28, .iaload, 29), (29, .tableswitch 148 0 8 #[51, 148, 56, 62, 75, 89, 103, 114, 131], 80), (80, .aload_n 0, 81), (81, .invokevirtual 48, 84), (84, .ireturn, 85), (85, .aload_n 0, 86), (86, .iload_n 2, 87), (87, .invokevirtual 52, 90)]), (102, [(90, .ireturn, 91), (91, .aload_n 0, 92), (92, .invokevirtual 48, 95), (95, .aload_n 0, 96), (96, .iload_n 2, 97), (97, .invokevirtual 52, 100), (100, .iconst (-1), 101), (101, .ixor, 102)]), (112, [(102, .iand, 103), (103, .ireturn, 104), (104, .aload_n 0, 105), (105, .getfield 15, 108), (108, .iload_n 2, 109), (109, .iaload, 110), (110, .aload_n 0, 111), (111, .getfield 15, 114)]), (124, [(114, .iload_n 3, 115), (115, .iaload, 116), (116, .iand, 117), (117, .ireturn, 118), (118, .aload_n 0, 119), (119, .getfield 15, 122), (122, .iload_n 2, 123), (123, .iaload, 124)]), (134, [(124, .aload_n 0, 125), (125, .getfield 15, 128), (128, .iload_n 3, 129), (129, .iaload, 130), (130, .ior, 131), (131, .ireturn, 132), (132, .aload_n 0, 133), (133, .aload_n 0, 134)]), (146, [(134, .getfield 15, 137), (137, .iload_n 2, 138), (138, .iaload, 139), (139, .invokevirtual 55, 142), (142, .ireturn, 143), (143, .aload_n 0, 144), (144, .aload_n 0, 145), (145, .getfield 15, 148)]), (160, [(148, .iload_n 2, 149), (149, .iaload, 150), (150, .aload_n 0, 151), (151, .getfield 15, 154), (154, .iload_n 3, 155), (155, .iaload, 156), (156, .invokevirtual 58, 159), (159, .ireturn, 160)]), (172, [(160, .aload_n 0, 161), (161, .aload_n 0, 162), (162, .getfield 15, 165), (165, .iload_n 2, 166), (166, .iaload, 167), (167, .aload_n 0, 168), (168, .getfield 15, 171), (171, .iload_n 3, 172)]), (179, [(172, .iaload, 173), (173, .invokevirtual 62, 176), (176, .ireturn, 177), (177, .iconst 0, 178), (178, .ireturn, 179)])]
def tb_26 : List (Nat × List xm_I) := [(9, [(0, .iconst 1, 1), (1, .aload_n 0, 2), (2, .getfield 22, 5), (5, .ishl, 6), (6, .iconst 1, 7), (7, .isub, 8), (8, .ireturn, 9)])]
def tb_27 : List (Nat × List xm_I) := [(10, [(0, .iconst 0, 1), (1, .istore_n 2, 2), (2, .iconst 0, 3), (3, .istore_n 3, 4), (4, .iload_n 3, 5), (5, .aload_n 0, 6), (6, .getfield 22, 9), (9, .if_icmp .ge 24, 12)]), (22, [(12, .iload_n 2, 13), (13, .aload_n 0, 14), (14, .getfield 9, 17), (17, .iload_n 3, 18), (18, .iaload, 19), (19, .iload_n 1, 20), (20, .ishr, 21), (21, .iconst 1, 22)]), (34, [(22, .iand, 23), (23, .iload_n 3, 24), (24, .ishl, 25), (25, .ior, 26), (26, .istore_n 2, 27), (27, .iinc 3 1, 30), (30, .goto (-26), 33), (33, .iload_n 2, 34)]), (35, [(34, .ireturn, 35)])]
def tb_28 : List (Nat × List xm_I) := [(10, [(0, .iload_n 1, 1), (1, .iconst 1, 2), (2, .ishr, 3), (3, .iload_n 1, 4), (4, .aload_n 0, 5), (5, .getfield 26, 8), (8, .ishr, 9), (9, .iconst 1, 10)]), (20, [(10, .iand, 11), (11, .aload_n 0, 12), (12, .getfield 22, 15), (15, .iconst 1, 16), (16, .isub, 17), (17, .ishl, 18), (18, .ior, 19), (19, .ireturn, 20)])]
def tb_29 : List (Nat × List xm_I) := [(12, [(0, .iload_n 2, 1), (1, .istore_n 3, 2), (2, .iconst 0, 3), (3, .istore 4, 5), (5, .iload 4, 7), (7, .aload_n 0, 8), (8, .getfield 22, 11), (11, .if_icmp .ge 19, 14)]), (24, [(14, .iload_n 2, 15), (15, .iload_n 1, 16), (16, .aload_n 0, 17), (17, .iload_n 3, 18), (18, .invokevirtual 55, 21), (21, .iand, 22), (22, .ior, 23), (23, .istore_n 3, 24)]), (32, [(24, .iinc 4 1, 27), (27, .goto (-22), 30), (30, .iload_n 3, 31), (31, .ireturn, 32)])]
def tb_30 : List (Nat × List xm_I) := [(12, [(0, .iload_n 2, 1), (1, .istore_n 3, 2), (2, .iconst 0, 3), (3, .istore 4, 5), (5, .iload 4, 7), (7, .aload_n 0, 8), (8, .getfield 22, 11), (11, .if_icmp .ge 19, 14)]), (24, [(14, .iload_n 2, 15), (15, .iload_n 1, 16), (16, .aload_n 0, 17), (17, .iload_n 3, 18), (18, .invokevirtual 55, 21), (21, .ior, 22), (22, .iand, 23), (23, .istore_n 3, 24)]), (32, [(24, .iinc 4 1, 27), (27, .goto (-22), 30), (30, .iload_n 3, 31), (31, .ireturn, 32)])]
def tb_31 : List (Nat × List xm_I) := [(16, [(0, .aload_n 0, 1), (1, .getfield 10, 4), (4, .iload_n 1, 5), (5, .invokevirtual 74, 8), (8, .ifCond .eq 13, 11), (11, .iload_n 2, 12), (12, .ifCond .lt 9, 15), (15, .iload_n 2, 16)]), (29, [(16, .bipush 16, 18), (18, .if_icmp .lt 5, 21), (21, .iconst (-1), 22), (22, .ireturn, 23), (23, .aload_n 0, 24), (24, .getfield 28, 27), (27, .iload_n 1, 28), (28, .iload_n 2, 29)]), (45, [(29, .invokevirtual 92, 32), (32, .ifCond .eq 15, 35), (35, .aload_n 0, 36), (36, .getfield 28, 39), (39, .iload_n 1, 40), (40, .iload_n 2, 41), (41, .invokevirtual 96, 44), (44, .goto 5, 47)]), (50, [(47, .bipush (-2), 49), (49, .ireturn, 50)])]
def tb_32 : List (Nat × List xm_I) := [(12, [(0, .iconst 0, 1), (1, .istore_n 3, 2), (2, .iload_n 3, 3), (3, .iload_n 1, 4), (4, .if_icmp .gt 68, 7), (7, .aload_n 0, 8), (8, .getfield 35, 11), (11, .iload_n 3, 12)]), (28, [(12, .iload_n 1, 13), (13, .invokevirtual 49, 16), (16, .ifCond .ne 6, 19), (19, .goto 47, 22), (22, .iload_n 3, 23), (23, .iload_n 2, 24), (24, .invokestatic 45, 27), (27, .istore 4, 29)]), (42, [(29, .aload_n 0, 30), (30, .getfield 15, 33), (33, .iload 4, 35), (35, .iaload, 36), (36, .iconst (-1), 37), (37, .if_icmp .ne 15, 40), (40, .aload_n 0, 41), (41, .iload_n 3, 42)]), (57, [(42, .iload_n 2, 43), (43, .invokevirtual 55, 46), (46, .aload_n 0, 47), (47, .iload 4, 49), (49, .invokevirtual 59, 52), (52, .aload_n 0, 53), (53, .getfield 15, 56), (56, .iload 4, 58)]), (73, [(58, .iaload, 59), (59, .bipush (-2), 61), (61, .if_icmp .ne 5, 64), (64, .iconst 0, 65), (65, .ireturn, 66), (66, .iinc 3 1, 69), (69, .goto (-67), 72), (72, .iconst 1, 73)]), (74, [(73, .ireturn, 74)])]
def tb_33 : List (Nat × List xm_I) := [(7, [(0, .iload_n 0, 1), (1, .bipush 16, 3), (3, .imul, 4), (4, .iload_n 1, 5), (5, .iadd, 6), (6, .ireturn, 7)])]
def tb_34 : List (Nat × List xm_I) := [(12, [(0, .aload_n 0, 1), (1, .getfield 35, 4), (4, .getfield 87, 7), (7, .iload_n 1, 8), (8, .iaload, 9), (9, .istore_n 3, 10), (10, .aload_n 0, 11), (11, .getfield 35, 14)]), (29, [(14, .getfield 90, 17), (17, .iload_n 1, 18), (18, .iaload, 19), (19, .istore 4, 21), (21, .aload_n 0, 22), (22, .getfield 35, 25), (25, .getfield 93, 28), (28, .iload_n 1, 29)]), (93, [(29, .iaload, 30), (30, .istore 5, 32), (32, .aload_n 0, 33), (33, .getfield 25, 36), (36, .invokevirtual 96, 39), (39, .iload_n 3, 40), (40, .tableswitch 209 0 8 #[52, 209, 63, 63, 93, 105, 132, 147, 182], 92), (92, .aload_n 0, 93)]), (108, [(93, .getfield 25, 96), (96, .lconst 0, 97), (97, .invokevirtual 99, 100), (100, .goto 149, 103), (103, .iload_n 2, 104), (104, .iload 4, 106), (106, .ishr, 107), (107, .iconst 1, 108)]), (120, [(108, .iand, 109), (109, .iload_n 3, 110), (110, .iconst 2, 111), (111, .if_icmp .ne 7, 114), (114, .iconst 1, 115), (115, .goto 4, 118), (118, .iconst 0, 119), (119, .if_icmp .ne 130, 122)]), (137, [(122, .aload_n 0, 123), (123, .getfield 25, 126), (126, .lconst 0, 127), (127, .invokevirtual 99, 130), (130, .goto 119, 133), (133, .aload_n 0, 134), (134, .iload 4, 136), (136, .iload 5, 138)]), (153, [(138, .iload_n 2, 139), (139, .invokevirtual 103, 142), (142, .goto 107, 145), (145, .aload_n 0, 146), (146, .aload_n 0, 147), (147, .getfield 25, 150), (150, .iload 4, 152), (152, .iload_n 2, 153)]), (166, [(153, .lconst 0, 154), (154, .invokevirtual 107, 157), (157, .aload_n 0, 158), (158, .aload_n 0, 159), (159, .getfield 25, 162), (162, .iload 5, 164), (164, .iload_n 2, 165), (165, .lconst 0, 166)]), (185, [(166, .invokevirtual 107, 169), (169, .goto 80, 172), (172, .aload_n 0, 173), (173, .getfield 25, 176), (176, .iload 4, 178), (178, .invokestatic 111, 181), (181, .invokevirtual 99, 184), (184, .goto 65, 187)]), (200, [(187, .aload_n 0, 188), (188, .aload_n 0, 189), (189, .getfield 25, 192), (192, .iload 5, 194), (194, .iload_n 2, 195), (195, .lconst 0, 196), (196, .invokevirtual 107, 199), (199, .aload_n 0, 200)]), (213, [(200, .aload_n 0, 201), (201, .getfield 25, 204), (204, .iload 4, 206), (206, .iload_n 2, 207), (207, .iload_n 1, 208), (208, .invokestatic 111, 211), (211, .iload_n 1, 212), (212, .invokestatic 115, 215)]), (229, [(215, .lor, 216), (216, .invokevirtual 107, 219), (219, .goto 30, 222), (222, .aload_n 0, 223), (223, .iload 5, 225), (225, .iload 4, 227), (227, .iload_n 2, 228), (228, .invokevirtual 103, 231)]), (244, [(231, .aload_n 0, 232), (232, .aload_n 0, 233), (233, .getfield 25, 236), (236, .iload 5, 238), (238, .iload_n 2, 239), (239, .iload_n 1, 240), (240, .invokestatic 111, 243), (243, .invokevirtual 107, 246)]), (250, [(246, .goto 3, 249), (249, .return_, 250)])]
def tb_35 : List (Nat × List xm_I) := [(11, [(0, .aload_n 0, 1), (1, .iconst 0, 2), (2, .putfield 15, 5), (5, .aload_n 0, 6), (6, .iconst 0, 7), (7, .putfield 19, 10), (10, .return_, 11)])]
def tb_36 : List (Nat × List xm_I) := [(12, [(0, .iconst 0, 1), (1, .istore_n 3, 2), (2, .aload_n 0, 3), (3, .getfield 15, 6), (6, .istore 4, 8), (8, .iload_n 3, 9), (9, .iload 4, 11), (11, .if_icmp .ge 38, 14)]), (24, [(14, .iload_n 3, 15), (15, .iload 4, 17), (17, .iadd, 18), (18, .iconst 2, 19), (19, .idiv, 20), (20, .istore 5, 22), (22, .aload_n 0, 23), (23, .getfield 9, 26)]), (38, [(26, .iload 5, 28), (28, .laload, 29), (29, .lload_n 1, 30), (30, .lcmp, 31), (31, .ifCond .ge 11, 34), (34, .iload 5, 36), (36, .iconst 1, 37), (37, .iadd, 38)]), (52, [(38, .istore_n 3, 39), (39, .goto 7, 42), (42, .iload 5, 44), (44, .istore 4, 46), (46, .goto (-38), 49), (49, .iload_n 3, 50), (50, .aload_n 0, 51), (51, .getfield 15, 54)]), (66, [(54, .if_icmp .ge 15, 57), (57, .aload_n 0, 58), (58, .getfield 9, 61), (61, .iload_n 3, 62), (62, .laload, 63), (63, .lload_n 1, 64), (64, .lcmp, 65), (65, .ifCond .ne 4, 68)]), (81, [(68, .return_, 69), (69, .aload_n 0, 70), (70, .getfield 15, 73), (73, .bipush 60, 75), (75, .if_icmp .lt 9, 78), (78, .aload_n 0, 79), (79, .iconst 1, 80), (80, .putfield 19, 83)]), (97, [(83, .return_, 84), (84, .aload_n 0, 85), (85, .getfield 15, 88), (88, .istore 5, 90), (90, .iload 5, 92), (92, .iload_n 3, 93), (93, .if_icmp .le 25, 96), (96, .aload_n 0, 97)]), (111, [(97, .getfield 9, 100), (100, .iload 5, 102), (102, .aload_n 0, 103), (103, .getfield 9, 106), (106, .iload 5, 108), (108, .iconst 1, 109), (109, .isub, 110), (110, .laload, 111)]), (125, [(111, .lastore, 112), (112, .iinc 5 (-1), 115), (115, .goto (-25), 118), (118, .aload_n 0, 119), (119, .getfield 9, 122), (122, .iload_n 3, 123), (123, .lload_n 1, 124), (124, .lastore, 125)]), (136, [(125, .aload_n 0, 126), (126, .dup, 127), (127, .getfield 15, 130), (130, .iconst 1, 131), (131, .iadd, 132), (132, .putfield 15, 135), (135, .return_, 136)])]
def tb_37 : List (Nat × List xm_I) := [(13, [(0, .iload_n 1, 1), (1, .iload_n 3, 2), (2, .invokestatic 45, 5), (5, .istore 4, 7), (7, .iconst 0, 8), (8, .istore 5, 10), (10, .iload 5, 12), (12, .aload_n 0, 13)]), (30, [(13, .getfield 15, 16), (16, .iload 4, 18), (18, .iaload, 19), (19, .if_icmp .ge 44, 22), (22, .aload_n 0, 23), (23, .getfield 25, 26), (26, .getfield 63, 29), (29, .ifCond .ne 34, 32)]), (44, [(32, .aload_n 0, 33), (33, .aload_n 0, 34), (34, .getfield 25, 37), (37, .iload_n 2, 38), (38, .iload_n 3, 39), (39, .aload_n 0, 40), (40, .getfield 18, 43), (43, .aload_n 0, 44)]), (58, [(44, .getfield 9, 47), (47, .iload 4, 49), (49, .iaload, 50), (50, .iload 5, 52), (52, .iadd, 53), (53, .laload, 54), (54, .invokevirtual 107, 57), (57, .iinc 5 1, 60)]), (64, [(60, .goto (-50), 63), (63, .return_, 64)])]
def tb_38 : List (Nat × List xm_I) := [(13, [(0, .iload_n 2, 1), (1, .iload_n 3, 2), (2, .invokestatic 45, 5), (5, .istore 6, 7), (7, .iconst 0, 8), (8, .istore 7, 10), (10, .iload 7, 12), (12, .aload_n 0, 13)]), (30, [(13, .getfield 15, 16), (16, .iload 6, 18), (18, .iaload, 19), (19, .if_icmp .ge 38, 22), (22, .aload_n 1, 23), (23, .getfield 63, 26), (26, .ifCond .ne 31, 29), (29, .aload_n 1, 30)]), (44, [(30, .aload_n 0, 31), (31, .getfield 18, 34), (34, .aload_n 0, 35), (35, .getfield 9, 38), (38, .iload 6, 40), (40, .iaload, 41), (41, .iload 7, 43), (43, .iadd, 44)]), (58, [(44, .laload, 45), (45, .lload 4, 47), (47, .lor, 48), (48, .invokevirtual 99, 51), (51, .iinc 7 1, 54), (54, .goto (-44), 57), (57, .return_, 58)])]
def tb_39 : List (Nat × List xm_I) := [(4, [(0, .lconst 1, 1), (1, .iload_n 0, 2), (2, .lshl, 3), (3, .lreturn, 4)])]
def tb_40 : List (Nat × List xm_I) := [(7, [(0, .lconst 1, 1), (1, .bipush 28, 3), (3, .iload_n 0, 4), (4, .iadd, 5), (5, .lshl, 6), (6, .lreturn, 7)])]
def tb_41 : List (Nat × List xm_I) := [(16, [(0, .aload_n 0, 1), (1, .getfield 25, 4), (4, .getfield 63, 7), (7, .ifCond .eq 12, 10), (10, .aload_n 0, 11), (11, .getfield 15, 14), (14, .iload_n 1, 15), (15, .bipush (-2), 17)]), (31, [(17, .iastore, 18), (18, .return_, 19), (19, .aload_n 0, 20), (20, .getfield 67, 23), (23, .aload_n 0, 24), (24, .getfield 25, 27), (27, .getfield 71, 30), (30, .iadd, 31)]), (45, [(31, .aload_n 0, 32), (32, .getfield 18, 35), (35, .arraylength, 36), (36, .if_icmp .le 21, 39), (39, .aload_n 0, 40), (40, .aload_n 0, 41), (41, .getfield 18, 44), (44, .iconst 2, 45)]), (59, [(45, .aload_n 0, 46), (46, .getfield 18, 49), (49, .arraylength, 50), (50, .imul, 51), (51, .invokestatic 74, 54), (54, .putfield 18, 57), (57, .aload_n 0, 58), (58, .getfield 25, 61)]), (75, [(61, .getfield 78, 64), (64, .iconst 0, 65), (65, .aload_n 0, 66), (66, .getfield 18, 69), (69, .aload_n 0, 70), (70, .getfield 67, 73), (73, .aload_n 0, 74), (74, .getfield 25, 77)]), (93, [(77, .getfield 71, 80), (80, .invokestatic 81, 83), (83, .aload_n 0, 84), (84, .getfield 9, 87), (87, .iload_n 1, 88), (88, .aload_n 0, 89), (89, .getfield 67, 92), (92, .iastore, 93)]), (107, [(93, .aload_n 0, 94), (94, .getfield 15, 97), (97, .iload_n 1, 98), (98, .aload_n 0, 99), (99, .getfield 25, 102), (102, .getfield 71, 105), (105, .iastore, 106), (106, .aload_n 0, 107)]), (123, [(107, .dup, 108), (108, .getfield 67, 111), (111, .aload_n 0, 112), (112, .getfield 25, 115), (115, .getfield 71, 118), (118, .iadd, 119), (119, .putfield 67, 122), (122, .return_, 123)])]
def tb_42 : List (Nat × List xm_I) := [(15, [(0, .iload_n 1, 1), (1, .aload_n 0, 2), (2, .arraylength, 3), (3, .if_icmp .ne 11, 6), (6, .aload_n 0, 7), (7, .invokevirtual 319, 10), (13, .areturn, 14), (14, .iload_n 1, 15)]), (24, [(15, .newarray .long, 17), (17, .astore_n 2, 18), (18, .aload_n 0, 19), (19, .iconst 0, 20), (20, .aload_n 2, 21), (21, .iconst 0, 22), (22, .aload_n 0, 23), (23, .arraylength, 24)]), (33, [(24, .iload_n 1, 25), (25, .invokestatic 304, 28), (28, .invokestatic 150, 31), (31, .aload_n 2, 32), (32, .areturn, 33)])]
def tb_43 : List (Nat × List xm_I) := [(11, [(0, .iload_n 0, 1), (1, .iload_n 1, 2), (2, .if_icmp .gt 7, 5), (5, .iload_n 0, 6), (6, .goto 4, 9), (9, .iload_n 1, 10), (10, .ireturn, 11)])]
def tb_44 : List (Nat × List xm_I) := [(11, [(0, .aload_n 0, 1), (1, .getfield 15, 4), (4, .iload_n 1, 5), (5, .iload_n 2, 6), (6, .invokestatic 45, 9), (9, .iaload, 10), (10, .ireturn, 11)])]
def tb_45 : List (Nat × List xm_I) := [(14, [(0, .aload_n 0, 1), (1, .getfield 10, 4), (4, .iload_n 1, 5), (5, .invokevirtual 74, 8), (8, .ifCond .ne 5, 11), (11, .iconst (-1), 12), (12, .ireturn, 13), (13, .aload_n 0, 14)]), (32, [(14, .getfield 37, 17), (17, .iload_n 1, 18), (18, .invokevirtual 98, 21), (21, .ifCond .eq 13, 24), (24, .aload_n 0, 25), (25, .getfield 37, 28), (28, .getfield 100, 31), (31, .goto 5, 34)]), (37, [(34, .bipush (-2), 36), (36, .ireturn, 37)])]
def tb_46 : List (Nat × List xm_I) := [(13, [(0, .iconst 0, 1), (1, .istore_n 2, 2), (2, .iload_n 2, 3), (3, .bipush 16, 5), (5, .if_icmp .ge 23, 8), (8, .aload_n 0, 9), (9, .getfield 31, 12), (12, .iload_n 1, 13)]), (29, [(13, .iload_n 2, 14), (14, .invokevirtual 35, 17), (17, .ifCond .ne 5, 20), (20, .iconst 0, 21), (21, .ireturn, 22), (22, .iinc 2 1, 25), (25, .goto (-23), 28), (28, .aload_n 0, 29)]), (41, [(29, .iload_n 1, 30), (30, .invokevirtual 41, 33), (33, .aload_n 0, 34), (34, .getfield 15, 37), (37, .iconst 0, 38), (38, .iconst 1, 39), (39, .iload_n 1, 40), (40, .ishl, 41)]), (51, [(41, .iastore, 42), (42, .aload_n 0, 43), (43, .getfield 18, 46), (46, .iconst 0, 47), (47, .iconst 0, 48), (48, .iastore, 49), (49, .aload_n 0, 50), (50, .iconst 1, 51)]), (65, [(51, .putfield 45, 54), (54, .iconst 0, 55), (55, .istore_n 2, 56), (56, .iload_n 2, 57), (57, .aload_n 0, 58), (58, .getfield 45, 61), (61, .if_icmp .ge 40, 64), (64, .iload_n 2, 65)]), (79, [(65, .bipush 16, 67), (67, .if_icmp .ge 34, 70), (70, .iconst 0, 71), (71, .istore_n 3, 72), (72, .iload_n 3, 73), (73, .bipush 16, 75), (75, .if_icmp .ge 20, 78), (78, .aload_n 0, 79)]), (93, [(79, .iload_n 2, 80), (80, .iload_n 3, 81), (81, .invokevirtual 49, 84), (84, .ifCond .ne 5, 87), (87, .iconst 0, 88), (88, .ireturn, 89), (89, .iinc 3 1, 92), (92, .goto (-20), 95)]), (103, [(95, .iinc 2 1, 98), (98, .goto (-42), 101), (101, .iconst 1, 102), (102, .ireturn, 103)])]
def tb_47 : List (Nat × List xm_I) := [(10, [(0, .aload_n 0, 1), (1, .iconst 0, 2), (2, .putfield 52, 5), (5, .iconst 0, 6), (6, .istore_n 2, 7), (7, .iload_n 2, 8), (8, .iload_n 1, 9), (9, .if_icmp .gt 55, 12)]), (26, [(12, .aload_n 0, 13), (13, .getfield 27, 16), (16, .iload_n 2, 17), (17, .iload_n 1, 18), (18, .invokevirtual 55, 21), (21, .ifCond .eq 37, 24), (24, .aload_n 0, 25), (25, .getfield 27, 28)]), (43, [(28, .getfield 60, 31), (31, .iload_n 2, 32), (32, .iaload, 33), (33, .bipush 7, 35), (35, .if_icmp .ne 23, 38), (38, .aload_n 0, 39), (39, .getfield 9, 42), (42, .aload_n 0, 43)]), (55, [(43, .getfield 52, 46), (46, .iload_n 2, 47), (47, .iastore, 48), (48, .aload_n 0, 49), (49, .dup, 50), (50, .getfield 52, 53), (53, .iconst 1, 54), (54, .iadd, 55)]), (65, [(55, .putfield 52, 58), (58, .iinc 2 1, 61), (61, .goto (-54), 64), (64, .return_, 65)])]
def tb_48 : List (Nat × List xm_I) := [(12, [(0, .aload_n 0, 1), (1, .getfield 31, 4), (4, .aload_n 0, 5), (5, .getfield 15, 8), (8, .iload_n 1, 9), (9, .iaload, 10), (10, .iload_n 2, 11), (11, .invokevirtual 63, 14)]), (26, [(14, .astore_n 3, 15), (15, .aload_n 3, 16), (16, .getfield 67, 19), (19, .ifCond .eq 5, 22), (22, .iconst 0, 23), (23, .ireturn, 24), (24, .iload_n 1, 25), (25, .bipush 16, 27)]), (39, [(27, .imul, 28), (28, .iload_n 2, 29), (29, .iadd, 30), (30, .istore 4, 32), (32, .aload_n 0, 33), (33, .getfield 21, 36), (36, .iload 4, 38), (38, .iconst 0, 39)]), (50, [(39, .iastore, 40), (40, .aload_n 0, 41), (41, .getfield 24, 44), (44, .iload 4, 46), (46, .iconst 0, 47), (47, .iastore, 48), (48, .iconst 0, 49), (49, .istore 5, 51)]), (67, [(51, .iload 5, 53), (53, .aload_n 3, 54), (54, .getfield 73, 57), (57, .if_icmp .ge 100, 60), (60, .aload_n 3, 61), (61, .getfield 74, 64), (64, .iload 5, 66), (66, .laload, 67)]), (79, [(67, .lstore 6, 69), (69, .aload_n 0, 70), (70, .aload_n 0, 71), (71, .getfield 18, 74), (74, .iload_n 1, 75), (75, .iaload, 76), (76, .lload 6, 78), (78, .invokestatic 78, 81)]), (96, [(81, .invokevirtual 82, 84), (84, .istore 8, 86), (86, .aload_n 0, 87), (87, .lload 6, 89), (89, .invokestatic 86, 92), (92, .iload 8, 94), (94, .iconst (-1), 95), (95, .if_icmp .ne 7, 98)]), (113, [(98, .iconst 0, 99), (99, .goto 5, 102), (102, .iload 8, 104), (104, .invokevirtual 89, 107), (107, .istore 9, 109), (109, .iload 9, 111), (111, .iconst (-1), 112), (112, .if_icmp .ne 5, 115)]), (126, [(115, .iconst 0, 116), (116, .ireturn, 117), (117, .aload_n 0, 118), (118, .getfield 21, 121), (121, .iload 4, 123), (123, .dup2, 124), (124, .iaload, 125), (125, .iconst 1, 126)]), (138, [(126, .iload 9, 128), (128, .ishl, 129), (129, .ior, 130), (130, .iastore, 131), (131, .iload 8, 133), (133, .iconst (-1), 134), (134, .if_icmp .ne 17, 137), (137, .aload_n 0, 138)]), (150, [(138, .getfield 24, 141), (141, .iload 4, 143), (143, .dup2, 144), (144, .iaload, 145), (145, .iconst 1, 146), (146, .iload 9, 148), (148, .ishl, 149), (149, .ior, 150)]), (159, [(150, .iastore, 151), (151, .iinc 5 1, 154), (154, .goto (-103), 157), (157, .iconst 1, 158), (158, .ireturn, 159)])]
def tb_49 : List (Nat × List xm_I) := [(13, [(0, .aload_n 0, 1), (1, .getfield 29, 4), (4, .astore_n 3, 5), (5, .aload_n 0, 6), (6, .getfield 32, 9), (9, .astore 4, 11), (11, .aload_n 3, 12), (12, .invokevirtual 96, 15)]), (28, [(15, .aload_n 3, 16), (16, .lconst 0, 17), (17, .invokevirtual 99, 20), (20, .iconst 0, 21), (21, .istore 5, 23), (23, .iload 5, 25), (25, .bipush 28, 27), (27, .if_icmp .ge 92, 30)]), (45, [(30, .iload_n 1, 31), (31, .iload 5, 33), (33, .ishr, 34), (34, .ifCond .eq 85, 37), (37, .aload_n 3, 38), (38, .getfield 63, 41), (41, .ifCond .ne 78, 44), (44, .iload_n 1, 45)]), (59, [(45, .iload 5, 47), (47, .ishr, 48), (48, .iconst 1, 49), (49, .iand, 50), (50, .ifCond .ne 6, 53), (53, .goto 60, 56), (56, .aload 4, 58), (58, .invokevirtual 96, 61)]), (76, [(61, .iconst 0, 62), (62, .istore 6, 64), (64, .iload 6, 66), (66, .aload_n 3, 67), (67, .getfield 71, 70), (70, .if_icmp .ge 33, 73), (73, .aload 4, 75), (75, .getfield 63, 78)]), (92, [(78, .ifCond .ne 25, 81), (81, .aload_n 0, 82), (82, .aload 4, 84), (84, .iload 5, 86), (86, .iload_n 2, 87), (87, .aload_n 3, 88), (88, .getfield 78, 91), (91, .iload 6, 93)]), (109, [(93, .laload, 94), (94, .invokevirtual 107, 97), (97, .iinc 6 1, 100), (100, .goto (-36), 103), (103, .aload_n 3, 104), (104, .astore 6, 106), (106, .aload 4, 108), (108, .astore_n 3, 109)]), (121, [(109, .aload 6, 111), (111, .astore 4, 113), (113, .iinc 5 1, 116), (116, .goto (-93), 119), (119, .aload_n 3, 120), (120, .areturn, 121)])]
def tb_50 : List (Nat × List xm_I) := [(6, [(0, .lload_n 0, 1), (1, .bipush 28, 3), (3, .lshr, 4), (4, .l2i, 5), (5, .ireturn, 6)])]
def tb_51 : List (Nat × List xm_I) := [(12, [(0, .iload_n 1, 1), (1, .istore_n 3, 2), (2, .iload_n 3, 3), (3, .aload_n 0, 4), (4, .getfield 52, 7), (7, .if_icmp .ge 24, 10), (10, .iload_n 2, 11), (11, .aload_n 0, 12)]), (24, [(12, .getfield 9, 15), (15, .iload_n 3, 16), (16, .iaload, 17), (17, .ishr, 18), (18, .iconst 1, 19), (19, .iand, 20), (20, .ifCond .eq 5, 23), (23, .iload_n 3, 24)]), (33, [(24, .ireturn, 25), (25, .iinc 3 1, 28), (28, .goto (-26), 31), (31, .iconst (-1), 32), (32, .ireturn, 33)])]
def tb_52 : List (Nat × List xm_I) := [(7, [(0, .lload_n 0, 1), (1, .ldc2_w 23, 4), (4, .land, 5), (5, .l2i, 6), (6, .ireturn, 7)])]
def tb_53 : List (Nat × List xm_I) := [(12, [(0, .iconst 0, 1), (1, .istore_n 3, 2), (2, .iload_n 3, 3), (3, .aload_n 0, 4), (4, .getfield 45, 7), (7, .if_icmp .ge 31, 10), (10, .aload_n 0, 11), (11, .getfield 15, 14)]), (26, [(14, .iload_n 3, 15), (15, .iaload, 16), (16, .iload_n 1, 17), (17, .if_icmp .ne 15, 20), (20, .aload_n 0, 21), (21, .getfield 18, 24), (24, .iload_n 3, 25), (25, .iaload, 26)]), (40, [(26, .iload_n 2, 27), (27, .if_icmp .ne 5, 30), (30, .iload_n 3, 31), (31, .ireturn, 32), (32, .iinc 3 1, 35), (35, .goto (-33), 38), (38, .aload_n 0, 39), (39, .getfield 45, 42)]), (55, [(42, .bipush 16, 44), (44, .if_icmp .lt 5, 47), (47, .iconst (-1), 48), (48, .ireturn, 49), (49, .aload_n 0, 50), (50, .getfield 15, 53), (53, .aload_n 0, 54), (54, .getfield 45, 57)]), (69, [(57, .iload_n 1, 58), (58, .iastore, 59), (59, .aload_n 0, 60), (60, .getfield 18, 63), (63, .aload_n 0, 64), (64, .getfield 45, 67), (67, .iload_n 2, 68), (68, .iastore, 69)]), (81, [(69, .aload_n 0, 70), (70, .dup, 71), (71, .getfield 45, 74), (74, .iconst 1, 75), (75, .iadd, 76), (76, .putfield 45, 79), (79, .aload_n 0, 80), (80, .getfield 45, 83)]), (86, [(83, .iconst 1, 84), (84, .isub, 85), (85, .ireturn, 86)])]
def tb_54 : List (Nat × List xm_I) := [(16, [(0, .aload_n 0, 1), (1, .getfield 10, 4), (4, .iload_n 1, 5), (5, .invokevirtual 74, 8), (8, .ifCond .eq 12, 11), (11, .iload_n 2, 12), (12, .ifCond .lt 8, 15), (15, .iload_n 2, 16)]), (30, [(16, .iconst 3, 17), (17, .if_icmp .le 5, 20), (20, .iconst (-1), 21), (21, .ireturn, 22), (22, .aload_n 0, 23), (23, .getfield 55, 26), (26, .invokevirtual 101, 29), (29, .aload_n 0, 30)]), (43, [(30, .getfield 10, 33), (33, .iload_n 1, 34), (34, .iconst 0, 35), (35, .invokevirtual 77, 38), (38, .istore_n 3, 39), (39, .iload_n 3, 40), (40, .bipush (-2), 42), (42, .if_icmp .eq 25, 45)]), (61, [(45, .aload_n 0, 46), (46, .getfield 37, 49), (49, .iload_n 3, 50), (50, .invokevirtual 98, 53), (53, .ifCond .eq 14, 56), (56, .aload_n 0, 57), (57, .getfield 46, 60), (60, .iload_n 2, 61)]), (76, [(61, .invokevirtual 104, 64), (64, .ifCond .ne 6, 67), (67, .bipush (-2), 69), (69, .ireturn, 70), (70, .aload_n 0, 71), (71, .getfield 46, 74), (74, .iconst 1, 75), (75, .invokevirtual 107, 78)]), (92, [(78, .ifCond .eq 12, 81), (81, .aload_n 0, 82), (82, .getfield 55, 85), (85, .invokevirtual 110, 88), (88, .iconst 1, 89), (89, .ireturn, 90), (90, .aload_n 0, 91), (91, .getfield 37, 94)]), (110, [(94, .iload_n 1, 95), (95, .invokevirtual 98, 98), (98, .ifCond .eq 14, 101), (101, .aload_n 0, 102), (102, .getfield 46, 105), (105, .iload_n 2, 106), (106, .invokevirtual 104, 109), (109, .ifCond .ne 6, 112)]), (127, [(112, .bipush (-2), 114), (114, .ireturn, 115), (115, .aload_n 0, 116), (116, .getfield 46, 119), (119, .iconst 2, 120), (120, .invokevirtual 107, 123), (123, .ifCond .eq 12, 126), (126, .aload_n 0, 127)]), (137, [(127, .getfield 55, 130), (130, .invokevirtual 113, 133), (133, .iconst 2, 134), (134, .ireturn, 135), (135, .iconst 0, 136), (136, .ireturn, 137)])]
def tb_55 : List (Nat × List xm_I) := [(12, [(0, .aload_n 0, 1), (1, .iconst 0, 2), (2, .putfield 9, 5), (5, .aload_n 0, 6), (6, .iconst 0, 7), (7, .putfield 32, 10), (10, .aload_n 0, 11), (11, .iconst 0, 12)]), (21, [(12, .putfield 35, 15), (15, .aload_n 0, 16), (16, .iconst 0, 17), (17, .putfield 38, 20), (20, .return_, 21)])]
def tb_56 : List (Nat × List xm_I) := [(12, [(0, .aload_n 0, 1), (1, .getfield 9, 4), (4, .iconst 0, 5), (5, .lconst 0, 6), (6, .iconst 0, 7), (7, .iconst 0, 8), (8, .invokestatic 27, 11), (11, .lastore, 12)]), (22, [(12, .aload_n 0, 13), (13, .iconst 1, 14), (14, .putfield 31, 17), (17, .iconst 0, 18), (18, .istore_n 2, 19), (19, .iload_n 2, 20), (20, .aload_n 0, 21), (21, .getfield 31, 24)]), (37, [(24, .if_icmp .ge 86, 27), (27, .iload_n 2, 28), (28, .bipush 100, 30), (30, .if_icmp .ge 80, 33), (33, .iconst 0, 34), (34, .istore_n 3, 35), (35, .iload_n 3, 36), (36, .bipush 16, 38)]), (50, [(38, .if_icmp .ge 66, 41), (41, .aload_n 0, 42), (42, .aload_n 0, 43), (43, .getfield 9, 46), (46, .iload_n 2, 47), (47, .laload, 48), (48, .iload_n 3, 49), (49, .iload_n 1, 50)]), (66, [(50, .invokevirtual 35, 53), (53, .lstore 4, 55), (55, .lload 4, 57), (57, .ldc2_w 38, 60), (60, .lcmp, 61), (61, .ifCond .ne 7, 64), (64, .iconst (-1), 65), (65, .goto 9, 68)]), (84, [(68, .aload_n 0, 69), (69, .lload 4, 71), (71, .invokevirtual 40, 74), (74, .istore 6, 76), (76, .iload 6, 78), (78, .bipush (-2), 80), (80, .if_icmp .ne 5, 83), (83, .iconst 0, 84)]), (95, [(84, .ireturn, 85), (85, .aload_n 0, 86), (86, .getfield 15, 89), (89, .iload_n 2, 90), (90, .bipush 16, 92), (92, .imul, 93), (93, .iload_n 3, 94), (94, .iadd, 95)]), (112, [(95, .iload 6, 97), (97, .iastore, 98), (98, .iinc 3 1, 101), (101, .goto (-66), 104), (104, .iinc 2 1, 107), (107, .goto (-88), 110), (110, .iconst 1, 111), (111, .ireturn, 112)])]
def tb_57 : List (Nat × List xm_I) := [(14, [(0, .lload_n 0, 1), (1, .iload_n 2, 2), (2, .invokestatic 46, 5), (5, .istore 4, 7), (7, .iload 4, 9), (9, .iload_n 3, 10), (10, .if_icmp .lt 7, 13), (13, .lload_n 0, 14)]), (25, [(14, .goto 14, 17), (17, .lload_n 0, 18), (18, .iload_n 3, 19), (19, .iload 4, 21), (21, .isub, 22), (22, .i2l, 23), (23, .iconst 4, 24), (24, .iload_n 2, 25)]), (29, [(25, .imul, 26), (26, .lshl, 27), (27, .ladd, 28), (28, .lreturn, 29)])]
def tb_58 : List (Nat × List xm_I) := [(10, [(0, .lload_n 0, 1), (1, .iconst 4, 2), (2, .iload_n 2, 3), (3, .imul, 4), (4, .lshr, 5), (5, .ldc2_w 44, 8), (8, .land, 9), (9, .l2i, 10)]), (13, [(10, .iconst 1, 11), (11, .isub, 12), (12, .ireturn, 13)])]
def tb_59 : List (Nat × List xm_I) := [(13, [(0, .lconst 0, 1), (1, .lstore 5, 3), (3, .iconst 0, 4), (4, .istore 7, 6), (6, .iload 7, 8), (8, .aload_n 0, 9), (9, .getfield 23, 12), (12, .getfield 50, 15)]), (32, [(15, .if_icmp .ge 98, 18), (18, .lload_n 1, 19), (19, .iload 7, 21), (21, .invokestatic 46, 24), (24, .istore 8, 26), (26, .iload 8, 28), (28, .ifCond .ge 6, 31), (31, .goto 76, 34)]), (45, [(34, .iload 7, 36), (36, .bipush 16, 38), (38, .imul, 39), (39, .iload_n 3, 40), (40, .iadd, 41), (41, .istore 9, 43), (43, .aload_n 0, 44), (44, .getfield 23, 47)]), (64, [(47, .getfield 53, 50), (50, .iload 9, 52), (52, .iaload, 53), (53, .ifCond .eq 14, 56), (56, .iload 8, 58), (58, .iload 4, 60), (60, .if_icmp .lt 7, 63), (63, .ldc2_w 38, 66)]), (80, [(66, .lreturn, 67), (67, .lload 5, 69), (69, .aload_n 0, 70), (70, .getfield 23, 73), (73, .getfield 56, 76), (76, .iload 9, 78), (78, .iaload, 79), (79, .iload 8, 81)]), (98, [(81, .invokestatic 59, 84), (84, .lstore 5, 86), (86, .lload 5, 88), (88, .aload_n 0, 89), (89, .getfield 23, 92), (92, .getfield 53, 95), (95, .iload 9, 97), (97, .iaload, 98)]), (114, [(98, .iload 8, 100), (100, .iconst 1, 101), (101, .iadd, 102), (102, .invokestatic 59, 105), (105, .lstore 5, 107), (107, .iinc 7 1, 110), (110, .goto (-104), 113), (113, .lload 5, 115)]), (116, [(115, .lreturn, 116)])]
def tb_60 : List (Nat × List xm_I) := [(14, [(0, .lload_n 0, 1), (1, .lstore 4, 3), (3, .iconst 0, 4), (4, .istore 6, 6), (6, .iload 6, 8), (8, .bipush 16, 10), (10, .if_icmp .ge 35, 13), (13, .iload_n 2, 14)]), (26, [(14, .iload 6, 16), (16, .ishr, 17), (17, .ifCond .eq 28, 20), (20, .iload_n 2, 21), (21, .iload 6, 23), (23, .ishr, 24), (24, .iconst 1, 25), (25, .iand, 26)]), (43, [(26, .ifCond .eq 13, 29), (29, .lload 4, 31), (31, .iload 6, 33), (33, .iload_n 3, 34), (34, .invokestatic 27, 37), (37, .lstore 4, 39), (39, .iinc 6 1, 42), (42, .goto (-36), 45)]), (48, [(45, .lload 4, 47), (47, .lreturn, 48)])]
def tb_61 : List (Nat × List xm_I) := [(12, [(0, .iconst 0, 1), (1, .istore_n 3, 2), (2, .iload_n 3, 3), (3, .aload_n 0, 4), (4, .getfield 31, 7), (7, .if_icmp .ge 22, 10), (10, .aload_n 0, 11), (11, .getfield 9, 14)]), (24, [(14, .iload_n 3, 15), (15, .laload, 16), (16, .lload_n 1, 17), (17, .lcmp, 18), (18, .ifCond .ne 5, 21), (21, .iload_n 3, 22), (22, .ireturn, 23), (23, .iinc 3 1, 26)]), (42, [(26, .goto (-24), 29), (29, .aload_n 0, 30), (30, .getfield 31, 33), (33, .bipush 100, 35), (35, .if_icmp .lt 6, 38), (38, .bipush (-2), 40), (40, .ireturn, 41), (41, .aload_n 0, 42)]), (54, [(42, .getfield 9, 45), (45, .aload_n 0, 46), (46, .getfield 31, 49), (49, .lload_n 1, 50), (50, .lastore, 51), (51, .aload_n 0, 52), (52, .dup, 53), (53, .getfield 31, 56)]), (68, [(56, .iconst 1, 57), (57, .iadd, 58), (58, .putfield 31, 61), (61, .aload_n 0, 62), (62, .getfield 31, 65), (65, .iconst 1, 66), (66, .isub, 67), (67, .ireturn, 68)])]
def tb_62 : List (Nat × List xm_I) := [(12, [(0, .iconst 0, 1), (1, .istore_n 2, 2), (2, .iload_n 2, 3), (3, .aload_n 0, 4), (4, .getfield 31, 7), (7, .if_icmp .ge 16, 10), (10, .aload_n 0, 11), (11, .getfield 19, 14)]), (26, [(14, .iload_n 2, 15), (15, .iconst 1, 16), (16, .bastore, 17), (17, .iinc 2 1, 20), (20, .goto (-18), 23), (23, .aload_n 0, 24), (24, .aload_n 0, 25), (25, .getfield 31, 28)]), (39, [(28, .putfield 62, 31), (31, .iconst 1, 32), (32, .istore_n 2, 33), (33, .iconst 0, 34), (34, .istore_n 3, 35), (35, .iload_n 3, 36), (36, .bipush 100, 38), (38, .if_icmp .gt 19, 41)]), (55, [(41, .iload_n 2, 42), (42, .ifCond .eq 15, 45), (45, .aload_n 0, 46), (46, .iload_n 1, 47), (47, .invokevirtual 65, 50), (50, .istore_n 2, 51), (51, .iinc 3 1, 54), (54, .goto (-19), 57)]), (64, [(57, .aload_n 0, 58), (58, .getfield 19, 61), (61, .iconst 0, 62), (62, .baload, 63), (63, .ireturn, 64)])]
def tb_63 : List (Nat × List xm_I) := [(10, [(0, .aload_n 0, 1), (1, .getfield 62, 4), (4, .istore_n 2, 5), (5, .iconst 0, 6), (6, .istore_n 3, 7), (7, .iload_n 3, 8), (8, .aload_n 0, 9), (9, .getfield 31, 12)]), (26, [(12, .if_icmp .ge 44, 15), (15, .aload_n 0, 16), (16, .getfield 19, 19), (19, .iload_n 3, 20), (20, .baload, 21), (21, .ifCond .eq 29, 24), (24, .aload_n 0, 25), (25, .iload_n 3, 26)]), (40, [(26, .iload_n 1, 27), (27, .invokevirtual 69, 30), (30, .ifCond .ne 20, 33), (33, .aload_n 0, 34), (34, .getfield 19, 37), (37, .iload_n 3, 38), (38, .iconst 0, 39), (39, .bastore, 40)]), (54, [(40, .aload_n 0, 41), (41, .dup, 42), (42, .getfield 62, 45), (45, .iconst 1, 46), (46, .isub, 47), (47, .putfield 62, 50), (50, .iinc 3 1, 53), (53, .goto (-46), 56)]), (70, [(56, .aload_n 0, 57), (57, .getfield 62, 60), (60, .iload_n 2, 61), (61, .if_icmp .eq 7, 64), (64, .iconst 1, 65), (65, .goto 4, 68), (68, .iconst 0, 69), (69, .ireturn, 70)])]
def tb_64 : List (Nat × List xm_I) := [(12, [(0, .iload_n 2, 1), (1, .iconst 2, 2), (2, .if_icmp .ne 18, 5), (5, .aload_n 0, 6), (6, .iload_n 1, 7), (7, .invokevirtual 73, 10), (10, .iconst (-1), 11), (11, .if_icmp .eq 7, 14)]), (24, [(14, .iconst 1, 15), (15, .goto 4, 18), (18, .iconst 0, 19), (19, .ireturn, 20), (20, .iconst 0, 21), (21, .istore_n 3, 22), (22, .iload_n 3, 23), (23, .iconst 4, 24)]), (38, [(24, .if_icmp .ge 21, 27), (27, .aload_n 0, 28), (28, .iload_n 1, 29), (29, .iload_n 3, 30), (30, .invokevirtual 77, 33), (33, .iconst (-1), 34), (34, .if_icmp .ne 5, 37), (37, .iconst 0, 38)]), (47, [(38, .ireturn, 39), (39, .iinc 3 1, 42), (42, .goto (-20), 45), (45, .iconst 1, 46), (46, .ireturn, 47)])]
def tb_65 : List (Nat × List xm_I) := [(10, [(0, .iconst 0, 1), (1, .istore_n 2, 2), (2, .iload_n 2, 3), (3, .iconst 4, 4), (4, .if_icmp .ge 45, 7), (7, .iconst 1, 8), (8, .istore_n 3, 9), (9, .iconst 0, 10)]), (24, [(10, .istore 4, 12), (12, .iload 4, 14), (14, .iconst 4, 15), (15, .if_icmp .ge 22, 18), (18, .iload_n 3, 19), (19, .ifCond .eq 18, 22), (22, .aload_n 0, 23), (23, .iload_n 1, 24)]), (39, [(24, .iload_n 2, 25), (25, .iload 4, 27), (27, .invokevirtual 85, 30), (30, .istore_n 3, 31), (31, .iinc 4 1, 34), (34, .goto (-22), 37), (37, .iload_n 3, 38), (38, .ifCond .eq 5, 41)]), (51, [(41, .iload_n 2, 42), (42, .ireturn, 43), (43, .iinc 2 1, 46), (46, .goto (-44), 49), (49, .iconst (-1), 50), (50, .ireturn, 51)])]
def tb_66 : List (Nat × List xm_I) := [(12, [(0, .aload_n 0, 1), (1, .iload_n 1, 2), (2, .iload_n 2, 3), (3, .iload_n 3, 4), (4, .invokevirtual 81, 7), (7, .istore 4, 9), (9, .iload 4, 11), (11, .iconst (-1), 12)]), (27, [(12, .if_icmp .eq 17, 15), (15, .aload_n 0, 16), (16, .getfield 19, 19), (19, .iload 4, 21), (21, .baload, 22), (22, .ifCond .eq 7, 25), (25, .iconst 1, 26), (26, .goto 4, 29)]), (31, [(29, .iconst 0, 30), (30, .ireturn, 31)])]
def tb_67 : List (Nat × List xm_I) := [(11, [(0, .aload_n 0, 1), (1, .getfield 15, 4), (4, .iload_n 1, 5), (5, .bipush 16, 7), (7, .imul, 8), (8, .iload_n 2, 9), (9, .iadd, 10), (10, .iconst 4, 11)]), (16, [(11, .iload_n 3, 12), (12, .imul, 13), (13, .iadd, 14), (14, .iaload, 15), (15, .ireturn, 16)])]
def tb_68 : List (Nat × List xm_I) := [(10, [(0, .iconst 0, 1), (1, .istore_n 3, 2), (2, .iload_n 3, 3), (3, .iconst 4, 4), (4, .if_icmp .ge 21, 7), (7, .aload_n 0, 8), (8, .iload_n 1, 9), (9, .iload_n 2, 10)]), (26, [(10, .iload_n 3, 11), (11, .invokevirtual 85, 14), (14, .ifCond .eq 5, 17), (17, .iload_n 3, 18), (18, .ireturn, 19), (19, .iinc 3 1, 22), (22, .goto (-20), 25), (25, .iconst (-1), 26)]), (27, [(26, .ireturn, 27)])]
def tb_69 : List (Nat × List xm_I) := [(10, [(0, .aload_n 0, 1), (1, .iconst 1, 2), (2, .invokevirtual 41, 5), (5, .iconst 0, 6), (6, .istore_n 1, 7), (7, .iload_n 1, 8), (8, .aload_n 0, 9), (9, .getfield 32, 12)]), (27, [(12, .if_icmp .ge 51, 15), (15, .iload_n 1, 16), (16, .bipush 100, 18), (18, .if_icmp .ge 45, 21), (21, .aload_n 0, 22), (22, .getfield 15, 25), (25, .iload_n 1, 26), (26, .iaload, 27)]), (37, [(27, .istore_n 2, 28), (28, .iconst 0, 29), (29, .istore_n 3, 30), (30, .iload_n 3, 31), (31, .iconst 4, 32), (32, .if_icmp .ge 25, 35), (35, .aload_n 0, 36), (36, .iload_n 1, 37)]), (49, [(37, .iload_n 3, 38), (38, .iload_n 3, 39), (39, .aload_n 0, 40), (40, .getfield 28, 43), (43, .iload_n 2, 44), (44, .iload_n 3, 45), (45, .invokevirtual 45, 48), (48, .invokevirtual 51, 51)]), (64, [(51, .iinc 3 1, 54), (54, .goto (-24), 57), (57, .iinc 1 1, 60), (60, .goto (-53), 63), (63, .return_, 64)])]
def tb_70 : List (Nat × List xm_I) := [(14, [(0, .aload_n 0, 1), (1, .iload_n 1, 2), (2, .putfield 9, 5), (5, .aload_n 0, 6), (6, .aload_n 0, 7), (7, .getfield 28, 10), (10, .getfield 59, 13), (13, .putfield 35, 16)]), (32, [(16, .aload_n 0, 17), (17, .aload_n 0, 18), (18, .getfield 28, 21), (21, .getfield 60, 24), (24, .putfield 38, 27), (27, .aload_n 0, 28), (28, .getfield 19, 31), (31, .iconst (-1), 32)]), (46, [(32, .invokestatic 63, 35), (35, .aload_n 0, 36), (36, .iconst 0, 37), (37, .putfield 32, 40), (40, .aload_n 0, 41), (41, .iconst 0, 42), (42, .invokevirtual 69, 45), (45, .pop, 46)]), (47, [(46, .return_, 47)])]
def tb_71 : List (Nat × List xm_I) := [(12, [(0, .aload_n 0, 1), (1, .getfield 19, 4), (4, .iload_n 1, 5), (5, .iaload, 6), (6, .iconst (-1), 7), (7, .if_icmp .ne 33, 10), (10, .aload_n 0, 11), (11, .getfield 15, 14)]), (26, [(14, .aload_n 0, 15), (15, .getfield 32, 18), (18, .iload_n 1, 19), (19, .iastore, 20), (20, .aload_n 0, 21), (21, .getfield 19, 24), (24, .iload_n 1, 25), (25, .aload_n 0, 26)]), (38, [(26, .getfield 32, 29), (29, .iastore, 30), (30, .aload_n 0, 31), (31, .dup, 32), (32, .getfield 32, 35), (35, .iconst 1, 36), (36, .iadd, 37), (37, .putfield 32, 40)]), (47, [(40, .aload_n 0, 41), (41, .getfield 19, 44), (44, .iload_n 1, 45), (45, .iaload, 46), (46, .ireturn, 47)])]
def tb_72 : List (Nat × List xm_I) := [(13, [(0, .iload_n 3, 1), (1, .iconst (-1), 2), (2, .if_icmp .eq 9, 5), (5, .iload 4, 7), (7, .iconst (-1), 8), (8, .if_icmp .ne 4, 11), (11, .return_, 12), (12, .iload_n 1, 13)]), (24, [(13, .iconst 4, 14), (14, .imul, 15), (15, .iload_n 2, 16), (16, .iadd, 17), (17, .istore 5, 19), (19, .aload_n 0, 20), (20, .getfield 22, 23), (23, .iload 5, 25)]), (40, [(25, .aload_n 0, 26), (26, .getfield 9, 29), (29, .iconst 1, 30), (30, .if_icmp .ne 8, 33), (33, .iload 4, 35), (35, .goto 4, 38), (38, .iload_n 3, 39), (39, .iastore, 40)]), (53, [(40, .aload_n 0, 41), (41, .getfield 25, 44), (44, .iload 5, 46), (46, .aload_n 0, 47), (47, .aload_n 0, 48), (48, .getfield 28, 51), (51, .aload_n 0, 52), (52, .getfield 15, 55)]), (68, [(55, .iload_n 1, 56), (56, .iaload, 57), (57, .iload_n 3, 58), (58, .iload 4, 60), (60, .invokevirtual 72, 63), (63, .invokevirtual 69, 66), (66, .iastore, 67), (67, .return_, 68)])]
def tb_73 : List (Nat × List xm_I) := [(10, [(0, .aload_n 0, 1), (1, .iconst 2, 2), (2, .invokevirtual 41, 5), (5, .iconst 0, 6), (6, .istore_n 1, 7), (7, .iload_n 1, 8), (8, .aload_n 0, 9), (9, .getfield 32, 12)]), (27, [(12, .if_icmp .ge 50, 15), (15, .iload_n 1, 16), (16, .bipush 100, 18), (18, .if_icmp .ge 44, 21), (21, .aload_n 0, 22), (22, .getfield 28, 25), (25, .aload_n 0, 26), (26, .getfield 15, 29)]), (39, [(29, .iload_n 1, 30), (30, .iaload, 31), (31, .invokevirtual 55, 34), (34, .istore_n 2, 35), (35, .iconst 0, 36), (36, .istore_n 3, 37), (37, .iload_n 3, 38), (38, .iconst 4, 39)]), (51, [(39, .if_icmp .ge 17, 42), (42, .aload_n 0, 43), (43, .iload_n 1, 44), (44, .iload_n 3, 45), (45, .iload_n 2, 46), (46, .iload_n 3, 47), (47, .invokevirtual 51, 50), (50, .iinc 3 1, 53)]), (63, [(53, .goto (-16), 56), (56, .iinc 1 1, 59), (59, .goto (-52), 62), (62, .return_, 63)])]
def tb_74 : List (Nat × List xm_I) := [(38, [(0, .iload_n 1, 1), (1, .tableswitch 51 0 2 #[27, 35, 43], 28), (28, .aload_n 0, 29), (29, .getfield 55, 32), (32, .getfield 116, 35), (35, .ireturn, 36), (36, .aload_n 0, 37), (37, .getfield 55, 40)]), (54, [(40, .getfield 117, 43), (43, .ireturn, 44), (44, .aload_n 0, 45), (45, .getfield 55, 48), (48, .getfield 120, 51), (51, .ireturn, 52), (52, .iconst (-1), 53), (53, .ireturn, 54)])]
def tb_75 : List (Nat × List xm_I) := [(14, [(0, .aload_n 0, 1), (1, .getfield 55, 4), (4, .iload_n 1, 5), (5, .invokevirtual 123, 8), (8, .ifCond .ne 5, 11), (11, .iconst (-1), 12), (12, .ireturn, 13), (13, .aload_n 0, 14)]), (32, [(14, .getfield 55, 17), (17, .getfield 124, 20), (20, .iconst 2, 21), (21, .if_icmp .ne 15, 24), (24, .aload_n 0, 25), (25, .getfield 55, 28), (28, .getfield 127, 31), (31, .iload_n 1, 32)]), (44, [(32, .iconst 4, 33), (33, .imul, 34), (34, .iaload, 35), (35, .ireturn, 36), (36, .iload_n 2, 37), (37, .invokestatic 131, 40), (40, .ifCond .eq 19, 43), (43, .aload_n 0, 44)]), (56, [(44, .getfield 55, 47), (47, .getfield 127, 50), (50, .iload_n 1, 51), (51, .iconst 4, 52), (52, .imul, 53), (53, .iload_n 2, 54), (54, .iadd, 55), (55, .iaload, 56)]), (61, [(56, .goto 4, 59), (59, .iconst (-1), 60), (60, .ireturn, 61)])]
def tb_76 : List (Nat × List xm_I) := [(14, [(0, .iload_n 1, 1), (1, .ifCond .lt 15, 4), (4, .iload_n 1, 5), (5, .aload_n 0, 6), (6, .getfield 32, 9), (9, .if_icmp .ge 7, 12), (12, .iconst 1, 13), (13, .goto 4, 16)]), (18, [(16, .iconst 0, 17), (17, .ireturn, 18)])]
def tb_77 : List (Nat × List xm_I) := [(14, [(0, .iload_n 0, 1), (1, .ifCond .lt 12, 4), (4, .iload_n 0, 5), (5, .iconst 4, 6), (6, .if_icmp .ge 7, 9), (9, .iconst 1, 10), (10, .goto 4, 13), (13, .iconst 0, 14)]), (15, [(14, .ireturn, 15)])]
def tb_78 : List (Nat × List xm_I) := [(16, [(0, .aload_n 0, 1), (1, .getfield 55, 4), (4, .iload_n 1, 5), (5, .invokevirtual 123, 8), (8, .ifCond .eq 26, 11), (11, .iload_n 2, 12), (12, .invokestatic 131, 15), (15, .ifCond .eq 19, 18)]), (30, [(18, .aload_n 0, 19), (19, .getfield 55, 22), (22, .getfield 134, 25), (25, .iload_n 1, 26), (26, .iconst 4, 27), (27, .imul, 28), (28, .iload_n 2, 29), (29, .iadd, 30)]), (36, [(30, .iaload, 31), (31, .goto 4, 34), (34, .iconst (-1), 35), (35, .ireturn, 36)])]
def tb_79 : List (Nat × List xm_I) := [(14, [(0, .aload_n 0, 1), (1, .invokespecial 1, 4), (4, .aload_n 0, 5), (5, .bipush 28, 7), (7, .newarray .int, 9), (9, .putfield 7, 12), (12, .aload_n 0, 13), (13, .bipush 28, 15)]), (30, [(15, .newarray .int, 17), (17, .putfield 13, 20), (20, .aload_n 0, 21), (21, .bipush 28, 23), (23, .newarray .int, 25), (25, .putfield 16, 28), (28, .aload_n 0, 29), (29, .bipush 28, 31)]), (46, [(31, .newarray .int, 33), (33, .putfield 19, 36), (36, .aload_n 0, 37), (37, .bipush 60, 39), (39, .newarray .int, 41), (41, .putfield 22, 44), (44, .aload_n 0, 45), (45, .sipush 1680, 48)]), (63, [(48, .newarray .long, 50), (50, .putfield 25, 53), (53, .aload_n 0, 54), (54, .bipush 28, 56), (56, .newarray .int, 58), (58, .putfield 29, 61), (61, .aload_n 0, 62), (62, .bipush 61, 64)]), (79, [(64, .newarray .long, 66), (66, .putfield 32, 69), (69, .aload_n 0, 70), (70, .bipush 61, 72), (72, .newarray .long, 74), (74, .putfield 35, 77), (77, .aload_n 0, 78), (78, .bipush 17, 80)]), (95, [(80, .newarray .int, 82), (82, .putfield 38, 85), (85, .aload_n 0, 86), (86, .bipush 17, 88), (88, .newarray .int, 90), (90, .putfield 41, 93), (93, .aload_n 0, 94), (94, .sipush 272, 97)]), (113, [(97, .newarray .int, 99), (99, .putfield 44, 102), (102, .aload_n 0, 103), (103, .sipush 272, 106), (106, .newarray .int, 108), (108, .putfield 47, 111), (111, .aload_n 0, 112), (112, .bipush 28, 114)]), (129, [(114, .newarray .int, 116), (116, .putfield 50, 119), (119, .aload_n 0, 120), (120, .bipush 101, 122), (122, .newarray .long, 124), (124, .putfield 53, 127), (127, .aload_n 0, 128), (128, .sipush 1600, 131)]), (146, [(131, .newarray .int, 133), (133, .putfield 56, 136), (136, .aload_n 0, 137), (137, .bipush 100, 139), (139, .newarray .boolean, 141), (141, .putfield 59, 144), (144, .aload_n 0, 145), (145, .bipush 100, 147)]), (162, [(147, .newarray .int, 149), (149, .putfield 63, 152), (152, .aload_n 0, 153), (153, .bipush 100, 155), (155, .newarray .int, 157), (157, .putfield 66, 160), (160, .aload_n 0, 161), (161, .sipush 400, 164)]), (180, [(164, .newarray .int, 166), (166, .putfield 69, 169), (169, .aload_n 0, 170), (170, .sipush 400, 173), (173, .newarray .int, 175), (175, .putfield 72, 178), (178, .aload_n 0, 179), (179, .bipush 28, 181)]), (187, [(181, .newarray .int, 183), (183, .putfield 75, 186), (186, .return_, 187)])]
def tb_80 : List (Nat × List xm_I) := [(13, [(0, .iload_n 1, 1), (1, .ifCond .lt 9, 4), (4, .iload_n 1, 5), (5, .bipush 8, 7), (7, .if_icmp .le 5, 10), (10, .iconst (-1), 11), (11, .ireturn, 12), (12, .iload_n 1, 13)]), (27, [(13, .iconst 2, 14), (14, .if_icmp .eq 8, 17), (17, .iload_n 1, 18), (18, .iconst 3, 19), (19, .if_icmp .ne 14, 22), (22, .iload_n 2, 23), (23, .ifCond .lt 8, 26), (26, .iload_n 2, 27)]), (39, [(27, .iconst 3, 28), (28, .if_icmp .le 5, 31), (31, .iconst (-1), 32), (32, .ireturn, 33), (33, .iload_n 1, 34), (34, .iconst 3, 35), (35, .if_icmp .le 11, 38), (38, .aload_n 0, 39)]), (55, [(39, .iload_n 2, 40), (40, .invokevirtual 82, 43), (43, .ifCond .eq 18, 46), (46, .iload_n 1, 47), (47, .invokestatic 86, 50), (50, .ifCond .eq 13, 53), (53, .aload_n 0, 54), (54, .iload_n 3, 55)]), (67, [(55, .invokevirtual 82, 58), (58, .ifCond .ne 5, 61), (61, .iconst (-1), 62), (62, .ireturn, 63), (63, .aload_n 0, 64), (64, .iload_n 1, 65), (65, .iload_n 1, 66), (66, .iconst 1, 67)]), (83, [(67, .if_icmp .le 7, 70), (70, .iload_n 2, 71), (71, .goto 4, 74), (74, .iconst 0, 75), (75, .iload_n 1, 76), (76, .invokestatic 86, 79), (79, .ifCond .eq 7, 82), (82, .iload_n 3, 83)]), (91, [(83, .goto 4, 86), (86, .iconst 0, 87), (87, .invokevirtual 89, 90), (90, .ireturn, 91)])]
def tb_81 : List (Nat × List xm_I) := [(14, [(0, .iload_n 1, 1), (1, .ifCond .lt 15, 4), (4, .iload_n 1, 5), (5, .aload_n 0, 6), (6, .getfield 78, 9), (9, .if_icmp .ge 7, 12), (12, .iconst 1, 13), (13, .goto 4, 16)]), (18, [(16, .iconst 0, 17), (17, .ireturn, 18)])]
def tb_82 : List (Nat × List xm_I) := [(12, [(0, .iload_n 0, 1), (1, .iconst 4, 2), (2, .if_icmp .eq 20, 5), (5, .iload_n 0, 6), (6, .iconst 5, 7), (7, .if_icmp .eq 15, 10), (10, .iload_n 0, 11), (11, .bipush 7, 13)]), (28, [(13, .if_icmp .eq 9, 16), (16, .iload_n 0, 17), (17, .bipush 8, 19), (19, .if_icmp .ne 7, 22), (22, .iconst 1, 23), (23, .goto 4, 26), (26, .iconst 0, 27), (27, .ireturn, 28)])]
def tb_83 : List (Nat × List xm_I) := [(14, [(0, .iconst 0, 1), (1, .istore 4, 3), (3, .iload 4, 5), (5, .aload_n 0, 6), (6, .getfield 78, 9), (9, .if_icmp .ge 45, 12), (12, .aload_n 0, 13), (13, .getfield 7, 16)]), (30, [(16, .iload 4, 18), (18, .iaload, 19), (19, .iload_n 1, 20), (20, .if_icmp .ne 28, 23), (23, .aload_n 0, 24), (24, .getfield 13, 27), (27, .iload 4, 29), (29, .iaload, 30)]), (43, [(30, .iload_n 2, 31), (31, .if_icmp .ne 17, 34), (34, .aload_n 0, 35), (35, .getfield 16, 38), (38, .iload 4, 40), (40, .iaload, 41), (41, .iload_n 3, 42), (42, .if_icmp .ne 6, 45)]), (61, [(45, .iload 4, 47), (47, .ireturn, 48), (48, .iinc 4 1, 51), (51, .goto (-48), 54), (54, .aload_n 0, 55), (55, .getfield 78, 58), (58, .bipush 28, 60), (60, .if_icmp .ne 6, 63)]), (76, [(63, .bipush (-2), 65), (65, .ireturn, 66), (66, .aload_n 0, 67), (67, .getfield 7, 70), (70, .aload_n 0, 71), (71, .getfield 78, 74), (74, .iload_n 1, 75), (75, .iastore, 76)]), (88, [(76, .aload_n 0, 77), (77, .getfield 13, 80), (80, .aload_n 0, 81), (81, .getfield 78, 84), (84, .iload_n 2, 85), (85, .iastore, 86), (86, .aload_n 0, 87), (87, .getfield 16, 90)]), (102, [(90, .aload_n 0, 91), (91, .getfield 78, 94), (94, .iload_n 3, 95), (95, .iastore, 96), (96, .aload_n 0, 97), (97, .dup, 98), (98, .getfield 78, 101), (101, .iconst 1, 102)]), (113, [(102, .iadd, 103), (103, .putfield 78, 106), (106, .aload_n 0, 107), (107, .getfield 78, 110), (110, .iconst 1, 111), (111, .isub, 112), (112, .ireturn, 113)])]
def tb_84 : List (Nat × List xm_I) := [(12, [(0, .aload_n 0, 1), (1, .iload_n 1, 2), (2, .invokevirtual 82, 5), (5, .ifCond .ne 5, 8), (8, .iconst (-1), 9), (9, .ireturn, 10), (10, .iconst 0, 11), (11, .istore_n 2, 12)]), (25, [(12, .iload_n 2, 13), (13, .bipush 28, 15), (15, .if_icmp .ge 16, 18), (18, .aload_n 0, 19), (19, .getfield 19, 22), (22, .iload_n 2, 23), (23, .iconst (-1), 24), (24, .iastore, 25)]), (39, [(25, .iinc 2 1, 28), (28, .goto (-16), 31), (31, .iconst 1, 32), (32, .istore_n 2, 33), (33, .aload_n 0, 34), (34, .getfield 22, 37), (37, .iconst 0, 38), (38, .iload_n 1, 39)]), (51, [(39, .iastore, 40), (40, .iload_n 2, 41), (41, .ifCond .le 232, 44), (44, .aload_n 0, 45), (45, .getfield 22, 48), (48, .iload_n 2, 49), (49, .iconst 1, 50), (50, .isub, 51)]), (61, [(51, .iaload, 52), (52, .istore_n 3, 53), (53, .aload_n 0, 54), (54, .getfield 7, 57), (57, .iload_n 3, 58), (58, .iaload, 59), (59, .iconst 3, 60), (60, .if_icmp .le 21, 63)]), (75, [(63, .aload_n 0, 64), (64, .getfield 19, 67), (67, .aload_n 0, 68), (68, .getfield 13, 71), (71, .iload_n 3, 72), (72, .iaload, 73), (73, .iaload, 74), (74, .ifCond .ge 7, 77)]), (90, [(77, .iconst 1, 78), (78, .goto 4, 81), (81, .iconst 0, 82), (82, .istore 4, 84), (84, .aload_n 0, 85), (85, .getfield 7, 88), (88, .iload_n 3, 89), (89, .iaload, 90)]), (106, [(90, .invokestatic 86, 93), (93, .ifCond .eq 21, 96), (96, .aload_n 0, 97), (97, .getfield 19, 100), (100, .aload_n 0, 101), (101, .getfield 16, 104), (104, .iload_n 3, 105), (105, .iaload, 106)]), (119, [(106, .iaload, 107), (107, .ifCond .ge 7, 110), (110, .iconst 1, 111), (111, .goto 4, 114), (114, .iconst 0, 115), (115, .istore 5, 117), (117, .aload_n 0, 118), (118, .getfield 19, 121)]), (138, [(121, .iload_n 3, 122), (122, .iaload, 123), (123, .ifCond .lt 9, 126), (126, .iinc 2 (-1), 129), (129, .goto 141, 132), (132, .iload 4, 134), (134, .ifCond .ne 8, 137), (137, .iload 5, 139)]), (154, [(139, .ifCond .eq 35, 142), (142, .aload_n 0, 143), (143, .getfield 22, 146), (146, .iload_n 2, 147), (147, .iload 4, 149), (149, .ifCond .eq 12, 152), (152, .aload_n 0, 153), (153, .getfield 13, 156)]), (168, [(156, .iload_n 3, 157), (157, .iaload, 158), (158, .goto 9, 161), (161, .aload_n 0, 162), (162, .getfield 16, 165), (165, .iload_n 3, 166), (166, .iaload, 167), (167, .iastore, 168)]), (182, [(168, .iinc 2 1, 171), (171, .goto 99, 174), (174, .aload_n 0, 175), (175, .getfield 7, 178), (178, .iload_n 3, 179), (179, .iaload, 180), (180, .iconst 3, 181), (181, .if_icmp .le 17, 184)]), (196, [(184, .aload_n 0, 185), (185, .getfield 19, 188), (188, .aload_n 0, 189), (189, .getfield 13, 192), (192, .iload_n 3, 193), (193, .iaload, 194), (194, .iaload, 195), (195, .goto 9, 198)]), (211, [(198, .aload_n 0, 199), (199, .getfield 13, 202), (202, .iload_n 3, 203), (203, .iaload, 204), (204, .istore 6, 206), (206, .aload_n 0, 207), (207, .getfield 7, 210), (210, .iload_n 3, 211)]), (227, [(211, .iaload, 212), (212, .invokestatic 86, 215), (215, .ifCond .eq 17, 218), (218, .aload_n 0, 219), (219, .getfield 19, 222), (222, .aload_n 0, 223), (223, .getfield 16, 226), (226, .iload_n 3, 227)]), (238, [(227, .iaload, 228), (228, .iaload, 229), (229, .goto 4, 232), (232, .iconst 0, 233), (233, .istore 7, 235), (235, .aload_n 0, 236), (236, .aload_n 0, 237), (237, .getfield 7, 240)]), (255, [(240, .iload_n 3, 241), (241, .iaload, 242), (242, .invokestatic 93, 245), (245, .iload 6, 247), (247, .iload 7, 249), (249, .invokevirtual 89, 252), (252, .istore 8, 254), (254, .iload 8, 256)]), (270, [(256, .ifCond .ge 6, 259), (259, .bipush (-2), 261), (261, .ireturn, 262), (262, .aload_n 0, 263), (263, .getfield 19, 266), (266, .iload_n 3, 267), (267, .iload 8, 269), (269, .iastore, 270)]), (280, [(270, .goto (-230), 273), (273, .aload_n 0, 274), (274, .getfield 19, 277), (277, .iload_n 1, 278), (278, .iaload, 279), (279, .ireturn, 280)])]
def tb_85 : List (Nat × List xm_I) := [(58, [(0, .iload_n 0, 1), (1, .tableswitch 69 0 8 #[51, 53, 55, 57, 59, 61, 69, 63, 66], 52), (52, .iconst 1, 53), (53, .ireturn, 54), (54, .iconst 0, 55), (55, .ireturn, 56), (56, .iconst 3, 57), (57, .ireturn, 58)]), (67, [(58, .iconst 2, 59), (59, .ireturn, 60), (60, .iconst 5, 61), (61, .ireturn, 62), (62, .iconst 4, 63), (63, .ireturn, 64), (64, .bipush 8, 66), (66, .ireturn, 67)]), (73, [(67, .bipush 7, 69), (69, .ireturn, 70), (70, .bipush 6, 72), (72, .ireturn, 73)])]
def tb_86 : List (Nat × List xm_I) := [(5, [(0, .aload_n 0, 1), (1, .getfield 78, 4), (4, .ireturn, 5)])]
def tb_87 : List (Nat × List xm_I) := [(16, [(0, .aload_n 0, 1), (1, .iload_n 1, 2), (2, .invokevirtual 82, 5), (5, .ifCond .eq 28, 8), (8, .iload 4, 10), (10, .ifCond .lt 23, 13), (13, .iload 4, 15), (15, .bipush 8, 17)]), (34, [(17, .if_icmp .gt 16, 20), (20, .iload 7, 22), (22, .iconst 1, 23), (23, .if_icmp .lt 10, 26), (26, .iload 7, 28), (28, .bipush 8, 30), (30, .if_icmp .le 5, 33), (33, .iconst (-1), 34)]), (46, [(34, .ireturn, 35), (35, .iload 4, 37), (37, .iload 7, 39), (39, .iadd, 40), (40, .istore 8, 42), (42, .iconst 1, 43), (43, .iload 8, 45), (45, .ishl, 46)]), (57, [(46, .iconst 1, 47), (47, .isub, 48), (48, .istore 9, 50), (50, .iconst 0, 51), (51, .istore 10, 53), (53, .iload 10, 55), (55, .iload_n 1, 56), (56, .if_icmp .gt 345, 59)]), (72, [(59, .aload_n 0, 60), (60, .getfield 7, 63), (63, .iload 10, 65), (65, .iaload, 66), (66, .iconst 3, 67), (67, .if_icmp .le 18, 70), (70, .aload_n 0, 71), (71, .getfield 75, 74)]), (87, [(74, .aload_n 0, 75), (75, .getfield 13, 78), (78, .iload 10, 80), (80, .iaload, 81), (81, .iaload, 82), (82, .goto 4, 85), (85, .iconst 0, 86), (86, .istore 11, 88)]), (103, [(88, .aload_n 0, 89), (89, .getfield 7, 92), (92, .iload 10, 94), (94, .iaload, 95), (95, .invokestatic 86, 98), (98, .ifCond .eq 18, 101), (101, .aload_n 0, 102), (102, .getfield 75, 105)]), (118, [(105, .aload_n 0, 106), (106, .getfield 16, 109), (109, .iload 10, 111), (111, .iaload, 112), (112, .iaload, 113), (113, .goto 4, 116), (116, .iconst 0, 117), (117, .istore 12, 119)]), (133, [(119, .iconst 0, 120), (120, .istore 13, 122), (122, .iconst 0, 123), (123, .istore 14, 125), (125, .iload 14, 127), (127, .iload 8, 129), (129, .if_icmp .ge 82, 132), (132, .aload_n 0, 133)]), (148, [(133, .getfield 7, 136), (136, .iload 10, 138), (138, .iaload, 139), (139, .iconst 2, 140), (140, .if_icmp .eq 14, 143), (143, .aload_n 0, 144), (144, .getfield 7, 147), (147, .iload 10, 149)]), (161, [(149, .iaload, 150), (150, .iconst 3, 151), (151, .if_icmp .ne 60, 154), (154, .aload_n 0, 155), (155, .lload_n 2, 156), (156, .iload 4, 158), (158, .lload 5, 160), (160, .iload 14, 162)]), (175, [(162, .invokevirtual 102, 165), (165, .aload_n 0, 166), (166, .getfield 13, 169), (169, .iload 10, 171), (171, .iaload, 172), (172, .ishr, 173), (173, .iconst 1, 174), (174, .iand, 175)]), (188, [(175, .istore 15, 177), (177, .iload 13, 179), (179, .aload_n 0, 180), (180, .getfield 7, 183), (183, .iload 10, 185), (185, .iaload, 186), (186, .iconst 2, 187), (187, .if_icmp .ne 8, 190)]), (203, [(190, .iload 15, 192), (192, .goto 7, 195), (195, .iconst 1, 196), (196, .iload 15, 198), (198, .isub, 199), (199, .iload 14, 201), (201, .ishl, 202), (202, .ior, 203)]), (219, [(203, .istore 13, 205), (205, .iinc 14 1, 208), (208, .goto (-83), 211), (211, .aload_n 0, 212), (212, .getfield 7, 215), (215, .iload 10, 217), (217, .iaload, 218), (218, .tableswitch 168 0 8 #[50, 62, 168, 168, 73, 88, 103, 122, 145], 268)]), (282, [(268, .aload_n 0, 269), (269, .getfield 75, 272), (272, .iload 10, 274), (274, .iload 9, 276), (276, .iastore, 277), (277, .goto 118, 280), (280, .aload_n 0, 281), (281, .getfield 75, 284)]), (298, [(284, .iload 10, 286), (286, .iconst 0, 287), (287, .iastore, 288), (288, .goto 107, 291), (291, .aload_n 0, 292), (292, .getfield 75, 295), (295, .iload 10, 297), (297, .iload 11, 299)]), (313, [(299, .iload 12, 301), (301, .iand, 302), (302, .iastore, 303), (303, .goto 92, 306), (306, .aload_n 0, 307), (307, .getfield 75, 310), (310, .iload 10, 312), (312, .iload 11, 314)]), (328, [(314, .iload 12, 316), (316, .ior, 317), (317, .iastore, 318), (318, .goto 77, 321), (321, .aload_n 0, 322), (322, .getfield 75, 325), (325, .iload 10, 327), (327, .iload 11, 329)]), (345, [(329, .iload 4, 331), (331, .iload 8, 333), (333, .invokestatic 99, 336), (336, .iastore, 337), (337, .goto 58, 340), (340, .aload_n 0, 341), (341, .getfield 75, 344), (344, .iload 10, 346)]), (360, [(346, .aload_n 0, 347), (347, .iload 11, 349), (349, .iload 12, 351), (351, .iconst 1, 352), (352, .iload 4, 354), (354, .iload 8, 356), (356, .invokevirtual 106, 359), (359, .iastore, 360)]), (375, [(360, .goto 35, 363), (363, .aload_n 0, 364), (364, .getfield 75, 367), (367, .iload 10, 369), (369, .aload_n 0, 370), (370, .iload 11, 372), (372, .iload 12, 374), (374, .iconst 0, 375)]), (391, [(375, .iload 4, 377), (377, .iload 8, 379), (379, .invokevirtual 106, 382), (382, .iastore, 383), (383, .goto 12, 386), (386, .aload_n 0, 387), (387, .getfield 75, 390), (390, .iload 10, 392)]), (407, [(392, .iload 13, 394), (394, .iastore, 395), (395, .iinc 10 1, 398), (398, .goto (-345), 401), (401, .aload_n 0, 402), (402, .getfield 75, 405), (405, .iload_n 1, 406), (406, .iaload, 407)]), (410, [(407, .iconst 1, 408), (408, .iand, 409), (409, .ireturn, 410)])]
def tb_88 : List (Nat × List xm_I) := [(12, [(0, .iload 6, 2), (2, .iload_n 3, 3), (3, .if_icmp .ge 16, 6), (6, .lload_n 1, 7), (7, .iconst 4, 8), (8, .iload 6, 10), (10, .imul, 11), (11, .lshr, 12)]), (26, [(12, .ldc2_w 97, 15), (15, .land, 16), (16, .goto 16, 19), (19, .lload 4, 21), (21, .iconst 4, 22), (22, .iload 6, 24), (24, .iload_n 3, 25), (25, .isub, 26)]), (34, [(26, .imul, 27), (27, .lshr, 28), (28, .ldc2_w 97, 31), (31, .land, 32), (32, .l2i, 33), (33, .ireturn, 34)])]
def tb_89 : List (Nat × List xm_I) := [(8, [(0, .iload_n 0, 1), (1, .iload_n 1, 2), (2, .ishr, 3), (3, .iconst 1, 4), (4, .iand, 5), (5, .iload_n 2, 6), (6, .iconst 1, 7), (7, .isub, 8)]), (16, [(8, .ishl, 9), (9, .istore_n 3, 10), (10, .iload_n 0, 11), (11, .iconst 1, 12), (12, .ishr, 13), (13, .iconst 1, 14), (14, .iload_n 2, 15), (15, .iconst 1, 16)]), (24, [(16, .isub, 17), (17, .ishl, 18), (18, .iconst 1, 19), (19, .isub, 20), (20, .iand, 21), (21, .iload_n 3, 22), (22, .ior, 23), (23, .ireturn, 24)])]
def tb_90 : List (Nat × List xm_I) := [(13, [(0, .iload_n 3, 1), (1, .ifCond .eq 7, 4), (4, .iconst 0, 5), (5, .goto 9, 8), (8, .iconst 1, 9), (9, .iload 5, 11), (11, .ishl, 12), (12, .iconst 1, 13)]), (27, [(13, .isub, 14), (14, .istore 6, 16), (16, .iconst 0, 17), (17, .istore 7, 19), (19, .iload 7, 21), (21, .iload 5, 23), (23, .if_icmp .gt 44, 26), (26, .iload_n 3, 27)]), (42, [(27, .ifCond .eq 19, 30), (30, .iload_n 2, 31), (31, .iload_n 1, 32), (32, .iload 6, 34), (34, .iload 4, 36), (36, .iload 5, 38), (38, .invokestatic 99, 41), (41, .iand, 42)]), (55, [(42, .ior, 43), (43, .goto 16, 46), (46, .iload_n 2, 47), (47, .iload_n 1, 48), (48, .iload 6, 50), (50, .iload 4, 52), (52, .iload 5, 54), (54, .invokestatic 99, 57)]), (70, [(57, .ior, 58), (58, .iand, 59), (59, .istore 6, 61), (61, .iinc 7 1, 64), (64, .goto (-45), 67), (67, .iload 6, 69), (69, .ireturn, 70)])]
def tb_91 : List (Nat × List xm_I) := [(14, [(0, .aload_n 0, 1), (1, .iload_n 1, 2), (2, .invokevirtual 82, 5), (5, .ifCond .eq 13, 8), (8, .iload_n 2, 9), (9, .ifCond .lt 9, 12), (12, .iload_n 2, 13), (13, .bipush 15, 15)]), (27, [(15, .if_icmp .le 5, 18), (18, .iconst (-1), 19), (19, .ireturn, 20), (20, .aload_n 0, 21), (21, .iload_n 1, 22), (22, .iload_n 2, 23), (23, .invokevirtual 126, 26), (26, .aload_n 0, 27)]), (43, [(27, .getfield 29, 30), (30, .iload_n 1, 31), (31, .iaload, 32), (32, .bipush 60, 34), (34, .if_icmp .le 8, 37), (37, .bipush (-2), 39), (39, .goto 9, 42), (42, .aload_n 0, 43)]), (49, [(43, .getfield 29, 46), (46, .iload_n 1, 47), (47, .iaload, 48), (48, .ireturn, 49)])]
def tb_92 : List (Nat × List xm_I) := [(10, [(0, .iconst 0, 1), (1, .istore_n 3, 2), (2, .iload_n 3, 3), (3, .iload_n 1, 4), (4, .if_icmp .gt 15, 7), (7, .aload_n 0, 8), (8, .iload_n 3, 9), (9, .iload_n 2, 10)]), (20, [(10, .invokevirtual 122, 13), (13, .iinc 3 1, 16), (16, .goto (-14), 19), (19, .return_, 20)])]
def tb_93 : List (Nat × List xm_I) := [(12, [(0, .aload_n 0, 1), (1, .getfield 29, 4), (4, .iload_n 1, 5), (5, .iconst 0, 6), (6, .iastore, 7), (7, .aload_n 0, 8), (8, .getfield 13, 11), (11, .iload_n 1, 12)]), (23, [(12, .iaload, 13), (13, .istore_n 3, 14), (14, .aload_n 0, 15), (15, .getfield 16, 18), (18, .iload_n 1, 19), (19, .iaload, 20), (20, .istore 4, 22), (22, .aload_n 0, 23)]), (84, [(23, .getfield 7, 26), (26, .iload_n 1, 27), (27, .iaload, 28), (28, .tableswitch 212 0 8 #[52, 212, 61, 79, 96, 107, 125, 164, 191], 80), (80, .aload_n 0, 81), (81, .iload_n 1, 82), (82, .lconst 0, 83), (83, .invokevirtual 110, 86)]), (96, [(86, .goto 154, 89), (89, .iload_n 2, 90), (90, .iload_n 3, 91), (91, .ishr, 92), (92, .iconst 1, 93), (93, .iand, 94), (94, .iconst 1, 95), (95, .if_icmp .ne 145, 98)]), (110, [(98, .aload_n 0, 99), (99, .iload_n 1, 100), (100, .lconst 0, 101), (101, .invokevirtual 110, 104), (104, .goto 136, 107), (107, .iload_n 2, 108), (108, .iload_n 3, 109), (109, .ishr, 110)]), (122, [(110, .iconst 1, 111), (111, .iand, 112), (112, .ifCond .ne 128, 115), (115, .aload_n 0, 116), (116, .iload_n 1, 117), (117, .lconst 0, 118), (118, .invokevirtual 110, 121), (121, .goto 119, 124)]), (137, [(124, .aload_n 0, 125), (125, .iload_n 1, 126), (126, .iload_n 3, 127), (127, .iload 4, 129), (129, .invokevirtual 114, 132), (132, .goto 108, 135), (135, .aload_n 0, 136), (136, .iload_n 1, 137)]), (148, [(137, .iload_n 3, 138), (138, .lconst 0, 139), (139, .invokevirtual 118, 142), (142, .aload_n 0, 143), (143, .iload_n 1, 144), (144, .iload 4, 146), (146, .lconst 0, 147), (147, .invokevirtual 118, 150)]), (162, [(150, .goto 90, 153), (153, .aload_n 0, 154), (154, .iload_n 1, 155), (155, .lconst 1, 156), (156, .iload_n 3, 157), (157, .lshl, 158), (158, .invokevirtual 110, 161), (161, .aload_n 0, 162)]), (175, [(162, .getfield 29, 165), (165, .iload_n 1, 166), (166, .aload_n 0, 167), (167, .getfield 29, 170), (170, .iload_n 3, 171), (171, .iaload, 172), (172, .bipush 60, 174), (174, .if_icmp .le 8, 177)]), (190, [(177, .bipush 61, 179), (179, .goto 9, 182), (182, .aload_n 0, 183), (183, .getfield 29, 186), (186, .iload_n 1, 187), (187, .iaload, 188), (188, .iastore, 189), (189, .goto 51, 192)]), (203, [(192, .aload_n 0, 193), (193, .iload_n 1, 194), (194, .iload 4, 196), (196, .lconst 0, 197), (197, .invokevirtual 118, 200), (200, .aload_n 0, 201), (201, .iload_n 1, 202), (202, .iload_n 3, 203)]), (212, [(203, .lconst 1, 204), (204, .iload_n 1, 205), (205, .lshl, 206), (206, .lconst 1, 207), (207, .iload_n 1, 208), (208, .bipush 28, 210), (210, .iadd, 211), (211, .lshl, 212)]), (225, [(212, .lor, 213), (213, .invokevirtual 118, 216), (216, .goto 24, 219), (219, .aload_n 0, 220), (220, .iload_n 1, 221), (221, .iload 4, 223), (223, .iload_n 3, 224), (224, .invokevirtual 114, 227)]), (238, [(227, .aload_n 0, 228), (228, .iload_n 1, 229), (229, .iload 4, 231), (231, .lconst 1, 232), (232, .iload_n 1, 233), (233, .lshl, 234), (234, .invokevirtual 118, 237), (237, .goto 3, 240)]), (241, [(240, .return_, 241)])]
def tb_94 : List (Nat × List xm_I) := [(13, [(0, .aload_n 0, 1), (1, .getfield 29, 4), (4, .iload_n 1, 5), (5, .iaload, 6), (6, .bipush 60, 8), (8, .if_icmp .le 4, 11), (11, .return_, 12), (12, .iconst 0, 13)]), (27, [(13, .istore 4, 15), (15, .iload 4, 17), (17, .aload_n 0, 18), (18, .getfield 29, 21), (21, .iload_n 1, 22), (22, .iaload, 23), (23, .if_icmp .ge 27, 26), (26, .aload_n 0, 27)]), (39, [(27, .getfield 25, 30), (30, .bipush 60, 32), (32, .iload_n 1, 33), (33, .imul, 34), (34, .iload 4, 36), (36, .iadd, 37), (37, .laload, 38), (38, .lload_n 2, 39)]), (55, [(39, .lcmp, 40), (40, .ifCond .ne 4, 43), (43, .return_, 44), (44, .iinc 4 1, 47), (47, .goto (-32), 50), (50, .aload_n 0, 51), (51, .getfield 29, 54), (54, .iload_n 1, 55)]), (69, [(55, .iaload, 56), (56, .bipush 60, 58), (58, .if_icmp .ge 20, 61), (61, .aload_n 0, 62), (62, .getfield 25, 65), (65, .bipush 60, 67), (67, .iload_n 1, 68), (68, .imul, 69)]), (79, [(69, .aload_n 0, 70), (70, .getfield 29, 73), (73, .iload_n 1, 74), (74, .iaload, 75), (75, .iadd, 76), (76, .lload_n 2, 77), (77, .lastore, 78), (78, .aload_n 0, 79)]), (89, [(79, .getfield 29, 82), (82, .iload_n 1, 83), (83, .dup2, 84), (84, .iaload, 85), (85, .iconst 1, 86), (86, .iadd, 87), (87, .iastore, 88), (88, .return_, 89)])]
def tb_95 : List (Nat × List xm_I) := [(13, [(0, .aload_n 0, 1), (1, .getfield 29, 4), (4, .iload_n 2, 5), (5, .iaload, 6), (6, .bipush 60, 8), (8, .if_icmp .gt 18, 11), (11, .aload_n 0, 12), (12, .getfield 29, 15)]), (28, [(15, .iload_n 3, 16), (16, .iaload, 17), (17, .bipush 60, 19), (19, .if_icmp .gt 7, 22), (22, .iconst 1, 23), (23, .goto 4, 26), (26, .iconst 0, 27), (27, .istore 4, 29)]), (41, [(29, .iconst 0, 30), (30, .istore 5, 32), (32, .iload 5, 34), (34, .aload_n 0, 35), (35, .getfield 29, 38), (38, .iload_n 2, 39), (39, .iaload, 40), (40, .if_icmp .ge 64, 43)]), (58, [(43, .iload 4, 45), (45, .ifCond .eq 59, 48), (48, .iconst 0, 49), (49, .istore 6, 51), (51, .iload 6, 53), (53, .aload_n 0, 54), (54, .getfield 29, 57), (57, .iload_n 3, 58)]), (71, [(58, .iaload, 59), (59, .if_icmp .ge 39, 62), (62, .aload_n 0, 63), (63, .iload_n 1, 64), (64, .aload_n 0, 65), (65, .getfield 25, 68), (68, .bipush 60, 70), (70, .iload_n 2, 71)]), (83, [(71, .imul, 72), (72, .iload 5, 74), (74, .iadd, 75), (75, .laload, 76), (76, .aload_n 0, 77), (77, .getfield 25, 80), (80, .bipush 60, 82), (82, .iload_n 3, 83)]), (96, [(83, .imul, 84), (84, .iload 6, 86), (86, .iadd, 87), (87, .laload, 88), (88, .lor, 89), (89, .invokevirtual 110, 92), (92, .iinc 6 1, 95), (95, .goto (-44), 98)]), (115, [(98, .iinc 5 1, 101), (101, .goto (-69), 104), (104, .aload_n 0, 105), (105, .getfield 29, 108), (108, .iload_n 1, 109), (109, .iload 4, 111), (111, .ifCond .eq 12, 114), (114, .aload_n 0, 115)]), (127, [(115, .getfield 29, 118), (118, .iload_n 1, 119), (119, .iaload, 120), (120, .goto 5, 123), (123, .bipush 61, 125), (125, .iastore, 126), (126, .return_, 127)])]
def tb_96 : List (Nat × List xm_I) := [(12, [(0, .iconst 0, 1), (1, .istore 5, 3), (3, .iload 5, 5), (5, .aload_n 0, 6), (6, .getfield 29, 9), (9, .iload_n 2, 10), (10, .iaload, 11), (11, .if_icmp .ge 39, 14)]), (27, [(14, .aload_n 0, 15), (15, .getfield 29, 18), (18, .iload_n 2, 19), (19, .iaload, 20), (20, .bipush 60, 22), (22, .if_icmp .gt 28, 25), (25, .aload_n 0, 26), (26, .iload_n 1, 27)]), (39, [(27, .aload_n 0, 28), (28, .getfield 25, 31), (31, .bipush 60, 33), (33, .iload_n 2, 34), (34, .imul, 35), (35, .iload 5, 37), (37, .iadd, 38), (38, .laload, 39)]), (55, [(39, .lload_n 3, 40), (40, .lor, 41), (41, .invokevirtual 110, 44), (44, .iinc 5 1, 47), (47, .goto (-44), 50), (50, .aload_n 0, 51), (51, .getfield 29, 54), (54, .iload_n 1, 55)]), (69, [(55, .aload_n 0, 56), (56, .getfield 29, 59), (59, .iload_n 2, 60), (60, .iaload, 61), (61, .bipush 60, 63), (63, .if_icmp .le 8, 66), (66, .bipush 61, 68), (68, .goto 9, 71)]), (79, [(71, .aload_n 0, 72), (72, .getfield 29, 75), (75, .iload_n 1, 76), (76, .iaload, 77), (77, .iastore, 78), (78, .return_, 79)])]
def tb_97 : List (Nat × List xm_I) := [(12, [(0, .aload_n 0, 1), (1, .iload_n 1, 2), (2, .invokevirtual 82, 5), (5, .ifCond .ne 5, 8), (8, .iconst (-1), 9), (9, .ireturn, 10), (10, .aload_n 0, 11), (11, .iload_n 1, 12)]), (28, [(12, .invokevirtual 157, 15), (15, .ifCond .eq 10, 18), (18, .aload_n 0, 19), (19, .getfield 138, 22), (22, .goto 5, 25), (25, .bipush (-2), 27), (27, .ireturn, 28)])]
def tb_98 : List (Nat × List xm_I) := [(11, [(0, .iconst 0, 1), (1, .istore_n 2, 2), (2, .iload_n 2, 3), (3, .bipush 16, 5), (5, .if_icmp .ge 28, 8), (8, .aload_n 0, 9), (9, .iload_n 1, 10), (10, .iload_n 2, 11)]), (26, [(11, .invokevirtual 126, 14), (14, .aload_n 0, 15), (15, .getfield 29, 18), (18, .iload_n 1, 19), (19, .iaload, 20), (20, .bipush 60, 22), (22, .if_icmp .le 5, 25), (25, .iconst 0, 26)]), (40, [(26, .ireturn, 27), (27, .iinc 2 1, 30), (30, .goto (-28), 33), (33, .aload_n 0, 34), (34, .iload_n 1, 35), (35, .invokevirtual 147, 38), (38, .aload_n 0, 39), (39, .iconst 0, 40)]), (52, [(40, .putfield 138, 43), (43, .aload_n 0, 44), (44, .iconst 1, 45), (45, .iload_n 1, 46), (46, .ishl, 47), (47, .iconst 0, 48), (48, .invokevirtual 143, 51), (51, .istore_n 2, 52)]), (64, [(52, .iload_n 2, 53), (53, .istore_n 3, 54), (54, .iload_n 3, 55), (55, .aload_n 0, 56), (56, .getfield 138, 59), (59, .if_icmp .ge 70, 62), (62, .iconst 0, 63), (63, .istore 4, 65)]), (79, [(65, .iload 4, 67), (67, .bipush 16, 69), (69, .if_icmp .ge 54, 72), (72, .aload_n 0, 73), (73, .aload_n 0, 74), (74, .getfield 78, 77), (77, .iconst 1, 78), (78, .isub, 79)]), (92, [(79, .iload 4, 81), (81, .invokevirtual 126, 84), (84, .aload_n 0, 85), (85, .aload_n 0, 86), (86, .getfield 38, 89), (89, .iload_n 3, 90), (90, .iaload, 91), (91, .invokevirtual 151, 94)]), (107, [(94, .ifCond .ne 5, 97), (97, .iconst 0, 98), (98, .ireturn, 99), (99, .aload_n 0, 100), (100, .iload_n 3, 101), (101, .iload 4, 103), (103, .invokevirtual 154, 106), (106, .aload_n 0, 107)]), (124, [(107, .getfield 138, 110), (110, .bipush 16, 112), (112, .if_icmp .le 5, 115), (115, .iconst 0, 116), (116, .ireturn, 117), (117, .iinc 4 1, 120), (120, .goto (-55), 123), (123, .iinc 3 1, 126)]), (131, [(126, .goto (-72), 129), (129, .iconst 1, 130), (130, .ireturn, 131)])]
def tb_99 : List (Nat × List xm_I) := [(8, [(0, .iconst 1, 1), (1, .iload_n 1, 2), (2, .ishl, 3), (3, .istore_n 2, 4), (4, .iload_n 1, 5), (5, .istore_n 3, 6), (6, .iload_n 3, 7), (7, .ifCond .lt 71, 10)]), (20, [(10, .iload_n 2, 11), (11, .iload_n 3, 12), (12, .ishr, 13), (13, .iconst 1, 14), (14, .iand, 15), (15, .iconst 1, 16), (16, .if_icmp .ne 24, 19), (19, .aload_n 0, 20)]), (32, [(20, .getfield 7, 23), (23, .iload_n 3, 24), (24, .iaload, 25), (25, .iconst 3, 26), (26, .if_icmp .le 14, 29), (29, .iload_n 2, 30), (30, .iconst 1, 31), (31, .aload_n 0, 32)]), (42, [(32, .getfield 13, 35), (35, .iload_n 3, 36), (36, .iaload, 37), (37, .ishl, 38), (38, .ior, 39), (39, .istore_n 2, 40), (40, .iload_n 2, 41), (41, .iload_n 3, 42)]), (54, [(42, .ishr, 43), (43, .iconst 1, 44), (44, .iand, 45), (45, .iconst 1, 46), (46, .if_icmp .ne 26, 49), (49, .aload_n 0, 50), (50, .getfield 7, 53), (53, .iload_n 3, 54)]), (68, [(54, .iaload, 55), (55, .invokestatic 86, 58), (58, .ifCond .eq 14, 61), (61, .iload_n 2, 62), (62, .iconst 1, 63), (63, .aload_n 0, 64), (64, .getfield 16, 67), (67, .iload_n 3, 68)]), (80, [(68, .iaload, 69), (69, .ishl, 70), (70, .ior, 71), (71, .istore_n 2, 72), (72, .iinc 3 (-1), 75), (75, .goto (-69), 78), (78, .aload_n 0, 79), (79, .iconst 0, 80)]), (92, [(80, .putfield 135, 83), (83, .iconst 0, 84), (84, .istore_n 3, 85), (85, .iload_n 3, 86), (86, .iload_n 1, 87), (87, .if_icmp .gt 49, 90), (90, .iload_n 2, 91), (91, .iload_n 3, 92)]), (104, [(92, .ishr, 93), (93, .iconst 1, 94), (94, .iand, 95), (95, .iconst 1, 96), (96, .if_icmp .ne 34, 99), (99, .aload_n 0, 100), (100, .getfield 7, 103), (103, .iload_n 3, 104)]), (119, [(104, .iaload, 105), (105, .bipush 7, 107), (107, .if_icmp .ne 23, 110), (110, .aload_n 0, 111), (111, .getfield 50, 114), (114, .aload_n 0, 115), (115, .getfield 135, 118), (118, .iload_n 3, 119)]), (131, [(119, .iastore, 120), (120, .aload_n 0, 121), (121, .dup, 122), (122, .getfield 135, 125), (125, .iconst 1, 126), (126, .iadd, 127), (127, .putfield 135, 130), (130, .iinc 3 1, 133)]), (137, [(133, .goto (-48), 136), (136, .return_, 137)])]
def tb_100 : List (Nat × List xm_I) := [(12, [(0, .iconst 0, 1), (1, .istore_n 3, 2), (2, .iload_n 3, 3), (3, .aload_n 0, 4), (4, .getfield 138, 7), (7, .if_icmp .ge 31, 10), (10, .aload_n 0, 11), (11, .getfield 38, 14)]), (26, [(14, .iload_n 3, 15), (15, .iaload, 16), (16, .iload_n 1, 17), (17, .if_icmp .ne 15, 20), (20, .aload_n 0, 21), (21, .getfield 41, 24), (24, .iload_n 3, 25), (25, .iaload, 26)]), (40, [(26, .iload_n 2, 27), (27, .if_icmp .ne 5, 30), (30, .iload_n 3, 31), (31, .ireturn, 32), (32, .iinc 3 1, 35), (35, .goto (-33), 38), (38, .aload_n 0, 39), (39, .getfield 38, 42)]), (54, [(42, .aload_n 0, 43), (43, .getfield 138, 46), (46, .iload_n 1, 47), (47, .iastore, 48), (48, .aload_n 0, 49), (49, .getfield 41, 52), (52, .aload_n 0, 53), (53, .getfield 138, 56)]), (66, [(56, .iload_n 2, 57), (57, .iastore, 58), (58, .aload_n 0, 59), (59, .dup, 60), (60, .getfield 138, 63), (63, .iconst 1, 64), (64, .iadd, 65), (65, .putfield 138, 68)]), (75, [(68, .aload_n 0, 69), (69, .getfield 138, 72), (72, .iconst 1, 73), (73, .isub, 74), (74, .ireturn, 75)])]
def tb_101 : List (Nat × List xm_I) := [(12, [(0, .aload_n 0, 1), (1, .iconst 1, 2), (2, .putfield 129, 5), (5, .aload_n 0, 6), (6, .getfield 32, 9), (9, .iconst 0, 10), (10, .lconst 0, 11), (11, .lastore, 12)]), (24, [(12, .iconst 0, 13), (13, .istore_n 2, 14), (14, .iload_n 2, 15), (15, .aload_n 0, 16), (16, .getfield 78, 19), (19, .if_icmp .ge 156, 22), (22, .iload_n 1, 23), (23, .iload_n 2, 24)]), (36, [(24, .ishr, 25), (25, .iconst 1, 26), (26, .iand, 27), (27, .iconst 1, 28), (28, .if_icmp .ne 141, 31), (31, .aload_n 0, 32), (32, .getfield 29, 35), (35, .iload_n 2, 36)]), (49, [(36, .iaload, 37), (37, .bipush 60, 39), (39, .if_icmp .le 5, 42), (42, .iconst 0, 43), (43, .ireturn, 44), (44, .aload_n 0, 45), (45, .getfield 129, 48), (48, .istore_n 3, 49)]), (61, [(49, .aload_n 0, 50), (50, .iconst 0, 51), (51, .putfield 129, 54), (54, .iconst 0, 55), (55, .istore 4, 57), (57, .iload 4, 59), (59, .iload_n 3, 60), (60, .if_icmp .ge 66, 63)]), (75, [(63, .iconst 0, 64), (64, .istore 5, 66), (66, .iload 5, 68), (68, .aload_n 0, 69), (69, .getfield 29, 72), (72, .iload_n 2, 73), (73, .iaload, 74), (74, .if_icmp .ge 46, 77)]), (92, [(77, .aload_n 0, 78), (78, .getfield 129, 81), (81, .bipush 60, 83), (83, .if_icmp .gt 37, 86), (86, .aload_n 0, 87), (87, .aload_n 0, 88), (88, .getfield 129, 91), (91, .aload_n 0, 92)]), (106, [(92, .getfield 32, 95), (95, .iload 4, 97), (97, .laload, 98), (98, .aload_n 0, 99), (99, .getfield 25, 102), (102, .bipush 60, 104), (104, .iload_n 2, 105), (105, .imul, 106)]), (121, [(106, .iload 5, 108), (108, .iadd, 109), (109, .laload, 110), (110, .lor, 111), (111, .invokevirtual 132, 114), (114, .iinc 5 1, 117), (117, .goto (-51), 120), (120, .iinc 4 1, 123)]), (138, [(123, .goto (-66), 126), (126, .aload_n 0, 127), (127, .getfield 129, 130), (130, .bipush 60, 132), (132, .if_icmp .le 5, 135), (135, .iconst 0, 136), (136, .ireturn, 137), (137, .iconst 0, 138)]), (154, [(138, .istore 4, 140), (140, .iload 4, 142), (142, .aload_n 0, 143), (143, .getfield 129, 146), (146, .if_icmp .ge 23, 149), (149, .aload_n 0, 150), (150, .getfield 32, 153), (153, .iload 4, 155)]), (170, [(155, .aload_n 0, 156), (156, .getfield 35, 159), (159, .iload 4, 161), (161, .laload, 162), (162, .lastore, 163), (163, .iinc 4 1, 166), (166, .goto (-26), 169), (169, .iinc 2 1, 172)]), (177, [(172, .goto (-158), 175), (175, .iconst 1, 176), (176, .ireturn, 177)])]
def tb_102 : List (Nat × List xm_I) := [(14, [(0, .iconst 0, 1), (1, .istore 4, 3), (3, .iload 4, 5), (5, .iload_n 1, 6), (6, .if_icmp .ge 21, 9), (9, .aload_n 0, 10), (10, .getfield 35, 13), (13, .iload 4, 15)]), (30, [(15, .laload, 16), (16, .lload_n 2, 17), (17, .lcmp, 18), (18, .ifCond .eq 9, 21), (21, .iinc 4 1, 24), (24, .goto (-21), 27), (27, .iload 4, 29), (29, .iload_n 1, 30)]), (45, [(30, .if_icmp .ge 4, 33), (33, .return_, 34), (34, .iload_n 1, 35), (35, .bipush 61, 37), (37, .if_icmp .ge 10, 40), (40, .aload_n 0, 41), (41, .getfield 35, 44), (44, .iload_n 1, 45)]), (55, [(45, .lload_n 2, 46), (46, .lastore, 47), (47, .aload_n 0, 48), (48, .iload_n 1, 49), (49, .iconst 1, 50), (50, .iadd, 51), (51, .putfield 129, 54), (54, .return_, 55)])]
def tb_103 : List (Nat × List xm_I) := [(9, [(0, .bipush 16, 2), (2, .iload_n 1, 3), (3, .imul, 4), (4, .iload_n 2, 5), (5, .iadd, 6), (6, .istore_n 3, 7), (7, .aload_n 0, 8), (8, .getfield 44, 11)]), (21, [(11, .iload_n 3, 12), (12, .iconst 0, 13), (13, .iastore, 14), (14, .aload_n 0, 15), (15, .getfield 47, 18), (18, .iload_n 3, 19), (19, .iconst 0, 20), (20, .iastore, 21)]), (35, [(21, .iconst 0, 22), (22, .istore 4, 24), (24, .iload 4, 26), (26, .aload_n 0, 27), (27, .getfield 129, 30), (30, .if_icmp .ge 163, 33), (33, .aload_n 0, 34), (34, .getfield 138, 37)]), (53, [(37, .bipush 16, 39), (39, .if_icmp .gt 154, 42), (42, .aload_n 0, 43), (43, .getfield 32, 46), (46, .iload 4, 48), (48, .laload, 49), (49, .ldc2_w 141, 52), (52, .land, 53)]), (66, [(53, .l2i, 54), (54, .istore 5, 56), (56, .aload_n 0, 57), (57, .getfield 32, 60), (60, .iload 4, 62), (62, .laload, 63), (63, .bipush 28, 65), (65, .lshr, 66)]), (79, [(66, .lstore 6, 68), (68, .aload_n 0, 69), (69, .getfield 41, 72), (72, .iload_n 1, 73), (73, .iaload, 74), (74, .istore 8, 76), (76, .iload 8, 78), (78, .aload_n 0, 79)]), (95, [(79, .getfield 135, 82), (82, .if_icmp .ge 26, 85), (85, .lload 6, 87), (87, .aload_n 0, 88), (88, .getfield 50, 91), (91, .iload 8, 93), (93, .iaload, 94), (94, .lshr, 95)]), (109, [(95, .lconst 1, 96), (96, .land, 97), (97, .lconst 0, 98), (98, .lcmp, 99), (99, .ifCond .ne 9, 102), (102, .iinc 8 1, 105), (105, .goto (-29), 108), (108, .iload 8, 110)]), (125, [(110, .aload_n 0, 111), (111, .getfield 135, 114), (114, .if_icmp .lt 7, 117), (117, .iconst 1, 118), (118, .goto 4, 121), (121, .iconst 0, 122), (122, .istore 9, 124), (124, .aload_n 0, 125)]), (142, [(125, .iload 5, 127), (127, .iload 9, 129), (129, .ifCond .eq 7, 132), (132, .iconst 0, 133), (133, .goto 5, 136), (136, .iload 8, 138), (138, .invokevirtual 143, 141), (141, .istore 10, 143)]), (154, [(143, .aload_n 0, 144), (144, .getfield 44, 147), (147, .iload_n 3, 148), (148, .dup2, 149), (149, .iaload, 150), (150, .iconst 1, 151), (151, .iload 10, 153), (153, .ishl, 154)]), (167, [(154, .ior, 155), (155, .iastore, 156), (156, .aload_n 0, 157), (157, .getfield 47, 160), (160, .iload_n 3, 161), (161, .iload 9, 163), (163, .ifCond .eq 17, 166), (166, .aload_n 0, 167)]), (178, [(167, .getfield 47, 170), (170, .iload_n 3, 171), (171, .iaload, 172), (172, .iconst 1, 173), (173, .iload 10, 175), (175, .ishl, 176), (176, .ior, 177), (177, .goto 9, 180)]), (194, [(180, .aload_n 0, 181), (181, .getfield 47, 184), (184, .iload_n 3, 185), (185, .iaload, 186), (186, .iastore, 187), (187, .iinc 4 1, 190), (190, .goto (-166), 193), (193, .return_, 194)])]
def tb_104 : List (Nat × List xm_I) := [(14, [(0, .aload_n 0, 1), (1, .iload_n 1, 2), (2, .invokevirtual 82, 5), (5, .ifCond .eq 12, 8), (8, .iload_n 2, 9), (9, .ifCond .lt 8, 12), (12, .iload_n 2, 13), (13, .iconst 3, 14)]), (26, [(14, .if_icmp .le 5, 17), (17, .iconst (-1), 18), (18, .ireturn, 19), (19, .aload_n 0, 20), (20, .iconst 0, 21), (21, .putfield 198, 24), (24, .aload_n 0, 25), (25, .iconst 0, 26)]), (40, [(26, .putfield 195, 29), (29, .aload_n 0, 30), (30, .iconst 0, 31), (31, .putfield 201, 34), (34, .aload_n 0, 35), (35, .iconst 0, 36), (36, .putfield 204, 39), (39, .aload_n 0, 40)]), (52, [(40, .iload_n 1, 41), (41, .invokevirtual 210, 44), (44, .istore_n 3, 45), (45, .iload_n 3, 46), (46, .ifCond .lt 19, 49), (49, .aload_n 0, 50), (50, .iload_n 3, 51), (51, .invokevirtual 157, 54)]), (69, [(54, .ifCond .eq 11, 57), (57, .aload_n 0, 58), (58, .iload_n 2, 59), (59, .invokevirtual 213, 62), (62, .ifCond .ne 6, 65), (65, .bipush (-2), 67), (67, .ireturn, 68), (68, .aload_n 0, 69)]), (83, [(69, .iconst 1, 70), (70, .invokevirtual 216, 73), (73, .aload_n 0, 74), (74, .getfield 59, 77), (77, .iconst 0, 78), (78, .baload, 79), (79, .ifCond .eq 10, 82), (82, .aload_n 0, 83)]), (95, [(83, .iconst 1, 84), (84, .invokevirtual 220, 87), (87, .iconst 1, 88), (88, .ireturn, 89), (89, .aload_n 0, 90), (90, .iload_n 1, 91), (91, .invokevirtual 157, 94), (94, .ifCond .eq 11, 97)]), (110, [(97, .aload_n 0, 98), (98, .iload_n 2, 99), (99, .invokevirtual 213, 102), (102, .ifCond .ne 6, 105), (105, .bipush (-2), 107), (107, .ireturn, 108), (108, .aload_n 0, 109), (109, .iconst 0, 110)]), (124, [(110, .invokevirtual 216, 113), (113, .aload_n 0, 114), (114, .getfield 59, 117), (117, .iconst 0, 118), (118, .baload, 119), (119, .ifCond .eq 8, 122), (122, .aload_n 0, 123), (123, .iconst 0, 124)]), (138, [(124, .invokevirtual 220, 127), (127, .aload_n 0, 128), (128, .getfield 59, 131), (131, .iconst 0, 132), (132, .baload, 133), (133, .ifCond .eq 7, 136), (136, .iconst 2, 137), (137, .goto 4, 140)]), (142, [(140, .iconst 0, 141), (141, .ireturn, 142)])]
def tb_105 : List (Nat × List xm_I) := [(12, [(0, .aload_n 0, 1), (1, .iconst 0, 2), (2, .putfield 168, 5), (5, .aload_n 0, 6), (6, .lconst 1, 7), (7, .invokevirtual 171, 10), (10, .istore_n 2, 11), (11, .iload_n 2, 12)]), (25, [(12, .istore_n 3, 13), (13, .iload_n 3, 14), (14, .aload_n 0, 15), (15, .getfield 168, 18), (18, .if_icmp .ge 80, 21), (21, .iconst 0, 22), (22, .istore 4, 24), (24, .iload 4, 26)]), (39, [(26, .bipush 16, 28), (28, .if_icmp .ge 64, 31), (31, .aload_n 0, 32), (32, .aload_n 0, 33), (33, .getfield 53, 36), (36, .iload_n 3, 37), (37, .laload, 38), (38, .iload 4, 40)]), (54, [(40, .iload_n 1, 41), (41, .invokevirtual 175, 44), (44, .lstore 5, 46), (46, .aload_n 0, 47), (47, .getfield 56, 50), (50, .bipush 16, 52), (52, .iload_n 3, 53), (53, .imul, 54)]), (66, [(54, .iload 4, 56), (56, .iadd, 57), (57, .lload 5, 59), (59, .lconst 0, 60), (60, .lcmp, 61), (61, .ifCond .ge 7, 64), (64, .iconst (-1), 65), (65, .goto 9, 68)]), (82, [(68, .aload_n 0, 69), (69, .lload 5, 71), (71, .invokevirtual 171, 74), (74, .iastore, 75), (75, .aload_n 0, 76), (76, .getfield 168, 79), (79, .bipush 100, 81), (81, .if_icmp .le 5, 84)]), (100, [(84, .iconst 0, 85), (85, .ireturn, 86), (86, .iinc 4 1, 89), (89, .goto (-65), 92), (92, .iinc 3 1, 95), (95, .goto (-82), 98), (98, .iconst 1, 99), (99, .ireturn, 100)])]
def tb_106 : List (Nat × List xm_I) := [(12, [(0, .iconst 0, 1), (1, .istore_n 3, 2), (2, .iload_n 3, 3), (3, .aload_n 0, 4), (4, .getfield 168, 7), (7, .if_icmp .ge 22, 10), (10, .aload_n 0, 11), (11, .getfield 53, 14)]), (24, [(14, .iload_n 3, 15), (15, .laload, 16), (16, .lload_n 1, 17), (17, .lcmp, 18), (18, .ifCond .ne 5, 21), (21, .iload_n 3, 22), (22, .ireturn, 23), (23, .iinc 3 1, 26)]), (40, [(26, .goto (-24), 29), (29, .aload_n 0, 30), (30, .getfield 53, 33), (33, .aload_n 0, 34), (34, .getfield 168, 37), (37, .lload_n 1, 38), (38, .lastore, 39), (39, .aload_n 0, 40)]), (54, [(40, .dup, 41), (41, .getfield 168, 44), (44, .iconst 1, 45), (45, .iadd, 46), (46, .putfield 168, 49), (49, .aload_n 0, 50), (50, .getfield 168, 53), (53, .iconst 1, 54)]), (56, [(54, .isub, 55), (55, .ireturn, 56)])]
def tb_107 : List (Nat × List xm_I) := [(13, [(0, .lconst 0, 1), (1, .lstore 5, 3), (3, .iconst 0, 4), (4, .istore 7, 6), (6, .iload 7, 8), (8, .aload_n 0, 9), (9, .getfield 138, 12), (12, .if_icmp .ge 143, 15)]), (28, [(15, .iconst (-1), 16), (16, .istore 8, 18), (18, .iconst 0, 19), (19, .istore 9, 21), (21, .iload 9, 23), (23, .aload_n 0, 24), (24, .getfield 138, 27), (27, .if_icmp .ge 96, 30)]), (44, [(30, .lload_n 1, 31), (31, .iload 9, 33), (33, .invokestatic 162, 36), (36, .istore 10, 38), (38, .bipush 16, 40), (40, .iload 9, 42), (42, .imul, 43), (43, .iload_n 3, 44)]), (59, [(44, .iadd, 45), (45, .istore 11, 47), (47, .iload 10, 49), (49, .ifCond .lt 23, 52), (52, .aload_n 0, 53), (53, .getfield 44, 56), (56, .iload 11, 58), (58, .iaload, 59)]), (70, [(59, .iload 7, 61), (61, .ishr, 62), (62, .iconst 1, 63), (63, .iand, 64), (64, .iconst 1, 65), (65, .if_icmp .ne 7, 68), (68, .iconst 1, 69), (69, .goto 4, 72)]), (87, [(72, .iconst 0, 73), (73, .istore 12, 75), (75, .iload 12, 77), (77, .ifCond .eq 21, 80), (80, .iload 10, 82), (82, .aload_n 0, 83), (83, .getfield 47, 86), (86, .iload 11, 88)]), (99, [(88, .iaload, 89), (89, .iload 7, 91), (91, .ishr, 92), (92, .iconst 1, 93), (93, .iand, 94), (94, .iadd, 95), (95, .goto 4, 98), (98, .iconst (-1), 99)]), (116, [(99, .istore 13, 101), (101, .iload 13, 103), (103, .iload 8, 105), (105, .if_icmp .le 8, 108), (108, .iload 13, 110), (110, .goto 5, 113), (113, .iload 8, 115), (115, .istore 8, 117)]), (135, [(117, .iinc 9 1, 120), (120, .goto (-99), 123), (123, .iload 8, 125), (125, .iload 4, 127), (127, .if_icmp .le 7, 130), (130, .ldc2_w 166, 133), (133, .lreturn, 134), (134, .lload 5, 136)]), (146, [(136, .iload 8, 138), (138, .iconst 1, 139), (139, .iadd, 140), (140, .i2l, 141), (141, .iconst 3, 142), (142, .iload 7, 144), (144, .imul, 145), (145, .lshl, 146)]), (158, [(146, .lor, 147), (147, .lstore 5, 149), (149, .iinc 7 1, 152), (152, .goto (-146), 155), (155, .lload 5, 157), (157, .lreturn, 158)])]
def tb_108 : List (Nat × List xm_I) := [(10, [(0, .lload_n 0, 1), (1, .iconst 3, 2), (2, .iload_n 2, 3), (3, .imul, 4), (4, .lshr, 5), (5, .ldc2_w 160, 8), (8, .land, 9), (9, .l2i, 10)]), (13, [(10, .iconst 1, 11), (11, .isub, 12), (12, .ireturn, 13)])]
def tb_109 : List (Nat × List xm_I) := [(12, [(0, .iconst 0, 1), (1, .istore_n 2, 2), (2, .iload_n 2, 3), (3, .aload_n 0, 4), (4, .getfield 168, 7), (7, .if_icmp .ge 16, 10), (10, .aload_n 0, 11), (11, .getfield 59, 14)]), (26, [(14, .iload_n 2, 15), (15, .iconst 1, 16), (16, .bastore, 17), (17, .iinc 2 1, 20), (20, .goto (-18), 23), (23, .iconst 1, 24), (24, .istore_n 2, 25), (25, .iload_n 2, 26)]), (36, [(26, .ifCond .eq 51, 29), (29, .iconst 0, 30), (30, .istore_n 2, 31), (31, .iconst 0, 32), (32, .istore_n 3, 33), (33, .iload_n 3, 34), (34, .aload_n 0, 35), (35, .getfield 168, 38)]), (52, [(38, .if_icmp .ge 36, 41), (41, .aload_n 0, 42), (42, .getfield 59, 45), (45, .iload_n 3, 46), (46, .baload, 47), (47, .ifCond .eq 21, 50), (50, .aload_n 0, 51), (51, .iload_n 3, 52)]), (66, [(52, .iload_n 1, 53), (53, .invokevirtual 188, 56), (56, .ifCond .ne 12, 59), (59, .aload_n 0, 60), (60, .getfield 59, 63), (63, .iload_n 3, 64), (64, .iconst 0, 65), (65, .bastore, 66)]), (80, [(66, .iconst 1, 67), (67, .istore_n 2, 68), (68, .iinc 3 1, 71), (71, .goto (-38), 74), (74, .goto (-49), 77), (77, .aload_n 0, 78), (78, .iconst 0, 79), (79, .putfield 192, 82)]), (94, [(82, .iconst 0, 83), (83, .istore_n 3, 84), (84, .iload_n 3, 85), (85, .aload_n 0, 86), (86, .getfield 168, 89), (89, .if_icmp .ge 32, 92), (92, .aload_n 0, 93), (93, .dup, 94)]), (108, [(94, .getfield 192, 97), (97, .aload_n 0, 98), (98, .getfield 59, 101), (101, .iload_n 3, 102), (102, .baload, 103), (103, .ifCond .eq 7, 106), (106, .iconst 1, 107), (107, .goto 4, 110)]), (122, [(110, .iconst 0, 111), (111, .iadd, 112), (112, .putfield 192, 115), (115, .iinc 3 1, 118), (118, .goto (-34), 121), (121, .return_, 122)])]
def tb_110 : List (Nat × List xm_I) := [(14, [(0, .iload_n 2, 1), (1, .ifCond .ne 17, 4), (4, .aload_n 0, 5), (5, .iload_n 1, 6), (6, .invokevirtual 182, 9), (9, .ifCond .lt 7, 12), (12, .iconst 1, 13), (13, .goto 4, 16)]), (26, [(16, .iconst 0, 17), (17, .ireturn, 18), (18, .iconst 1, 19), (19, .istore_n 3, 20), (20, .iconst 0, 21), (21, .istore 4, 23), (23, .iload 4, 25), (25, .iconst 4, 26)]), (41, [(26, .if_icmp .ge 29, 29), (29, .iload_n 3, 30), (30, .ifCond .eq 17, 33), (33, .aload_n 0, 34), (34, .iload_n 1, 35), (35, .iload 4, 37), (37, .invokevirtual 185, 40), (40, .ifCond .lt 7, 43)]), (57, [(43, .iconst 1, 44), (44, .goto 4, 47), (47, .iconst 0, 48), (48, .istore_n 3, 49), (49, .iinc 4 1, 52), (52, .goto (-29), 55), (55, .iload_n 3, 56), (56, .ireturn, 57)])]
def tb_111 : List (Nat × List xm_I) := [(10, [(0, .iconst (-1), 1), (1, .istore_n 2, 2), (2, .iconst 3, 3), (3, .istore_n 3, 4), (4, .iload_n 3, 5), (5, .ifCond .lt 73, 8), (8, .iconst 1, 9), (9, .istore 4, 11)]), (26, [(11, .iconst 0, 12), (12, .istore 5, 14), (14, .iload 5, 16), (16, .iconst 4, 17), (17, .if_icmp .ge 44, 20), (20, .iload 4, 22), (22, .ifCond .eq 30, 25), (25, .aload_n 0, 26)]), (37, [(26, .aload_n 0, 27), (27, .getfield 56, 30), (30, .bipush 16, 32), (32, .iload_n 1, 33), (33, .imul, 34), (34, .iload_n 3, 35), (35, .iadd, 36), (36, .iconst 4, 37)]), (50, [(37, .iload 5, 39), (39, .imul, 40), (40, .iadd, 41), (41, .iaload, 42), (42, .invokevirtual 179, 45), (45, .ifCond .eq 7, 48), (48, .iconst 1, 49), (49, .goto 4, 52)]), (68, [(52, .iconst 0, 53), (53, .istore 4, 55), (55, .iinc 5 1, 58), (58, .goto (-44), 61), (61, .iload 4, 63), (63, .ifCond .eq 7, 66), (66, .iload_n 3, 67), (67, .goto 4, 70)]), (80, [(70, .iload_n 2, 71), (71, .istore_n 2, 72), (72, .iinc 3 (-1), 75), (75, .goto (-71), 78), (78, .iload_n 2, 79), (79, .ireturn, 80)])]
def tb_112 : List (Nat × List xm_I) := [(14, [(0, .iload_n 1, 1), (1, .ifCond .lt 16, 4), (4, .aload_n 0, 5), (5, .getfield 59, 8), (8, .iload_n 1, 9), (9, .baload, 10), (10, .ifCond .eq 7, 13), (13, .iconst 1, 14)]), (19, [(14, .goto 4, 17), (17, .iconst 0, 18), (18, .ireturn, 19)])]
def tb_113 : List (Nat × List xm_I) := [(12, [(0, .iconst (-1), 1), (1, .istore_n 3, 2), (2, .iconst 3, 3), (3, .istore 4, 5), (5, .iload 4, 7), (7, .ifCond .lt 39, 10), (10, .aload_n 0, 11), (11, .aload_n 0, 12)]), (23, [(12, .getfield 56, 15), (15, .bipush 16, 17), (17, .iload_n 1, 18), (18, .imul, 19), (19, .iload_n 2, 20), (20, .iadd, 21), (21, .iconst 4, 22), (22, .iload 4, 24)]), (39, [(24, .imul, 25), (25, .iadd, 26), (26, .iaload, 27), (27, .invokevirtual 179, 30), (30, .ifCond .eq 8, 33), (33, .iload 4, 35), (35, .goto 4, 38), (38, .iload_n 3, 39)]), (48, [(39, .istore_n 3, 40), (40, .iinc 4 (-1), 43), (43, .goto (-38), 46), (46, .iload_n 3, 47), (47, .ireturn, 48)])]
def tb_114 : List (Nat × List xm_I) := [(14, [(0, .aload_n 0, 1), (1, .iload_n 1, 2), (2, .ifCond .eq 7, 5), (5, .iconst 1, 6), (6, .goto 4, 9), (9, .iconst 2, 10), (10, .putfield 198, 13), (13, .aload_n 0, 14)]), (28, [(14, .iconst 0, 15), (15, .putfield 195, 18), (18, .aload_n 0, 19), (19, .aload_n 0, 20), (20, .getfield 168, 23), (23, .putfield 201, 26), (26, .aload_n 0, 27), (27, .aload_n 0, 28)]), (43, [(28, .getfield 192, 31), (31, .putfield 204, 34), (34, .iconst 0, 35), (35, .istore_n 2, 36), (36, .iload_n 2, 37), (37, .bipush 100, 39), (39, .if_icmp .ge 16, 42), (42, .aload_n 0, 43)]), (57, [(43, .getfield 63, 46), (46, .iload_n 2, 47), (47, .iconst (-1), 48), (48, .iastore, 49), (49, .iinc 2 1, 52), (52, .goto (-16), 55), (55, .aload_n 0, 56), (56, .iconst 0, 57)]), (69, [(57, .invokevirtual 207, 60), (60, .istore_n 2, 61), (61, .iload_n 2, 62), (62, .istore_n 3, 63), (63, .iload_n 3, 64), (64, .aload_n 0, 65), (65, .getfield 195, 68), (68, .if_icmp .ge 115, 71)]), (83, [(71, .aload_n 0, 72), (72, .getfield 66, 75), (75, .iload_n 3, 76), (76, .iaload, 77), (77, .istore 4, 79), (79, .iconst 0, 80), (80, .istore 5, 82), (82, .iload 5, 84)]), (98, [(84, .iconst 4, 85), (85, .if_icmp .ge 92, 88), (88, .iload_n 1, 89), (89, .ifCond .eq 14, 92), (92, .aload_n 0, 93), (93, .iload 4, 95), (95, .iload 5, 97), (97, .invokevirtual 185, 100)]), (116, [(100, .goto 9, 103), (103, .aload_n 0, 104), (104, .iload 4, 106), (106, .invokevirtual 182, 109), (109, .istore 6, 111), (111, .aload_n 0, 112), (112, .getfield 69, 115), (115, .iconst 4, 116)]), (126, [(116, .iload_n 3, 117), (117, .imul, 118), (118, .iload 5, 120), (120, .iadd, 121), (121, .iload 6, 123), (123, .iastore, 124), (124, .aload_n 0, 125), (125, .getfield 72, 128)]), (137, [(128, .iconst 4, 129), (129, .iload_n 3, 130), (130, .imul, 131), (131, .iload 5, 133), (133, .iadd, 134), (134, .aload_n 0, 135), (135, .aload_n 0, 136), (136, .getfield 56, 139)]), (152, [(139, .bipush 16, 141), (141, .iload 4, 143), (143, .imul, 144), (144, .iload_n 1, 145), (145, .ifCond .eq 13, 148), (148, .iload 5, 150), (150, .iconst 4, 151), (151, .iload 6, 153)]), (165, [(153, .imul, 154), (154, .iadd, 155), (155, .goto 10, 158), (158, .iload 6, 160), (160, .iconst 4, 161), (161, .iload 5, 163), (163, .imul, 164), (164, .iadd, 165)]), (181, [(165, .iadd, 166), (166, .iaload, 167), (167, .invokevirtual 207, 170), (170, .iastore, 171), (171, .iinc 5 1, 174), (174, .goto (-92), 177), (177, .iinc 3 1, 180), (180, .goto (-117), 183)]), (184, [(183, .return_, 184)])]
def tb_115 : List (Nat × List xm_I) := [(14, [(0, .aload_n 0, 1), (1, .getfield 63, 4), (4, .iload_n 1, 5), (5, .iaload, 6), (6, .ifCond .ge 33, 9), (9, .aload_n 0, 10), (10, .getfield 63, 13), (13, .iload_n 1, 14)]), (28, [(14, .aload_n 0, 15), (15, .getfield 195, 18), (18, .iastore, 19), (19, .aload_n 0, 20), (20, .getfield 66, 23), (23, .aload_n 0, 24), (24, .getfield 195, 27), (27, .iload_n 1, 28)]), (40, [(28, .iastore, 29), (29, .aload_n 0, 30), (30, .dup, 31), (31, .getfield 195, 34), (34, .iconst 1, 35), (35, .iadd, 36), (36, .putfield 195, 39), (39, .aload_n 0, 40)]), (46, [(40, .getfield 63, 43), (43, .iload_n 1, 44), (44, .iaload, 45), (45, .ireturn, 46)])]
def tb_116 : List (Nat × List xm_I) := [(14, [(0, .iload_n 1, 1), (1, .ifCond .ne 10, 4), (4, .aload_n 0, 5), (5, .getfield 195, 8), (8, .goto 28, 11), (11, .iload_n 1, 12), (12, .iconst 1, 13), (13, .if_icmp .ne 10, 16)]), (30, [(16, .aload_n 0, 17), (17, .getfield 201, 20), (20, .goto 16, 23), (23, .iload_n 1, 24), (24, .iconst 2, 25), (25, .if_icmp .ne 10, 28), (28, .aload_n 0, 29), (29, .getfield 204, 32)]), (37, [(32, .goto 4, 35), (35, .iconst (-1), 36), (36, .ireturn, 37)])]
def tb_117 : List (Nat × List xm_I) := [(14, [(0, .aload_n 0, 1), (1, .getfield 198, 4), (4, .iconst 2, 5), (5, .if_icmp .ne 7, 8), (8, .iconst 0, 9), (9, .goto 4, 12), (12, .iload_n 2, 13), (13, .istore_n 3, 14)]), (28, [(14, .aload_n 0, 15), (15, .iload_n 1, 16), (16, .iload_n 3, 17), (17, .invokevirtual 223, 20), (20, .ifCond .eq 16, 23), (23, .aload_n 0, 24), (24, .getfield 69, 27), (27, .iconst 4, 28)]), (38, [(28, .iload_n 1, 29), (29, .imul, 30), (30, .iload_n 3, 31), (31, .iadd, 32), (32, .iaload, 33), (33, .goto 4, 36), (36, .iconst (-1), 37), (37, .ireturn, 38)])]
def tb_118 : List (Nat × List xm_I) := [(14, [(0, .aload_n 0, 1), (1, .getfield 198, 4), (4, .ifCond .le 28, 7), (7, .iload_n 1, 8), (8, .ifCond .lt 24, 11), (11, .iload_n 1, 12), (12, .aload_n 0, 13), (13, .getfield 195, 16)]), (30, [(16, .if_icmp .ge 16, 19), (19, .iload_n 2, 20), (20, .ifCond .lt 12, 23), (23, .iload_n 2, 24), (24, .iconst 4, 25), (25, .if_icmp .ge 7, 28), (28, .iconst 1, 29), (29, .goto 4, 32)]), (34, [(32, .iconst 0, 33), (33, .ireturn, 34)])]
def tb_119 : List (Nat × List xm_I) := [(14, [(0, .aload_n 0, 1), (1, .iload_n 1, 2), (2, .iload_n 2, 3), (3, .invokevirtual 223, 6), (6, .ifCond .eq 16, 9), (9, .aload_n 0, 10), (10, .getfield 72, 13), (13, .iconst 4, 14)]), (24, [(14, .iload_n 1, 15), (15, .imul, 16), (16, .iload_n 2, 17), (17, .iadd, 18), (18, .iaload, 19), (19, .goto 4, 22), (22, .iconst (-1), 23), (23, .ireturn, 24)])]
def kc_0 : List (Nat × xm_V) := []
def kf_0 : List (Nat × Nat × Nat × Nat) := [(10, 0, 0, 12), (21, 0, 1, 12), (28, 0, 2, 12), (37, 0, 3, 12), (46, 0, 4, 12), (55, 0, 5, 12), (81, 1, 5, 0), (100, 5, 6, 0), (116, 7, 2, 0), (117, 7, 3, 0), (120, 7, 4, 0), (124, 7, 1, 0), (127, 7, 7, 22), (134, 7, 8, 22)]
def kn_0 : List (Nat × Nat × List xm_F) := [(7, 1, [some none, some none, some none, some none, some none, none]), (16, 2, [some none, some none, some none, none, none]), (25, 3, [some none, some none, some none, some none, none, some none, some none, some none]), (32, 5, [some none, some none, some none, none, some none, some none, none, some none, some none]), (41, 6, [some none, some none, none, some none, some none, none]), (50, 7, [some none, none, none, none, none, some none, some none, some none, some none])]
def ks_0 : List (Nat × Nat) := []
def kx_0 : List (Nat × Nat) := [(1, 2)]
def kl_0 : List (Nat × Nat × Nat × Nat × Nat) := [(9, 2, 1, 2, 0), (18, 4, 2, 2, 0), (27, 5, 2, 2, 0), (34, 7, 3, 2, 0), (43, 8, 2, 2, 0), (52, 9, 2, 2, 0), (59, 11, 4, 0, 1), (63, 14, 1, 1, 0), (67, 15, 1, 1, 0), (70, 16, 4, 0, 1), (74, 12, 2, 0, 1), (77, 19, 3, 0, 1), (85, 22, 5, 0, 2), (89, 23, 2, 0, 2), (92, 32, 3, 0, 3), (96, 44, 3, 0, 3), (98, 46, 2, 0, 5), (101, 55, 1, 0, 7), (104, 56, 2, 0, 6), (107, 62, 2, 0, 6), (110, 69, 1, 0, 7), (113, 73, 1, 0, 7), (123, 76, 2, 0, 7), (131, 77, 1, 1, 0)]
def kc_1 : List (Nat × xm_V) := []
def kf_1 : List (Nat × Nat × Nat × Nat) := [(9, 5, 2, 12), (15, 5, 4, 12), (18, 5, 5, 12), (21, 5, 7, 12), (24, 5, 8, 12), (27, 5, 0, 12), (31, 5, 1, 12), (45, 5, 6, 0), (52, 5, 3, 0), (60, 1, 0, 22), (67, 4, 2, 3), (73, 4, 1, 0), (74, 4, 0, 22)]
def kn_1 : List (Nat × Nat × List xm_F) := []
def ks_1 : List (Nat × Nat) := []
def kx_1 : List (Nat × Nat) := [(3, 2)]
def kl_1 : List (Nat × Nat × Nat × Nat × Nat) := [(35, 32, 3, 0, 3), (41, 47, 2, 0, 5), (49, 48, 3, 0, 5), (55, 24, 3, 0, 1), (63, 49, 3, 0, 3), (78, 50, 1, 1, 0), (82, 51, 3, 0, 5), (86, 52, 1, 1, 0), (89, 53, 3, 0, 5)]
def kc_2 : List (Nat × xm_V) := []
def kf_2 : List (Nat × Nat × Nat × Nat) := [(9, 1, 0, 12), (15, 1, 1, 12), (18, 1, 2, 12), (21, 1, 3, 12), (24, 1, 4, 12), (33, 1, 5, 0)]
def kn_2 : List (Nat × Nat × List xm_F) := []
def ks_2 : List (Nat × Nat) := [(51, 1)]
def kx_2 : List (Nat × Nat) := [(3, 2)]
def kl_2 : List (Nat × Nat × Nat × Nat × Nat) := [(27, 3, 2, 1, 0), (37, 13, 1, 1, 0), (41, 12, 2, 0, 1), (44, 17, 1, 1, 0), (47, 19, 3, 0, 1), (54, 16, 4, 0, 1)]
def kc_3 : List (Nat × xm_V) := [(38, xv_l (-1)), (44, xv_l (15))]
def kf_3 : List (Nat × Nat × Nat × Nat) := [(9, 6, 1, 12), (15, 6, 3, 12), (19, 6, 4, 12), (23, 6, 0, 12), (31, 6, 2, 0), (50, 5, 6, 0), (53, 5, 8, 22), (56, 5, 7, 22), (62, 6, 5, 0)]
def kn_3 : List (Nat × Nat × List xm_F) := []
def ks_3 : List (Nat × Nat) := []
def kx_3 : List (Nat × Nat) := [(3, 2)]
def kl_3 : List (Nat × Nat × Nat × Nat × Nat) := [(27, 57, 3, 1, 0), (35, 59, 4, 0, 6), (40, 61, 2, 0, 6), (46, 58, 2, 1, 0), (59, 60, 3, 1, 0), (65, 63, 2, 0, 6), (69, 64, 3, 0, 6), (73, 65, 2, 0, 6), (77, 68, 3, 0, 6), (81, 67, 4, 0, 6), (85, 66, 4, 0, 6)]
def kc_4 : List (Nat × xm_V) := [(23, xv_l (268435455))]
def kf_4 : List (Nat × Nat × Nat × Nat) := [(9, 4, 0, 12), (15, 4, 1, 0), (19, 4, 2, 3)]
def kn_4 : List (Nat × Nat × List xm_F) := []
def ks_4 : List (Nat × Nat) := []
def kx_4 : List (Nat × Nat) := [(3, 2)]
def kl_4 : List (Nat × Nat × Nat × Nat × Nat) := []
def kc_5 : List (Nat × xm_V) := []
def kf_5 : List (Nat × Nat × Nat × Nat) := [(9, 3, 1, 12), (15, 3, 2, 12), (18, 3, 3, 2), (25, 3, 5, 12), (29, 3, 6, 12), (32, 3, 7, 12), (35, 3, 0, 12), (63, 4, 2, 3), (67, 3, 4, 0), (71, 4, 1, 0), (78, 4, 0, 22), (87, 1, 0, 22), (90, 1, 1, 22), (93, 1, 2, 22)]
def kn_5 : List (Nat × Nat × List xm_F) := [(22, 4, [some none, none, none])]
def ks_5 : List (Nat × Nat) := []
def kx_5 : List (Nat × Nat) := [(3, 2), (81, 1)]
def kl_5 : List (Nat × Nat × Nat × Nat × Nat) := [(24, 6, 1, 2, 0), (39, 3, 2, 1, 0), (45, 33, 2, 1, 0), (49, 24, 3, 0, 1), (55, 34, 3, 0, 3), (59, 41, 2, 0, 3), (74, 42, 2, 1, 0), (96, 35, 1, 0, 4), (99, 36, 2, 0, 4), (103, 37, 4, 0, 3), (107, 38, 5, 0, 3), (111, 39, 1, 1, 0), (115, 40, 1, 1, 0)]
def kc_6 : List (Nat × xm_V) := []
def kf_6 : List (Nat × Nat × Nat × Nat) := [(9, 7, 1, 0), (15, 7, 5, 12), (19, 7, 6, 12), (22, 7, 7, 12), (25, 7, 8, 12), (28, 7, 0, 12), (32, 7, 2, 0), (35, 7, 3, 0), (38, 7, 4, 0), (59, 6, 2, 0), (60, 6, 5, 0)]
def kn_6 : List (Nat × Nat × List xm_F) := []
def ks_6 : List (Nat × Nat) := []
def kx_6 : List (Nat × Nat) := [(3, 2)]
def kl_6 : List (Nat × Nat × Nat × Nat × Nat) := [(41, 70, 2, 0, 7), (45, 68, 3, 0, 6), (51, 72, 5, 0, 7), (55, 65, 2, 0, 6), (63, 3, 2, 1, 0), (69, 71, 2, 0, 7), (72, 67, 4, 0, 6)]
def kc_7 : List (Nat × xm_V) := []
def kf_7 : List (Nat × Nat × Nat × Nat) := [(9, 2, 1, 12), (15, 2, 2, 12), (18, 2, 0, 12), (22, 2, 3, 0), (26, 2, 4, 0), (39, 1, 1, 22), (42, 1, 2, 22), (45, 1, 0, 22)]
def kn_7 : List (Nat × Nat × List xm_F) := []
def ks_7 : List (Nat × Nat) := []
def kx_7 : List (Nat × Nat) := [(3, 2)]
def kl_7 : List (Nat × Nat × Nat × Nat × Nat) := [(29, 24, 3, 0, 1), (35, 25, 2, 0, 2), (48, 26, 1, 0, 2), (52, 27, 2, 0, 2), (55, 28, 2, 0, 2), (58, 29, 3, 0, 2), (62, 30, 3, 0, 2)]
def kc_8 : List (Nat × xm_V) := [(28, xv_l (4294967295))]
def kf_8 : List (Nat × Nat × Nat × Nat) := []
def kn_8 : List (Nat × Nat × List xm_F) := [(7, 0, [some none, some none, some none, some none, some none, some none]), (10, 8, [none, some none, some none, some none, some none, some none, some none, some none, some none, none, some none, none, some none, some none, some none, some none, some none, none, none, some none, some none, some none, none, none, none, none, none, some none, some none, some none, some none, some none])]
def ks_8 : List (Nat × Nat) := []
def kx_8 : List (Nat × Nat) := []
def kl_8 : List (Nat × Nat × Nat × Nat × Nat) := [(9, 1, 1, 2, 0), (12, 79, 1, 2, 0), (13, 10, 4, 0, 0), (17, 80, 4, 0, 8), (18, 18, 2, 0, 0), (22, 84, 2, 0, 8), (23, 20, 1, 0, 0), (27, 86, 1, 0, 8), (30, 21, 6, 0, 0), (34, 87, 6, 0, 8), (35, 31, 3, 0, 0), (39, 91, 3, 0, 8), (40, 45, 2, 0, 0), (43, 97, 2, 0, 8), (44, 54, 3, 0, 0), (47, 104, 3, 0, 8), (48, 74, 2, 0, 0), (51, 116, 2, 0, 8), (52, 75, 3, 0, 0), (55, 117, 3, 0, 8), (56, 78, 3, 0, 0), (59, 119, 3, 0, 8)]
def kc_9 : List (Nat × xm_V) := [(97, xv_l (15)), (141, xv_l (268435455)), (160, xv_l (7)), (166, xv_l (-1))]
def kf_9 : List (Nat × Nat × Nat × Nat) := [(7, 8, 1, 2), (13, 8, 2, 2), (16, 8, 3, 2), (19, 8, 4, 2), (22, 8, 5, 2), (25, 8, 6, 2), (29, 8, 7, 2), (32, 8, 8, 2), (35, 8, 10, 2), (38, 8, 12, 2), (41, 8, 13, 2), (44, 8, 14, 2), (47, 8, 15, 2), (50, 8, 16, 2), (53, 8, 19, 2), (56, 8, 20, 2), (59, 8, 21, 2), (63, 8, 27, 2), (66, 8, 28, 2), (69, 8, 29, 2), (72, 8, 30, 2), (75, 8, 31, 2), (78, 8, 0, 0), (129, 8, 9, 0), (135, 8, 17, 0), (138, 8, 11, 0), (168, 8, 18, 0), (192, 8, 22, 0), (195, 8, 24, 0), (198, 8, 23, 0), (201, 8, 25, 0), (204, 8, 26, 0)]
def kn_9 : List (Nat × Nat × List xm_F) := []
def ks_9 : List (Nat × Nat) := []
def kx_9 : List (Nat × Nat) := [(1, 2)]
def kl_9 : List (Nat × Nat × Nat × Nat × Nat) := [(82, 81, 2, 0, 8), (86, 82, 1, 1, 0), (89, 83, 4, 0, 8), (93, 85, 1, 1, 0), (99, 89, 3, 1, 0), (102, 88, 5, 0, 8), (106, 90, 6, 0, 8), (110, 94, 3, 0, 8), (114, 95, 4, 0, 8), (118, 96, 4, 0, 8), (122, 93, 3, 0, 8), (126, 92, 3, 0, 8), (132, 102, 3, 0, 8), (143, 100, 3, 0, 8), (147, 99, 2, 0, 8), (151, 101, 2, 0, 8), (154, 103, 3, 0, 8), (157, 98, 2, 0, 8), (162, 108, 2, 1, 0), (171, 106, 2, 0, 8), (175, 107, 4, 0, 8), (179, 112, 2, 0, 8), (182, 111, 2, 0, 8), (185, 113, 3, 0, 8), (188, 110, 3, 0, 8), (207, 115, 2, 0, 8), (210, 84, 2, 0, 8), (213, 105, 2, 0, 8), (216, 109, 2, 0, 8), (220, 114, 2, 0, 8), (223, 118, 3, 0, 8)]
def kc_10 : List (Nat × xm_V) := []
def kf_10 : List (Nat × Nat × Nat × Nat) := []
def kn_10 : List (Nat × Nat × List xm_F) := []
def ks_10 : List (Nat × Nat) := []
def kx_10 : List (Nat × Nat) := []
def kl_10 : List (Nat × Nat × Nat × Nat × Nat) := []
def kc_11 : List (Nat × xm_V) := []
def kf_11 : List (Nat × Nat × Nat × Nat) := []
def kn_11 : List (Nat × Nat × List xm_F) := []
def ks_11 : List (Nat × Nat) := []
-- NOT IN THE PROGRAM: java/util/Arrays 319 ('[J', 'clone', '()Ljava/lang/Object;')
def kx_11 : List (Nat × Nat) := [(150, 1)]
def kl_11 : List (Nat × Nat × Nat × Nat × Nat) := [(304, 43, 2, 1, 0)]
def ym_0 : xm_Y := (fun pc => xm_tb pc tb_0, fun ix => xm_as ix kc_8, fun ix => xm_as ix kf_8, fun ix => xm_as ix kn_8, fun ix => xm_as ix ks_8, fun ix => (xm_as ix kx_8).getD 0)
def ym_1 : xm_Y := (fun pc => xm_tb pc tb_1, fun ix => xm_as ix kc_0, fun ix => xm_as ix kf_0, fun ix => xm_as ix kn_0, fun ix => xm_as ix ks_0, fun ix => bif Nat.beq ix 0 then 9 else (xm_as ix kx_0).getD 0)
def ym_2 : xm_Y := (fun pc => xm_tb pc tb_2, fun ix => xm_as ix kc_2, fun ix => xm_as ix kf_2, fun ix => xm_as ix kn_2, fun ix => xm_as ix ks_2, fun ix => bif Nat.beq ix 0 then 9 else (xm_as ix kx_2).getD 0)
def ym_3 : xm_Y := (fun pc => xm_tb pc tb_3, fun ix => xm_as ix kc_11, fun ix => xm_as ix kf_11, fun ix => xm_as ix kn_11, fun ix => xm_as ix ks_11, fun ix => (xm_as ix kx_11).getD 0)
def ym_4 : xm_Y := (fun pc => xm_tb pc tb_4, fun ix => xm_as ix kc_7, fun ix => xm_as ix kf_7, fun ix => xm_as ix kn_7, fun ix => xm_as ix ks_7, fun ix => bif Nat.beq ix 0 then 9 else (xm_as ix kx_7).getD 0)
def ym_5 : xm_Y := (fun pc => xm_tb pc tb_5, fun ix => xm_as ix kc_5, fun ix => xm_as ix kf_5, fun ix => xm_as ix kn_5, fun ix => xm_as ix ks_5, fun ix => bif Nat.beq ix 0 then 9 else (xm_as ix kx_5).getD 0)
def ym_6 : xm_Y := (fun pc => xm_tb pc tb_6, fun ix => xm_as ix kc_4, fun ix => xm_as ix kf_4, fun ix => xm_as ix kn_4, fun ix => xm_as ix ks_4, fun ix => bif Nat.beq ix 0 then 9 else (xm_as ix kx_4).getD 0)
def ym_7 : xm_Y := (fun pc => xm_tb pc tb_7, fun ix => xm_as ix kc_1, fun ix => xm_as ix kf_1, fun ix => xm_as ix kn_1, fun ix => xm_as ix ks_1, fun ix => bif Nat.beq ix 0 then 9 else (xm_as ix kx_1).getD 0)
def ym_8 : xm_Y := (fun pc => xm_tb pc tb_8, fun ix => xm_as ix kc_3, fun ix => xm_as ix kf_3, fun ix => xm_as ix kn_3, fun ix => xm_as ix ks_3, fun ix => bif Nat.beq ix 0 then 9 else (xm_as ix kx_3).getD 0)
def ym_9 : xm_Y := (fun pc => xm_tb pc tb_9, fun ix => xm_as ix kc_6, fun ix => xm_as ix kf_6, fun ix => xm_as ix kn_6, fun ix => xm_as ix ks_6, fun ix => bif Nat.beq ix 0 then 9 else (xm_as ix kx_6).getD 0)
def ym_10 : xm_Y := (fun pc => xm_tb pc tb_10, fun ix => xm_as ix kc_0, fun ix => xm_as ix kf_0, fun ix => xm_as ix kn_0, fun ix => xm_as ix ks_0, fun ix => (xm_as ix kx_0).getD 0)
def ym_11 : xm_Y := (fun pc => xm_tb pc tb_11, fun ix => xm_as ix kc_2, fun ix => xm_as ix kf_2, fun ix => xm_as ix kn_2, fun ix => xm_as ix ks_2, fun ix => (xm_as ix kx_2).getD 0)
def ym_12 : xm_Y := (fun pc => xm_tb pc tb_12, fun ix => xm_as ix kc_2, fun ix => xm_as ix kf_2, fun ix => xm_as ix kn_2, fun ix => xm_as ix ks_2, fun ix => (xm_as ix kx_2).getD 0)
def ym_13 : xm_Y := (fun pc => xm_tb pc tb_13, fun ix => xm_as ix kc_2, fun ix => xm_as ix kf_2, fun ix => xm_as ix kn_2, fun ix => xm_as ix ks_2, fun ix => (xm_as ix kx_2).getD 0)
def ym_14 : xm_Y := (fun pc => xm_tb pc tb_14, fun ix => xm_as ix kc_2, fun ix => xm_as ix kf_2, fun ix => xm_as ix kn_2, fun ix => xm_as ix ks_2, fun ix => (xm_as ix kx_2).getD 0)
def ym_15 : xm_Y := (fun pc => xm_tb pc tb_15, fun ix => xm_as ix kc_2, fun ix => xm_as ix kf_2, fun ix => xm_as ix kn_2, fun ix => xm_as ix ks_2, fun ix => (xm_as ix kx_2).getD 0)
def ym_16 : xm_Y := (fun pc => xm_tb pc tb_16, fun ix => xm_as ix kc_2, fun ix => xm_as ix kf_2, fun ix => xm_as ix kn_2, fun ix => xm_as ix ks_2, fun ix => (xm_as ix kx_2).getD 0)
def ym_17 : xm_Y := (fun pc => xm_tb pc tb_17, fun ix => xm_as ix kc_2, fun ix => xm_as ix kf_2, fun ix => xm_as ix kn_2, fun ix => xm_as ix ks_2, fun ix => (xm_as ix kx_2).getD 0)
def ym_18 : xm_Y := (fun pc => xm_tb pc tb_18, fun ix => xm_as ix kc_0, fun ix => xm_as ix kf_0, fun ix => xm_as ix kn_0, fun ix => xm_as ix ks_0, fun ix => (xm_as ix kx_0).getD 0)
def ym_19 : xm_Y := (fun pc => xm_tb pc tb_19, fun ix => xm_as ix kc_2, fun ix => xm_as ix kf_2, fun ix => xm_as ix kn_2, fun ix => xm_as ix ks_2, fun ix => (xm_as ix kx_2).getD 0)
def ym_20 : xm_Y := (fun pc => xm_tb pc tb_20, fun ix => xm_as ix kc_0, fun ix => xm_as ix kf_0, fun ix => xm_as ix kn_0, fun ix => xm_as ix ks_0, fun ix => (xm_as ix kx_0).getD 0)
def ym_21 : xm_Y := (fun pc => xm_tb pc tb_21, fun ix => xm_as ix kc_0, fun ix => xm_as ix kf_0, fun ix => xm_as ix kn_0, fun ix => xm_as ix ks_0, fun ix => (xm_as ix kx_0).getD 0)
def ym_22 : xm_Y := (fun pc => xm_tb pc tb_22, fun ix => xm_as ix kc_7, fun ix => xm_as ix kf_7, fun ix => xm_as ix kn_7, fun ix => xm_as ix ks_7, fun ix => (xm_as ix kx_7).getD 0)
def ym_23 : xm_Y := (fun pc => xm_tb pc tb_23, fun ix => xm_as ix kc_7, fun ix => xm_as ix kf_7, fun ix => xm_as ix kn_7, fun ix => xm_as ix ks_7, fun ix => (xm_as ix kx_7).getD 0)
def ym_24 : xm_Y := (fun pc => xm_tb pc tb_24, fun ix => xm_as ix kc_2, fun ix => xm_as ix kf_2, fun ix => xm_as ix kn_2, fun ix => xm_as ix ks_2, fun ix => (xm_as ix kx_2).getD 0)
def ym_25 : xm_Y := (fun pc => xm_tb pc tb_25, fun ix => xm_as ix kc_7, fun ix => xm_as ix kf_7, fun ix => xm_as ix kn_7, fun ix => xm_as ix ks_7, fun ix => (xm_as ix kx_7).getD 0)
def ym_26 : xm_Y := (fun pc => xm_tb pc tb_26, fun ix => xm_as ix kc_7, fun ix => xm_as ix kf_7, fun ix => xm_as ix kn_7, fun ix => xm_as ix ks_7, fun ix => (xm_as ix kx_7).getD 0)
def ym_27 : xm_Y := (fun pc => xm_tb pc tb_27, fun ix => xm_as ix kc_7, fun ix => xm_as ix kf_7, fun ix => xm_as ix kn_7, fun ix => xm_as ix ks_7, fun ix => (xm_as ix kx_7).getD 0)
def ym_28 : xm_Y := (fun pc => xm_tb pc tb_28, fun ix => xm_as ix kc_7, fun ix => xm_as ix kf_7, fun ix => xm_as ix kn_7, fun ix => xm_as ix ks_7, fun ix => (xm_as ix kx_7).getD 0)
def ym_29 : xm_Y := (fun pc => xm_tb pc tb_29, fun ix => xm_as ix kc_7, fun ix => xm_as ix kf_7, fun ix => xm_as ix kn_7, fun ix => xm_as ix ks_7, fun ix => (xm_as ix kx_7).getD 0)
def ym_30 : xm_Y := (fun pc => xm_tb pc tb_30, fun ix => xm_as ix kc_7, fun ix => xm_as ix kf_7, fun ix => xm_as ix kn_7, fun ix => xm_as ix ks_7, fun ix => (xm_as ix kx_7).getD 0)
def ym_31 : xm_Y := (fun pc => xm_tb pc tb_31, fun ix => xm_as ix kc_0, fun ix => xm_as ix kf_0, fun ix => xm_as ix kn_0, fun ix => xm_as ix ks_0, fun ix => (xm_as ix kx_0).getD 0)
def ym_32 : xm_Y := (fun pc => xm_tb pc tb_32, fun ix => xm_as ix kc_5, fun ix => xm_as ix kf_5, fun ix => xm_as ix kn_5, fun ix => xm_as ix ks_5, fun ix => (xm_as ix kx_5).getD 0)
def ym_33 : xm_Y := (fun pc => xm_tb pc tb_33, fun ix => xm_as ix kc_5, fun ix => xm_as ix kf_5, fun ix => xm_as ix kn_5, fun ix => xm_as ix ks_5, fun ix => (xm_as ix kx_5).getD 0)
def ym_34 : xm_Y := (fun pc => xm_tb pc tb_34, fun ix => xm_as ix kc_5, fun ix => xm_as ix kf_5, fun ix => xm_as ix kn_5, fun ix => xm_as ix ks_5, fun ix => (xm_as ix kx_5).getD 0)
def ym_35 : xm_Y := (fun pc => xm_tb pc tb_35, fun ix => xm_as ix kc_4, fun ix => xm_as ix kf_4, fun ix => xm_as ix kn_4, fun ix => xm_as ix ks_4, fun ix => (xm_as ix kx_4).getD 0)
def ym_36 : xm_Y := (fun pc => xm_tb pc tb_36, fun ix => xm_as ix kc_4, fun ix => xm_as ix kf_4, fun ix => xm_as ix kn_4, fun ix => xm_as ix ks_4, fun ix => (xm_as ix kx_4).getD 0)
def ym_37 : xm_Y := (fun pc => xm_tb pc tb_37, fun ix => xm_as ix kc_5, fun ix => xm_as ix kf_5, fun ix => xm_as ix kn_5, fun ix => xm_as ix ks_5, fun ix => (xm_as ix kx_5).getD 0)
def ym_38 : xm_Y := (fun pc => xm_tb pc tb_38, fun ix => xm_as ix kc_5, fun ix => xm_as ix kf_5, fun ix => xm_as ix kn_5, fun ix => xm_as ix ks_5, fun ix => (xm_as ix kx_5).getD 0)
def ym_39 : xm_Y := (fun pc => xm_tb pc tb_39, fun ix => xm_as ix kc_4, fun ix => xm_as ix kf_4, fun ix => xm_as ix kn_4, fun ix => xm_as ix ks_4, fun ix => (xm_as ix kx_4).getD 0)
def ym_40 : xm_Y := (fun pc => xm_tb pc tb_40, fun ix => xm_as ix kc_4, fun ix => xm_as ix kf_4, fun ix => xm_as ix kn_4, fun ix => xm_as ix ks_4, fun ix => (xm_as ix kx_4).getD 0)
def ym_41 : xm_Y := (fun pc => xm_tb pc tb_41, fun ix => xm_as ix kc_5, fun ix => xm_as ix kf_5, fun ix => xm_as ix kn_5, fun ix => xm_as ix ks_5, fun ix => (xm_as ix kx_5).getD 0)
def ym_42 : xm_Y := (fun pc => xm_tb pc tb_42, fun ix => xm_as ix kc_11, fun ix => xm_as ix kf_11, fun ix => xm_as ix kn_11, fun ix => xm_as ix ks_11, fun ix => (xm_as ix kx_11).getD 0)
def ym_43 : xm_Y := (fun pc => xm_tb pc tb_43, fun ix => xm_as ix kc_10, fun ix => xm_as ix kf_10, fun ix => xm_as ix kn_10, fun ix => xm_as ix ks_10, fun ix => (xm_as ix kx_10).getD 0)
def ym_44 : xm_Y := (fun pc => xm_tb pc tb_44, fun ix => xm_as ix kc_5, fun ix => xm_as ix kf_5, fun ix => xm_as ix kn_5, fun ix => xm_as ix ks_5, fun ix => (xm_as ix kx_5).getD 0)
def ym_45 : xm_Y := (fun pc => xm_tb pc tb_45, fun ix => xm_as ix kc_0, fun ix => xm_as ix kf_0, fun ix => xm_as ix kn_0, fun ix => xm_as ix ks_0, fun ix => (xm_as ix kx_0).getD 0)
def ym_46 : xm_Y := (fun pc => xm_tb pc tb_46, fun ix => xm_as ix kc_1, fun ix => xm_as ix kf_1, fun ix => xm_as ix kn_1, fun ix => xm_as ix ks_1, fun ix => (xm_as ix kx_1).getD 0)
def ym_47 : xm_Y := (fun pc => xm_tb pc tb_47, fun ix => xm_as ix kc_1, fun ix => xm_as ix kf_1, fun ix => xm_as ix kn_1, fun ix => xm_as ix ks_1, fun ix => (xm_as ix kx_1).getD 0)
def ym_48 : xm_Y := (fun pc => xm_tb pc tb_48, fun ix => xm_as ix kc_1, fun ix => xm_as ix kf_1, fun ix => xm_as ix kn_1, fun ix => xm_as ix ks_1, fun ix => (xm_as ix kx_1).getD 0)
def ym_49 : xm_Y := (fun pc => xm_tb pc tb_49, fun ix => xm_as ix kc_5, fun ix => xm_as ix kf_5, fun ix => xm_as ix kn_5, fun ix => xm_as ix ks_5, fun ix => (xm_as ix kx_5).getD 0)
def ym_50 : xm_Y := (fun pc => xm_tb pc tb_50, fun ix => xm_as ix kc_4, fun ix => xm_as ix kf_4, fun ix => xm_as ix kn_4, fun ix => xm_as ix ks_4, fun ix => (xm_as ix kx_4).getD 0)
def ym_51 : xm_Y := (fun pc => xm_tb pc tb_51, fun ix => xm_as ix kc_1, fun ix => xm_as ix kf_1, fun ix => xm_as ix kn_1, fun ix => xm_as ix ks_1, fun ix => (xm_as ix kx_1).getD 0)
def ym_52 : xm_Y := (fun pc => xm_tb pc tb_52, fun ix => xm_as ix kc_4, fun ix => xm_as ix kf_4, fun ix => xm_as ix kn_4, fun ix => xm_as ix ks_4, fun ix => (xm_as ix kx_4).getD 0)
def ym_53 : xm_Y := (fun pc => xm_tb pc tb_53, fun ix => xm_as ix kc_1, fun ix => xm_as ix kf_1, fun ix => xm_as ix kn_1, fun ix => xm_as ix ks_1, fun ix => (xm_as ix kx_1).getD 0)
def ym_54 : xm_Y := (fun pc => xm_tb pc tb_54, fun ix => xm_as ix kc_0, fun ix => xm_as ix kf_0, fun ix => xm_as ix kn_0, fun ix => xm_as ix ks_0, fun ix => (xm_as ix kx_0).getD 0)
def ym_55 : xm_Y := (fun pc => xm_tb pc tb_55, fun ix => xm_as ix kc_6, fun ix => xm_as ix kf_6, fun ix => xm_as ix kn_6, fun ix => xm_as ix ks_6, fun ix => (xm_as ix kx_6).getD 0)
def ym_56 : xm_Y := (fun pc => xm_tb pc tb_56, fun ix => xm_as ix kc_3, fun ix => xm_as ix kf_3, fun ix => xm_as ix kn_3, fun ix => xm_as ix ks_3, fun ix => (xm_as ix kx_3).getD 0)
def ym_57 : xm_Y := (fun pc => xm_tb pc tb_57, fun ix => xm_as ix kc_3, fun ix => xm_as ix kf_3, fun ix => xm_as ix kn_3, fun ix => xm_as ix ks_3, fun ix => (xm_as ix kx_3).getD 0)
def ym_58 : xm_Y := (fun pc => xm_tb pc tb_58, fun ix => xm_as ix kc_3, fun ix => xm_as ix kf_3, fun ix => xm_as ix kn_3, fun ix => xm_as ix ks_3, fun ix => (xm_as ix kx_3).getD 0)
def ym_59 : xm_Y := (fun pc => xm_tb pc tb_59, fun ix => xm_as ix kc_3, fun ix => xm_as ix kf_3, fun ix => xm_as ix kn_3, fun ix => xm_as ix ks_3, fun ix => (xm_as ix kx_3).getD 0)
def ym_60 : xm_Y := (fun pc => xm_tb pc tb_60, fun ix => xm_as ix kc_3, fun ix => xm_as ix kf_3, fun ix => xm_as ix kn_3, fun ix => xm_as ix ks_3, fun ix => (xm_as ix kx_3).getD 0)
def ym_61 : xm_Y := (fun pc => xm_tb pc tb_61, fun ix => xm_as ix kc_3, fun ix => xm_as ix kf_3, fun ix => xm_as ix kn_3, fun ix => xm_as ix ks_3, fun ix => (xm_as ix kx_3).getD 0)
def ym_62 : xm_Y := (fun pc => xm_tb pc tb_62, fun ix => xm_as ix kc_3, fun ix => xm_as ix kf_3, fun ix => xm_as ix kn_3, fun ix => xm_as ix ks_3, fun ix => (xm_as ix kx_3).getD 0)
def ym_63 : xm_Y := (fun pc => xm_tb pc tb_63, fun ix => xm_as ix kc_3, fun ix => xm_as ix kf_3, fun ix => xm_as ix kn_3, fun ix => xm_as ix ks_3, fun ix => (xm_as ix kx_3).getD 0)
def ym_64 : xm_Y := (fun pc => xm_tb pc tb_64, fun ix => xm_as ix kc_3, fun ix => xm_as ix kf_3, fun ix => xm_as ix kn_3, fun ix => xm_as ix ks_3, fun ix => (xm_as ix kx_3).getD 0)
def ym_65 : xm_Y := (fun pc => xm_tb pc tb_65, fun ix => xm_as ix kc_3, fun ix => xm_as ix kf_3, fun ix => xm_as ix kn_3, fun ix => xm_as ix ks_3, fun ix => (xm_as ix kx_3).getD 0)
def ym_66 : xm_Y := (fun pc => xm_tb pc tb_66, fun ix => xm_as ix kc_3, fun ix => xm_as ix kf_3, fun ix => xm_as ix kn_3, fun ix => xm_as ix ks_3, fun ix => (xm_as ix kx_3).getD 0)
def ym_67 : xm_Y := (fun pc => xm_tb pc tb_67, fun ix => xm_as ix kc_3, fun ix => xm_as ix kf_3, fun ix => xm_as ix kn_3, fun ix => xm_as ix ks_3, fun ix => (xm_as ix kx_3).getD 0)
def ym_68 : xm_Y := (fun pc => xm_tb pc tb_68, fun ix => xm_as ix kc_3, fun ix => xm_as ix kf_3, fun ix => xm_as ix kn_3, fun ix => xm_as ix ks_3, fun ix => (xm_as ix kx_3).getD 0)
def ym_69 : xm_Y := (fun pc => xm_tb pc tb_69, fun ix => xm_as ix kc_6, fun ix => xm_as ix kf_6, fun ix => xm_as ix kn_6, fun ix => xm_as ix ks_6, fun ix => (xm_as ix kx_6).getD 0)
def ym_70 : xm_Y := (fun pc => xm_tb pc tb_70, fun ix => xm_as ix kc_6, fun ix => xm_as ix kf_6, fun ix => xm_as ix kn_6, fun ix => xm_as ix ks_6, fun ix => (xm_as ix kx_6).getD 0)
def ym_71 : xm_Y := (fun pc => xm_tb pc tb_71, fun ix => xm_as ix kc_6, fun ix => xm_as ix kf_6, fun ix => xm_as ix kn_6, fun ix => xm_as ix ks_6, fun ix => (xm_as ix kx_6).getD 0)
def ym_72 : xm_Y := (fun pc => xm_tb pc tb_72, fun ix => xm_as ix kc_6, fun ix => xm_as ix kf_6, fun ix => xm_as ix kn_6, fun ix => xm_as ix ks_6, fun ix => (xm_as ix kx_6).getD 0)
def ym_73 : xm_Y := (fun pc => xm_tb pc tb_73, fun ix => xm_as ix kc_6, fun ix => xm_as ix kf_6, fun ix => xm_as ix kn_6, fun ix => xm_as ix ks_6, fun ix => (xm_as ix kx_6).getD 0)
def ym_74 : xm_Y := (fun pc => xm_tb pc tb_74, fun ix => xm_as ix kc_0, fun ix => xm_as ix kf_0, fun ix => xm_as ix kn_0, fun ix => xm_as ix ks_0, fun ix => (xm_as ix kx_0).getD 0)
def ym_75 : xm_Y := (fun pc => xm_tb pc tb_75, fun ix => xm_as ix kc_0, fun ix => xm_as ix kf_0, fun ix => xm_as ix kn_0, fun ix => xm_as ix ks_0, fun ix => (xm_as ix kx_0).getD 0)
def ym_76 : xm_Y := (fun pc => xm_tb pc tb_76, fun ix => xm_as ix kc_6, fun ix => xm_as ix kf_6, fun ix => xm_as ix kn_6, fun ix => xm_as ix ks_6, fun ix => (xm_as ix kx_6).getD 0)
def ym_77 : xm_Y := (fun pc => xm_tb pc tb_77, fun ix => xm_as ix kc_0, fun ix => xm_as ix kf_0, fun ix => xm_as ix kn_0, fun ix => xm_as ix ks_0, fun ix => (xm_as ix kx_0).getD 0)
def ym_78 : xm_Y := (fun pc => xm_tb pc tb_78, fun ix => xm_as ix kc_0, fun ix => xm_as ix kf_0, fun ix => xm_as ix kn_0, fun ix => xm_as ix ks_0, fun ix => (xm_as ix kx_0).getD 0)
def ym_79 : xm_Y := (fun pc => xm_tb pc tb_79, fun ix => xm_as ix kc_9, fun ix => xm_as ix kf_9, fun ix => xm_as ix kn_9, fun ix => xm_as ix ks_9, fun ix => bif Nat.beq ix 0 then 9 else (xm_as ix kx_9).getD 0)
def ym_80 : xm_Y := (fun pc => xm_tb pc tb_80, fun ix => xm_as ix kc_9, fun ix => xm_as ix kf_9, fun ix => xm_as ix kn_9, fun ix => xm_as ix ks_9, fun ix => (xm_as ix kx_9).getD 0)
def ym_81 : xm_Y := (fun pc => xm_tb pc tb_81, fun ix => xm_as ix kc_9, fun ix => xm_as ix kf_9, fun ix => xm_as ix kn_9, fun ix => xm_as ix ks_9, fun ix => (xm_as ix kx_9).getD 0)
def ym_82 : xm_Y := (fun pc => xm_tb pc tb_82, fun ix => xm_as ix kc_9, fun ix => xm_as ix kf_9, fun ix => xm_as ix kn_9, fun ix => xm_as ix ks_9, fun ix => (xm_as ix kx_9).getD 0)
def ym_83 : xm_Y := (fun pc => xm_tb pc tb_83, fun ix => xm_as ix kc_9, fun ix => xm_as ix kf_9, fun ix => xm_as ix kn_9, fun ix => xm_as ix ks_9, fun ix => (xm_as ix kx_9).getD 0)
def ym_84 : xm_Y := (fun pc => xm_tb pc tb_84, fun ix => xm_as ix kc_9, fun ix => xm_as ix kf_9, fun ix => xm_as ix kn_9, fun ix => xm_as ix ks_9, fun ix => (xm_as ix kx_9).getD 0)
def ym_85 : xm_Y := (fun pc => xm_tb pc tb_85, fun ix => xm_as ix kc_9, fun ix => xm_as ix kf_9, fun ix => xm_as ix kn_9, fun ix => xm_as ix ks_9, fun ix => (xm_as ix kx_9).getD 0)
def ym_86 : xm_Y := (fun pc => xm_tb pc tb_86, fun ix => xm_as ix kc_9, fun ix => xm_as ix kf_9, fun ix => xm_as ix kn_9, fun ix => xm_as ix ks_9, fun ix => (xm_as ix kx_9).getD 0)
def ym_87 : xm_Y := (fun pc => xm_tb pc tb_87, fun ix => xm_as ix kc_9, fun ix => xm_as ix kf_9, fun ix => xm_as ix kn_9, fun ix => xm_as ix ks_9, fun ix => (xm_as ix kx_9).getD 0)
def ym_88 : xm_Y := (fun pc => xm_tb pc tb_88, fun ix => xm_as ix kc_9, fun ix => xm_as ix kf_9, fun ix => xm_as ix kn_9, fun ix => xm_as ix ks_9, fun ix => (xm_as ix kx_9).getD 0)
def ym_89 : xm_Y := (fun pc => xm_tb pc tb_89, fun ix => xm_as ix kc_9, fun ix => xm_as ix kf_9, fun ix => xm_as ix kn_9, fun ix => xm_as ix ks_9, fun ix => (xm_as ix kx_9).getD 0)
def ym_90 : xm_Y := (fun pc => xm_tb pc tb_90, fun ix => xm_as ix kc_9, fun ix => xm_as ix kf_9, fun ix => xm_as ix kn_9, fun ix => xm_as ix ks_9, fun ix => (xm_as ix kx_9).getD 0)
def ym_91 : xm_Y := (fun pc => xm_tb pc tb_91, fun ix => xm_as ix kc_9, fun ix => xm_as ix kf_9, fun ix => xm_as ix kn_9, fun ix => xm_as ix ks_9, fun ix => (xm_as ix kx_9).getD 0)
def ym_92 : xm_Y := (fun pc => xm_tb pc tb_92, fun ix => xm_as ix kc_9, fun ix => xm_as ix kf_9, fun ix => xm_as ix kn_9, fun ix => xm_as ix ks_9, fun ix => (xm_as ix kx_9).getD 0)
def ym_93 : xm_Y := (fun pc => xm_tb pc tb_93, fun ix => xm_as ix kc_9, fun ix => xm_as ix kf_9, fun ix => xm_as ix kn_9, fun ix => xm_as ix ks_9, fun ix => (xm_as ix kx_9).getD 0)
def ym_94 : xm_Y := (fun pc => xm_tb pc tb_94, fun ix => xm_as ix kc_9, fun ix => xm_as ix kf_9, fun ix => xm_as ix kn_9, fun ix => xm_as ix ks_9, fun ix => (xm_as ix kx_9).getD 0)
def ym_95 : xm_Y := (fun pc => xm_tb pc tb_95, fun ix => xm_as ix kc_9, fun ix => xm_as ix kf_9, fun ix => xm_as ix kn_9, fun ix => xm_as ix ks_9, fun ix => (xm_as ix kx_9).getD 0)
def ym_96 : xm_Y := (fun pc => xm_tb pc tb_96, fun ix => xm_as ix kc_9, fun ix => xm_as ix kf_9, fun ix => xm_as ix kn_9, fun ix => xm_as ix ks_9, fun ix => (xm_as ix kx_9).getD 0)
def ym_97 : xm_Y := (fun pc => xm_tb pc tb_97, fun ix => xm_as ix kc_9, fun ix => xm_as ix kf_9, fun ix => xm_as ix kn_9, fun ix => xm_as ix ks_9, fun ix => (xm_as ix kx_9).getD 0)
def ym_98 : xm_Y := (fun pc => xm_tb pc tb_98, fun ix => xm_as ix kc_9, fun ix => xm_as ix kf_9, fun ix => xm_as ix kn_9, fun ix => xm_as ix ks_9, fun ix => (xm_as ix kx_9).getD 0)
def ym_99 : xm_Y := (fun pc => xm_tb pc tb_99, fun ix => xm_as ix kc_9, fun ix => xm_as ix kf_9, fun ix => xm_as ix kn_9, fun ix => xm_as ix ks_9, fun ix => (xm_as ix kx_9).getD 0)
def ym_100 : xm_Y := (fun pc => xm_tb pc tb_100, fun ix => xm_as ix kc_9, fun ix => xm_as ix kf_9, fun ix => xm_as ix kn_9, fun ix => xm_as ix ks_9, fun ix => (xm_as ix kx_9).getD 0)
def ym_101 : xm_Y := (fun pc => xm_tb pc tb_101, fun ix => xm_as ix kc_9, fun ix => xm_as ix kf_9, fun ix => xm_as ix kn_9, fun ix => xm_as ix ks_9, fun ix => (xm_as ix kx_9).getD 0)
def ym_102 : xm_Y := (fun pc => xm_tb pc tb_102, fun ix => xm_as ix kc_9, fun ix => xm_as ix kf_9, fun ix => xm_as ix kn_9, fun ix => xm_as ix ks_9, fun ix => (xm_as ix kx_9).getD 0)
def ym_103 : xm_Y := (fun pc => xm_tb pc tb_103, fun ix => xm_as ix kc_9, fun ix => xm_as ix kf_9, fun ix => xm_as ix kn_9, fun ix => xm_as ix ks_9, fun ix => (xm_as ix kx_9).getD 0)
def ym_104 : xm_Y := (fun pc => xm_tb pc tb_104, fun ix => xm_as ix kc_9, fun ix => xm_as ix kf_9, fun ix => xm_as ix kn_9, fun ix => xm_as ix ks_9, fun ix => (xm_as ix kx_9).getD 0)
def ym_105 : xm_Y := (fun pc => xm_tb pc tb_105, fun ix => xm_as ix kc_9, fun ix => xm_as ix kf_9, fun ix => xm_as ix kn_9, fun ix => xm_as ix ks_9, fun ix => (xm_as ix kx_9).getD 0)
def ym_106 : xm_Y := (fun pc => xm_tb pc tb_106, fun ix => xm_as ix kc_9, fun ix => xm_as ix kf_9, fun ix => xm_as ix kn_9, fun ix => xm_as ix ks_9, fun ix => (xm_as ix kx_9).getD 0)
def ym_107 : xm_Y := (fun pc => xm_tb pc tb_107, fun ix => xm_as ix kc_9, fun ix => xm_as ix kf_9, fun ix => xm_as ix kn_9, fun ix => xm_as ix ks_9, fun ix => (xm_as ix kx_9).getD 0)
def ym_108 : xm_Y := (fun pc => xm_tb pc tb_108, fun ix => xm_as ix kc_9, fun ix => xm_as ix kf_9, fun ix => xm_as ix kn_9, fun ix => xm_as ix ks_9, fun ix => (xm_as ix kx_9).getD 0)
def ym_109 : xm_Y := (fun pc => xm_tb pc tb_109, fun ix => xm_as ix kc_9, fun ix => xm_as ix kf_9, fun ix => xm_as ix kn_9, fun ix => xm_as ix ks_9, fun ix => (xm_as ix kx_9).getD 0)
def ym_110 : xm_Y := (fun pc => xm_tb pc tb_110, fun ix => xm_as ix kc_9, fun ix => xm_as ix kf_9, fun ix => xm_as ix kn_9, fun ix => xm_as ix ks_9, fun ix => (xm_as ix kx_9).getD 0)
def ym_111 : xm_Y := (fun pc => xm_tb pc tb_111, fun ix => xm_as ix kc_9, fun ix => xm_as ix kf_9, fun ix => xm_as ix kn_9, fun ix => xm_as ix ks_9, fun ix => (xm_as ix kx_9).getD 0)
def ym_112 : xm_Y := (fun pc => xm_tb pc tb_112, fun ix => xm_as ix kc_9, fun ix => xm_as ix kf_9, fun ix => xm_as ix kn_9, fun ix => xm_as ix ks_9, fun ix => (xm_as ix kx_9).getD 0)
def ym_113 : xm_Y := (fun pc => xm_tb pc tb_113, fun ix => xm_as ix kc_9, fun ix => xm_as ix kf_9, fun ix => xm_as ix kn_9, fun ix => xm_as ix ks_9, fun ix => (xm_as ix kx_9).getD 0)
def ym_114 : xm_Y := (fun pc => xm_tb pc tb_114, fun ix => xm_as ix kc_9, fun ix => xm_as ix kf_9, fun ix => xm_as ix kn_9, fun ix => xm_as ix ks_9, fun ix => (xm_as ix kx_9).getD 0)
def ym_115 : xm_Y := (fun pc => xm_tb pc tb_115, fun ix => xm_as ix kc_9, fun ix => xm_as ix kf_9, fun ix => xm_as ix kn_9, fun ix => xm_as ix ks_9, fun ix => (xm_as ix kx_9).getD 0)
def ym_116 : xm_Y := (fun pc => xm_tb pc tb_116, fun ix => xm_as ix kc_9, fun ix => xm_as ix kf_9, fun ix => xm_as ix kn_9, fun ix => xm_as ix ks_9, fun ix => (xm_as ix kx_9).getD 0)
def ym_117 : xm_Y := (fun pc => xm_tb pc tb_117, fun ix => xm_as ix kc_9, fun ix => xm_as ix kf_9, fun ix => xm_as ix kn_9, fun ix => xm_as ix ks_9, fun ix => (xm_as ix kx_9).getD 0)
def ym_118 : xm_Y := (fun pc => xm_tb pc tb_118, fun ix => xm_as ix kc_9, fun ix => xm_as ix kf_9, fun ix => xm_as ix kn_9, fun ix => xm_as ix ks_9, fun ix => (xm_as ix kx_9).getD 0)
def ym_119 : xm_Y := (fun pc => xm_tb pc tb_119, fun ix => xm_as ix kc_9, fun ix => xm_as ix kf_9, fun ix => xm_as ix kn_9, fun ix => xm_as ix ks_9, fun ix => (xm_as ix kx_9).getD 0)
def xm_y0 : xm_Y := (fun _ => none, fun _ => none, fun _ => none, fun _ => none, fun _ => none, fun _ => 0)
def xm_yl : List (List xm_Y) := [[ym_0, ym_1, ym_2, ym_3, ym_4, ym_5, ym_6, ym_7, ym_8, ym_9, ym_10, ym_11, ym_12, ym_13, ym_14, ym_15], [ym_16, ym_17, ym_18, ym_19, ym_20, ym_21, ym_22, ym_23, ym_24, ym_25, ym_26, ym_27, ym_28, ym_29, ym_30, ym_31], [ym_32, ym_33, ym_34, ym_35, ym_36, ym_37, ym_38, ym_39, ym_40, ym_41, ym_42, ym_43, ym_44, ym_45, ym_46, ym_47], [ym_48, ym_49, ym_50, ym_51, ym_52, ym_53, ym_54, ym_55, ym_56, ym_57, ym_58, ym_59, ym_60, ym_61, ym_62, ym_63], [ym_64, ym_65, ym_66, ym_67, ym_68, ym_69, ym_70, ym_71, ym_72, ym_73, ym_74, ym_75, ym_76, ym_77, ym_78, ym_79], [ym_80, ym_81, ym_82, ym_83, ym_84, ym_85, ym_86, ym_87, ym_88, ym_89, ym_90, ym_91, ym_92, ym_93, ym_94, ym_95], [ym_96, ym_97, ym_98, ym_99, ym_100, ym_101, ym_102, ym_103, ym_104, ym_105, ym_106, ym_107, ym_108, ym_109, ym_110, ym_111], [ym_112, ym_113, ym_114, ym_115, ym_116, ym_117, ym_118, ym_119]]
def xm_ll : List (List Nat) := [[4, 1, 1, 4, 2, 2, 1, 3, 2, 2, 4, 4, 2, 1, 1, 1], [5, 1, 2, 7, 1, 8, 8, 3, 3, 4, 1, 4, 2, 5, 5, 3], [5, 2, 6, 1, 6, 6, 8, 1, 1, 2, 3, 2, 3, 2, 4, 3], [10, 7, 2, 4, 2, 4, 4, 1, 7, 5, 3, 10, 7, 4, 4, 4], [4, 5, 5, 4, 4, 4, 2, 2, 6, 4, 2, 3, 2, 1, 3, 1], [4, 2, 1, 5, 9, 1, 1, 16, 7, 4, 8, 3, 4, 5, 5, 7], [6, 2, 5, 4, 4, 6, 5, 11, 4, 7, 4, 14, 3, 4, 5, 6], [2, 5, 7, 2, 2, 4, 3, 3]]
def xm_kl : List (List Nat) := [[4, 0, 0, 0, 0, 0, 0, 0, 0, 0, 1, 4, 4, 4, 4, 4], [1, 4, 1, 1, 1, 1, 0, 4, 4, 1, 1, 1, 1, 1, 1, 1], [4, 1, 0, 0, 0, 0, 0, 2, 2, 0, 3, 1, 1, 1, 4, 0], [4, 3, 1, 1, 1, 1, 1, 0, 4, 2, 1, 2, 2, 1, 4, 4], [4, 1, 4, 1, 1, 0, 0, 1, 0, 0, 1, 1, 4, 4, 1, 0], [1, 4, 4, 1, 1, 1, 1, 1, 1, 1, 1, 1, 0, 0, 0, 0], [0, 1, 4, 0, 1, 4, 0, 0, 1, 4, 1, 2, 1, 0, 4, 1], [4, 1, 0, 1, 1, 1, 4, 1]]
def xm_cl : List (List (List (Nat × Nat × Nat × Nat × Nat))) := [[kl_8, kl_0, kl_2, kl_11, kl_7, kl_5, kl_4, kl_1, kl_3, kl_6, kl_0, kl_2, kl_2, kl_2, kl_2, kl_2], [kl_2, kl_2, kl_0, kl_2, kl_0, kl_0, kl_7, kl_7, kl_2, kl_7, kl_7, kl_7, kl_7, kl_7, kl_7, kl_0], [kl_5, kl_5, kl_5, kl_4, kl_4, kl_5, kl_5, kl_4, kl_4, kl_5, kl_11, kl_10, kl_5, kl_0, kl_1, kl_1], [kl_1, kl_5, kl_4, kl_1, kl_4, kl_1, kl_0, kl_6, kl_3, kl_3, kl_3, kl_3, kl_3, kl_3, kl_3, kl_3], [kl_3, kl_3, kl_3, kl_3, kl_3, kl_6, kl_6, kl_6, kl_6, kl_6, kl_0, kl_0, kl_6, kl_0, kl_0, kl_9], [kl_9, kl_9, kl_9, kl_9, kl_9, kl_9, kl_9, kl_9, kl_9, kl_9, kl_9, kl_9, kl_9, kl_9, kl_9, kl_9], [kl_9, kl_9, kl_9, kl_9, kl_9, kl_9, kl_9, kl_9, kl_9, kl_9, kl_9, kl_9, kl_9, kl_9, kl_9, kl_9], [kl_9, kl_9, kl_9, kl_9, kl_9, kl_9, kl_9, kl_9]]
def pg : xm_Pr := (fun y => xm_nn xm_y0 y xm_yl, fun y => xm_nn 0 y xm_ll, fun y => xm_nn 0 y xm_kl, fun y ix => xm_as ix (xm_nn [] y xm_cl))
theorem in_0 {pc : Nat} {i : Jvm.ClassFile.Instr × Nat} (h : xm_tb pc tb_0 = some i) : (pg.1 0).1 pc = some i := h
theorem nl_0 {a : Nat} (h : Nat.ble (a + 1) 4 = true) : a < pg.2.1 0 := Nat.le_of_ble_eq_true h
theorem kd_0 : pg.2.2.1 0 = 4 := rfl
theorem cl_0 {ix : Nat} {q : Nat × Nat × Nat × Nat} (h : xm_as ix kl_8 = some q) : pg.2.2.2 0 ix = some q := h
theorem fo_0 {ix : Nat} {q : Nat × Nat × Nat} (h : xm_as ix kf_8 = some q) : (pg.1 0).2.2.1 ix = some q := h
theorem ko_0 {ix : Nat} {q : xm_V} (h : xm_as ix kc_8 = some q) : (pg.1 0).2.1 ix = some q := h
theorem so_0 {ix : Nat} {q : Nat} (h : xm_as ix ks_8 = some q) : (pg.1 0).2.2.2.2.1 ix = some q := h
theorem no_0 {ix : Nat} {q : Nat × List xm_F} (h : xm_as ix kn_8 = some q) : (pg.1 0).2.2.2.1 ix = some q := h
theorem xo_0 {ix q : Nat} (h : (ym_0).2.2.2.2.2 ix = q) : (pg.1 0).2.2.2.2.2 ix = q := h
theorem in_1 {pc : Nat} {i : Jvm.ClassFile.Instr × Nat} (h : xm_tb pc tb_1 = some i) : (pg.1 1).1 pc = some i := h
theorem nl_1 {a : Nat} (h : Nat.ble (a + 1) 1 = true) : a < pg.2.1 1 := Nat.le_of_ble_eq_true h
theorem kd_1 : pg.2.2.1 1 = 0 := rfl
theorem cl_1 {ix : Nat} {q : Nat × Nat × Nat × Nat} (h : xm_as ix kl_0 = some q) : pg.2.2.2 1 ix = some q := h
theorem fo_1 {ix : Nat} {q : Nat × Nat × Nat} (h : xm_as ix kf_0 = some q) : (pg.1 1).2.2.1 ix = some q := h
theorem ko_1 {ix : Nat} {q : xm_V} (h : xm_as ix kc_0 = some q) : (pg.1 1).2.1 ix = some q := h
theorem so_1 {ix : Nat} {q : Nat} (h : xm_as ix ks_0 = some q) : (pg.1 1).2.2.2.2.1 ix = some q := h
theorem no_1 {ix : Nat} {q : Nat × List xm_F} (h : xm_as ix kn_0 = some q) : (pg.1 1).2.2.2.1 ix = some q := h
theorem xo_1 {ix q : Nat} (h : (ym_1).2.2.2.2.2 ix = q) : (pg.1 1).2.2.2.2.2 ix = q := h
theorem in_2 {pc : Nat} {i : Jvm.ClassFile.Instr × Nat} (h : xm_tb pc tb_2 = some i) : (pg.1 2).1 pc = some i := h
theorem nl_2 {a : Nat} (h : Nat.ble (a + 1) 1 = true) : a < pg.2.1 2 := Nat.le_of_ble_eq_true h
theorem kd_2 : pg.2.2.1 2 = 0 := rfl
theorem cl_2 {ix : Nat} {q : Nat × Nat × Nat × Nat} (h : xm_as ix kl_2 = some q) : pg.2.2.2 2 ix = some q := h
theorem fo_2 {ix : Nat} {q : Nat × Nat × Nat} (h : xm_as ix kf_2 = some q) : (pg.1 2).2.2.1 ix = some q := h
theorem ko_2 {ix : Nat} {q : xm_V} (h : xm_as ix kc_2 = some q) : (pg.1 2).2.1 ix = some q := h
theorem so_2 {ix : Nat} {q : Nat} (h : xm_as ix ks_2 = some q) : (pg.1 2).2.2.2.2.1 ix = some q := h
theorem no_2 {ix : Nat} {q : Nat × List xm_F} (h : xm_as ix kn_2 = some q) : (pg.1 2).2.2.2.1 ix = some q := h
theorem xo_2 {ix q : Nat} (h : (ym_2).2.2.2.2.2 ix = q) : (pg.1 2).2.2.2.2.2 ix = q := h
theorem in_3 {pc : Nat} {i : Jvm.ClassFile.Instr × Nat} (h : xm_tb pc tb_3 = some i) : (pg.1 3).1 pc = some i := h
theorem nl_3 {a : Nat} (h : Nat.ble (a + 1) 4 = true) : a < pg.2.1 3 := Nat.le_of_ble_eq_true h
theorem kd_3 : pg.2.2.1 3 = 0 := rfl
theorem cl_3 {ix : Nat} {q : Nat × Nat × Nat × Nat} (h : xm_as ix kl_11 = some q) : pg.2.2.2 3 ix = some q := h
theorem fo_3 {ix : Nat} {q : Nat × Nat × Nat} (h : xm_as ix kf_11 = some q) : (pg.1 3).2.2.1 ix = some q := h
theorem ko_3 {ix : Nat} {q : xm_V} (h : xm_as ix kc_11 = some q) : (pg.1 3).2.1 ix = some q := h
theorem so_3 {ix : Nat} {q : Nat} (h : xm_as ix ks_11 = some q) : (pg.1 3).2.2.2.2.1 ix = some q := h
theorem no_3 {ix : Nat} {q : Nat × List xm_F} (h : xm_as ix kn_11 = some q) : (pg.1 3).2.2.2.1 ix = some q := h
theorem xo_3 {ix q : Nat} (h : (ym_3).2.2.2.2.2 ix = q) : (pg.1 3).2.2.2.2.2 ix = q := h
theorem in_4 {pc : Nat} {i : Jvm.ClassFile.Instr × Nat} (h : xm_tb pc tb_4 = some i) : (pg.1 4).1 pc = some i := h
theorem nl_4 {a : Nat} (h : Nat.ble (a + 1) 2 = true) : a < pg.2.1 4 := Nat.le_of_ble_eq_true h
theorem kd_4 : pg.2.2.1 4 = 0 := rfl
theorem cl_4 {ix : Nat} {q : Nat × Nat × Nat × Nat} (h : xm_as ix kl_7 = some q) : pg.2.2.2 4 ix = some q := h
theorem fo_4 {ix : Nat} {q : Nat × Nat × Nat} (h : xm_as ix kf_7 = some q) : (pg.1 4).2.2.1 ix = some q := h
theorem ko_4 {ix : Nat} {q : xm_V} (h : xm_as ix kc_7 = some q) : (pg.1 4).2.1 ix = some q := h
theorem so_4 {ix : Nat} {q : Nat} (h : xm_as ix ks_7 = some q) : (pg.1 4).2.2.2.2.1 ix = some q := h
theorem no_4 {ix : Nat} {q : Nat × List xm_F} (h : xm_as ix kn_7 = some q) : (pg.1 4).2.2.2.1 ix = some q := h
theorem xo_4 {ix q : Nat} (h : (ym_4).2.2.2.2.2 ix = q) : (pg.1 4).2.2.2.2.2 ix = q := h
theorem in_5 {pc : Nat} {i : Jvm.ClassFile.Instr × Nat} (h : xm_tb pc tb_5 = some i) : (pg.1 5).1 pc = some i := h
theorem nl_5 {a : Nat} (h : Nat.ble (a + 1) 2 = true) : a < pg.2.1 5 := Nat.le_of_ble_eq_true h
theorem kd_5 : pg.2.2.1 5 = 0 := rfl
theorem cl_5 {ix : Nat} {q : Nat × Nat × Nat × Nat} (h : xm_as ix kl_5 = some q) : pg.2.2.2 5 ix = some q := h
theorem fo_5 {ix : Nat} {q : Nat × Nat × Nat} (h : xm_as ix kf_5 = some q) : (pg.1 5).2.2.1 ix = some q := h
theorem ko_5 {ix : Nat} {q : xm_V} (h : xm_as ix kc_5 = some q) : (pg.1 5).2.1 ix = some q := h
theorem so_5 {ix : Nat} {q : Nat} (h : xm_as ix ks_5 = some q) : (pg.1 5).2.2.2.2.1 ix = some q := h
theorem no_5 {ix : Nat} {q : Nat × List xm_F} (h : xm_as ix kn_5 = some q) : (pg.1 5).2.2.2.1 ix = some q := h
theorem xo_5 {ix q : Nat} (h : (ym_5).2.2.2.2.2 ix = q) : (pg.1 5).2.2.2.2.2 ix = q := h
theorem in_6 {pc : Nat} {i : Jvm.ClassFile.Instr × Nat} (h : xm_tb pc tb_6 = some i) : (pg.1 6).1 pc = some i := h
theorem nl_6 {a : Nat} (h : Nat.ble (a + 1) 1 = true) : a < pg.2.1 6 := Nat.le_of_ble_eq_true h
theorem kd_6 : pg.2.2.1 6 = 0 := rfl
theorem cl_6 {ix : Nat} {q : Nat × Nat × Nat × Nat} (h : xm_as ix kl_4 = some q) : pg.2.2.2 6 ix = some q := h
theorem fo_6 {ix : Nat} {q : Nat × Nat × Nat} (h : xm_as ix kf_4 = some q) : (pg.1 6).2.2.1 ix = some q := h
theorem ko_6 {ix : Nat} {q : xm_V} (h : xm_as ix kc_4 = some q) : (pg.1 6).2.1 ix = some q := h
theorem so_6 {ix : Nat} {q : Nat} (h : xm_as ix ks_4 = some q) : (pg.1 6).2.2.2.2.1 ix = some q := h
theorem no_6 {ix : Nat} {q : Nat × List xm_F} (h : xm_as ix kn_4 = some q) : (pg.1 6).2.2.2.1 ix = some q := h
theorem xo_6 {ix q : Nat} (h : (ym_6).2.2.2.2.2 ix = q) : (pg.1 6).2.2.2.2.2 ix = q := h
theorem in_7 {pc : Nat} {i : Jvm.ClassFile.Instr × Nat} (h : xm_tb pc tb_7 = some i) : (pg.1 7).1 pc = some i := h
theorem nl_7 {a : Nat} (h : Nat.ble (a + 1) 3 = true) : a < pg.2.1 7 := Nat.le_of_ble_eq_true h
theorem kd_7 : pg.2.2.1 7 = 0 := rfl
theorem cl_7 {ix : Nat} {q : Nat × Nat × Nat × Nat} (h : xm_as ix kl_1 = some q) : pg.2.2.2 7 ix = some q := h
theorem fo_7 {ix : Nat} {q : Nat × Nat × Nat} (h : xm_as ix kf_1 = some q) : (pg.1 7).2.2.1 ix = some q := h
theorem ko_7 {ix : Nat} {q : xm_V} (h : xm_as ix kc_1 = some q) : (pg.1 7).2.1 ix = some q := h
theorem so_7 {ix : Nat} {q : Nat} (h : xm_as ix ks_1 = some q) : (pg.1 7).2.2.2.2.1 ix = some q := h
theorem no_7 {ix : Nat} {q : Nat × List xm_F} (h : xm_as ix kn_1 = some q) : (pg.1 7).2.2.2.1 ix = some q := h
theorem xo_7 {ix q : Nat} (h : (ym_7).2.2.2.2.2 ix = q) : (pg.1 7).2.2.2.2.2 ix = q := h
theorem in_8 {pc : Nat} {i : Jvm.ClassFile.Instr × Nat} (h : xm_tb pc tb_8 = some i) : (pg.1 8).1 pc = some i := h
theorem nl_8 {a : Nat} (h : Nat.ble (a + 1) 2 = true) : a < pg.2.1 8 := Nat.le_of_ble_eq_true h
theorem kd_8 : pg.2.2.1 8 = 0 := rfl
theorem cl_8 {ix : Nat} {q : Nat × Nat × Nat × Nat} (h : xm_as ix kl_3 = some q) : pg.2.2.2 8 ix = some q := h
theorem fo_8 {ix : Nat} {q : Nat × Nat × Nat} (h : xm_as ix kf_3 = some q) : (pg.1 8).2.2.1 ix = some q := h
theorem ko_8 {ix : Nat} {q : xm_V} (h : xm_as ix kc_3 = some q) : (pg.1 8).2.1 ix = some q := h
theorem so_8 {ix : Nat} {q : Nat} (h : xm_as ix ks_3 = some q) : (pg.1 8).2.2.2.2.1 ix = some q := h
theorem no_8 {ix : Nat} {q : Nat × List xm_F} (h : xm_as ix kn_3 = some q) : (pg.1 8).2.2.2.1 ix = some q := h
theorem xo_8 {ix q : Nat} (h : (ym_8).2.2.2.2.2 ix = q) : (pg.1 8).2.2.2.2.2 ix = q := h
theorem in_9 {pc : Nat} {i : Jvm.ClassFile.Instr × Nat} (h : xm_tb pc tb_9 = some i) : (pg.1 9).1 pc = some i := h
theorem nl_9 {a : Nat} (h : Nat.ble (a + 1) 2 = true) : a < pg.2.1 9 := Nat.le_of_ble_eq_true h
theorem kd_9 : pg.2.2.1 9 = 0 := rfl
theorem cl_9 {ix : Nat} {q : Nat × Nat × Nat × Nat} (h : xm_as ix kl_6 = some q) : pg.2.2.2 9 ix = some q := h
theorem fo_9 {ix : Nat} {q : Nat × Nat × Nat} (h : xm_as ix kf_6 = some q) : (pg.1 9).2.2.1 ix = some q := h
theorem ko_9 {ix : Nat} {q : xm_V} (h : xm_as ix kc_6 = some q) : (pg.1 9).2.1 ix = some q := h
theorem so_9 {ix : Nat} {q : Nat} (h : xm_as ix ks_6 = some q) : (pg.1 9).2.2.2.2.1 ix = some q := h
theorem no_9 {ix : Nat} {q : Nat × List xm_F} (h : xm_as ix kn_6 = some q) : (pg.1 9).2.2.2.1 ix = some q := h
theorem xo_9 {ix q : Nat} (h : (ym_9).2.2.2.2.2 ix = q) : (pg.1 9).2.2.2.2.2 ix = q := h
theorem in_10 {pc : Nat} {i : Jvm.ClassFile.Instr × Nat} (h : xm_tb pc tb_10 = some i) : (pg.1 10).1 pc = some i := h
theorem nl_10 {a : Nat} (h : Nat.ble (a + 1) 4 = true) : a < pg.2.1 10 := Nat.le_of_ble_eq_true h
theorem kd_10 : pg.2.2.1 10 = 1 := rfl
theorem cl_10 {ix : Nat} {q : Nat × Nat × Nat × Nat} (h : xm_as ix kl_0 = some q) : pg.2.2.2 10 ix = some q := h
theorem fo_10 {ix : Nat} {q : Nat × Nat × Nat} (h : xm_as ix kf_0 = some q) : (pg.1 10).2.2.1 ix = some q := h
theorem ko_10 {ix : Nat} {q : xm_V} (h : xm_as ix kc_0 = some q) : (pg.1 10).2.1 ix = some q := h
theorem so_10 {ix : Nat} {q : Nat} (h : xm_as ix ks_0 = some q) : (pg.1 10).2.2.2.2.1 ix = some q := h
theorem no_10 {ix : Nat} {q : Nat × List xm_F} (h : xm_as ix kn_0 = some q) : (pg.1 10).2.2.2.1 ix = some q := h
theorem xo_10 {ix q : Nat} (h : (ym_10).2.2.2.2.2 ix = q) : (pg.1 10).2.2.2.2.2 ix = q := h
theorem in_11 {pc : Nat} {i : Jvm.ClassFile.Instr × Nat} (h : xm_tb pc tb_11 = some i) : (pg.1 11).1 pc = some i := h
theorem nl_11 {a : Nat} (h : Nat.ble (a + 1) 4 = true) : a < pg.2.1 11 := Nat.le_of_ble_eq_true h
theorem kd_11 : pg.2.2.1 11 = 4 := rfl
theorem cl_11 {ix : Nat} {q : Nat × Nat × Nat × Nat} (h : xm_as ix kl_2 = some q) : pg.2.2.2 11 ix = some q := h
theorem fo_11 {ix : Nat} {q : Nat × Nat × Nat} (h : xm_as ix kf_2 = some q) : (pg.1 11).2.2.1 ix = some q := h
theorem ko_11 {ix : Nat} {q : xm_V} (h : xm_as ix kc_2 = some q) : (pg.1 11).2.1 ix = some q := h
theorem so_11 {ix : Nat} {q : Nat} (h : xm_as ix ks_2 = some q) : (pg.1 11).2.2.2.2.1 ix = some q := h
theorem no_11 {ix : Nat} {q : Nat × List xm_F} (h : xm_as ix kn_2 = some q) : (pg.1 11).2.2.2.1 ix = some q := h
theorem xo_11 {ix q : Nat} (h : (ym_11).2.2.2.2.2 ix = q) : (pg.1 11).2.2.2.2.2 ix = q := h
theorem in_12 {pc : Nat} {i : Jvm.ClassFile.Instr × Nat} (h : xm_tb pc tb_12 = some i) : (pg.1 12).1 pc = some i := h
theorem nl_12 {a : Nat} (h : Nat.ble (a + 1) 2 = true) : a < pg.2.1 12 := Nat.le_of_ble_eq_true h
theorem kd_12 : pg.2.2.1 12 = 4 := rfl
theorem cl_12 {ix : Nat} {q : Nat × Nat × Nat × Nat} (h : xm_as ix kl_2 = some q) : pg.2.2.2 12 ix = some q := h
theorem fo_12 {ix : Nat} {q : Nat × Nat × Nat} (h : xm_as ix kf_2 = some q) : (pg.1 12).2.2.1 ix = some q := h
theorem ko_12 {ix : Nat} {q : xm_V} (h : xm_as ix kc_2 = some q) : (pg.1 12).2.1 ix = some q := h
theorem so_12 {ix : Nat} {q : Nat} (h : xm_as ix ks_2 = some q) : (pg.1 12).2.2.2.2.1 ix = some q := h
theorem no_12 {ix : Nat} {q : Nat × List xm_F} (h : xm_as ix kn_2 = some q) : (pg.1 12).2.2.2.1 ix = some q := h
theorem xo_12 {ix q : Nat} (h : (ym_12).2.2.2.2.2 ix = q) : (pg.1 12).2.2.2.2.2 ix = q := h
theorem in_13 {pc : Nat} {i : Jvm.ClassFile.Instr × Nat} (h : xm_tb pc tb_13 = some i) : (pg.1 13).1 pc = some i := h
theorem nl_13 {a : Nat} (h : Nat.ble (a + 1) 1 = true) : a < pg.2.1 13 := Nat.le_of_ble_eq_true h
theorem kd_13 : pg.2.2.1 13 = 4 := rfl
theorem cl_13 {ix : Nat} {q : Nat × Nat × Nat × Nat} (h : xm_as ix kl_2 = some q) : pg.2.2.2 13 ix = some q := h
theorem fo_13 {ix : Nat} {q : Nat × Nat × Nat} (h : xm_as ix kf_2 = some q) : (pg.1 13).2.2.1 ix = some q := h
theorem ko_13 {ix : Nat} {q : xm_V} (h : xm_as ix kc_2 = some q) : (pg.1 13).2.1 ix = some q := h
theorem so_13 {ix : Nat} {q : Nat} (h : xm_as ix ks_2 = some q) : (pg.1 13).2.2.2.2.1 ix = some q := h
theorem no_13 {ix : Nat} {q : Nat × List xm_F} (h : xm_as ix kn_2 = some q) : (pg.1 13).2.2.2.1 ix = some q := h
theorem xo_13 {ix q : Nat} (h : (ym_13).2.2.2.2.2 ix = q) : (pg.1 13).2.2.2.2.2 ix = q := h
theorem in_14 {pc : Nat} {i : Jvm.ClassFile.Instr × Nat} (h : xm_tb pc tb_14 = some i) : (pg.1 14).1 pc = some i := h
theorem nl_14 {a : Nat} (h : Nat.ble (a + 1) 1 = true) : a < pg.2.1 14 := Nat.le_of_ble_eq_true h
theorem kd_14 : pg.2.2.1 14 = 4 := rfl
theorem cl_14 {ix : Nat} {q : Nat × Nat × Nat × Nat} (h : xm_as ix kl_2 = some q) : pg.2.2.2 14 ix = some q := h
theorem fo_14 {ix : Nat} {q : Nat × Nat × Nat} (h : xm_as ix kf_2 = some q) : (pg.1 14).2.2.1 ix = some q := h
theorem ko_14 {ix : Nat} {q : xm_V} (h : xm_as ix kc_2 = some q) : (pg.1 14).2.1 ix = some q := h
theorem so_14 {ix : Nat} {q : Nat} (h : xm_as ix ks_2 = some q) : (pg.1 14).2.2.2.2.1 ix = some q := h
theorem no_14 {ix : Nat} {q : Nat × List xm_F} (h : xm_as ix kn_2 = some q) : (pg.1 14).2.2.2.1 ix = some q := h
theorem xo_14 {ix q : Nat} (h : (ym_14).2.2.2.2.2 ix = q) : (pg.1 14).2.2.2.2.2 ix = q := h
theorem in_15 {pc : Nat} {i : Jvm.ClassFile.Instr × Nat} (h : xm_tb pc tb_15 = some i) : (pg.1 15).1 pc = some i := h
theorem nl_15 {a : Nat} (h : Nat.ble (a + 1) 1 = true) : a < pg.2.1 15 := Nat.le_of_ble_eq_true h
theorem kd_15 : pg.2.2.1 15 = 4 := rfl
theorem cl_15 {ix : Nat} {q : Nat × Nat × Nat × Nat} (h : xm_as ix kl_2 = some q) : pg.2.2.2 15 ix = some q := h
theorem fo_15 {ix : Nat} {q : Nat × Nat × Nat} (h : xm_as ix kf_2 = some q) : (pg.1 15).2.2.1 ix = some q := h
theorem ko_15 {ix : Nat} {q : xm_V} (h : xm_as ix kc_2 = some q) : (pg.1 15).2.1 ix = some q := h
theorem so_15 {ix : Nat} {q : Nat} (h : xm_as ix ks_2 = some q) : (pg.1 15).2.2.2.2.1 ix = some q := h
theorem no_15 {ix : Nat} {q : Nat × List xm_F} (h : xm_as ix kn_2 = some q) : (pg.1 15).2.2.2.1 ix = some q := h
theorem xo_15 {ix q : Nat} (h : (ym_15).2.2.2.2.2 ix = q) : (pg.1 15).2.2.2.2.2 ix = q := h
theorem in_16 {pc : Nat} {i : Jvm.ClassFile.Instr × Nat} (h : xm_tb pc tb_16 = some i) : (pg.1 16).1 pc = some i := h
theorem nl_16 {a : Nat} (h : Nat.ble (a + 1) 5 = true) : a < pg.2.1 16 := Nat.le_of_ble_eq_true h
theorem kd_16 : pg.2.2.1 16 = 1 := rfl
theorem cl_16 {ix : Nat} {q : Nat × Nat × Nat × Nat} (h : xm_as ix kl_2 = some q) : pg.2.2.2 16 ix = some q := h
theorem fo_16 {ix : Nat} {q : Nat × Nat × Nat} (h : xm_as ix kf_2 = some q) : (pg.1 16).2.2.1 ix = some q := h
theorem ko_16 {ix : Nat} {q : xm_V} (h : xm_as ix kc_2 = some q) : (pg.1 16).2.1 ix = some q := h
theorem so_16 {ix : Nat} {q : Nat} (h : xm_as ix ks_2 = some q) : (pg.1 16).2.2.2.2.1 ix = some q := h
theorem no_16 {ix : Nat} {q : Nat × List xm_F} (h : xm_as ix kn_2 = some q) : (pg.1 16).2.2.2.1 ix = some q := h
theorem xo_16 {ix q : Nat} (h : (ym_16).2.2.2.2.2 ix = q) : (pg.1 16).2.2.2.2.2 ix = q := h
theorem in_17 {pc : Nat} {i : Jvm.ClassFile.Instr × Nat} (h : xm_tb pc tb_17 = some i) : (pg.1 17).1 pc = some i := h
theorem nl_17 {a : Nat} (h : Nat.ble (a + 1) 1 = true) : a < pg.2.1 17 := Nat.le_of_ble_eq_true h
theorem kd_17 : pg.2.2.1 17 = 4 := rfl
theorem cl_17 {ix : Nat} {q : Nat × Nat × Nat × Nat} (h : xm_as ix kl_2 = some q) : pg.2.2.2 17 ix = some q := h
theorem fo_17 {ix : Nat} {q : Nat × Nat × Nat} (h : xm_as ix kf_2 = some q) : (pg.1 17).2.2.1 ix = some q := h
theorem ko_17 {ix : Nat} {q : xm_V} (h : xm_as ix kc_2 = some q) : (pg.1 17).2.1 ix = some q := h
theorem so_17 {ix : Nat} {q : Nat} (h : xm_as ix ks_2 = some q) : (pg.1 17).2.2.2.2.1 ix = some q := h
theorem no_17 {ix : Nat} {q : Nat × List xm_F} (h : xm_as ix kn_2 = some q) : (pg.1 17).2.2.2.1 ix = some q := h
theorem xo_17 {ix q : Nat} (h : (ym_17).2.2.2.2.2 ix = q) : (pg.1 17).2.2.2.2.2 ix = q := h
theorem in_18 {pc : Nat} {i : Jvm.ClassFile.Instr × Nat} (h : xm_tb pc tb_18 = some i) : (pg.1 18).1 pc = some i := h
theorem nl_18 {a : Nat} (h : Nat.ble (a + 1) 2 = true) : a < pg.2.1 18 := Nat.le_of_ble_eq_true h
theorem kd_18 : pg.2.2.1 18 = 1 := rfl
theorem cl_18 {ix : Nat} {q : Nat × Nat × Nat × Nat} (h : xm_as ix kl_0 = some q) : pg.2.2.2 18 ix = some q := h
theorem fo_18 {ix : Nat} {q : Nat × Nat × Nat} (h : xm_as ix kf_0 = some q) : (pg.1 18).2.2.1 ix = some q := h
theorem ko_18 {ix : Nat} {q : xm_V} (h : xm_as ix kc_0 = some q) : (pg.1 18).2.1 ix = some q := h
theorem so_18 {ix : Nat} {q : Nat} (h : xm_as ix ks_0 = some q) : (pg.1 18).2.2.2.2.1 ix = some q := h
theorem no_18 {ix : Nat} {q : Nat × List xm_F} (h : xm_as ix kn_0 = some q) : (pg.1 18).2.2.2.1 ix = some q := h
theorem xo_18 {ix q : Nat} (h : (ym_18).2.2.2.2.2 ix = q) : (pg.1 18).2.2.2.2.2 ix = q := h
theorem in_19 {pc : Nat} {i : Jvm.ClassFile.Instr × Nat} (h : xm_tb pc tb_19 = some i) : (pg.1 19).1 pc = some i := h
theorem nl_19 {a : Nat} (h : Nat.ble (a + 1) 7 = true) : a < pg.2.1 19 := Nat.le_of_ble_eq_true h
theorem kd_19 : pg.2.2.1 19 = 1 := rfl
theorem cl_19 {ix : Nat} {q : Nat × Nat × Nat × Nat} (h : xm_as ix kl_2 = some q) : pg.2.2.2 19 ix = some q := h
theorem fo_19 {ix : Nat} {q : Nat × Nat × Nat} (h : xm_as ix kf_2 = some q) : (pg.1 19).2.2.1 ix = some q := h
theorem ko_19 {ix : Nat} {q : xm_V} (h : xm_as ix kc_2 = some q) : (pg.1 19).2.1 ix = some q := h
theorem so_19 {ix : Nat} {q : Nat} (h : xm_as ix ks_2 = some q) : (pg.1 19).2.2.2.2.1 ix = some q := h
theorem no_19 {ix : Nat} {q : Nat × List xm_F} (h : xm_as ix kn_2 = some q) : (pg.1 19).2.2.2.1 ix = some q := h
theorem xo_19 {ix q : Nat} (h : (ym_19).2.2.2.2.2 ix = q) : (pg.1 19).2.2.2.2.2 ix = q := h
theorem in_20 {pc : Nat} {i : Jvm.ClassFile.Instr × Nat} (h : xm_tb pc tb_20 = some i) : (pg.1 20).1 pc = some i := h
theorem nl_20 {a : Nat} (h : Nat.ble (a + 1) 1 = true) : a < pg.2.1 20 := Nat.le_of_ble_eq_true h
theorem kd_20 : pg.2.2.1 20 = 1 := rfl
theorem cl_20 {ix : Nat} {q : Nat × Nat × Nat × Nat} (h : xm_as ix kl_0 = some q) : pg.2.2.2 20 ix = some q := h
theorem fo_20 {ix : Nat} {q : Nat × Nat × Nat} (h : xm_as ix kf_0 = some q) : (pg.1 20).2.2.1 ix = some q := h
theorem ko_20 {ix : Nat} {q : xm_V} (h : xm_as ix kc_0 = some q) : (pg.1 20).2.1 ix = some q := h
theorem so_20 {ix : Nat} {q : Nat} (h : xm_as ix ks_0 = some q) : (pg.1 20).2.2.2.2.1 ix = some q := h
theorem no_20 {ix : Nat} {q : Nat × List xm_F} (h : xm_as ix kn_0 = some q) : (pg.1 20).2.2.2.1 ix = some q := h
theorem xo_20 {ix q : Nat} (h : (ym_20).2.2.2.2.2 ix = q) : (pg.1 20).2.2.2.2.2 ix = q := h
theorem in_21 {pc : Nat} {i : Jvm.ClassFile.Instr × Nat} (h : xm_tb pc tb_21 = some i) : (pg.1 21).1 pc = some i := h
theorem nl_21 {a : Nat} (h : Nat.ble (a + 1) 8 = true) : a < pg.2.1 21 := Nat.le_of_ble_eq_true h
theorem kd_21 : pg.2.2.1 21 = 1 := rfl
theorem cl_21 {ix : Nat} {q : Nat × Nat × Nat × Nat} (h : xm_as ix kl_0 = some q) : pg.2.2.2 21 ix = some q := h
theorem fo_21 {ix : Nat} {q : Nat × Nat × Nat} (h : xm_as ix kf_0 = some q) : (pg.1 21).2.2.1 ix = some q := h
theorem ko_21 {ix : Nat} {q : xm_V} (h : xm_as ix kc_0 = some q) : (pg.1 21).2.1 ix = some q := h
theorem so_21 {ix : Nat} {q : Nat} (h : xm_as ix ks_0 = some q) : (pg.1 21).2.2.2.2.1 ix = some q := h
theorem no_21 {ix : Nat} {q : Nat × List xm_F} (h : xm_as ix kn_0 = some q) : (pg.1 21).2.2.2.1 ix = some q := h
theorem xo_21 {ix q : Nat} (h : (ym_21).2.2.2.2.2 ix = q) : (pg.1 21).2.2.2.2.2 ix = q := h
theorem in_22 {pc : Nat} {i : Jvm.ClassFile.Instr × Nat} (h : xm_tb pc tb_22 = some i) : (pg.1 22).1 pc = some i := h
theorem nl_22 {a : Nat} (h : Nat.ble (a + 1) 8 = true) : a < pg.2.1 22 := Nat.le_of_ble_eq_true h
theorem kd_22 : pg.2.2.1 22 = 0 := rfl
theorem cl_22 {ix : Nat} {q : Nat × Nat × Nat × Nat} (h : xm_as ix kl_7 = some q) : pg.2.2.2 22 ix = some q := h
theorem fo_22 {ix : Nat} {q : Nat × Nat × Nat} (h : xm_as ix kf_7 = some q) : (pg.1 22).2.2.1 ix = some q := h
theorem ko_22 {ix : Nat} {q : xm_V} (h : xm_as ix kc_7 = some q) : (pg.1 22).2.1 ix = some q := h
theorem so_22 {ix : Nat} {q : Nat} (h : xm_as ix ks_7 = some q) : (pg.1 22).2.2.2.2.1 ix = some q := h
theorem no_22 {ix : Nat} {q : Nat × List xm_F} (h : xm_as ix kn_7 = some q) : (pg.1 22).2.2.2.1 ix = some q := h
theorem xo_22 {ix q : Nat} (h : (ym_22).2.2.2.2.2 ix = q) : (pg.1 22).2.2.2.2.2 ix = q := h
theorem in_23 {pc : Nat} {i : Jvm.ClassFile.Instr × Nat} (h : xm_tb pc tb_23 = some i) : (pg.1 23).1 pc = some i := h
theorem nl_23 {a : Nat} (h : Nat.ble (a + 1) 3 = true) : a < pg.2.1 23 := Nat.le_of_ble_eq_true h
theorem kd_23 : pg.2.2.1 23 = 4 := rfl
theorem cl_23 {ix : Nat} {q : Nat × Nat × Nat × Nat} (h : xm_as ix kl_7 = some q) : pg.2.2.2 23 ix = some q := h
theorem fo_23 {ix : Nat} {q : Nat × Nat × Nat} (h : xm_as ix kf_7 = some q) : (pg.1 23).2.2.1 ix = some q := h
theorem ko_23 {ix : Nat} {q : xm_V} (h : xm_as ix kc_7 = some q) : (pg.1 23).2.1 ix = some q := h
theorem so_23 {ix : Nat} {q : Nat} (h : xm_as ix ks_7 = some q) : (pg.1 23).2.2.2.2.1 ix = some q := h
theorem no_23 {ix : Nat} {q : Nat × List xm_F} (h : xm_as ix kn_7 = some q) : (pg.1 23).2.2.2.1 ix = some q := h
theorem xo_23 {ix q : Nat} (h : (ym_23).2.2.2.2.2 ix = q) : (pg.1 23).2.2.2.2.2 ix = q := h
theorem in_24 {pc : Nat} {i : Jvm.ClassFile.Instr × Nat} (h : xm_tb pc tb_24 = some i) : (pg.1 24).1 pc = some i := h
theorem nl_24 {a : Nat} (h : Nat.ble (a + 1) 3 = true) : a < pg.2.1 24 := Nat.le_of_ble_eq_true h
theorem kd_24 : pg.2.2.1 24 = 4 := rfl
theorem cl_24 {ix : Nat} {q : Nat × Nat × Nat × Nat} (h : xm_as ix kl_2 = some q) : pg.2.2.2 24 ix = some q := h
theorem fo_24 {ix : Nat} {q : Nat × Nat × Nat} (h : xm_as ix kf_2 = some q) : (pg.1 24).2.2.1 ix = some q := h
theorem ko_24 {ix : Nat} {q : xm_V} (h : xm_as ix kc_2 = some q) : (pg.1 24).2.1 ix = some q := h
theorem so_24 {ix : Nat} {q : Nat} (h : xm_as ix ks_2 = some q) : (pg.1 24).2.2.2.2.1 ix = some q := h
theorem no_24 {ix : Nat} {q : Nat × List xm_F} (h : xm_as ix kn_2 = some q) : (pg.1 24).2.2.2.1 ix = some q := h
theorem xo_24 {ix q : Nat} (h : (ym_24).2.2.2.2.2 ix = q) : (pg.1 24).2.2.2.2.2 ix = q := h
theorem in_25 {pc : Nat} {i : Jvm.ClassFile.Instr × Nat} (h : xm_tb pc tb_25 = some i) : (pg.1 25).1 pc = some i := h
theorem nl_25 {a : Nat} (h : Nat.ble (a + 1) 4 = true) : a < pg.2.1 25 := Nat.le_of_ble_eq_true h
theorem kd_25 : pg.2.2.1 25 = 1 := rfl
theorem cl_25 {ix : Nat} {q : Nat × Nat × Nat × Nat} (h : xm_as ix kl_7 = some q) : pg.2.2.2 25 ix = some q := h
theorem fo_25 {ix : Nat} {q : Nat × Nat × Nat} (h : xm_as ix kf_7 = some q) : (pg.1 25).2.2.1 ix = some q := h
theorem ko_25 {ix : Nat} {q : xm_V} (h : xm_as ix kc_7 = some q) : (pg.1 25).2.1 ix = some q := h
theorem so_25 {ix : Nat} {q : Nat} (h : xm_as ix ks_7 = some q) : (pg.1 25).2.2.2.2.1 ix = some q := h
theorem no_25 {ix : Nat} {q : Nat × List xm_F} (h : xm_as ix kn_7 = some q) : (pg.1 25).2.2.2.1 ix = some q := h
theorem xo_25 {ix q : Nat} (h : (ym_25).2.2.2.2.2 ix = q) : (pg.1 25).2.2.2.2.2 ix = q := h
theorem in_26 {pc : Nat} {i : Jvm.ClassFile.Instr × Nat} (h : xm_tb pc tb_26 = some i) : (pg.1 26).1 pc = some i := h
theorem nl_26 {a : Nat} (h : Nat.ble (a + 1) 1 = true) : a < pg.2.1 26 := Nat.le_of_ble_eq_true h
theorem kd_26 : pg.2.2.1 26 = 1 := rfl
theorem cl_26 {ix : Nat} {q : Nat × Nat × Nat × Nat} (h : xm_as ix kl_7 = some q) : pg.2.2.2 26 ix = some q := h
theorem fo_26 {ix : Nat} {q : Nat × Nat × Nat} (h : xm_as ix kf_7 = some q) : (pg.1 26).2.2.1 ix = some q := h
theorem ko_26 {ix : Nat} {q : xm_V} (h : xm_as ix kc_7 = some q) : (pg.1 26).2.1 ix = some q := h
theorem so_26 {ix : Nat} {q : Nat} (h : xm_as ix ks_7 = some q) : (pg.1 26).2.2.2.2.1 ix = some q := h
theorem no_26 {ix : Nat} {q : Nat × List xm_F} (h : xm_as ix kn_7 = some q) : (pg.1 26).2.2.2.1 ix = some q := h
theorem xo_26 {ix q : Nat} (h : (ym_26).2.2.2.2.2 ix = q) : (pg.1 26).2.2.2.2.2 ix = q := h
theorem in_27 {pc : Nat} {i : Jvm.ClassFile.Instr × Nat} (h : xm_tb pc tb_27 = some i) : (pg.1 27).1 pc = some i := h
theorem nl_27 {a : Nat} (h : Nat.ble (a + 1) 4 = true) : a < pg.2.1 27 := Nat.le_of_ble_eq_true h
theorem kd_27 : pg.2.2.1 27 = 1 := rfl
theorem cl_27 {ix : Nat} {q : Nat × Nat × Nat × Nat} (h : xm_as ix kl_7 = some q) : pg.2.2.2 27 ix = some q := h
theorem fo_27 {ix : Nat} {q : Nat × Nat × Nat} (h : xm_as ix kf_7 = some q) : (pg.1 27).2.2.1 ix = some q := h
theorem ko_27 {ix : Nat} {q : xm_V} (h : xm_as ix kc_7 = some q) : (pg.1 27).2.1 ix = some q := h
theorem so_27 {ix : Nat} {q : Nat} (h : xm_as ix ks_7 = some q) : (pg.1 27).2.2.2.2.1 ix = some q := h
theorem no_27 {ix : Nat} {q : Nat × List xm_F} (h : xm_as ix kn_7 = some q) : (pg.1 27).2.2.2.1 ix = some q := h
theorem xo_27 {ix q : Nat} (h : (ym_27).2.2.2.2.2 ix = q) : (pg.1 27).2.2.2.2.2 ix = q := h
theorem in_28 {pc : Nat} {i : Jvm.ClassFile.Instr × Nat} (h : xm_tb pc tb_28 = some i) : (pg.1 28).1 pc = some i := h
theorem nl_28 {a : Nat} (h : Nat.ble (a + 1) 2 = true) : a < pg.2.1 28 := Nat.le_of_ble_eq_true h
theorem kd_28 : pg.2.2.1 28 = 1 := rfl
theorem cl_28 {ix : Nat} {q : Nat × Nat × Nat × Nat} (h : xm_as ix kl_7 = some q) : pg.2.2.2 28 ix = some q := h
theorem fo_28 {ix : Nat} {q : Nat × Nat × Nat} (h : xm_as ix kf_7 = some q) : (pg.1 28).2.2.1 ix = some q := h
theorem ko_28 {ix : Nat} {q : xm_V} (h : xm_as ix kc_7 = some q) : (pg.1 28).2.1 ix = some q := h
theorem so_28 {ix : Nat} {q : Nat} (h : xm_as ix ks_7 = some q) : (pg.1 28).2.2.2.2.1 ix = some q := h
theorem no_28 {ix : Nat} {q : Nat × List xm_F} (h : xm_as ix kn_7 = some q) : (pg.1 28).2.2.2.1 ix = some q := h
theorem xo_28 {ix q : Nat} (h : (ym_28).2.2.2.2.2 ix = q) : (pg.1 28).2.2.2.2.2 ix = q := h
theorem in_29 {pc : Nat} {i : Jvm.ClassFile.Instr × Nat} (h : xm_tb pc tb_29 = some i) : (pg.1 29).1 pc = some i := h
theorem nl_29 {a : Nat} (h : Nat.ble (a + 1) 5 = true) : a < pg.2.1 29 := Nat.le_of_ble_eq_true h
theorem kd_29 : pg.2.2.1 29 = 1 := rfl
theorem cl_29 {ix : Nat} {q : Nat × Nat × Nat × Nat} (h : xm_as ix kl_7 = some q) : pg.2.2.2 29 ix = some q := h
theorem fo_29 {ix : Nat} {q : Nat × Nat × Nat} (h : xm_as ix kf_7 = some q) : (pg.1 29).2.2.1 ix = some q := h
theorem ko_29 {ix : Nat} {q : xm_V} (h : xm_as ix kc_7 = some q) : (pg.1 29).2.1 ix = some q := h
theorem so_29 {ix : Nat} {q : Nat} (h : xm_as ix ks_7 = some q) : (pg.1 29).2.2.2.2.1 ix = some q := h
theorem no_29 {ix : Nat} {q : Nat × List xm_F} (h : xm_as ix kn_7 = some q) : (pg.1 29).2.2.2.1 ix = some q := h
theorem xo_29 {ix q : Nat} (h : (ym_29).2.2.2.2.2 ix = q) : (pg.1 29).2.2.2.2.2 ix = q := h
theorem in_30 {pc : Nat} {i : Jvm.ClassFile.Instr × Nat} (h : xm_tb pc tb_30 = some i) : (pg.1 30).1 pc = some i := h
theorem nl_30 {a : Nat} (h : Nat.ble (a + 1) 5 = true) : a < pg.2.1 30 := Nat.le_of_ble_eq_true h
theorem kd_30 : pg.2.2.1 30 = 1 := rfl
theorem cl_30 {ix : Nat} {q : Nat × Nat × Nat × Nat} (h : xm_as ix kl_7 = some q) : pg.2.2.2 30 ix = some q := h
theorem fo_30 {ix : Nat} {q : Nat × Nat × Nat} (h : xm_as ix kf_7 = some q) : (pg.1 30).2.2.1 ix = some q := h
theorem ko_30 {ix : Nat} {q : xm_V} (h : xm_as ix kc_7 = some q) : (pg.1 30).2.1 ix = some q := h
theorem so_30 {ix : Nat} {q : Nat} (h : xm_as ix ks_7 = some q) : (pg.1 30).2.2.2.2.1 ix = some q := h
theorem no_30 {ix : Nat} {q : Nat × List xm_F} (h : xm_as ix kn_7 = some q) : (pg.1 30).2.2.2.1 ix = some q := h
theorem xo_30 {ix q : Nat} (h : (ym_30).2.2.2.2.2 ix = q) : (pg.1 30).2.2.2.2.2 ix = q := h
theorem in_31 {pc : Nat} {i : Jvm.ClassFile.Instr × Nat} (h : xm_tb pc tb_31 = some i) : (pg.1 31).1 pc = some i := h
theorem nl_31 {a : Nat} (h : Nat.ble (a + 1) 3 = true) : a < pg.2.1 31 := Nat.le_of_ble_eq_true h
theorem kd_31 : pg.2.2.1 31 = 1 := rfl
theorem cl_31 {ix : Nat} {q : Nat × Nat × Nat × Nat} (h : xm_as ix kl_0 = some q) : pg.2.2.2 31 ix = some q := h
theorem fo_31 {ix : Nat} {q : Nat × Nat × Nat} (h : xm_as ix kf_0 = some q) : (pg.1 31).2.2.1 ix = some q := h
theorem ko_31 {ix : Nat} {q : xm_V} (h : xm_as ix kc_0 = some q) : (pg.1 31).2.1 ix = some q := h
theorem so_31 {ix : Nat} {q : Nat} (h : xm_as ix ks_0 = some q) : (pg.1 31).2.2.2.2.1 ix = some q := h
theorem no_31 {ix : Nat} {q : Nat × List xm_F} (h : xm_as ix kn_0 = some q) : (pg.1 31).2.2.2.1 ix = some q := h
theorem xo_31 {ix q : Nat} (h : (ym_31).2.2.2.2.2 ix = q) : (pg.1 31).2.2.2.2.2 ix = q := h
theorem in_32 {pc : Nat} {i : Jvm.ClassFile.Instr × Nat} (h : xm_tb pc tb_32 = some i) : (pg.1 32).1 pc = some i := h
theorem nl_32 {a : Nat} (h : Nat.ble (a + 1) 5 = true) : a < pg.2.1 32 := Nat.le_of_ble_eq_true h
theorem kd_32 : pg.2.2.1 32 = 4 := rfl
theorem cl_32 {ix : Nat} {q : Nat × Nat × Nat × Nat} (h : xm_as ix kl_5 = some q) : pg.2.2.2 32 ix = some q := h
theorem fo_32 {ix : Nat} {q : Nat × Nat × Nat} (h : xm_as ix kf_5 = some q) : (pg.1 32).2.2.1 ix = some q := h
theorem ko_32 {ix : Nat} {q : xm_V} (h : xm_as ix kc_5 = some q) : (pg.1 32).2.1 ix = some q := h
theorem so_32 {ix : Nat} {q : Nat} (h : xm_as ix ks_5 = some q) : (pg.1 32).2.2.2.2.1 ix = some q := h
theorem no_32 {ix : Nat} {q : Nat × List xm_F} (h : xm_as ix kn_5 = some q) : (pg.1 32).2.2.2.1 ix = some q := h
theorem xo_32 {ix q : Nat} (h : (ym_32).2.2.2.2.2 ix = q) : (pg.1 32).2.2.2.2.2 ix = q := h
theorem in_33 {pc : Nat} {i : Jvm.ClassFile.Instr × Nat} (h : xm_tb pc tb_33 = some i) : (pg.1 33).1 pc = some i := h
theorem nl_33 {a : Nat} (h : Nat.ble (a + 1) 2 = true) : a < pg.2.1 33 := Nat.le_of_ble_eq_true h
theorem kd_33 : pg.2.2.1 33 = 1 := rfl
theorem cl_33 {ix : Nat} {q : Nat × Nat × Nat × Nat} (h : xm_as ix kl_5 = some q) : pg.2.2.2 33 ix = some q := h
theorem fo_33 {ix : Nat} {q : Nat × Nat × Nat} (h : xm_as ix kf_5 = some q) : (pg.1 33).2.2.1 ix = some q := h
theorem ko_33 {ix : Nat} {q : xm_V} (h : xm_as ix kc_5 = some q) : (pg.1 33).2.1 ix = some q := h
theorem so_33 {ix : Nat} {q : Nat} (h : xm_as ix ks_5 = some q) : (pg.1 33).2.2.2.2.1 ix = some q := h
theorem no_33 {ix : Nat} {q : Nat × List xm_F} (h : xm_as ix kn_5 = some q) : (pg.1 33).2.2.2.1 ix = some q := h
theorem xo_33 {ix q : Nat} (h : (ym_33).2.2.2.2.2 ix = q) : (pg.1 33).2.2.2.2.2 ix = q := h
theorem in_34 {pc : Nat} {i : Jvm.ClassFile.Instr × Nat} (h : xm_tb pc tb_34 = some i) : (pg.1 34).1 pc = some i := h
theorem nl_34 {a : Nat} (h : Nat.ble (a + 1) 6 = true) : a < pg.2.1 34 := Nat.le_of_ble_eq_true h
theorem kd_34 : pg.2.2.1 34 = 0 := rfl
theorem cl_34 {ix : Nat} {q : Nat × Nat × Nat × Nat} (h : xm_as ix kl_5 = some q) : pg.2.2.2 34 ix = some q := h
theorem fo_34 {ix : Nat} {q : Nat × Nat × Nat} (h : xm_as ix kf_5 = some q) : (pg.1 34).2.2.1 ix = some q := h
theorem ko_34 {ix : Nat} {q : xm_V} (h : xm_as ix kc_5 = some q) : (pg.1 34).2.1 ix = some q := h
theorem so_34 {ix : Nat} {q : Nat} (h : xm_as ix ks_5 = some q) : (pg.1 34).2.2.2.2.1 ix = some q := h
theorem no_34 {ix : Nat} {q : Nat × List xm_F} (h : xm_as ix kn_5 = some q) : (pg.1 34).2.2.2.1 ix = some q := h
theorem xo_34 {ix q : Nat} (h : (ym_34).2.2.2.2.2 ix = q) : (pg.1 34).2.2.2.2.2 ix = q := h
theorem in_35 {pc : Nat} {i : Jvm.ClassFile.Instr × Nat} (h : xm_tb pc tb_35 = some i) : (pg.1 35).1 pc = some i := h
theorem nl_35 {a : Nat} (h : Nat.ble (a + 1) 1 = true) : a < pg.2.1 35 := Nat.le_of_ble_eq_true h
theorem kd_35 : pg.2.2.1 35 = 0 := rfl
theorem cl_35 {ix : Nat} {q : Nat × Nat × Nat × Nat} (h : xm_as ix kl_4 = some q) : pg.2.2.2 35 ix = some q := h
theorem fo_35 {ix : Nat} {q : Nat × Nat × Nat} (h : xm_as ix kf_4 = some q) : (pg.1 35).2.2.1 ix = some q := h
theorem ko_35 {ix : Nat} {q : xm_V} (h : xm_as ix kc_4 = some q) : (pg.1 35).2.1 ix = some q := h
theorem so_35 {ix : Nat} {q : Nat} (h : xm_as ix ks_4 = some q) : (pg.1 35).2.2.2.2.1 ix = some q := h
theorem no_35 {ix : Nat} {q : Nat × List xm_F} (h : xm_as ix kn_4 = some q) : (pg.1 35).2.2.2.1 ix = some q := h
theorem xo_35 {ix q : Nat} (h : (ym_35).2.2.2.2.2 ix = q) : (pg.1 35).2.2.2.2.2 ix = q := h
theorem in_36 {pc : Nat} {i : Jvm.ClassFile.Instr × Nat} (h : xm_tb pc tb_36 = some i) : (pg.1 36).1 pc = some i := h
theorem nl_36 {a : Nat} (h : Nat.ble (a + 1) 6 = true) : a < pg.2.1 36 := Nat.le_of_ble_eq_true h
theorem kd_36 : pg.2.2.1 36 = 0 := rfl
theorem cl_36 {ix : Nat} {q : Nat × Nat × Nat × Nat} (h : xm_as ix kl_4 = some q) : pg.2.2.2 36 ix = some q := h
theorem fo_36 {ix : Nat} {q : Nat × Nat × Nat} (h : xm_as ix kf_4 = some q) : (pg.1 36).2.2.1 ix = some q := h
theorem ko_36 {ix : Nat} {q : xm_V} (h : xm_as ix kc_4 = some q) : (pg.1 36).2.1 ix = some q := h
theorem so_36 {ix : Nat} {q : Nat} (h : xm_as ix ks_4 = some q) : (pg.1 36).2.2.2.2.1 ix = some q := h
theorem no_36 {ix : Nat} {q : Nat × List xm_F} (h : xm_as ix kn_4 = some q) : (pg.1 36).2.2.2.1 ix = some q := h
theorem xo_36 {ix q : Nat} (h : (ym_36).2.2.2.2.2 ix = q) : (pg.1 36).2.2.2.2.2 ix = q := h
theorem in_37 {pc : Nat} {i : Jvm.ClassFile.Instr × Nat} (h : xm_tb pc tb_37 = some i) : (pg.1 37).1 pc = some i := h
theorem nl_37 {a : Nat} (h : Nat.ble (a + 1) 6 = true) : a < pg.2.1 37 := Nat.le_of_ble_eq_true h
theorem kd_37 : pg.2.2.1 37 = 0 := rfl
theorem cl_37 {ix : Nat} {q : Nat × Nat × Nat × Nat} (h : xm_as ix kl_5 = some q) : pg.2.2.2 37 ix = some q := h
theorem fo_37 {ix : Nat} {q : Nat × Nat × Nat} (h : xm_as ix kf_5 = some q) : (pg.1 37).2.2.1 ix = some q := h
theorem ko_37 {ix : Nat} {q : xm_V} (h : xm_as ix kc_5 = some q) : (pg.1 37).2.1 ix = some q := h
theorem so_37 {ix : Nat} {q : Nat} (h : xm_as ix ks_5 = some q) : (pg.1 37).2.2.2.2.1 ix = some q := h
theorem no_37 {ix : Nat} {q : Nat × List xm_F} (h : xm_as ix kn_5 = some q) : (pg.1 37).2.2.2.1 ix = some q := h
theorem xo_37 {ix q : Nat} (h : (ym_37).2.2.2.2.2 ix = q) : (pg.1 37).2.2.2.2.2 ix = q := h
theorem in_38 {pc : Nat} {i : Jvm.ClassFile.Instr × Nat} (h : xm_tb pc tb_38 = some i) : (pg.1 38).1 pc = some i := h
theorem nl_38 {a : Nat} (h : Nat.ble (a + 1) 8 = true) : a < pg.2.1 38 := Nat.le_of_ble_eq_true h
theorem kd_38 : pg.2.2.1 38 = 0 := rfl
theorem cl_38 {ix : Nat} {q : Nat × Nat × Nat × Nat} (h : xm_as ix kl_5 = some q) : pg.2.2.2 38 ix = some q := h
theorem fo_38 {ix : Nat} {q : Nat × Nat × Nat} (h : xm_as ix kf_5 = some q) : (pg.1 38).2.2.1 ix = some q := h
theorem ko_38 {ix : Nat} {q : xm_V} (h : xm_as ix kc_5 = some q) : (pg.1 38).2.1 ix = some q := h
theorem so_38 {ix : Nat} {q : Nat} (h : xm_as ix ks_5 = some q) : (pg.1 38).2.2.2.2.1 ix = some q := h
theorem no_38 {ix : Nat} {q : Nat × List xm_F} (h : xm_as ix kn_5 = some q) : (pg.1 38).2.2.2.1 ix = some q := h
theorem xo_38 {ix q : Nat} (h : (ym_38).2.2.2.2.2 ix = q) : (pg.1 38).2.2.2.2.2 ix = q := h
theorem in_39 {pc : Nat} {i : Jvm.ClassFile.Instr × Nat} (h : xm_tb pc tb_39 = some i) : (pg.1 39).1 pc = some i := h
theorem nl_39 {a : Nat} (h : Nat.ble (a + 1) 1 = true) : a < pg.2.1 39 := Nat.le_of_ble_eq_true h
theorem kd_39 : pg.2.2.1 39 = 2 := rfl
theorem cl_39 {ix : Nat} {q : Nat × Nat × Nat × Nat} (h : xm_as ix kl_4 = some q) : pg.2.2.2 39 ix = some q := h
theorem fo_39 {ix : Nat} {q : Nat × Nat × Nat} (h : xm_as ix kf_4 = some q) : (pg.1 39).2.2.1 ix = some q := h
theorem ko_39 {ix : Nat} {q : xm_V} (h : xm_as ix kc_4 = some q) : (pg.1 39).2.1 ix = some q := h
theorem so_39 {ix : Nat} {q : Nat} (h : xm_as ix ks_4 = some q) : (pg.1 39).2.2.2.2.1 ix = some q := h
theorem no_39 {ix : Nat} {q : Nat × List xm_F} (h : xm_as ix kn_4 = some q) : (pg.1 39).2.2.2.1 ix = some q := h
theorem xo_39 {ix q : Nat} (h : (ym_39).2.2.2.2.2 ix = q) : (pg.1 39).2.2.2.2.2 ix = q := h
theorem in_40 {pc : Nat} {i : Jvm.ClassFile.Instr × Nat} (h : xm_tb pc tb_40 = some i) : (pg.1 40).1 pc = some i := h
theorem nl_40 {a : Nat} (h : Nat.ble (a + 1) 1 = true) : a < pg.2.1 40 := Nat.le_of_ble_eq_true h
theorem kd_40 : pg.2.2.1 40 = 2 := rfl
theorem cl_40 {ix : Nat} {q : Nat × Nat × Nat × Nat} (h : xm_as ix kl_4 = some q) : pg.2.2.2 40 ix = some q := h
theorem fo_40 {ix : Nat} {q : Nat × Nat × Nat} (h : xm_as ix kf_4 = some q) : (pg.1 40).2.2.1 ix = some q := h
theorem ko_40 {ix : Nat} {q : xm_V} (h : xm_as ix kc_4 = some q) : (pg.1 40).2.1 ix = some q := h
theorem so_40 {ix : Nat} {q : Nat} (h : xm_as ix ks_4 = some q) : (pg.1 40).2.2.2.2.1 ix = some q := h
theorem no_40 {ix : Nat} {q : Nat × List xm_F} (h : xm_as ix kn_4 = some q) : (pg.1 40).2.2.2.1 ix = some q := h
theorem xo_40 {ix q : Nat} (h : (ym_40).2.2.2.2.2 ix = q) : (pg.1 40).2.2.2.2.2 ix = q := h
theorem in_41 {pc : Nat} {i : Jvm.ClassFile.Instr × Nat} (h : xm_tb pc tb_41 = some i) : (pg.1 41).1 pc = some i := h
theorem nl_41 {a : Nat} (h : Nat.ble (a + 1) 2 = true) : a < pg.2.1 41 := Nat.le_of_ble_eq_true h
theorem kd_41 : pg.2.2.1 41 = 0 := rfl
theorem cl_41 {ix : Nat} {q : Nat × Nat × Nat × Nat} (h : xm_as ix kl_5 = some q) : pg.2.2.2 41 ix = some q := h
theorem fo_41 {ix : Nat} {q : Nat × Nat × Nat} (h : xm_as ix kf_5 = some q) : (pg.1 41).2.2.1 ix = some q := h
theorem ko_41 {ix : Nat} {q : xm_V} (h : xm_as ix kc_5 = some q) : (pg.1 41).2.1 ix = some q := h
theorem so_41 {ix : Nat} {q : Nat} (h : xm_as ix ks_5 = some q) : (pg.1 41).2.2.2.2.1 ix = some q := h
theorem no_41 {ix : Nat} {q : Nat × List xm_F} (h : xm_as ix kn_5 = some q) : (pg.1 41).2.2.2.1 ix = some q := h
theorem xo_41 {ix q : Nat} (h : (ym_41).2.2.2.2.2 ix = q) : (pg.1 41).2.2.2.2.2 ix = q := h
theorem in_42 {pc : Nat} {i : Jvm.ClassFile.Instr × Nat} (h : xm_tb pc tb_42 = some i) : (pg.1 42).1 pc = some i := h
theorem nl_42 {a : Nat} (h : Nat.ble (a + 1) 3 = true) : a < pg.2.1 42 := Nat.le_of_ble_eq_true h
theorem kd_42 : pg.2.2.1 42 = 3 := rfl
theorem cl_42 {ix : Nat} {q : Nat × Nat × Nat × Nat} (h : xm_as ix kl_11 = some q) : pg.2.2.2 42 ix = some q := h
theorem fo_42 {ix : Nat} {q : Nat × Nat × Nat} (h : xm_as ix kf_11 = some q) : (pg.1 42).2.2.1 ix = some q := h
theorem ko_42 {ix : Nat} {q : xm_V} (h : xm_as ix kc_11 = some q) : (pg.1 42).2.1 ix = some q := h
theorem so_42 {ix : Nat} {q : Nat} (h : xm_as ix ks_11 = some q) : (pg.1 42).2.2.2.2.1 ix = some q := h
theorem no_42 {ix : Nat} {q : Nat × List xm_F} (h : xm_as ix kn_11 = some q) : (pg.1 42).2.2.2.1 ix = some q := h
theorem xo_42 {ix q : Nat} (h : (ym_42).2.2.2.2.2 ix = q) : (pg.1 42).2.2.2.2.2 ix = q := h
theorem in_43 {pc : Nat} {i : Jvm.ClassFile.Instr × Nat} (h : xm_tb pc tb_43 = some i) : (pg.1 43).1 pc = some i := h
theorem nl_43 {a : Nat} (h : Nat.ble (a + 1) 2 = true) : a < pg.2.1 43 := Nat.le_of_ble_eq_true h
theorem kd_43 : pg.2.2.1 43 = 1 := rfl
theorem cl_43 {ix : Nat} {q : Nat × Nat × Nat × Nat} (h : xm_as ix kl_10 = some q) : pg.2.2.2 43 ix = some q := h
theorem fo_43 {ix : Nat} {q : Nat × Nat × Nat} (h : xm_as ix kf_10 = some q) : (pg.1 43).2.2.1 ix = some q := h
theorem ko_43 {ix : Nat} {q : xm_V} (h : xm_as ix kc_10 = some q) : (pg.1 43).2.1 ix = some q := h
theorem so_43 {ix : Nat} {q : Nat} (h : xm_as ix ks_10 = some q) : (pg.1 43).2.2.2.2.1 ix = some q := h
theorem no_43 {ix : Nat} {q : Nat × List xm_F} (h : xm_as ix kn_10 = some q) : (pg.1 43).2.2.2.1 ix = some q := h
theorem xo_43 {ix q : Nat} (h : (ym_43).2.2.2.2.2 ix = q) : (pg.1 43).2.2.2.2.2 ix = q := h
theorem in_44 {pc : Nat} {i : Jvm.ClassFile.Instr × Nat} (h : xm_tb pc tb_44 = some i) : (pg.1 44).1 pc = some i := h
theorem nl_44 {a : Nat} (h : Nat.ble (a + 1) 3 = true) : a < pg.2.1 44 := Nat.le_of_ble_eq_true h
theorem kd_44 : pg.2.2.1 44 = 1 := rfl
theorem cl_44 {ix : Nat} {q : Nat × Nat × Nat × Nat} (h : xm_as ix kl_5 = some q) : pg.2.2.2 44 ix = some q := h
theorem fo_44 {ix : Nat} {q : Nat × Nat × Nat} (h : xm_as ix kf_5 = some q) : (pg.1 44).2.2.1 ix = some q := h
theorem ko_44 {ix : Nat} {q : xm_V} (h : xm_as ix kc_5 = some q) : (pg.1 44).2.1 ix = some q := h
theorem so_44 {ix : Nat} {q : Nat} (h : xm_as ix ks_5 = some q) : (pg.1 44).2.2.2.2.1 ix = some q := h
theorem no_44 {ix : Nat} {q : Nat × List xm_F} (h : xm_as ix kn_5 = some q) : (pg.1 44).2.2.2.1 ix = some q := h
theorem xo_44 {ix q : Nat} (h : (ym_44).2.2.2.2.2 ix = q) : (pg.1 44).2.2.2.2.2 ix = q := h
theorem in_45 {pc : Nat} {i : Jvm.ClassFile.Instr × Nat} (h : xm_tb pc tb_45 = some i) : (pg.1 45).1 pc = some i := h
theorem nl_45 {a : Nat} (h : Nat.ble (a + 1) 2 = true) : a < pg.2.1 45 := Nat.le_of_ble_eq_true h
theorem kd_45 : pg.2.2.1 45 = 1 := rfl
theorem cl_45 {ix : Nat} {q : Nat × Nat × Nat × Nat} (h : xm_as ix kl_0 = some q) : pg.2.2.2 45 ix = some q := h
theorem fo_45 {ix : Nat} {q : Nat × Nat × Nat} (h : xm_as ix kf_0 = some q) : (pg.1 45).2.2.1 ix = some q := h
theorem ko_45 {ix : Nat} {q : xm_V} (h : xm_as ix kc_0 = some q) : (pg.1 45).2.1 ix = some q := h
theorem so_45 {ix : Nat} {q : Nat} (h : xm_as ix ks_0 = some q) : (pg.1 45).2.2.2.2.1 ix = some q := h
theorem no_45 {ix : Nat} {q : Nat × List xm_F} (h : xm_as ix kn_0 = some q) : (pg.1 45).2.2.2.1 ix = some q := h
theorem xo_45 {ix q : Nat} (h : (ym_45).2.2.2.2.2 ix = q) : (pg.1 45).2.2.2.2.2 ix = q := h
theorem in_46 {pc : Nat} {i : Jvm.ClassFile.Instr × Nat} (h : xm_tb pc tb_46 = some i) : (pg.1 46).1 pc = some i := h
theorem nl_46 {a : Nat} (h : Nat.ble (a + 1) 4 = true) : a < pg.2.1 46 := Nat.le_of_ble_eq_true h
theorem kd_46 : pg.2.2.1 46 = 4 := rfl
theorem cl_46 {ix : Nat} {q : Nat × Nat × Nat × Nat} (h : xm_as ix kl_1 = some q) : pg.2.2.2 46 ix = some q := h
theorem fo_46 {ix : Nat} {q : Nat × Nat × Nat} (h : xm_as ix kf_1 = some q) : (pg.1 46).2.2.1 ix = some q := h
theorem ko_46 {ix : Nat} {q : xm_V} (h : xm_as ix kc_1 = some q) : (pg.1 46).2.1 ix = some q := h
theorem so_46 {ix : Nat} {q : Nat} (h : xm_as ix ks_1 = some q) : (pg.1 46).2.2.2.2.1 ix = some q := h
theorem no_46 {ix : Nat} {q : Nat × List xm_F} (h : xm_as ix kn_1 = some q) : (pg.1 46).2.2.2.1 ix = some q := h
theorem xo_46 {ix q : Nat} (h : (ym_46).2.2.2.2.2 ix = q) : (pg.1 46).2.2.2.2.2 ix = q := h
theorem in_47 {pc : Nat} {i : Jvm.ClassFile.Instr × Nat} (h : xm_tb pc tb_47 = some i) : (pg.1 47).1 pc = some i := h
theorem nl_47 {a : Nat} (h : Nat.ble (a + 1) 3 = true) : a < pg.2.1 47 := Nat.le_of_ble_eq_true h
theorem kd_47 : pg.2.2.1 47 = 0 := rfl
theorem cl_47 {ix : Nat} {q : Nat × Nat × Nat × Nat} (h : xm_as ix kl_1 = some q) : pg.2.2.2 47 ix = some q := h
theorem fo_47 {ix : Nat} {q : Nat × Nat × Nat} (h : xm_as ix kf_1 = some q) : (pg.1 47).2.2.1 ix = some q := h
theorem ko_47 {ix : Nat} {q : xm_V} (h : xm_as ix kc_1 = some q) : (pg.1 47).2.1 ix = some q := h
theorem so_47 {ix : Nat} {q : Nat} (h : xm_as ix ks_1 = some q) : (pg.1 47).2.2.2.2.1 ix = some q := h
theorem no_47 {ix : Nat} {q : Nat × List xm_F} (h : xm_as ix kn_1 = some q) : (pg.1 47).2.2.2.1 ix = some q := h
theorem xo_47 {ix q : Nat} (h : (ym_47).2.2.2.2.2 ix = q) : (pg.1 47).2.2.2.2.2 ix = q := h
theorem in_48 {pc : Nat} {i : Jvm.ClassFile.Instr × Nat} (h : xm_tb pc tb_48 = some i) : (pg.1 48).1 pc = some i := h
theorem nl_48 {a : Nat} (h : Nat.ble (a + 1) 10 = true) : a < pg.2.1 48 := Nat.le_of_ble_eq_true h
theorem kd_48 : pg.2.2.1 48 = 4 := rfl
theorem cl_48 {ix : Nat} {q : Nat × Nat × Nat × Nat} (h : xm_as ix kl_1 = some q) : pg.2.2.2 48 ix = some q := h
theorem fo_48 {ix : Nat} {q : Nat × Nat × Nat} (h : xm_as ix kf_1 = some q) : (pg.1 48).2.2.1 ix = some q := h
theorem ko_48 {ix : Nat} {q : xm_V} (h : xm_as ix kc_1 = some q) : (pg.1 48).2.1 ix = some q := h
theorem so_48 {ix : Nat} {q : Nat} (h : xm_as ix ks_1 = some q) : (pg.1 48).2.2.2.2.1 ix = some q := h
theorem no_48 {ix : Nat} {q : Nat × List xm_F} (h : xm_as ix kn_1 = some q) : (pg.1 48).2.2.2.1 ix = some q := h
theorem xo_48 {ix q : Nat} (h : (ym_48).2.2.2.2.2 ix = q) : (pg.1 48).2.2.2.2.2 ix = q := h
theorem in_49 {pc : Nat} {i : Jvm.ClassFile.Instr × Nat} (h : xm_tb pc tb_49 = some i) : (pg.1 49).1 pc = some i := h
theorem nl_49 {a : Nat} (h : Nat.ble (a + 1) 7 = true) : a < pg.2.1 49 := Nat.le_of_ble_eq_true h
theorem kd_49 : pg.2.2.1 49 = 3 := rfl
theorem cl_49 {ix : Nat} {q : Nat × Nat × Nat × Nat} (h : xm_as ix kl_5 = some q) : pg.2.2.2 49 ix = some q := h
theorem fo_49 {ix : Nat} {q : Nat × Nat × Nat} (h : xm_as ix kf_5 = some q) : (pg.1 49).2.2.1 ix = some q := h
theorem ko_49 {ix : Nat} {q : xm_V} (h : xm_as ix kc_5 = some q) : (pg.1 49).2.1 ix = some q := h
theorem so_49 {ix : Nat} {q : Nat} (h : xm_as ix ks_5 = some q) : (pg.1 49).2.2.2.2.1 ix = some q := h
theorem no_49 {ix : Nat} {q : Nat × List xm_F} (h : xm_as ix kn_5 = some q) : (pg.1 49).2.2.2.1 ix = some q := h
theorem xo_49 {ix q : Nat} (h : (ym_49).2.2.2.2.2 ix = q) : (pg.1 49).2.2.2.2.2 ix = q := h
theorem in_50 {pc : Nat} {i : Jvm.ClassFile.Instr × Nat} (h : xm_tb pc tb_50 = some i) : (pg.1 50).1 pc = some i := h
theorem nl_50 {a : Nat} (h : Nat.ble (a + 1) 2 = true) : a < pg.2.1 50 := Nat.le_of_ble_eq_true h
theorem kd_50 : pg.2.2.1 50 = 1 := rfl
theorem cl_50 {ix : Nat} {q : Nat × Nat × Nat × Nat} (h : xm_as ix kl_4 = some q) : pg.2.2.2 50 ix = some q := h
theorem fo_50 {ix : Nat} {q : Nat × Nat × Nat} (h : xm_as ix kf_4 = some q) : (pg.1 50).2.2.1 ix = some q := h
theorem ko_50 {ix : Nat} {q : xm_V} (h : xm_as ix kc_4 = some q) : (pg.1 50).2.1 ix = some q := h
theorem so_50 {ix : Nat} {q : Nat} (h : xm_as ix ks_4 = some q) : (pg.1 50).2.2.2.2.1 ix = some q := h
theorem no_50 {ix : Nat} {q : Nat × List xm_F} (h : xm_as ix kn_4 = some q) : (pg.1 50).2.2.2.1 ix = some q := h
theorem xo_50 {ix q : Nat} (h : (ym_50).2.2.2.2.2 ix = q) : (pg.1 50).2.2.2.2.2 ix = q := h
theorem in_51 {pc : Nat} {i : Jvm.ClassFile.Instr × Nat} (h : xm_tb pc tb_51 = some i) : (pg.1 51).1 pc = some i := h
theorem nl_51 {a : Nat} (h : Nat.ble (a + 1) 4 = true) : a < pg.2.1 51 := Nat.le_of_ble_eq_true h
theorem kd_51 : pg.2.2.1 51 = 1 := rfl
theorem cl_51 {ix : Nat} {q : Nat × Nat × Nat × Nat} (h : xm_as ix kl_1 = some q) : pg.2.2.2 51 ix = some q := h
theorem fo_51 {ix : Nat} {q : Nat × Nat × Nat} (h : xm_as ix kf_1 = some q) : (pg.1 51).2.2.1 ix = some q := h
theorem ko_51 {ix : Nat} {q : xm_V} (h : xm_as ix kc_1 = some q) : (pg.1 51).2.1 ix = some q := h
theorem so_51 {ix : Nat} {q : Nat} (h : xm_as ix ks_1 = some q) : (pg.1 51).2.2.2.2.1 ix = some q := h
theorem no_51 {ix : Nat} {q : Nat × List xm_F} (h : xm_as ix kn_1 = some q) : (pg.1 51).2.2.2.1 ix = some q := h
theorem xo_51 {ix q : Nat} (h : (ym_51).2.2.2.2.2 ix = q) : (pg.1 51).2.2.2.2.2 ix = q := h
theorem in_52 {pc : Nat} {i : Jvm.ClassFile.Instr × Nat} (h : xm_tb pc tb_52 = some i) : (pg.1 52).1 pc = some i := h
theorem nl_52 {a : Nat} (h : Nat.ble (a + 1) 2 = true) : a < pg.2.1 52 := Nat.le_of_ble_eq_true h
theorem kd_52 : pg.2.2.1 52 = 1 := rfl
theorem cl_52 {ix : Nat} {q : Nat × Nat × Nat × Nat} (h : xm_as ix kl_4 = some q) : pg.2.2.2 52 ix = some q := h
theorem fo_52 {ix : Nat} {q : Nat × Nat × Nat} (h : xm_as ix kf_4 = some q) : (pg.1 52).2.2.1 ix = some q := h
theorem ko_52 {ix : Nat} {q : xm_V} (h : xm_as ix kc_4 = some q) : (pg.1 52).2.1 ix = some q := h
theorem so_52 {ix : Nat} {q : Nat} (h : xm_as ix ks_4 = some q) : (pg.1 52).2.2.2.2.1 ix = some q := h
theorem no_52 {ix : Nat} {q : Nat × List xm_F} (h : xm_as ix kn_4 = some q) : (pg.1 52).2.2.2.1 ix = some q := h
theorem xo_52 {ix q : Nat} (h : (ym_52).2.2.2.2.2 ix = q) : (pg.1 52).2.2.2.2.2 ix = q := h
theorem in_53 {pc : Nat} {i : Jvm.ClassFile.Instr × Nat} (h : xm_tb pc tb_53 = some i) : (pg.1 53).1 pc = some i := h
theorem nl_53 {a : Nat} (h : Nat.ble (a + 1) 4 = true) : a < pg.2.1 53 := Nat.le_of_ble_eq_true h
theorem kd_53 : pg.2.2.1 53 = 1 := rfl
theorem cl_53 {ix : Nat} {q : Nat × Nat × Nat × Nat} (h : xm_as ix kl_1 = some q) : pg.2.2.2 53 ix = some q := h
theorem fo_53 {ix : Nat} {q : Nat × Nat × Nat} (h : xm_as ix kf_1 = some q) : (pg.1 53).2.2.1 ix = some q := h
theorem ko_53 {ix : Nat} {q : xm_V} (h : xm_as ix kc_1 = some q) : (pg.1 53).2.1 ix = some q := h
theorem so_53 {ix : Nat} {q : Nat} (h : xm_as ix ks_1 = some q) : (pg.1 53).2.2.2.2.1 ix = some q := h
theorem no_53 {ix : Nat} {q : Nat × List xm_F} (h : xm_as ix kn_1 = some q) : (pg.1 53).2.2.2.1 ix = some q := h
theorem xo_53 {ix q : Nat} (h : (ym_53).2.2.2.2.2 ix = q) : (pg.1 53).2.2.2.2.2 ix = q := h
theorem in_54 {pc : Nat} {i : Jvm.ClassFile.Instr × Nat} (h : xm_tb pc tb_54 = some i) : (pg.1 54).1 pc = some i := h
theorem nl_54 {a : Nat} (h : Nat.ble (a + 1) 4 = true) : a < pg.2.1 54 := Nat.le_of_ble_eq_true h
theorem kd_54 : pg.2.2.1 54 = 1 := rfl
theorem cl_54 {ix : Nat} {q : Nat × Nat × Nat × Nat} (h : xm_as ix kl_0 = some q) : pg.2.2.2 54 ix = some q := h
theorem fo_54 {ix : Nat} {q : Nat × Nat × Nat} (h : xm_as ix kf_0 = some q) : (pg.1 54).2.2.1 ix = some q := h
theorem ko_54 {ix : Nat} {q : xm_V} (h : xm_as ix kc_0 = some q) : (pg.1 54).2.1 ix = some q := h
theorem so_54 {ix : Nat} {q : Nat} (h : xm_as ix ks_0 = some q) : (pg.1 54).2.2.2.2.1 ix = some q := h
theorem no_54 {ix : Nat} {q : Nat × List xm_F} (h : xm_as ix kn_0 = some q) : (pg.1 54).2.2.2.1 ix = some q := h
theorem xo_54 {ix q : Nat} (h : (ym_54).2.2.2.2.2 ix = q) : (pg.1 54).2.2.2.2.2 ix = q := h
theorem in_55 {pc : Nat} {i : Jvm.ClassFile.Instr × Nat} (h : xm_tb pc tb_55 = some i) : (pg.1 55).1 pc = some i := h
theorem nl_55 {a : Nat} (h : Nat.ble (a + 1) 1 = true) : a < pg.2.1 55 := Nat.le_of_ble_eq_true h
theorem kd_55 : pg.2.2.1 55 = 0 := rfl
theorem cl_55 {ix : Nat} {q : Nat × Nat × Nat × Nat} (h : xm_as ix kl_6 = some q) : pg.2.2.2 55 ix = some q := h
theorem fo_55 {ix : Nat} {q : Nat × Nat × Nat} (h : xm_as ix kf_6 = some q) : (pg.1 55).2.2.1 ix = some q := h
theorem ko_55 {ix : Nat} {q : xm_V} (h : xm_as ix kc_6 = some q) : (pg.1 55).2.1 ix = some q := h
theorem so_55 {ix : Nat} {q : Nat} (h : xm_as ix ks_6 = some q) : (pg.1 55).2.2.2.2.1 ix = some q := h
theorem no_55 {ix : Nat} {q : Nat × List xm_F} (h : xm_as ix kn_6 = some q) : (pg.1 55).2.2.2.1 ix = some q := h
theorem xo_55 {ix q : Nat} (h : (ym_55).2.2.2.2.2 ix = q) : (pg.1 55).2.2.2.2.2 ix = q := h
theorem in_56 {pc : Nat} {i : Jvm.ClassFile.Instr × Nat} (h : xm_tb pc tb_56 = some i) : (pg.1 56).1 pc = some i := h
theorem nl_56 {a : Nat} (h : Nat.ble (a + 1) 7 = true) : a < pg.2.1 56 := Nat.le_of_ble_eq_true h
theorem kd_56 : pg.2.2.1 56 = 4 := rfl
theorem cl_56 {ix : Nat} {q : Nat × Nat × Nat × Nat} (h : xm_as ix kl_3 = some q) : pg.2.2.2 56 ix = some q := h
theorem fo_56 {ix : Nat} {q : Nat × Nat × Nat} (h : xm_as ix kf_3 = some q) : (pg.1 56).2.2.1 ix = some q := h
theorem ko_56 {ix : Nat} {q : xm_V} (h : xm_as ix kc_3 = some q) : (pg.1 56).2.1 ix = some q := h
theorem so_56 {ix : Nat} {q : Nat} (h : xm_as ix ks_3 = some q) : (pg.1 56).2.2.2.2.1 ix = some q := h
theorem no_56 {ix : Nat} {q : Nat × List xm_F} (h : xm_as ix kn_3 = some q) : (pg.1 56).2.2.2.1 ix = some q := h
theorem xo_56 {ix q : Nat} (h : (ym_56).2.2.2.2.2 ix = q) : (pg.1 56).2.2.2.2.2 ix = q := h
theorem in_57 {pc : Nat} {i : Jvm.ClassFile.Instr × Nat} (h : xm_tb pc tb_57 = some i) : (pg.1 57).1 pc = some i := h
theorem nl_57 {a : Nat} (h : Nat.ble (a + 1) 5 = true) : a < pg.2.1 57 := Nat.le_of_ble_eq_true h
theorem kd_57 : pg.2.2.1 57 = 2 := rfl
theorem cl_57 {ix : Nat} {q : Nat × Nat × Nat × Nat} (h : xm_as ix kl_3 = some q) : pg.2.2.2 57 ix = some q := h
theorem fo_57 {ix : Nat} {q : Nat × Nat × Nat} (h : xm_as ix kf_3 = some q) : (pg.1 57).2.2.1 ix = some q := h
theorem ko_57 {ix : Nat} {q : xm_V} (h : xm_as ix kc_3 = some q) : (pg.1 57).2.1 ix = some q := h
theorem so_57 {ix : Nat} {q : Nat} (h : xm_as ix ks_3 = some q) : (pg.1 57).2.2.2.2.1 ix = some q := h
theorem no_57 {ix : Nat} {q : Nat × List xm_F} (h : xm_as ix kn_3 = some q) : (pg.1 57).2.2.2.1 ix = some q := h
theorem xo_57 {ix q : Nat} (h : (ym_57).2.2.2.2.2 ix = q) : (pg.1 57).2.2.2.2.2 ix = q := h
theorem in_58 {pc : Nat} {i : Jvm.ClassFile.Instr × Nat} (h : xm_tb pc tb_58 = some i) : (pg.1 58).1 pc = some i := h
theorem nl_58 {a : Nat} (h : Nat.ble (a + 1) 3 = true) : a < pg.2.1 58 := Nat.le_of_ble_eq_true h
theorem kd_58 : pg.2.2.1 58 = 1 := rfl
theorem cl_58 {ix : Nat} {q : Nat × Nat × Nat × Nat} (h : xm_as ix kl_3 = some q) : pg.2.2.2 58 ix = some q := h
theorem fo_58 {ix : Nat} {q : Nat × Nat × Nat} (h : xm_as ix kf_3 = some q) : (pg.1 58).2.2.1 ix = some q := h
theorem ko_58 {ix : Nat} {q : xm_V} (h : xm_as ix kc_3 = some q) : (pg.1 58).2.1 ix = some q := h
theorem so_58 {ix : Nat} {q : Nat} (h : xm_as ix ks_3 = some q) : (pg.1 58).2.2.2.2.1 ix = some q := h
theorem no_58 {ix : Nat} {q : Nat × List xm_F} (h : xm_as ix kn_3 = some q) : (pg.1 58).2.2.2.1 ix = some q := h
theorem xo_58 {ix q : Nat} (h : (ym_58).2.2.2.2.2 ix = q) : (pg.1 58).2.2.2.2.2 ix = q := h
theorem in_59 {pc : Nat} {i : Jvm.ClassFile.Instr × Nat} (h : xm_tb pc tb_59 = some i) : (pg.1 59).1 pc = some i := h
theorem nl_59 {a : Nat} (h : Nat.ble (a + 1) 10 = true) : a < pg.2.1 59 := Nat.le_of_ble_eq_true h
theorem kd_59 : pg.2.2.1 59 = 2 := rfl
theorem cl_59 {ix : Nat} {q : Nat × Nat × Nat × Nat} (h : xm_as ix kl_3 = some q) : pg.2.2.2 59 ix = some q := h
theorem fo_59 {ix : Nat} {q : Nat × Nat × Nat} (h : xm_as ix kf_3 = some q) : (pg.1 59).2.2.1 ix = some q := h
theorem ko_59 {ix : Nat} {q : xm_V} (h : xm_as ix kc_3 = some q) : (pg.1 59).2.1 ix = some q := h
theorem so_59 {ix : Nat} {q : Nat} (h : xm_as ix ks_3 = some q) : (pg.1 59).2.2.2.2.1 ix = some q := h
theorem no_59 {ix : Nat} {q : Nat × List xm_F} (h : xm_as ix kn_3 = some q) : (pg.1 59).2.2.2.1 ix = some q := h
theorem xo_59 {ix q : Nat} (h : (ym_59).2.2.2.2.2 ix = q) : (pg.1 59).2.2.2.2.2 ix = q := h
theorem in_60 {pc : Nat} {i : Jvm.ClassFile.Instr × Nat} (h : xm_tb pc tb_60 = some i) : (pg.1 60).1 pc = some i := h
theorem nl_60 {a : Nat} (h : Nat.ble (a + 1) 7 = true) : a < pg.2.1 60 := Nat.le_of_ble_eq_true h
theorem kd_60 : pg.2.2.1 60 = 2 := rfl
theorem cl_60 {ix : Nat} {q : Nat × Nat × Nat × Nat} (h : xm_as ix kl_3 = some q) : pg.2.2.2 60 ix = some q := h
theorem fo_60 {ix : Nat} {q : Nat × Nat × Nat} (h : xm_as ix kf_3 = some q) : (pg.1 60).2.2.1 ix = some q := h
theorem ko_60 {ix : Nat} {q : xm_V} (h : xm_as ix kc_3 = some q) : (pg.1 60).2.1 ix = some q := h
theorem so_60 {ix : Nat} {q : Nat} (h : xm_as ix ks_3 = some q) : (pg.1 60).2.2.2.2.1 ix = some q := h
theorem no_60 {ix : Nat} {q : Nat × List xm_F} (h : xm_as ix kn_3 = some q) : (pg.1 60).2.2.2.1 ix = some q := h
theorem xo_60 {ix q : Nat} (h : (ym_60).2.2.2.2.2 ix = q) : (pg.1 60).2.2.2.2.2 ix = q := h
theorem in_61 {pc : Nat} {i : Jvm.ClassFile.Instr × Nat} (h : xm_tb pc tb_61 = some i) : (pg.1 61).1 pc = some i := h
theorem nl_61 {a : Nat} (h : Nat.ble (a + 1) 4 = true) : a < pg.2.1 61 := Nat.le_of_ble_eq_true h
theorem kd_61 : pg.2.2.1 61 = 1 := rfl
theorem cl_61 {ix : Nat} {q : Nat × Nat × Nat × Nat} (h : xm_as ix kl_3 = some q) : pg.2.2.2 61 ix = some q := h
theorem fo_61 {ix : Nat} {q : Nat × Nat × Nat} (h : xm_as ix kf_3 = some q) : (pg.1 61).2.2.1 ix = some q := h
theorem ko_61 {ix : Nat} {q : xm_V} (h : xm_as ix kc_3 = some q) : (pg.1 61).2.1 ix = some q := h
theorem so_61 {ix : Nat} {q : Nat} (h : xm_as ix ks_3 = some q) : (pg.1 61).2.2.2.2.1 ix = some q := h
theorem no_61 {ix : Nat} {q : Nat × List xm_F} (h : xm_as ix kn_3 = some q) : (pg.1 61).2.2.2.1 ix = some q := h
theorem xo_61 {ix q : Nat} (h : (ym_61).2.2.2.2.2 ix = q) : (pg.1 61).2.2.2.2.2 ix = q := h
theorem in_62 {pc : Nat} {i : Jvm.ClassFile.Instr × Nat} (h : xm_tb pc tb_62 = some i) : (pg.1 62).1 pc = some i := h
theorem nl_62 {a : Nat} (h : Nat.ble (a + 1) 4 = true) : a < pg.2.1 62 := Nat.le_of_ble_eq_true h
theorem kd_62 : pg.2.2.1 62 = 4 := rfl
theorem cl_62 {ix : Nat} {q : Nat × Nat × Nat × Nat} (h : xm_as ix kl_3 = some q) : pg.2.2.2 62 ix = some q := h
theorem fo_62 {ix : Nat} {q : Nat × Nat × Nat} (h : xm_as ix kf_3 = some q) : (pg.1 62).2.2.1 ix = some q := h
theorem ko_62 {ix : Nat} {q : xm_V} (h : xm_as ix kc_3 = some q) : (pg.1 62).2.1 ix = some q := h
theorem so_62 {ix : Nat} {q : Nat} (h : xm_as ix ks_3 = some q) : (pg.1 62).2.2.2.2.1 ix = some q := h
theorem no_62 {ix : Nat} {q : Nat × List xm_F} (h : xm_as ix kn_3 = some q) : (pg.1 62).2.2.2.1 ix = some q := h
theorem xo_62 {ix q : Nat} (h : (ym_62).2.2.2.2.2 ix = q) : (pg.1 62).2.2.2.2.2 ix = q := h
theorem in_63 {pc : Nat} {i : Jvm.ClassFile.Instr × Nat} (h : xm_tb pc tb_63 = some i) : (pg.1 63).1 pc = some i := h
theorem nl_63 {a : Nat} (h : Nat.ble (a + 1) 4 = true) : a < pg.2.1 63 := Nat.le_of_ble_eq_true h
theorem kd_63 : pg.2.2.1 63 = 4 := rfl
theorem cl_63 {ix : Nat} {q : Nat × Nat × Nat × Nat} (h : xm_as ix kl_3 = some q) : pg.2.2.2 63 ix = some q := h
theorem fo_63 {ix : Nat} {q : Nat × Nat × Nat} (h : xm_as ix kf_3 = some q) : (pg.1 63).2.2.1 ix = some q := h
theorem ko_63 {ix : Nat} {q : xm_V} (h : xm_as ix kc_3 = some q) : (pg.1 63).2.1 ix = some q := h
theorem so_63 {ix : Nat} {q : Nat} (h : xm_as ix ks_3 = some q) : (pg.1 63).2.2.2.2.1 ix = some q := h
theorem no_63 {ix : Nat} {q : Nat × List xm_F} (h : xm_as ix kn_3 = some q) : (pg.1 63).2.2.2.1 ix = some q := h
theorem xo_63 {ix q : Nat} (h : (ym_63).2.2.2.2.2 ix = q) : (pg.1 63).2.2.2.2.2 ix = q := h
theorem in_64 {pc : Nat} {i : Jvm.ClassFile.Instr × Nat} (h : xm_tb pc tb_64 = some i) : (pg.1 64).1 pc = some i := h
theorem nl_64 {a : Nat} (h : Nat.ble (a + 1) 4 = true) : a < pg.2.1 64 := Nat.le_of_ble_eq_true h
theorem kd_64 : pg.2.2.1 64 = 4 := rfl
theorem cl_64 {ix : Nat} {q : Nat × Nat × Nat × Nat} (h : xm_as ix kl_3 = some q) : pg.2.2.2 64 ix = some q := h
theorem fo_64 {ix : Nat} {q : Nat × Nat × Nat} (h : xm_as ix kf_3 = some q) : (pg.1 64).2.2.1 ix = some q := h
theorem ko_64 {ix : Nat} {q : xm_V} (h : xm_as ix kc_3 = some q) : (pg.1 64).2.1 ix = some q := h
theorem so_64 {ix : Nat} {q : Nat} (h : xm_as ix ks_3 = some q) : (pg.1 64).2.2.2.2.1 ix = some q := h
theorem no_64 {ix : Nat} {q : Nat × List xm_F} (h : xm_as ix kn_3 = some q) : (pg.1 64).2.2.2.1 ix = some q := h
theorem xo_64 {ix q : Nat} (h : (ym_64).2.2.2.2.2 ix = q) : (pg.1 64).2.2.2.2.2 ix = q := h
theorem in_65 {pc : Nat} {i : Jvm.ClassFile.Instr × Nat} (h : xm_tb pc tb_65 = some i) : (pg.1 65).1 pc = some i := h
theorem nl_65 {a : Nat} (h : Nat.ble (a + 1) 5 = true) : a < pg.2.1 65 := Nat.le_of_ble_eq_true h
theorem kd_65 : pg.2.2.1 65 = 1 := rfl
theorem cl_65 {ix : Nat} {q : Nat × Nat × Nat × Nat} (h : xm_as ix kl_3 = some q) : pg.2.2.2 65 ix = some q := h
theorem fo_65 {ix : Nat} {q : Nat × Nat × Nat} (h : xm_as ix kf_3 = some q) : (pg.1 65).2.2.1 ix = some q := h
theorem ko_65 {ix : Nat} {q : xm_V} (h : xm_as ix kc_3 = some q) : (pg.1 65).2.1 ix = some q := h
theorem so_65 {ix : Nat} {q : Nat} (h : xm_as ix ks_3 = some q) : (pg.1 65).2.2.2.2.1 ix = some q := h
theorem no_65 {ix : Nat} {q : Nat × List xm_F} (h : xm_as ix kn_3 = some q) : (pg.1 65).2.2.2.1 ix = some q := h
theorem xo_65 {ix q : Nat} (h : (ym_65).2.2.2.2.2 ix = q) : (pg.1 65).2.2.2.2.2 ix = q := h
theorem in_66 {pc : Nat} {i : Jvm.ClassFile.Instr × Nat} (h : xm_tb pc tb_66 = some i) : (pg.1 66).1 pc = some i := h
theorem nl_66 {a : Nat} (h : Nat.ble (a + 1) 5 = true) : a < pg.2.1 66 := Nat.le_of_ble_eq_true h
theorem kd_66 : pg.2.2.1 66 = 4 := rfl
theorem cl_66 {ix : Nat} {q : Nat × Nat × Nat × Nat} (h : xm_as ix kl_3 = some q) : pg.2.2.2 66 ix = some q := h
theorem fo_66 {ix : Nat} {q : Nat × Nat × Nat} (h : xm_as ix kf_3 = some q) : (pg.1 66).2.2.1 ix = some q := h
theorem ko_66 {ix : Nat} {q : xm_V} (h : xm_as ix kc_3 = some q) : (pg.1 66).2.1 ix = some q := h
theorem so_66 {ix : Nat} {q : Nat} (h : xm_as ix ks_3 = some q) : (pg.1 66).2.2.2.2.1 ix = some q := h
theorem no_66 {ix : Nat} {q : Nat × List xm_F} (h : xm_as ix kn_3 = some q) : (pg.1 66).2.2.2.1 ix = some q := h
theorem xo_66 {ix q : Nat} (h : (ym_66).2.2.2.2.2 ix = q) : (pg.1 66).2.2.2.2.2 ix = q := h
theorem in_67 {pc : Nat} {i : Jvm.ClassFile.Instr × Nat} (h : xm_tb pc tb_67 = some i) : (pg.1 67).1 pc = some i := h
theorem nl_67 {a : Nat} (h : Nat.ble (a + 1) 4 = true) : a < pg.2.1 67 := Nat.le_of_ble_eq_true h
theorem kd_67 : pg.2.2.1 67 = 1 := rfl
theorem cl_67 {ix : Nat} {q : Nat × Nat × Nat × Nat} (h : xm_as ix kl_3 = some q) : pg.2.2.2 67 ix = some q := h
theorem fo_67 {ix : Nat} {q : Nat × Nat × Nat} (h : xm_as ix kf_3 = some q) : (pg.1 67).2.2.1 ix = some q := h
theorem ko_67 {ix : Nat} {q : xm_V} (h : xm_as ix kc_3 = some q) : (pg.1 67).2.1 ix = some q := h
theorem so_67 {ix : Nat} {q : Nat} (h : xm_as ix ks_3 = some q) : (pg.1 67).2.2.2.2.1 ix = some q := h
theorem no_67 {ix : Nat} {q : Nat × List xm_F} (h : xm_as ix kn_3 = some q) : (pg.1 67).2.2.2.1 ix = some q := h
theorem xo_67 {ix q : Nat} (h : (ym_67).2.2.2.2.2 ix = q) : (pg.1 67).2.2.2.2.2 ix = q := h
theorem in_68 {pc : Nat} {i : Jvm.ClassFile.Instr × Nat} (h : xm_tb pc tb_68 = some i) : (pg.1 68).1 pc = some i := h
theorem nl_68 {a : Nat} (h : Nat.ble (a + 1) 4 = true) : a < pg.2.1 68 := Nat.le_of_ble_eq_true h
theorem kd_68 : pg.2.2.1 68 = 1 := rfl
theorem cl_68 {ix : Nat} {q : Nat × Nat × Nat × Nat} (h : xm_as ix kl_3 = some q) : pg.2.2.2 68 ix = some q := h
theorem fo_68 {ix : Nat} {q : Nat × Nat × Nat} (h : xm_as ix kf_3 = some q) : (pg.1 68).2.2.1 ix = some q := h
theorem ko_68 {ix : Nat} {q : xm_V} (h : xm_as ix kc_3 = some q) : (pg.1 68).2.1 ix = some q := h
theorem so_68 {ix : Nat} {q : Nat} (h : xm_as ix ks_3 = some q) : (pg.1 68).2.2.2.2.1 ix = some q := h
theorem no_68 {ix : Nat} {q : Nat × List xm_F} (h : xm_as ix kn_3 = some q) : (pg.1 68).2.2.2.1 ix = some q := h
theorem xo_68 {ix q : Nat} (h : (ym_68).2.2.2.2.2 ix = q) : (pg.1 68).2.2.2.2.2 ix = q := h
theorem in_69 {pc : Nat} {i : Jvm.ClassFile.Instr × Nat} (h : xm_tb pc tb_69 = some i) : (pg.1 69).1 pc = some i := h
theorem nl_69 {a : Nat} (h : Nat.ble (a + 1) 4 = true) : a < pg.2.1 69 := Nat.le_of_ble_eq_true h
theorem kd_69 : pg.2.2.1 69 = 0 := rfl
theorem cl_69 {ix : Nat} {q : Nat × Nat × Nat × Nat} (h : xm_as ix kl_6 = some q) : pg.2.2.2 69 ix = some q := h
theorem fo_69 {ix : Nat} {q : Nat × Nat × Nat} (h : xm_as ix kf_6 = some q) : (pg.1 69).2.2.1 ix = some q := h
theorem ko_69 {ix : Nat} {q : xm_V} (h : xm_as ix kc_6 = some q) : (pg.1 69).2.1 ix = some q := h
theorem so_69 {ix : Nat} {q : Nat} (h : xm_as ix ks_6 = some q) : (pg.1 69).2.2.2.2.1 ix = some q := h
theorem no_69 {ix : Nat} {q : Nat × List xm_F} (h : xm_as ix kn_6 = some q) : (pg.1 69).2.2.2.1 ix = some q := h
theorem xo_69 {ix q : Nat} (h : (ym_69).2.2.2.2.2 ix = q) : (pg.1 69).2.2.2.2.2 ix = q := h
theorem in_70 {pc : Nat} {i : Jvm.ClassFile.Instr × Nat} (h : xm_tb pc tb_70 = some i) : (pg.1 70).1 pc = some i := h
theorem nl_70 {a : Nat} (h : Nat.ble (a + 1) 2 = true) : a < pg.2.1 70 := Nat.le_of_ble_eq_true h
theorem kd_70 : pg.2.2.1 70 = 0 := rfl
theorem cl_70 {ix : Nat} {q : Nat × Nat × Nat × Nat} (h : xm_as ix kl_6 = some q) : pg.2.2.2 70 ix = some q := h
theorem fo_70 {ix : Nat} {q : Nat × Nat × Nat} (h : xm_as ix kf_6 = some q) : (pg.1 70).2.2.1 ix = some q := h
theorem ko_70 {ix : Nat} {q : xm_V} (h : xm_as ix kc_6 = some q) : (pg.1 70).2.1 ix = some q := h
theorem so_70 {ix : Nat} {q : Nat} (h : xm_as ix ks_6 = some q) : (pg.1 70).2.2.2.2.1 ix = some q := h
theorem no_70 {ix : Nat} {q : Nat × List xm_F} (h : xm_as ix kn_6 = some q) : (pg.1 70).2.2.2.1 ix = some q := h
theorem xo_70 {ix q : Nat} (h : (ym_70).2.2.2.2.2 ix = q) : (pg.1 70).2.2.2.2.2 ix = q := h
theorem in_71 {pc : Nat} {i : Jvm.ClassFile.Instr × Nat} (h : xm_tb pc tb_71 = some i) : (pg.1 71).1 pc = some i := h
theorem nl_71 {a : Nat} (h : Nat.ble (a + 1) 2 = true) : a < pg.2.1 71 := Nat.le_of_ble_eq_true h
theorem kd_71 : pg.2.2.1 71 = 1 := rfl
theorem cl_71 {ix : Nat} {q : Nat × Nat × Nat × Nat} (h : xm_as ix kl_6 = some q) : pg.2.2.2 71 ix = some q := h
theorem fo_71 {ix : Nat} {q : Nat × Nat × Nat} (h : xm_as ix kf_6 = some q) : (pg.1 71).2.2.1 ix = some q := h
theorem ko_71 {ix : Nat} {q : xm_V} (h : xm_as ix kc_6 = some q) : (pg.1 71).2.1 ix = some q := h
theorem so_71 {ix : Nat} {q : Nat} (h : xm_as ix ks_6 = some q) : (pg.1 71).2.2.2.2.1 ix = some q := h
theorem no_71 {ix : Nat} {q : Nat × List xm_F} (h : xm_as ix kn_6 = some q) : (pg.1 71).2.2.2.1 ix = some q := h
theorem xo_71 {ix q : Nat} (h : (ym_71).2.2.2.2.2 ix = q) : (pg.1 71).2.2.2.2.2 ix = q := h
theorem in_72 {pc : Nat} {i : Jvm.ClassFile.Instr × Nat} (h : xm_tb pc tb_72 = some i) : (pg.1 72).1 pc = some i := h
theorem nl_72 {a : Nat} (h : Nat.ble (a + 1) 6 = true) : a < pg.2.1 72 := Nat.le_of_ble_eq_true h
theorem kd_72 : pg.2.2.1 72 = 0 := rfl
theorem cl_72 {ix : Nat} {q : Nat × Nat × Nat × Nat} (h : xm_as ix kl_6 = some q) : pg.2.2.2 72 ix = some q := h
theorem fo_72 {ix : Nat} {q : Nat × Nat × Nat} (h : xm_as ix kf_6 = some q) : (pg.1 72).2.2.1 ix = some q := h
theorem ko_72 {ix : Nat} {q : xm_V} (h : xm_as ix kc_6 = some q) : (pg.1 72).2.1 ix = some q := h
theorem so_72 {ix : Nat} {q : Nat} (h : xm_as ix ks_6 = some q) : (pg.1 72).2.2.2.2.1 ix = some q := h
theorem no_72 {ix : Nat} {q : Nat × List xm_F} (h : xm_as ix kn_6 = some q) : (pg.1 72).2.2.2.1 ix = some q := h
theorem xo_72 {ix q : Nat} (h : (ym_72).2.2.2.2.2 ix = q) : (pg.1 72).2.2.2.2.2 ix = q := h
theorem in_73 {pc : Nat} {i : Jvm.ClassFile.Instr × Nat} (h : xm_tb pc tb_73 = some i) : (pg.1 73).1 pc = some i := h
theorem nl_73 {a : Nat} (h : Nat.ble (a + 1) 4 = true) : a < pg.2.1 73 := Nat.le_of_ble_eq_true h
theorem kd_73 : pg.2.2.1 73 = 0 := rfl
theorem cl_73 {ix : Nat} {q : Nat × Nat × Nat × Nat} (h : xm_as ix kl_6 = some q) : pg.2.2.2 73 ix = some q := h
theorem fo_73 {ix : Nat} {q : Nat × Nat × Nat} (h : xm_as ix kf_6 = some q) : (pg.1 73).2.2.1 ix = some q := h
theorem ko_73 {ix : Nat} {q : xm_V} (h : xm_as ix kc_6 = some q) : (pg.1 73).2.1 ix = some q := h
theorem so_73 {ix : Nat} {q : Nat} (h : xm_as ix ks_6 = some q) : (pg.1 73).2.2.2.2.1 ix = some q := h
theorem no_73 {ix : Nat} {q : Nat × List xm_F} (h : xm_as ix kn_6 = some q) : (pg.1 73).2.2.2.1 ix = some q := h
theorem xo_73 {ix q : Nat} (h : (ym_73).2.2.2.2.2 ix = q) : (pg.1 73).2.2.2.2.2 ix = q := h
theorem in_74 {pc : Nat} {i : Jvm.ClassFile.Instr × Nat} (h : xm_tb pc tb_74 = some i) : (pg.1 74).1 pc = some i := h
theorem nl_74 {a : Nat} (h : Nat.ble (a + 1) 2 = true) : a < pg.2.1 74 := Nat.le_of_ble_eq_true h
theorem kd_74 : pg.2.2.1 74 = 1 := rfl
theorem cl_74 {ix : Nat} {q : Nat × Nat × Nat × Nat} (h : xm_as ix kl_0 = some q) : pg.2.2.2 74 ix = some q := h
theorem fo_74 {ix : Nat} {q : Nat × Nat × Nat} (h : xm_as ix kf_0 = some q) : (pg.1 74).2.2.1 ix = some q := h
theorem ko_74 {ix : Nat} {q : xm_V} (h : xm_as ix kc_0 = some q) : (pg.1 74).2.1 ix = some q := h
theorem so_74 {ix : Nat} {q : Nat} (h : xm_as ix ks_0 = some q) : (pg.1 74).2.2.2.2.1 ix = some q := h
theorem no_74 {ix : Nat} {q : Nat × List xm_F} (h : xm_as ix kn_0 = some q) : (pg.1 74).2.2.2.1 ix = some q := h
theorem xo_74 {ix q : Nat} (h : (ym_74).2.2.2.2.2 ix = q) : (pg.1 74).2.2.2.2.2 ix = q := h
theorem in_75 {pc : Nat} {i : Jvm.ClassFile.Instr × Nat} (h : xm_tb pc tb_75 = some i) : (pg.1 75).1 pc = some i := h
theorem nl_75 {a : Nat} (h : Nat.ble (a + 1) 3 = true) : a < pg.2.1 75 := Nat.le_of_ble_eq_true h
theorem kd_75 : pg.2.2.1 75 = 1 := rfl
theorem cl_75 {ix : Nat} {q : Nat × Nat × Nat × Nat} (h : xm_as ix kl_0 = some q) : pg.2.2.2 75 ix = some q := h
theorem fo_75 {ix : Nat} {q : Nat × Nat × Nat} (h : xm_as ix kf_0 = some q) : (pg.1 75).2.2.1 ix = some q := h
theorem ko_75 {ix : Nat} {q : xm_V} (h : xm_as ix kc_0 = some q) : (pg.1 75).2.1 ix = some q := h
theorem so_75 {ix : Nat} {q : Nat} (h : xm_as ix ks_0 = some q) : (pg.1 75).2.2.2.2.1 ix = some q := h
theorem no_75 {ix : Nat} {q : Nat × List xm_F} (h : xm_as ix kn_0 = some q) : (pg.1 75).2.2.2.1 ix = some q := h
theorem xo_75 {ix q : Nat} (h : (ym_75).2.2.2.2.2 ix = q) : (pg.1 75).2.2.2.2.2 ix = q := h
theorem in_76 {pc : Nat} {i : Jvm.ClassFile.Instr × Nat} (h : xm_tb pc tb_76 = some i) : (pg.1 76).1 pc = some i := h
theorem nl_76 {a : Nat} (h : Nat.ble (a + 1) 2 = true) : a < pg.2.1 76 := Nat.le_of_ble_eq_true h
theorem kd_76 : pg.2.2.1 76 = 4 := rfl
theorem cl_76 {ix : Nat} {q : Nat × Nat × Nat × Nat} (h : xm_as ix kl_6 = some q) : pg.2.2.2 76 ix = some q := h
theorem fo_76 {ix : Nat} {q : Nat × Nat × Nat} (h : xm_as ix kf_6 = some q) : (pg.1 76).2.2.1 ix = some q := h
theorem ko_76 {ix : Nat} {q : xm_V} (h : xm_as ix kc_6 = some q) : (pg.1 76).2.1 ix = some q := h
theorem so_76 {ix : Nat} {q : Nat} (h : xm_as ix ks_6 = some q) : (pg.1 76).2.2.2.2.1 ix = some q := h
theorem no_76 {ix : Nat} {q : Nat × List xm_F} (h : xm_as ix kn_6 = some q) : (pg.1 76).2.2.2.1 ix = some q := h
theorem xo_76 {ix q : Nat} (h : (ym_76).2.2.2.2.2 ix = q) : (pg.1 76).2.2.2.2.2 ix = q := h
theorem in_77 {pc : Nat} {i : Jvm.ClassFile.Instr × Nat} (h : xm_tb pc tb_77 = some i) : (pg.1 77).1 pc = some i := h
theorem nl_77 {a : Nat} (h : Nat.ble (a + 1) 1 = true) : a < pg.2.1 77 := Nat.le_of_ble_eq_true h
theorem kd_77 : pg.2.2.1 77 = 4 := rfl
theorem cl_77 {ix : Nat} {q : Nat × Nat × Nat × Nat} (h : xm_as ix kl_0 = some q) : pg.2.2.2 77 ix = some q := h
theorem fo_77 {ix : Nat} {q : Nat × Nat × Nat} (h : xm_as ix kf_0 = some q) : (pg.1 77).2.2.1 ix = some q := h
theorem ko_77 {ix : Nat} {q : xm_V} (h : xm_as ix kc_0 = some q) : (pg.1 77).2.1 ix = some q := h
theorem so_77 {ix : Nat} {q : Nat} (h : xm_as ix ks_0 = some q) : (pg.1 77).2.2.2.2.1 ix = some q := h
theorem no_77 {ix : Nat} {q : Nat × List xm_F} (h : xm_as ix kn_0 = some q) : (pg.1 77).2.2.2.1 ix = some q := h
theorem xo_77 {ix q : Nat} (h : (ym_77).2.2.2.2.2 ix = q) : (pg.1 77).2.2.2.2.2 ix = q := h
theorem in_78 {pc : Nat} {i : Jvm.ClassFile.Instr × Nat} (h : xm_tb pc tb_78 = some i) : (pg.1 78).1 pc = some i := h
theorem nl_78 {a : Nat} (h : Nat.ble (a + 1) 3 = true) : a < pg.2.1 78 := Nat.le_of_ble_eq_true h
theorem kd_78 : pg.2.2.1 78 = 1 := rfl
theorem cl_78 {ix : Nat} {q : Nat × Nat × Nat × Nat} (h : xm_as ix kl_0 = some q) : pg.2.2.2 78 ix = some q := h
theorem fo_78 {ix : Nat} {q : Nat × Nat × Nat} (h : xm_as ix kf_0 = some q) : (pg.1 78).2.2.1 ix = some q := h
theorem ko_78 {ix : Nat} {q : xm_V} (h : xm_as ix kc_0 = some q) : (pg.1 78).2.1 ix = some q := h
theorem so_78 {ix : Nat} {q : Nat} (h : xm_as ix ks_0 = some q) : (pg.1 78).2.2.2.2.1 ix = some q := h
theorem no_78 {ix : Nat} {q : Nat × List xm_F} (h : xm_as ix kn_0 = some q) : (pg.1 78).2.2.2.1 ix = some q := h
theorem xo_78 {ix q : Nat} (h : (ym_78).2.2.2.2.2 ix = q) : (pg.1 78).2.2.2.2.2 ix = q := h
theorem in_79 {pc : Nat} {i : Jvm.ClassFile.Instr × Nat} (h : xm_tb pc tb_79 = some i) : (pg.1 79).1 pc = some i := h
theorem nl_79 {a : Nat} (h : Nat.ble (a + 1) 1 = true) : a < pg.2.1 79 := Nat.le_of_ble_eq_true h
theorem kd_79 : pg.2.2.1 79 = 0 := rfl
theorem cl_79 {ix : Nat} {q : Nat × Nat × Nat × Nat} (h : xm_as ix kl_9 = some q) : pg.2.2.2 79 ix = some q := h
theorem fo_79 {ix : Nat} {q : Nat × Nat × Nat} (h : xm_as ix kf_9 = some q) : (pg.1 79).2.2.1 ix = some q := h
theorem ko_79 {ix : Nat} {q : xm_V} (h : xm_as ix kc_9 = some q) : (pg.1 79).2.1 ix = some q := h
theorem so_79 {ix : Nat} {q : Nat} (h : xm_as ix ks_9 = some q) : (pg.1 79).2.2.2.2.1 ix = some q := h
theorem no_79 {ix : Nat} {q : Nat × List xm_F} (h : xm_as ix kn_9 = some q) : (pg.1 79).2.2.2.1 ix = some q := h
theorem xo_79 {ix q : Nat} (h : (ym_79).2.2.2.2.2 ix = q) : (pg.1 79).2.2.2.2.2 ix = q := h
theorem in_80 {pc : Nat} {i : Jvm.ClassFile.Instr × Nat} (h : xm_tb pc tb_80 = some i) : (pg.1 80).1 pc = some i := h
theorem nl_80 {a : Nat} (h : Nat.ble (a + 1) 4 = true) : a < pg.2.1 80 := Nat.le_of_ble_eq_true h
theorem kd_80 : pg.2.2.1 80 = 1 := rfl
theorem cl_80 {ix : Nat} {q : Nat × Nat × Nat × Nat} (h : xm_as ix kl_9 = some q) : pg.2.2.2 80 ix = some q := h
theorem fo_80 {ix : Nat} {q : Nat × Nat × Nat} (h : xm_as ix kf_9 = some q) : (pg.1 80).2.2.1 ix = some q := h
theorem ko_80 {ix : Nat} {q : xm_V} (h : xm_as ix kc_9 = some q) : (pg.1 80).2.1 ix = some q := h
theorem so_80 {ix : Nat} {q : Nat} (h : xm_as ix ks_9 = some q) : (pg.1 80).2.2.2.2.1 ix = some q := h
theorem no_80 {ix : Nat} {q : Nat × List xm_F} (h : xm_as ix kn_9 = some q) : (pg.1 80).2.2.2.1 ix = some q := h
theorem xo_80 {ix q : Nat} (h : (ym_80).2.2.2.2.2 ix = q) : (pg.1 80).2.2.2.2.2 ix = q := h
theorem in_81 {pc : Nat} {i : Jvm.ClassFile.Instr × Nat} (h : xm_tb pc tb_81 = some i) : (pg.1 81).1 pc = some i := h
theorem nl_81 {a : Nat} (h : Nat.ble (a + 1) 2 = true) : a < pg.2.1 81 := Nat.le_of_ble_eq_true h
theorem kd_81 : pg.2.2.1 81 = 4 := rfl
theorem cl_81 {ix : Nat} {q : Nat × Nat × Nat × Nat} (h : xm_as ix kl_9 = some q) : pg.2.2.2 81 ix = some q := h
theorem fo_81 {ix : Nat} {q : Nat × Nat × Nat} (h : xm_as ix kf_9 = some q) : (pg.1 81).2.2.1 ix = some q := h
theorem ko_81 {ix : Nat} {q : xm_V} (h : xm_as ix kc_9 = some q) : (pg.1 81).2.1 ix = some q := h
theorem so_81 {ix : Nat} {q : Nat} (h : xm_as ix ks_9 = some q) : (pg.1 81).2.2.2.2.1 ix = some q := h
theorem no_81 {ix : Nat} {q : Nat × List xm_F} (h : xm_as ix kn_9 = some q) : (pg.1 81).2.2.2.1 ix = some q := h
theorem xo_81 {ix q : Nat} (h : (ym_81).2.2.2.2.2 ix = q) : (pg.1 81).2.2.2.2.2 ix = q := h
theorem in_82 {pc : Nat} {i : Jvm.ClassFile.Instr × Nat} (h : xm_tb pc tb_82 = some i) : (pg.1 82).1 pc = some i := h
theorem nl_82 {a : Nat} (h : Nat.ble (a + 1) 1 = true) : a < pg.2.1 82 := Nat.le_of_ble_eq_true h
theorem kd_82 : pg.2.2.1 82 = 4 := rfl
theorem cl_82 {ix : Nat} {q : Nat × Nat × Nat × Nat} (h : xm_as ix kl_9 = some q) : pg.2.2.2 82 ix = some q := h
theorem fo_82 {ix : Nat} {q : Nat × Nat × Nat} (h : xm_as ix kf_9 = some q) : (pg.1 82).2.2.1 ix = some q := h
theorem ko_82 {ix : Nat} {q : xm_V} (h : xm_as ix kc_9 = some q) : (pg.1 82).2.1 ix = some q := h
theorem so_82 {ix : Nat} {q : Nat} (h : xm_as ix ks_9 = some q) : (pg.1 82).2.2.2.2.1 ix = some q := h
theorem no_82 {ix : Nat} {q : Nat × List xm_F} (h : xm_as ix kn_9 = some q) : (pg.1 82).2.2.2.1 ix = some q := h
theorem xo_82 {ix q : Nat} (h : (ym_82).2.2.2.2.2 ix = q) : (pg.1 82).2.2.2.2.2 ix = q := h
theorem in_83 {pc : Nat} {i : Jvm.ClassFile.Instr × Nat} (h : xm_tb pc tb_83 = some i) : (pg.1 83).1 pc = some i := h
theorem nl_83 {a : Nat} (h : Nat.ble (a + 1) 5 = true) : a < pg.2.1 83 := Nat.le_of_ble_eq_true h
theorem kd_83 : pg.2.2.1 83 = 1 := rfl
theorem cl_83 {ix : Nat} {q : Nat × Nat × Nat × Nat} (h : xm_as ix kl_9 = some q) : pg.2.2.2 83 ix = some q := h
theorem fo_83 {ix : Nat} {q : Nat × Nat × Nat} (h : xm_as ix kf_9 = some q) : (pg.1 83).2.2.1 ix = some q := h
theorem ko_83 {ix : Nat} {q : xm_V} (h : xm_as ix kc_9 = some q) : (pg.1 83).2.1 ix = some q := h
theorem so_83 {ix : Nat} {q : Nat} (h : xm_as ix ks_9 = some q) : (pg.1 83).2.2.2.2.1 ix = some q := h
theorem no_83 {ix : Nat} {q : Nat × List xm_F} (h : xm_as ix kn_9 = some q) : (pg.1 83).2.2.2.1 ix = some q := h
theorem xo_83 {ix q : Nat} (h : (ym_83).2.2.2.2.2 ix = q) : (pg.1 83).2.2.2.2.2 ix = q := h
theorem in_84 {pc : Nat} {i : Jvm.ClassFile.Instr × Nat} (h : xm_tb pc tb_84 = some i) : (pg.1 84).1 pc = some i := h
theorem nl_84 {a : Nat} (h : Nat.ble (a + 1) 9 = true) : a < pg.2.1 84 := Nat.le_of_ble_eq_true h
theorem kd_84 : pg.2.2.1 84 = 1 := rfl
theorem cl_84 {ix : Nat} {q : Nat × Nat × Nat × Nat} (h : xm_as ix kl_9 = some q) : pg.2.2.2 84 ix = some q := h
theorem fo_84 {ix : Nat} {q : Nat × Nat × Nat} (h : xm_as ix kf_9 = some q) : (pg.1 84).2.2.1 ix = some q := h
theorem ko_84 {ix : Nat} {q : xm_V} (h : xm_as ix kc_9 = some q) : (pg.1 84).2.1 ix = some q := h
theorem so_84 {ix : Nat} {q : Nat} (h : xm_as ix ks_9 = some q) : (pg.1 84).2.2.2.2.1 ix = some q := h
theorem no_84 {ix : Nat} {q : Nat × List xm_F} (h : xm_as ix kn_9 = some q) : (pg.1 84).2.2.2.1 ix = some q := h
theorem xo_84 {ix q : Nat} (h : (ym_84).2.2.2.2.2 ix = q) : (pg.1 84).2.2.2.2.2 ix = q := h
theorem in_85 {pc : Nat} {i : Jvm.ClassFile.Instr × Nat} (h : xm_tb pc tb_85 = some i) : (pg.1 85).1 pc = some i := h
theorem nl_85 {a : Nat} (h : Nat.ble (a + 1) 1 = true) : a < pg.2.1 85 := Nat.le_of_ble_eq_true h
theorem kd_85 : pg.2.2.1 85 = 1 := rfl
theorem cl_85 {ix : Nat} {q : Nat × Nat × Nat × Nat} (h : xm_as ix kl_9 = some q) : pg.2.2.2 85 ix = some q := h
theorem fo_85 {ix : Nat} {q : Nat × Nat × Nat} (h : xm_as ix kf_9 = some q) : (pg.1 85).2.2.1 ix = some q := h
theorem ko_85 {ix : Nat} {q : xm_V} (h : xm_as ix kc_9 = some q) : (pg.1 85).2.1 ix = some q := h
theorem so_85 {ix : Nat} {q : Nat} (h : xm_as ix ks_9 = some q) : (pg.1 85).2.2.2.2.1 ix = some q := h
theorem no_85 {ix : Nat} {q : Nat × List xm_F} (h : xm_as ix kn_9 = some q) : (pg.1 85).2.2.2.1 ix = some q := h
theorem xo_85 {ix q : Nat} (h : (ym_85).2.2.2.2.2 ix = q) : (pg.1 85).2.2.2.2.2 ix = q := h
theorem in_86 {pc : Nat} {i : Jvm.ClassFile.Instr × Nat} (h : xm_tb pc tb_86 = some i) : (pg.1 86).1 pc = some i := h
theorem nl_86 {a : Nat} (h : Nat.ble (a + 1) 1 = true) : a < pg.2.1 86 := Nat.le_of_ble_eq_true h
theorem kd_86 : pg.2.2.1 86 = 1 := rfl
theorem cl_86 {ix : Nat} {q : Nat × Nat × Nat × Nat} (h : xm_as ix kl_9 = some q) : pg.2.2.2 86 ix = some q := h
theorem fo_86 {ix : Nat} {q : Nat × Nat × Nat} (h : xm_as ix kf_9 = some q) : (pg.1 86).2.2.1 ix = some q := h
theorem ko_86 {ix : Nat} {q : xm_V} (h : xm_as ix kc_9 = some q) : (pg.1 86).2.1 ix = some q := h
theorem so_86 {ix : Nat} {q : Nat} (h : xm_as ix ks_9 = some q) : (pg.1 86).2.2.2.2.1 ix = some q := h
theorem no_86 {ix : Nat} {q : Nat × List xm_F} (h : xm_as ix kn_9 = some q) : (pg.1 86).2.2.2.1 ix = some q := h
theorem xo_86 {ix q : Nat} (h : (ym_86).2.2.2.2.2 ix = q) : (pg.1 86).2.2.2.2.2 ix = q := h
theorem in_87 {pc : Nat} {i : Jvm.ClassFile.Instr × Nat} (h : xm_tb pc tb_87 = some i) : (pg.1 87).1 pc = some i := h
theorem nl_87 {a : Nat} (h : Nat.ble (a + 1) 16 = true) : a < pg.2.1 87 := Nat.le_of_ble_eq_true h
theorem kd_87 : pg.2.2.1 87 = 1 := rfl
theorem cl_87 {ix : Nat} {q : Nat × Nat × Nat × Nat} (h : xm_as ix kl_9 = some q) : pg.2.2.2 87 ix = some q := h
theorem fo_87 {ix : Nat} {q : Nat × Nat × Nat} (h : xm_as ix kf_9 = some q) : (pg.1 87).2.2.1 ix = some q := h
theorem ko_87 {ix : Nat} {q : xm_V} (h : xm_as ix kc_9 = some q) : (pg.1 87).2.1 ix = some q := h
theorem so_87 {ix : Nat} {q : Nat} (h : xm_as ix ks_9 = some q) : (pg.1 87).2.2.2.2.1 ix = some q := h
theorem no_87 {ix : Nat} {q : Nat × List xm_F} (h : xm_as ix kn_9 = some q) : (pg.1 87).2.2.2.1 ix = some q := h
theorem xo_87 {ix q : Nat} (h : (ym_87).2.2.2.2.2 ix = q) : (pg.1 87).2.2.2.2.2 ix = q := h
theorem in_88 {pc : Nat} {i : Jvm.ClassFile.Instr × Nat} (h : xm_tb pc tb_88 = some i) : (pg.1 88).1 pc = some i := h
theorem nl_88 {a : Nat} (h : Nat.ble (a + 1) 7 = true) : a < pg.2.1 88 := Nat.le_of_ble_eq_true h
theorem kd_88 : pg.2.2.1 88 = 1 := rfl
theorem cl_88 {ix : Nat} {q : Nat × Nat × Nat × Nat} (h : xm_as ix kl_9 = some q) : pg.2.2.2 88 ix = some q := h
theorem fo_88 {ix : Nat} {q : Nat × Nat × Nat} (h : xm_as ix kf_9 = some q) : (pg.1 88).2.2.1 ix = some q := h
theorem ko_88 {ix : Nat} {q : xm_V} (h : xm_as ix kc_9 = some q) : (pg.1 88).2.1 ix = some q := h
theorem so_88 {ix : Nat} {q : Nat} (h : xm_as ix ks_9 = some q) : (pg.1 88).2.2.2.2.1 ix = some q := h
theorem no_88 {ix : Nat} {q : Nat × List xm_F} (h : xm_as ix kn_9 = some q) : (pg.1 88).2.2.2.1 ix = some q := h
theorem xo_88 {ix q : Nat} (h : (ym_88).2.2.2.2.2 ix = q) : (pg.1 88).2.2.2.2.2 ix = q := h
theorem in_89 {pc : Nat} {i : Jvm.ClassFile.Instr × Nat} (h : xm_tb pc tb_89 = some i) : (pg.1 89).1 pc = some i := h
theorem nl_89 {a : Nat} (h : Nat.ble (a + 1) 4 = true) : a < pg.2.1 89 := Nat.le_of_ble_eq_true h
theorem kd_89 : pg.2.2.1 89 = 1 := rfl
theorem cl_89 {ix : Nat} {q : Nat × Nat × Nat × Nat} (h : xm_as ix kl_9 = some q) : pg.2.2.2 89 ix = some q := h
theorem fo_89 {ix : Nat} {q : Nat × Nat × Nat} (h : xm_as ix kf_9 = some q) : (pg.1 89).2.2.1 ix = some q := h
theorem ko_89 {ix : Nat} {q : xm_V} (h : xm_as ix kc_9 = some q) : (pg.1 89).2.1 ix = some q := h
theorem so_89 {ix : Nat} {q : Nat} (h : xm_as ix ks_9 = some q) : (pg.1 89).2.2.2.2.1 ix = some q := h
theorem no_89 {ix : Nat} {q : Nat × List xm_F} (h : xm_as ix kn_9 = some q) : (pg.1 89).2.2.2.1 ix = some q := h
theorem xo_89 {ix q : Nat} (h : (ym_89).2.2.2.2.2 ix = q) : (pg.1 89).2.2.2.2.2 ix = q := h
theorem in_90 {pc : Nat} {i : Jvm.ClassFile.Instr × Nat} (h : xm_tb pc tb_90 = some i) : (pg.1 90).1 pc = some i := h
theorem nl_90 {a : Nat} (h : Nat.ble (a + 1) 8 = true) : a < pg.2.1 90 := Nat.le_of_ble_eq_true h
theorem kd_90 : pg.2.2.1 90 = 1 := rfl
theorem cl_90 {ix : Nat} {q : Nat × Nat × Nat × Nat} (h : xm_as ix kl_9 = some q) : pg.2.2.2 90 ix = some q := h
theorem fo_90 {ix : Nat} {q : Nat × Nat × Nat} (h : xm_as ix kf_9 = some q) : (pg.1 90).2.2.1 ix = some q := h
theorem ko_90 {ix : Nat} {q : xm_V} (h : xm_as ix kc_9 = some q) : (pg.1 90).2.1 ix = some q := h
theorem so_90 {ix : Nat} {q : Nat} (h : xm_as ix ks_9 = some q) : (pg.1 90).2.2.2.2.1 ix = some q := h
theorem no_90 {ix : Nat} {q : Nat × List xm_F} (h : xm_as ix kn_9 = some q) : (pg.1 90).2.2.2.1 ix = some q := h
theorem xo_90 {ix q : Nat} (h : (ym_90).2.2.2.2.2 ix = q) : (pg.1 90).2.2.2.2.2 ix = q := h
theorem in_91 {pc : Nat} {i : Jvm.ClassFile.Instr × Nat} (h : xm_tb pc tb_91 = some i) : (pg.1 91).1 pc = some i := h
theorem nl_91 {a : Nat} (h : Nat.ble (a + 1) 3 = true) : a < pg.2.1 91 := Nat.le_of_ble_eq_true h
theorem kd_91 : pg.2.2.1 91 = 1 := rfl
theorem cl_91 {ix : Nat} {q : Nat × Nat × Nat × Nat} (h : xm_as ix kl_9 = some q) : pg.2.2.2 91 ix = some q := h
theorem fo_91 {ix : Nat} {q : Nat × Nat × Nat} (h : xm_as ix kf_9 = some q) : (pg.1 91).2.2.1 ix = some q := h
theorem ko_91 {ix : Nat} {q : xm_V} (h : xm_as ix kc_9 = some q) : (pg.1 91).2.1 ix = some q := h
theorem so_91 {ix : Nat} {q : Nat} (h : xm_as ix ks_9 = some q) : (pg.1 91).2.2.2.2.1 ix = some q := h
theorem no_91 {ix : Nat} {q : Nat × List xm_F} (h : xm_as ix kn_9 = some q) : (pg.1 91).2.2.2.1 ix = some q := h
theorem xo_91 {ix q : Nat} (h : (ym_91).2.2.2.2.2 ix = q) : (pg.1 91).2.2.2.2.2 ix = q := h
theorem in_92 {pc : Nat} {i : Jvm.ClassFile.Instr × Nat} (h : xm_tb pc tb_92 = some i) : (pg.1 92).1 pc = some i := h
theorem nl_92 {a : Nat} (h : Nat.ble (a + 1) 4 = true) : a < pg.2.1 92 := Nat.le_of_ble_eq_true h
theorem kd_92 : pg.2.2.1 92 = 0 := rfl
theorem cl_92 {ix : Nat} {q : Nat × Nat × Nat × Nat} (h : xm_as ix kl_9 = some q) : pg.2.2.2 92 ix = some q := h
theorem fo_92 {ix : Nat} {q : Nat × Nat × Nat} (h : xm_as ix kf_9 = some q) : (pg.1 92).2.2.1 ix = some q := h
theorem ko_92 {ix : Nat} {q : xm_V} (h : xm_as ix kc_9 = some q) : (pg.1 92).2.1 ix = some q := h
theorem so_92 {ix : Nat} {q : Nat} (h : xm_as ix ks_9 = some q) : (pg.1 92).2.2.2.2.1 ix = some q := h
theorem no_92 {ix : Nat} {q : Nat × List xm_F} (h : xm_as ix kn_9 = some q) : (pg.1 92).2.2.2.1 ix = some q := h
theorem xo_92 {ix q : Nat} (h : (ym_92).2.2.2.2.2 ix = q) : (pg.1 92).2.2.2.2.2 ix = q := h
theorem in_93 {pc : Nat} {i : Jvm.ClassFile.Instr × Nat} (h : xm_tb pc tb_93 = some i) : (pg.1 93).1 pc = some i := h
theorem nl_93 {a : Nat} (h : Nat.ble (a + 1) 5 = true) : a < pg.2.1 93 := Nat.le_of_ble_eq_true h
theorem kd_93 : pg.2.2.1 93 = 0 := rfl
theorem cl_93 {ix : Nat} {q : Nat × Nat × Nat × Nat} (h : xm_as ix kl_9 = some q) : pg.2.2.2 93 ix = some q := h
theorem fo_93 {ix : Nat} {q : Nat × Nat × Nat} (h : xm_as ix kf_9 = some q) : (pg.1 93).2.2.1 ix = some q := h
theorem ko_93 {ix : Nat} {q : xm_V} (h : xm_as ix kc_9 = some q) : (pg.1 93).2.1 ix = some q := h
theorem so_93 {ix : Nat} {q : Nat} (h : xm_as ix ks_9 = some q) : (pg.1 93).2.2.2.2.1 ix = some q := h
theorem no_93 {ix : Nat} {q : Nat × List xm_F} (h : xm_as ix kn_9 = some q) : (pg.1 93).2.2.2.1 ix = some q := h
theorem xo_93 {ix q : Nat} (h : (ym_93).2.2.2.2.2 ix = q) : (pg.1 93).2.2.2.2.2 ix = q := h
theorem in_94 {pc : Nat} {i : Jvm.ClassFile.Instr × Nat} (h : xm_tb pc tb_94 = some i) : (pg.1 94).1 pc = some i := h
theorem nl_94 {a : Nat} (h : Nat.ble (a + 1) 5 = true) : a < pg.2.1 94 := Nat.le_of_ble_eq_true h
theorem kd_94 : pg.2.2.1 94 = 0 := rfl
theorem cl_94 {ix : Nat} {q : Nat × Nat × Nat × Nat} (h : xm_as ix kl_9 = some q) : pg.2.2.2 94 ix = some q := h
theorem fo_94 {ix : Nat} {q : Nat × Nat × Nat} (h : xm_as ix kf_9 = some q) : (pg.1 94).2.2.1 ix = some q := h
theorem ko_94 {ix : Nat} {q : xm_V} (h : xm_as ix kc_9 = some q) : (pg.1 94).2.1 ix = some q := h
theorem so_94 {ix : Nat} {q : Nat} (h : xm_as ix ks_9 = some q) : (pg.1 94).2.2.2.2.1 ix = some q := h
theorem no_94 {ix : Nat} {q : Nat × List xm_F} (h : xm_as ix kn_9 = some q) : (pg.1 94).2.2.2.1 ix = some q := h
theorem xo_94 {ix q : Nat} (h : (ym_94).2.2.2.2.2 ix = q) : (pg.1 94).2.2.2.2.2 ix = q := h
theorem in_95 {pc : Nat} {i : Jvm.ClassFile.Instr × Nat} (h : xm_tb pc tb_95 = some i) : (pg.1 95).1 pc = some i := h
theorem nl_95 {a : Nat} (h : Nat.ble (a + 1) 7 = true) : a < pg.2.1 95 := Nat.le_of_ble_eq_true h
theorem kd_95 : pg.2.2.1 95 = 0 := rfl
theorem cl_95 {ix : Nat} {q : Nat × Nat × Nat × Nat} (h : xm_as ix kl_9 = some q) : pg.2.2.2 95 ix = some q := h
theorem fo_95 {ix : Nat} {q : Nat × Nat × Nat} (h : xm_as ix kf_9 = some q) : (pg.1 95).2.2.1 ix = some q := h
theorem ko_95 {ix : Nat} {q : xm_V} (h : xm_as ix kc_9 = some q) : (pg.1 95).2.1 ix = some q := h
theorem so_95 {ix : Nat} {q : Nat} (h : xm_as ix ks_9 = some q) : (pg.1 95).2.2.2.2.1 ix = some q := h
theorem no_95 {ix : Nat} {q : Nat × List xm_F} (h : xm_as ix kn_9 = some q) : (pg.1 95).2.2.2.1 ix = some q := h
theorem xo_95 {ix q : Nat} (h : (ym_95).2.2.2.2.2 ix = q) : (pg.1 95).2.2.2.2.2 ix = q := h
theorem in_96 {pc : Nat} {i : Jvm.ClassFile.Instr × Nat} (h : xm_tb pc tb_96 = some i) : (pg.1 96).1 pc = some i := h
theorem nl_96 {a : Nat} (h : Nat.ble (a + 1) 6 = true) : a < pg.2.1 96 := Nat.le_of_ble_eq_true h
theorem kd_96 : pg.2.2.1 96 = 0 := rfl
theorem cl_96 {ix : Nat} {q : Nat × Nat × Nat × Nat} (h : xm_as ix kl_9 = some q) : pg.2.2.2 96 ix = some q := h
theorem fo_96 {ix : Nat} {q : Nat × Nat × Nat} (h : xm_as ix kf_9 = some q) : (pg.1 96).2.2.1 ix = some q := h
theorem ko_96 {ix : Nat} {q : xm_V} (h : xm_as ix kc_9 = some q) : (pg.1 96).2.1 ix = some q := h
theorem so_96 {ix : Nat} {q : Nat} (h : xm_as ix ks_9 = some q) : (pg.1 96).2.2.2.2.1 ix = some q := h
theorem no_96 {ix : Nat} {q : Nat × List xm_F} (h : xm_as ix kn_9 = some q) : (pg.1 96).2.2.2.1 ix = some q := h
theorem xo_96 {ix q : Nat} (h : (ym_96).2.2.2.2.2 ix = q) : (pg.1 96).2.2.2.2.2 ix = q := h
theorem in_97 {pc : Nat} {i : Jvm.ClassFile.Instr × Nat} (h : xm_tb pc tb_97 = some i) : (pg.1 97).1 pc = some i := h
theorem nl_97 {a : Nat} (h : Nat.ble (a + 1) 2 = true) : a < pg.2.1 97 := Nat.le_of_ble_eq_true h
theorem kd_97 : pg.2.2.1 97 = 1 := rfl
theorem cl_97 {ix : Nat} {q : Nat × Nat × Nat × Nat} (h : xm_as ix kl_9 = some q) : pg.2.2.2 97 ix = some q := h
theorem fo_97 {ix : Nat} {q : Nat × Nat × Nat} (h : xm_as ix kf_9 = some q) : (pg.1 97).2.2.1 ix = some q := h
theorem ko_97 {ix : Nat} {q : xm_V} (h : xm_as ix kc_9 = some q) : (pg.1 97).2.1 ix = some q := h
theorem so_97 {ix : Nat} {q : Nat} (h : xm_as ix ks_9 = some q) : (pg.1 97).2.2.2.2.1 ix = some q := h
theorem no_97 {ix : Nat} {q : Nat × List xm_F} (h : xm_as ix kn_9 = some q) : (pg.1 97).2.2.2.1 ix = some q := h
theorem xo_97 {ix q : Nat} (h : (ym_97).2.2.2.2.2 ix = q) : (pg.1 97).2.2.2.2.2 ix = q := h
theorem in_98 {pc : Nat} {i : Jvm.ClassFile.Instr × Nat} (h : xm_tb pc tb_98 = some i) : (pg.1 98).1 pc = some i := h
theorem nl_98 {a : Nat} (h : Nat.ble (a + 1) 5 = true) : a < pg.2.1 98 := Nat.le_of_ble_eq_true h
theorem kd_98 : pg.2.2.1 98 = 4 := rfl
theorem cl_98 {ix : Nat} {q : Nat × Nat × Nat × Nat} (h : xm_as ix kl_9 = some q) : pg.2.2.2 98 ix = some q := h
theorem fo_98 {ix : Nat} {q : Nat × Nat × Nat} (h : xm_as ix kf_9 = some q) : (pg.1 98).2.2.1 ix = some q := h
theorem ko_98 {ix : Nat} {q : xm_V} (h : xm_as ix kc_9 = some q) : (pg.1 98).2.1 ix = some q := h
theorem so_98 {ix : Nat} {q : Nat} (h : xm_as ix ks_9 = some q) : (pg.1 98).2.2.2.2.1 ix = some q := h
theorem no_98 {ix : Nat} {q : Nat × List xm_F} (h : xm_as ix kn_9 = some q) : (pg.1 98).2.2.2.1 ix = some q := h
theorem xo_98 {ix q : Nat} (h : (ym_98).2.2.2.2.2 ix = q) : (pg.1 98).2.2.2.2.2 ix = q := h
theorem in_99 {pc : Nat} {i : Jvm.ClassFile.Instr × Nat} (h : xm_tb pc tb_99 = some i) : (pg.1 99).1 pc = some i := h
theorem nl_99 {a : Nat} (h : Nat.ble (a + 1) 4 = true) : a < pg.2.1 99 := Nat.le_of_ble_eq_true h
theorem kd_99 : pg.2.2.1 99 = 0 := rfl
theorem cl_99 {ix : Nat} {q : Nat × Nat × Nat × Nat} (h : xm_as ix kl_9 = some q) : pg.2.2.2 99 ix = some q := h
theorem fo_99 {ix : Nat} {q : Nat × Nat × Nat} (h : xm_as ix kf_9 = some q) : (pg.1 99).2.2.1 ix = some q := h
theorem ko_99 {ix : Nat} {q : xm_V} (h : xm_as ix kc_9 = some q) : (pg.1 99).2.1 ix = some q := h
theorem so_99 {ix : Nat} {q : Nat} (h : xm_as ix ks_9 = some q) : (pg.1 99).2.2.2.2.1 ix = some q := h
theorem no_99 {ix : Nat} {q : Nat × List xm_F} (h : xm_as ix kn_9 = some q) : (pg.1 99).2.2.2.1 ix = some q := h
theorem xo_99 {ix q : Nat} (h : (ym_99).2.2.2.2.2 ix = q) : (pg.1 99).2.2.2.2.2 ix = q := h
theorem in_100 {pc : Nat} {i : Jvm.ClassFile.Instr × Nat} (h : xm_tb pc tb_100 = some i) : (pg.1 100).1 pc = some i := h
theorem nl_100 {a : Nat} (h : Nat.ble (a + 1) 4 = true) : a < pg.2.1 100 := Nat.le_of_ble_eq_true h
theorem kd_100 : pg.2.2.1 100 = 1 := rfl
theorem cl_100 {ix : Nat} {q : Nat × Nat × Nat × Nat} (h : xm_as ix kl_9 = some q) : pg.2.2.2 100 ix = some q := h
theorem fo_100 {ix : Nat} {q : Nat × Nat × Nat} (h : xm_as ix kf_9 = some q) : (pg.1 100).2.2.1 ix = some q := h
theorem ko_100 {ix : Nat} {q : xm_V} (h : xm_as ix kc_9 = some q) : (pg.1 100).2.1 ix = some q := h
theorem so_100 {ix : Nat} {q : Nat} (h : xm_as ix ks_9 = some q) : (pg.1 100).2.2.2.2.1 ix = some q := h
theorem no_100 {ix : Nat} {q : Nat × List xm_F} (h : xm_as ix kn_9 = some q) : (pg.1 100).2.2.2.1 ix = some q := h
theorem xo_100 {ix q : Nat} (h : (ym_100).2.2.2.2.2 ix = q) : (pg.1 100).2.2.2.2.2 ix = q := h
theorem in_101 {pc : Nat} {i : Jvm.ClassFile.Instr × Nat} (h : xm_tb pc tb_101 = some i) : (pg.1 101).1 pc = some i := h
theorem nl_101 {a : Nat} (h : Nat.ble (a + 1) 6 = true) : a < pg.2.1 101 := Nat.le_of_ble_eq_true h
theorem kd_101 : pg.2.2.1 101 = 4 := rfl
theorem cl_101 {ix : Nat} {q : Nat × Nat × Nat × Nat} (h : xm_as ix kl_9 = some q) : pg.2.2.2 101 ix = some q := h
theorem fo_101 {ix : Nat} {q : Nat × Nat × Nat} (h : xm_as ix kf_9 = some q) : (pg.1 101).2.2.1 ix = some q := h
theorem ko_101 {ix : Nat} {q : xm_V} (h : xm_as ix kc_9 = some q) : (pg.1 101).2.1 ix = some q := h
theorem so_101 {ix : Nat} {q : Nat} (h : xm_as ix ks_9 = some q) : (pg.1 101).2.2.2.2.1 ix = some q := h
theorem no_101 {ix : Nat} {q : Nat × List xm_F} (h : xm_as ix kn_9 = some q) : (pg.1 101).2.2.2.1 ix = some q := h
theorem xo_101 {ix q : Nat} (h : (ym_101).2.2.2.2.2 ix = q) : (pg.1 101).2.2.2.2.2 ix = q := h
theorem in_102 {pc : Nat} {i : Jvm.ClassFile.Instr × Nat} (h : xm_tb pc tb_102 = some i) : (pg.1 102).1 pc = some i := h
theorem nl_102 {a : Nat} (h : Nat.ble (a + 1) 5 = true) : a < pg.2.1 102 := Nat.le_of_ble_eq_true h
theorem kd_102 : pg.2.2.1 102 = 0 := rfl
theorem cl_102 {ix : Nat} {q : Nat × Nat × Nat × Nat} (h : xm_as ix kl_9 = some q) : pg.2.2.2 102 ix = some q := h
theorem fo_102 {ix : Nat} {q : Nat × Nat × Nat} (h : xm_as ix kf_9 = some q) : (pg.1 102).2.2.1 ix = some q := h
theorem ko_102 {ix : Nat} {q : xm_V} (h : xm_as ix kc_9 = some q) : (pg.1 102).2.1 ix = some q := h
theorem so_102 {ix : Nat} {q : Nat} (h : xm_as ix ks_9 = some q) : (pg.1 102).2.2.2.2.1 ix = some q := h
theorem no_102 {ix : Nat} {q : Nat × List xm_F} (h : xm_as ix kn_9 = some q) : (pg.1 102).2.2.2.1 ix = some q := h
theorem xo_102 {ix q : Nat} (h : (ym_102).2.2.2.2.2 ix = q) : (pg.1 102).2.2.2.2.2 ix = q := h
theorem in_103 {pc : Nat} {i : Jvm.ClassFile.Instr × Nat} (h : xm_tb pc tb_103 = some i) : (pg.1 103).1 pc = some i := h
theorem nl_103 {a : Nat} (h : Nat.ble (a + 1) 11 = true) : a < pg.2.1 103 := Nat.le_of_ble_eq_true h
theorem kd_103 : pg.2.2.1 103 = 0 := rfl
theorem cl_103 {ix : Nat} {q : Nat × Nat × Nat × Nat} (h : xm_as ix kl_9 = some q) : pg.2.2.2 103 ix = some q := h
theorem fo_103 {ix : Nat} {q : Nat × Nat × Nat} (h : xm_as ix kf_9 = some q) : (pg.1 103).2.2.1 ix = some q := h
theorem ko_103 {ix : Nat} {q : xm_V} (h : xm_as ix kc_9 = some q) : (pg.1 103).2.1 ix = some q := h
theorem so_103 {ix : Nat} {q : Nat} (h : xm_as ix ks_9 = some q) : (pg.1 103).2.2.2.2.1 ix = some q := h
theorem no_103 {ix : Nat} {q : Nat × List xm_F} (h : xm_as ix kn_9 = some q) : (pg.1 103).2.2.2.1 ix = some q := h
theorem xo_103 {ix q : Nat} (h : (ym_103).2.2.2.2.2 ix = q) : (pg.1 103).2.2.2.2.2 ix = q := h
theorem in_104 {pc : Nat} {i : Jvm.ClassFile.Instr × Nat} (h : xm_tb pc tb_104 = some i) : (pg.1 104).1 pc = some i := h
theorem nl_104 {a : Nat} (h : Nat.ble (a + 1) 4 = true) : a < pg.2.1 104 := Nat.le_of_ble_eq_true h
theorem kd_104 : pg.2.2.1 104 = 1 := rfl
theorem cl_104 {ix : Nat} {q : Nat × Nat × Nat × Nat} (h : xm_as ix kl_9 = some q) : pg.2.2.2 104 ix = some q := h
theorem fo_104 {ix : Nat} {q : Nat × Nat × Nat} (h : xm_as ix kf_9 = some q) : (pg.1 104).2.2.1 ix = some q := h
theorem ko_104 {ix : Nat} {q : xm_V} (h : xm_as ix kc_9 = some q) : (pg.1 104).2.1 ix = some q := h
theorem so_104 {ix : Nat} {q : Nat} (h : xm_as ix ks_9 = some q) : (pg.1 104).2.2.2.2.1 ix = some q := h
theorem no_104 {ix : Nat} {q : Nat × List xm_F} (h : xm_as ix kn_9 = some q) : (pg.1 104).2.2.2.1 ix = some q := h
theorem xo_104 {ix q : Nat} (h : (ym_104).2.2.2.2.2 ix = q) : (pg.1 104).2.2.2.2.2 ix = q := h
theorem in_105 {pc : Nat} {i : Jvm.ClassFile.Instr × Nat} (h : xm_tb pc tb_105 = some i) : (pg.1 105).1 pc = some i := h
theorem nl_105 {a : Nat} (h : Nat.ble (a + 1) 7 = true) : a < pg.2.1 105 := Nat.le_of_ble_eq_true h
theorem kd_105 : pg.2.2.1 105 = 4 := rfl
theorem cl_105 {ix : Nat} {q : Nat × Nat × Nat × Nat} (h : xm_as ix kl_9 = some q) : pg.2.2.2 105 ix = some q := h
theorem fo_105 {ix : Nat} {q : Nat × Nat × Nat} (h : xm_as ix kf_9 = some q) : (pg.1 105).2.2.1 ix = some q := h
theorem ko_105 {ix : Nat} {q : xm_V} (h : xm_as ix kc_9 = some q) : (pg.1 105).2.1 ix = some q := h
theorem so_105 {ix : Nat} {q : Nat} (h : xm_as ix ks_9 = some q) : (pg.1 105).2.2.2.2.1 ix = some q := h
theorem no_105 {ix : Nat} {q : Nat × List xm_F} (h : xm_as ix kn_9 = some q) : (pg.1 105).2.2.2.1 ix = some q := h
theorem xo_105 {ix q : Nat} (h : (ym_105).2.2.2.2.2 ix = q) : (pg.1 105).2.2.2.2.2 ix = q := h
theorem in_106 {pc : Nat} {i : Jvm.ClassFile.Instr × Nat} (h : xm_tb pc tb_106 = some i) : (pg.1 106).1 pc = some i := h
theorem nl_106 {a : Nat} (h : Nat.ble (a + 1) 4 = true) : a < pg.2.1 106 := Nat.le_of_ble_eq_true h
theorem kd_106 : pg.2.2.1 106 = 1 := rfl
theorem cl_106 {ix : Nat} {q : Nat × Nat × Nat × Nat} (h : xm_as ix kl_9 = some q) : pg.2.2.2 106 ix = some q := h
theorem fo_106 {ix : Nat} {q : Nat × Nat × Nat} (h : xm_as ix kf_9 = some q) : (pg.1 106).2.2.1 ix = some q := h
theorem ko_106 {ix : Nat} {q : xm_V} (h : xm_as ix kc_9 = some q) : (pg.1 106).2.1 ix = some q := h
theorem so_106 {ix : Nat} {q : Nat} (h : xm_as ix ks_9 = some q) : (pg.1 106).2.2.2.2.1 ix = some q := h
theorem no_106 {ix : Nat} {q : Nat × List xm_F} (h : xm_as ix kn_9 = some q) : (pg.1 106).2.2.2.1 ix = some q := h
theorem xo_106 {ix q : Nat} (h : (ym_106).2.2.2.2.2 ix = q) : (pg.1 106).2.2.2.2.2 ix = q := h
theorem in_107 {pc : Nat} {i : Jvm.ClassFile.Instr × Nat} (h : xm_tb pc tb_107 = some i) : (pg.1 107).1 pc = some i := h
theorem nl_107 {a : Nat} (h : Nat.ble (a + 1) 14 = true) : a < pg.2.1 107 := Nat.le_of_ble_eq_true h
theorem kd_107 : pg.2.2.1 107 = 2 := rfl
theorem cl_107 {ix : Nat} {q : Nat × Nat × Nat × Nat} (h : xm_as ix kl_9 = some q) : pg.2.2.2 107 ix = some q := h
theorem fo_107 {ix : Nat} {q : Nat × Nat × Nat} (h : xm_as ix kf_9 = some q) : (pg.1 107).2.2.1 ix = some q := h
theorem ko_107 {ix : Nat} {q : xm_V} (h : xm_as ix kc_9 = some q) : (pg.1 107).2.1 ix = some q := h
theorem so_107 {ix : Nat} {q : Nat} (h : xm_as ix ks_9 = some q) : (pg.1 107).2.2.2.2.1 ix = some q := h
theorem no_107 {ix : Nat} {q : Nat × List xm_F} (h : xm_as ix kn_9 = some q) : (pg.1 107).2.2.2.1 ix = some q := h
theorem xo_107 {ix q : Nat} (h : (ym_107).2.2.2.2.2 ix = q) : (pg.1 107).2.2.2.2.2 ix = q := h
theorem in_108 {pc : Nat} {i : Jvm.ClassFile.Instr × Nat} (h : xm_tb pc tb_108 = some i) : (pg.1 108).1 pc = some i := h
theorem nl_108 {a : Nat} (h : Nat.ble (a + 1) 3 = true) : a < pg.2.1 108 := Nat.le_of_ble_eq_true h
theorem kd_108 : pg.2.2.1 108 = 1 := rfl
theorem cl_108 {ix : Nat} {q : Nat × Nat × Nat × Nat} (h : xm_as ix kl_9 = some q) : pg.2.2.2 108 ix = some q := h
theorem fo_108 {ix : Nat} {q : Nat × Nat × Nat} (h : xm_as ix kf_9 = some q) : (pg.1 108).2.2.1 ix = some q := h
theorem ko_108 {ix : Nat} {q : xm_V} (h : xm_as ix kc_9 = some q) : (pg.1 108).2.1 ix = some q := h
theorem so_108 {ix : Nat} {q : Nat} (h : xm_as ix ks_9 = some q) : (pg.1 108).2.2.2.2.1 ix = some q := h
theorem no_108 {ix : Nat} {q : Nat × List xm_F} (h : xm_as ix kn_9 = some q) : (pg.1 108).2.2.2.1 ix = some q := h
theorem xo_108 {ix q : Nat} (h : (ym_108).2.2.2.2.2 ix = q) : (pg.1 108).2.2.2.2.2 ix = q := h
theorem in_109 {pc : Nat} {i : Jvm.ClassFile.Instr × Nat} (h : xm_tb pc tb_109 = some i) : (pg.1 109).1 pc = some i := h
theorem nl_109 {a : Nat} (h : Nat.ble (a + 1) 4 = true) : a < pg.2.1 109 := Nat.le_of_ble_eq_true h
theorem kd_109 : pg.2.2.1 109 = 0 := rfl
theorem cl_109 {ix : Nat} {q : Nat × Nat × Nat × Nat} (h : xm_as ix kl_9 = some q) : pg.2.2.2 109 ix = some q := h
theorem fo_109 {ix : Nat} {q : Nat × Nat × Nat} (h : xm_as ix kf_9 = some q) : (pg.1 109).2.2.1 ix = some q := h
theorem ko_109 {ix : Nat} {q : xm_V} (h : xm_as ix kc_9 = some q) : (pg.1 109).2.1 ix = some q := h
theorem so_109 {ix : Nat} {q : Nat} (h : xm_as ix ks_9 = some q) : (pg.1 109).2.2.2.2.1 ix = some q := h
theorem no_109 {ix : Nat} {q : Nat × List xm_F} (h : xm_as ix kn_9 = some q) : (pg.1 109).2.2.2.1 ix = some q := h
theorem xo_109 {ix q : Nat} (h : (ym_109).2.2.2.2.2 ix = q) : (pg.1 109).2.2.2.2.2 ix = q := h
theorem in_110 {pc : Nat} {i : Jvm.ClassFile.Instr × Nat} (h : xm_tb pc tb_110 = some i) : (pg.1 110).1 pc = some i := h
theorem nl_110 {a : Nat} (h : Nat.ble (a + 1) 5 = true) : a < pg.2.1 110 := Nat.le_of_ble_eq_true h
theorem kd_110 : pg.2.2.1 110 = 4 := rfl
theorem cl_110 {ix : Nat} {q : Nat × Nat × Nat × Nat} (h : xm_as ix kl_9 = some q) : pg.2.2.2 110 ix = some q := h
theorem fo_110 {ix : Nat} {q : Nat × Nat × Nat} (h : xm_as ix kf_9 = some q) : (pg.1 110).2.2.1 ix = some q := h
theorem ko_110 {ix : Nat} {q : xm_V} (h : xm_as ix kc_9 = some q) : (pg.1 110).2.1 ix = some q := h
theorem so_110 {ix : Nat} {q : Nat} (h : xm_as ix ks_9 = some q) : (pg.1 110).2.2.2.2.1 ix = some q := h
theorem no_110 {ix : Nat} {q : Nat × List xm_F} (h : xm_as ix kn_9 = some q) : (pg.1 110).2.2.2.1 ix = some q := h
theorem xo_110 {ix q : Nat} (h : (ym_110).2.2.2.2.2 ix = q) : (pg.1 110).2.2.2.2.2 ix = q := h
theorem in_111 {pc : Nat} {i : Jvm.ClassFile.Instr × Nat} (h : xm_tb pc tb_111 = some i) : (pg.1 111).1 pc = some i := h
theorem nl_111 {a : Nat} (h : Nat.ble (a + 1) 6 = true) : a < pg.2.1 111 := Nat.le_of_ble_eq_true h
theorem kd_111 : pg.2.2.1 111 = 1 := rfl
theorem cl_111 {ix : Nat} {q : Nat × Nat × Nat × Nat} (h : xm_as ix kl_9 = some q) : pg.2.2.2 111 ix = some q := h
theorem fo_111 {ix : Nat} {q : Nat × Nat × Nat} (h : xm_as ix kf_9 = some q) : (pg.1 111).2.2.1 ix = some q := h
theorem ko_111 {ix : Nat} {q : xm_V} (h : xm_as ix kc_9 = some q) : (pg.1 111).2.1 ix = some q := h
theorem so_111 {ix : Nat} {q : Nat} (h : xm_as ix ks_9 = some q) : (pg.1 111).2.2.2.2.1 ix = some q := h
theorem no_111 {ix : Nat} {q : Nat × List xm_F} (h : xm_as ix kn_9 = some q) : (pg.1 111).2.2.2.1 ix = some q := h
theorem xo_111 {ix q : Nat} (h : (ym_111).2.2.2.2.2 ix = q) : (pg.1 111).2.2.2.2.2 ix = q := h
theorem in_112 {pc : Nat} {i : Jvm.ClassFile.Instr × Nat} (h : xm_tb pc tb_112 = some i) : (pg.1 112).1 pc = some i := h
theorem nl_112 {a : Nat} (h : Nat.ble (a + 1) 2 = true) : a < pg.2.1 112 := Nat.le_of_ble_eq_true h
theorem kd_112 : pg.2.2.1 112 = 4 := rfl
theorem cl_112 {ix : Nat} {q : Nat × Nat × Nat × Nat} (h : xm_as ix kl_9 = some q) : pg.2.2.2 112 ix = some q := h
theorem fo_112 {ix : Nat} {q : Nat × Nat × Nat} (h : xm_as ix kf_9 = some q) : (pg.1 112).2.2.1 ix = some q := h
theorem ko_112 {ix : Nat} {q : xm_V} (h : xm_as ix kc_9 = some q) : (pg.1 112).2.1 ix = some q := h
theorem so_112 {ix : Nat} {q : Nat} (h : xm_as ix ks_9 = some q) : (pg.1 112).2.2.2.2.1 ix = some q := h
theorem no_112 {ix : Nat} {q : Nat × List xm_F} (h : xm_as ix kn_9 = some q) : (pg.1 112).2.2.2.1 ix = some q := h
theorem xo_112 {ix q : Nat} (h : (ym_112).2.2.2.2.2 ix = q) : (pg.1 112).2.2.2.2.2 ix = q := h
theorem in_113 {pc : Nat} {i : Jvm.ClassFile.Instr × Nat} (h : xm_tb pc tb_113 = some i) : (pg.1 113).1 pc = some i := h
theorem nl_113 {a : Nat} (h : Nat.ble (a + 1) 5 = true) : a < pg.2.1 113 := Nat.le_of_ble_eq_true h
theorem kd_113 : pg.2.2.1 113 = 1 := rfl
theorem cl_113 {ix : Nat} {q : Nat × Nat × Nat × Nat} (h : xm_as ix kl_9 = some q) : pg.2.2.2 113 ix = some q := h
theorem fo_113 {ix : Nat} {q : Nat × Nat × Nat} (h : xm_as ix kf_9 = some q) : (pg.1 113).2.2.1 ix = some q := h
theorem ko_113 {ix : Nat} {q : xm_V} (h : xm_as ix kc_9 = some q) : (pg.1 113).2.1 ix = some q := h
theorem so_113 {ix : Nat} {q : Nat} (h : xm_as ix ks_9 = some q) : (pg.1 113).2.2.2.2.1 ix = some q := h
theorem no_113 {ix : Nat} {q : Nat × List xm_F} (h : xm_as ix kn_9 = some q) : (pg.1 113).2.2.2.1 ix = some q := h
theorem xo_113 {ix q : Nat} (h : (ym_113).2.2.2.2.2 ix = q) : (pg.1 113).2.2.2.2.2 ix = q := h
theorem in_114 {pc : Nat} {i : Jvm.ClassFile.Instr × Nat} (h : xm_tb pc tb_114 = some i) : (pg.1 114).1 pc = some i := h
theorem nl_114 {a : Nat} (h : Nat.ble (a + 1) 7 = true) : a < pg.2.1 114 := Nat.le_of_ble_eq_true h
theorem kd_114 : pg.2.2.1 114 = 0 := rfl
theorem cl_114 {ix : Nat} {q : Nat × Nat × Nat × Nat} (h : xm_as ix kl_9 = some q) : pg.2.2.2 114 ix = some q := h
theorem fo_114 {ix : Nat} {q : Nat × Nat × Nat} (h : xm_as ix kf_9 = some q) : (pg.1 114).2.2.1 ix = some q := h
theorem ko_114 {ix : Nat} {q : xm_V} (h : xm_as ix kc_9 = some q) : (pg.1 114).2.1 ix = some q := h
theorem so_114 {ix : Nat} {q : Nat} (h : xm_as ix ks_9 = some q) : (pg.1 114).2.2.2.2.1 ix = some q := h
theorem no_114 {ix : Nat} {q : Nat × List xm_F} (h : xm_as ix kn_9 = some q) : (pg.1 114).2.2.2.1 ix = some q := h
theorem xo_114 {ix q : Nat} (h : (ym_114).2.2.2.2.2 ix = q) : (pg.1 114).2.2.2.2.2 ix = q := h
theorem in_115 {pc : Nat} {i : Jvm.ClassFile.Instr × Nat} (h : xm_tb pc tb_115 = some i) : (pg.1 115).1 pc = some i := h
theorem nl_115 {a : Nat} (h : Nat.ble (a + 1) 2 = true) : a < pg.2.1 115 := Nat.le_of_ble_eq_true h
theorem kd_115 : pg.2.2.1 115 = 1 := rfl
theorem cl_115 {ix : Nat} {q : Nat × Nat × Nat × Nat} (h : xm_as ix kl_9 = some q) : pg.2.2.2 115 ix = some q := h
theorem fo_115 {ix : Nat} {q : Nat × Nat × Nat} (h : xm_as ix kf_9 = some q) : (pg.1 115).2.2.1 ix = some q := h
theorem ko_115 {ix : Nat} {q : xm_V} (h : xm_as ix kc_9 = some q) : (pg.1 115).2.1 ix = some q := h
theorem so_115 {ix : Nat} {q : Nat} (h : xm_as ix ks_9 = some q) : (pg.1 115).2.2.2.2.1 ix = some q := h
theorem no_115 {ix : Nat} {q : Nat × List xm_F} (h : xm_as ix kn_9 = some q) : (pg.1 115).2.2.2.1 ix = some q := h
theorem xo_115 {ix q : Nat} (h : (ym_115).2.2.2.2.2 ix = q) : (pg.1 115).2.2.2.2.2 ix = q := h
theorem in_116 {pc : Nat} {i : Jvm.ClassFile.Instr × Nat} (h : xm_tb pc tb_116 = some i) : (pg.1 116).1 pc = some i := h
theorem nl_116 {a : Nat} (h : Nat.ble (a + 1) 2 = true) : a < pg.2.1 116 := Nat.le_of_ble_eq_true h
theorem kd_116 : pg.2.2.1 116 = 1 := rfl
theorem cl_116 {ix : Nat} {q : Nat × Nat × Nat × Nat} (h : xm_as ix kl_9 = some q) : pg.2.2.2 116 ix = some q := h
theorem fo_116 {ix : Nat} {q : Nat × Nat × Nat} (h : xm_as ix kf_9 = some q) : (pg.1 116).2.2.1 ix = some q := h
theorem ko_116 {ix : Nat} {q : xm_V} (h : xm_as ix kc_9 = some q) : (pg.1 116).2.1 ix = some q := h
theorem so_116 {ix : Nat} {q : Nat} (h : xm_as ix ks_9 = some q) : (pg.1 116).2.2.2.2.1 ix = some q := h
theorem no_116 {ix : Nat} {q : Nat × List xm_F} (h : xm_as ix kn_9 = some q) : (pg.1 116).2.2.2.1 ix = some q := h
theorem xo_116 {ix q : Nat} (h : (ym_116).2.2.2.2.2 ix = q) : (pg.1 116).2.2.2.2.2 ix = q := h
theorem in_117 {pc : Nat} {i : Jvm.ClassFile.Instr × Nat} (h : xm_tb pc tb_117 = some i) : (pg.1 117).1 pc = some i := h
theorem nl_117 {a : Nat} (h : Nat.ble (a + 1) 4 = true) : a < pg.2.1 117 := Nat.le_of_ble_eq_true h
theorem kd_117 : pg.2.2.1 117 = 1 := rfl
theorem cl_117 {ix : Nat} {q : Nat × Nat × Nat × Nat} (h : xm_as ix kl_9 = some q) : pg.2.2.2 117 ix = some q := h
theorem fo_117 {ix : Nat} {q : Nat × Nat × Nat} (h : xm_as ix kf_9 = some q) : (pg.1 117).2.2.1 ix = some q := h
theorem ko_117 {ix : Nat} {q : xm_V} (h : xm_as ix kc_9 = some q) : (pg.1 117).2.1 ix = some q := h
theorem so_117 {ix : Nat} {q : Nat} (h : xm_as ix ks_9 = some q) : (pg.1 117).2.2.2.2.1 ix = some q := h
theorem no_117 {ix : Nat} {q : Nat × List xm_F} (h : xm_as ix kn_9 = some q) : (pg.1 117).2.2.2.1 ix = some q := h
theorem xo_117 {ix q : Nat} (h : (ym_117).2.2.2.2.2 ix = q) : (pg.1 117).2.2.2.2.2 ix = q := h
theorem in_118 {pc : Nat} {i : Jvm.ClassFile.Instr × Nat} (h : xm_tb pc tb_118 = some i) : (pg.1 118).1 pc = some i := h
theorem nl_118 {a : Nat} (h : Nat.ble (a + 1) 3 = true) : a < pg.2.1 118 := Nat.le_of_ble_eq_true h
theorem kd_118 : pg.2.2.1 118 = 4 := rfl
theorem cl_118 {ix : Nat} {q : Nat × Nat × Nat × Nat} (h : xm_as ix kl_9 = some q) : pg.2.2.2 118 ix = some q := h
theorem fo_118 {ix : Nat} {q : Nat × Nat × Nat} (h : xm_as ix kf_9 = some q) : (pg.1 118).2.2.1 ix = some q := h
theorem ko_118 {ix : Nat} {q : xm_V} (h : xm_as ix kc_9 = some q) : (pg.1 118).2.1 ix = some q := h
theorem so_118 {ix : Nat} {q : Nat} (h : xm_as ix ks_9 = some q) : (pg.1 118).2.2.2.2.1 ix = some q := h
theorem no_118 {ix : Nat} {q : Nat × List xm_F} (h : xm_as ix kn_9 = some q) : (pg.1 118).2.2.2.1 ix = some q := h
theorem xo_118 {ix q : Nat} (h : (ym_118).2.2.2.2.2 ix = q) : (pg.1 118).2.2.2.2.2 ix = q := h
theorem in_119 {pc : Nat} {i : Jvm.ClassFile.Instr × Nat} (h : xm_tb pc tb_119 = some i) : (pg.1 119).1 pc = some i := h
theorem nl_119 {a : Nat} (h : Nat.ble (a + 1) 3 = true) : a < pg.2.1 119 := Nat.le_of_ble_eq_true h
theorem kd_119 : pg.2.2.1 119 = 1 := rfl
theorem cl_119 {ix : Nat} {q : Nat × Nat × Nat × Nat} (h : xm_as ix kl_9 = some q) : pg.2.2.2 119 ix = some q := h
theorem fo_119 {ix : Nat} {q : Nat × Nat × Nat} (h : xm_as ix kf_9 = some q) : (pg.1 119).2.2.1 ix = some q := h
theorem ko_119 {ix : Nat} {q : xm_V} (h : xm_as ix kc_9 = some q) : (pg.1 119).2.1 ix = some q := h
theorem so_119 {ix : Nat} {q : Nat} (h : xm_as ix ks_9 = some q) : (pg.1 119).2.2.2.2.1 ix = some q := h
theorem no_119 {ix : Nat} {q : Nat × List xm_F} (h : xm_as ix kn_9 = some q) : (pg.1 119).2.2.2.1 ix = some q := h
theorem xo_119 {ix q : Nat} (h : (ym_119).2.2.2.2.2 ix = q) : (pg.1 119).2.2.2.2.2 ix = q := h
end
section
/-! Memory when both sides stand: cells 0 to 57, then the rows that 'kept' was made anew in; what the functions are made of. -/
def xk_c : Nat → Nat
  | 0 => 13
  | n + 1 => 58 + n
def xk_l (n : Nat) : Nat := 512 * 2 ^ n
def xk_s : Nat → Nat
  | 0 => 0
  | n + 1 => xk_s n + xk_l (n + 1)
theorem xk_s_s (n : Nat) : xk_s (n + 1) = xk_s n + xk_l (n + 1) := rfl
theorem xk_mono {a b : Nat} (h : a ≤ b) : xk_s a ≤ xk_s b := by
  induction h with
  | refl => exact Nat.le_refl _
  | step _ ih => exact Nat.le_trans ih (Nat.le_add_right _ _)
theorem xk_ne (n : Nat) : 15 ≠ xk_c n := by
  cases n with
  | zero => decide
  | succ n => show 15 ≠ 58 + n; omega
def sh_b (n : Nat) : List xm_T := [xt_o 0 [some (some 1), some (some 7), some (some 10), some (some 20), some (some 26), some (some 30)], xt_o 1 [some (some 2), some (some 3), some (some 4), some (some 5), some (some 6), none], xt_r 0 28, xt_r 0 28, xt_r 0 28, xt_r 0 28, xt_r 0 28, xt_o 2 [some (some 1), some (some 8), some (some 9), none, none], xt_r 0 16, xt_r 0 28, xt_o 3 [some (some 1), some (some 11), some (some 12), some (some (xk_c n)), none, some (some 14), some (some 16), some (some 18)], xt_r 0 448, xt_r 0 448, xt_r 1 512, xt_o 4 [some (some 15), none, none], xt_r 1 60, xt_o 4 [some (some 17), none, none], xt_r 1 60, xt_o 4 [some (some 19), none, none], xt_r 1 60, xt_o 5 [some (some 1), some (some 10), some (some 21), none, some (some 22), some (some 23), none, some (some 24), some (some 25)], xt_r 0 28, xt_r 0 16, xt_r 0 16, xt_r 0 256, xt_r 0 256, xt_o 6 [some (some 20), some (some 27), none, some (some 28), some (some 29), none], xt_r 1 100, xt_r 0 1600, xt_r 2 100, xt_o 7 [some (some 26), none, none, none, none, some (some 31), some (some 32), some (some 33), some (some 34)], xt_r 0 100, xt_r 0 100, xt_r 0 400, xt_r 0 400, xt_o 8 [none, some (some 36), some (some 37), some (some 38), some (some 39), some (some 40), some (some 41), some (some 42), some (some 43), none, some (some 44), none, some (some 45), some (some 46), some (some 47), some (some 48), some (some 49), none, none, some (some 50), some (some 51), some (some 52), none, none, none, none, none, some (some 53), some (some 54), some (some 55), some (some 56), some (some 57)], xt_r 0 28, xt_r 0 28, xt_r 0 28, xt_r 0 28, xt_r 0 60, xt_r 1 1680, xt_r 0 28, xt_r 1 61, xt_r 1 61, xt_r 0 17, xt_r 0 17, xt_r 0 272, xt_r 0 272, xt_r 0 28, xt_r 1 101, xt_r 0 1600, xt_r 2 100, xt_r 0 100, xt_r 0 100, xt_r 0 400, xt_r 0 400, xt_r 0 28]
def sh_t (n : Nat) : List xm_T := (List.range n).map fun i => xt_r 1 (xk_l (i + 1))
def sh (n : Nat) : List xm_T := sh_b n ++ sh_t n
theorem sh_0 (n : Nat) : (sh n)[0]? = some (xt_o 0 [some (some 1), some (some 7), some (some 10), some (some 20), some (some 26), some (some 30)]) := rfl
theorem sh_1 (n : Nat) : (sh n)[1]? = some (xt_o 1 [some (some 2), some (some 3), some (some 4), some (some 5), some (some 6), none]) := rfl
theorem sh_2 (n : Nat) : (sh n)[2]? = some (xt_r 0 28) := rfl
theorem sh_3 (n : Nat) : (sh n)[3]? = some (xt_r 0 28) := rfl
theorem sh_4 (n : Nat) : (sh n)[4]? = some (xt_r 0 28) := rfl
theorem sh_5 (n : Nat) : (sh n)[5]? = some (xt_r 0 28) := rfl
theorem sh_6 (n : Nat) : (sh n)[6]? = some (xt_r 0 28) := rfl
theorem sh_7 (n : Nat) : (sh n)[7]? = some (xt_o 2 [some (some 1), some (some 8), some (some 9), none, none]) := rfl
theorem sh_8 (n : Nat) : (sh n)[8]? = some (xt_r 0 16) := rfl
theorem sh_9 (n : Nat) : (sh n)[9]? = some (xt_r 0 28) := rfl
theorem sh_10 (n : Nat) : (sh n)[10]? = some (xt_o 3 [some (some 1), some (some 11), some (some 12), some (some (xk_c n)), none, some (some 14), some (some 16), some (some 18)]) := rfl
theorem sh_11 (n : Nat) : (sh n)[11]? = some (xt_r 0 448) := rfl
theorem sh_12 (n : Nat) : (sh n)[12]? = some (xt_r 0 448) := rfl
theorem sh_13 (n : Nat) : (sh n)[13]? = some (xt_r 1 512) := rfl
theorem sh_14 (n : Nat) : (sh n)[14]? = some (xt_o 4 [some (some 15), none, none]) := rfl
theorem sh_15 (n : Nat) : (sh n)[15]? = some (xt_r 1 60) := rfl
theorem sh_16 (n : Nat) : (sh n)[16]? = some (xt_o 4 [some (some 17), none, none]) := rfl
theorem sh_17 (n : Nat) : (sh n)[17]? = some (xt_r 1 60) := rfl
theorem sh_18 (n : Nat) : (sh n)[18]? = some (xt_o 4 [some (some 19), none, none]) := rfl
theorem sh_19 (n : Nat) : (sh n)[19]? = some (xt_r 1 60) := rfl
theorem sh_20 (n : Nat) : (sh n)[20]? = some (xt_o 5 [some (some 1), some (some 10), some (some 21), none, some (some 22), some (some 23), none, some (some 24), some (some 25)]) := rfl
theorem sh_21 (n : Nat) : (sh n)[21]? = some (xt_r 0 28) := rfl
theorem sh_22 (n : Nat) : (sh n)[22]? = some (xt_r 0 16) := rfl
theorem sh_23 (n : Nat) : (sh n)[23]? = some (xt_r 0 16) := rfl
theorem sh_24 (n : Nat) : (sh n)[24]? = some (xt_r 0 256) := rfl
theorem sh_25 (n : Nat) : (sh n)[25]? = some (xt_r 0 256) := rfl
theorem sh_26 (n : Nat) : (sh n)[26]? = some (xt_o 6 [some (some 20), some (some 27), none, some (some 28), some (some 29), none]) := rfl
theorem sh_27 (n : Nat) : (sh n)[27]? = some (xt_r 1 100) := rfl
theorem sh_28 (n : Nat) : (sh n)[28]? = some (xt_r 0 1600) := rfl
theorem sh_29 (n : Nat) : (sh n)[29]? = some (xt_r 2 100) := rfl
theorem sh_30 (n : Nat) : (sh n)[30]? = some (xt_o 7 [some (some 26), none, none, none, none, some (some 31), some (some 32), some (some 33), some (some 34)]) := rfl
theorem sh_31 (n : Nat) : (sh n)[31]? = some (xt_r 0 100) := rfl
theorem sh_32 (n : Nat) : (sh n)[32]? = some (xt_r 0 100) := rfl
theorem sh_33 (n : Nat) : (sh n)[33]? = some (xt_r 0 400) := rfl
theorem sh_34 (n : Nat) : (sh n)[34]? = some (xt_r 0 400) := rfl
theorem sh_35 (n : Nat) : (sh n)[35]? = some (xt_o 8 [none, some (some 36), some (some 37), some (some 38), some (some 39), some (some 40), some (some 41), some (some 42), some (some 43), none, some (some 44), none, some (some 45), some (some 46), some (some 47), some (some 48), some (some 49), none, none, some (some 50), some (some 51), some (some 52), none, none, none, none, none, some (some 53), some (some 54), some (some 55), some (some 56), some (some 57)]) := rfl
theorem sh_36 (n : Nat) : (sh n)[36]? = some (xt_r 0 28) := rfl
theorem sh_37 (n : Nat) : (sh n)[37]? = some (xt_r 0 28) := rfl
theorem sh_38 (n : Nat) : (sh n)[38]? = some (xt_r 0 28) := rfl
theorem sh_39 (n : Nat) : (sh n)[39]? = some (xt_r 0 28) := rfl
theorem sh_40 (n : Nat) : (sh n)[40]? = some (xt_r 0 60) := rfl
theorem sh_41 (n : Nat) : (sh n)[41]? = some (xt_r 1 1680) := rfl
theorem sh_42 (n : Nat) : (sh n)[42]? = some (xt_r 0 28) := rfl
theorem sh_43 (n : Nat) : (sh n)[43]? = some (xt_r 1 61) := rfl
theorem sh_44 (n : Nat) : (sh n)[44]? = some (xt_r 1 61) := rfl
theorem sh_45 (n : Nat) : (sh n)[45]? = some (xt_r 0 17) := rfl
theorem sh_46 (n : Nat) : (sh n)[46]? = some (xt_r 0 17) := rfl
theorem sh_47 (n : Nat) : (sh n)[47]? = some (xt_r 0 272) := rfl
theorem sh_48 (n : Nat) : (sh n)[48]? = some (xt_r 0 272) := rfl
theorem sh_49 (n : Nat) : (sh n)[49]? = some (xt_r 0 28) := rfl
theorem sh_50 (n : Nat) : (sh n)[50]? = some (xt_r 1 101) := rfl
theorem sh_51 (n : Nat) : (sh n)[51]? = some (xt_r 0 1600) := rfl
theorem sh_52 (n : Nat) : (sh n)[52]? = some (xt_r 2 100) := rfl
theorem sh_53 (n : Nat) : (sh n)[53]? = some (xt_r 0 100) := rfl
theorem sh_54 (n : Nat) : (sh n)[54]? = some (xt_r 0 100) := rfl
theorem sh_55 (n : Nat) : (sh n)[55]? = some (xt_r 0 400) := rfl
theorem sh_56 (n : Nat) : (sh n)[56]? = some (xt_r 0 400) := rfl
theorem sh_57 (n : Nat) : (sh n)[57]? = some (xt_r 0 28) := rfl
theorem sh_len (n : Nat) : (sh n).length = 58 + n := by
  show (sh_b n ++ sh_t n).length = 58 + n
  rw [List.length_append]
  show 58 + ((List.range n).map _).length = 58 + n
  rw [List.length_map, List.length_range]
theorem sh_k (n : Nat) : (sh n)[xk_c n]? = some (xt_r 1 (xk_l n)) := by
  cases n with
  | zero => rfl
  | succ n =>
    show (sh_b (n + 1) ++ sh_t (n + 1))[58 + n]? = _
    have e : (sh_b (n + 1)).length = 58 := rfl
    rw [List.getElem?_append_right (by rw [e]; omega), e, Nat.add_sub_cancel_left]
    show ((List.range (n + 1)).map _)[n]? = _
    rw [List.getElem?_map, List.getElem?_range (Nat.lt_succ_self n)]
    rfl
def xw_ok (w : Nat) : Prop := w = 14 ∨ w = 16 ∨ w = 18
theorem xw_F : xw_ok 14 := Or.inl rfl
theorem xw_A : xw_ok 16 := Or.inr (Or.inl rfl)
theorem xw_B : xw_ok 18 := Or.inr (Or.inr rfl)
theorem sh_w (n : Nat) {w : Nat} (h : xw_ok w) : (sh n)[w]? = some (xt_o 4 [some (some (w + 1)), none, none]) := by
  rcases h with rfl | rfl | rfl <;> rfl
theorem sh_wr (n : Nat) {w : Nat} (h : xw_ok w) : (sh n)[w + 1]? = some (xt_r 1 60) := by
  rcases h with rfl | rfl | rfl <;> rfl
theorem sh_g10 (n : Nat) : (sh n ++ [xt_r 1 (xk_l (n + 1))])[10]? = some (xt_o 3 [some (some 1), some (some 11), some (some 12), some (some (xk_c n)), none, some (some 14), some (some 16), some (some 18)]) := rfl
theorem sh_grow (n : Nat) : (sh n ++ [xt_r 1 (xk_l (n + 1))]).set 10 (xt_o 3 (List.set [some (some 1), some (some 11), some (some 12), some (some (xk_c n)), none, some (some 14), some (some 16), some (some 18)] 3 (some (some (58 + n))))) = sh (n + 1) := by
  show ((sh_b n ++ sh_t n) ++ [xt_r 1 (xk_l (n + 1))]).set 10 _ = sh_b (n + 1) ++ sh_t (n + 1)
  have e : sh_t (n + 1) = sh_t n ++ [xt_r 1 (xk_l (n + 1))] := by
    unfold sh_t
    rw [List.range_succ, List.map_append]
    rfl
  rw [e, List.append_assoc]
  rfl
-- what the functions are made of
def xo_k (i : Int32) (n : Nat) : Bool := !(decide (i < 0) || Nat.ble n i.toNatClampNeg)
theorem xo_k_e {i : Int32} {n : Nat} : xo_k i n = true ↔ vp_in i n := by
  unfold xo_k vp_in
  rw [Bool.not_eq_true', Bool.or_eq_false_iff, decide_eq_false_iff_not]
  constructor
  · rintro ⟨h1, h2⟩ (h | h)
    · exact h1 h
    · rw [Nat.ble_eq_true_of_le h] at h2; cases h2
  · intro h
    refine ⟨fun q => h (Or.inl q), ?_⟩
    cases hb : Nat.ble n i.toNatClampNeg with
    | false => rfl
    | true => exact absurd (Or.inr (Nat.le_of_ble_eq_true hb)) h
def xg_n {β : Type} (i : Int32) (n : Nat) (o : Option β) : Option β := bif xo_k i n then o else none
theorem xg_e {β : Type} {i : Int32} {n : Nat} {o : Option β} {r : β} (h : xg_n i n o = some r) : vp_in i n ∧ o = some r := by
  unfold xg_n at h
  cases hb : xo_k i n with
  | false => rw [hb] at h; cases h
  | true => rw [hb] at h; exact ⟨xo_k_e.mp hb, h⟩
theorem xg_t {β : Type} {i : Int32} {n : Nat} {o : Option β} (h : vp_in i n) : xg_n i n o = o := by
  unfold xg_n; rw [xo_k_e.mpr h]; rfl
def xg_b {β : Type} (x : Int32) (o : Option β) : Option β := if x = 0 ∨ x = 1 then o else none
theorem xg_b_e {β : Type} {x : Int32} {o : Option β} {r : β} (h : xg_b x o = some r) : (x = 0 ∨ x = 1) ∧ o = some r := by
  unfold xg_b at h
  by_cases hb : x = 0 ∨ x = 1
  · rw [if_pos hb] at h; exact ⟨hb, h⟩
  · rw [if_neg hb] at h; cases h
theorem xg_b_t {β : Type} {x : Int32} {o : Option β} (h : x = 0 ∨ x = 1) : xg_b x o = o := if_pos h
def xg_c {β : Type} (sp dp n : Int32) (n0 nd : Nat) (o : Option β) : Option β := if ¬ sp < 0 ∧ ¬ dp < 0 ∧ ¬ n < 0 ∧ sp.toNatClampNeg + n.toNatClampNeg ≤ n0 ∧ dp.toNatClampNeg + n.toNatClampNeg ≤ nd then o else none
theorem xg_c_e {β : Type} {sp dp n : Int32} {n0 nd : Nat} {o : Option β} {r : β} (h : xg_c sp dp n n0 nd o = some r) : (¬ sp < 0 ∧ ¬ dp < 0 ∧ ¬ n < 0 ∧ sp.toNatClampNeg + n.toNatClampNeg ≤ n0 ∧ dp.toNatClampNeg + n.toNatClampNeg ≤ nd) ∧ o = some r := by
  unfold xg_c at h
  by_cases hb : ¬ sp < 0 ∧ ¬ dp < 0 ∧ ¬ n < 0 ∧ sp.toNatClampNeg + n.toNatClampNeg ≤ n0 ∧ dp.toNatClampNeg + n.toNatClampNeg ≤ nd
  · rw [if_pos hb] at h; exact ⟨hb, h⟩
  · rw [if_neg hb] at h; cases h
def xg_y {β : Type} (x : Int32) (n : Nat) (o : Option β) : Option β := if x = nI (xk_l (n + 1)) ∧ n ≤ 10 then o else none
theorem xg_y_e {β : Type} {x : Int32} {n : Nat} {o : Option β} {r : β} (h : xg_y x n o = some r) : (x = nI (xk_l (n + 1)) ∧ n ≤ 10) ∧ o = some r := by
  unfold xg_y at h
  by_cases hb : x = nI (xk_l (n + 1)) ∧ n ≤ 10
  · rw [if_pos hb] at h; exact ⟨hb, h⟩
  · rw [if_neg hb] at h; cases h
def xw_k {β : Type} (w : Nat) (o : Option β) : Option β := if w = 14 ∨ w = 16 ∨ w = 18 then o else none
theorem xw_k_e {β : Type} {w : Nat} {o : Option β} {r : β} (h : xw_k w o = some r) : xw_ok w ∧ o = some r := by
  unfold xw_k at h
  by_cases hb : w = 14 ∨ w = 16 ∨ w = 18
  · rw [if_pos hb] at h; exact ⟨hb, h⟩
  · rw [if_neg hb] at h; cases h
def xc_m {α β : Type} (e : Option (α × xm_S)) (f : α → xm_S → Option β) : Option β := match e with
  | none => none
  | some q => f q.1 q.2
theorem xc_m_e {α β : Type} {e : Option (α × xm_S)} {f : α → xm_S → Option β} {r : β} (h : xc_m e f = some r) : ∃ a m, e = some (a, m) ∧ f a m = some r := by
  cases e with
  | none => cases h
  | some q => exact ⟨q.1, q.2, rfl, h⟩
def xc_v {β : Type} (e : Option xm_S) (f : xm_S → Option β) : Option β := match e with
  | none => none
  | some q => f q
theorem xc_v_e {β : Type} {e : Option xm_S} {f : xm_S → Option β} {r : β} (h : xc_v e f = some r) : ∃ m, e = some m ∧ f m = some r := by
  cases e with
  | none => cases h
  | some q => exact ⟨q, rfl, h⟩
def xc_a {α β : Type} (n : Nat) (e : Option (α × Nat × xm_S)) (f : α → Nat → xm_S → Option β) : Option β := match e with
  | none => none
  | some q => bif Nat.ble n q.2.1 then f q.1 q.2.1 q.2.2 else none
theorem xc_a_e {α β : Type} {n : Nat} {e : Option (α × Nat × xm_S)} {f : α → Nat → xm_S → Option β} {r : β} (h : xc_a n e f = some r) : ∃ a n1 m, e = some (a, n1, m) ∧ n ≤ n1 ∧ f a n1 m = some r := by
  cases e with
  | none => cases h
  | some q =>
    unfold xc_a at h
    dsimp only at h
    cases hb : Nat.ble n q.2.1 with
    | false => rw [hb] at h; cases h
    | true => rw [hb] at h; exact ⟨q.1, q.2.1, q.2.2, rfl, Nat.le_of_ble_eq_true hb, h⟩
def xc_av {β : Type} (n : Nat) (e : Option (Nat × xm_S)) (f : Nat → xm_S → Option β) : Option β := match e with
  | none => none
  | some q => bif Nat.ble n q.1 then f q.1 q.2 else none
theorem xc_av_e {β : Type} {n : Nat} {e : Option (Nat × xm_S)} {f : Nat → xm_S → Option β} {r : β} (h : xc_av n e f = some r) : ∃ n1 m, e = some (n1, m) ∧ n ≤ n1 ∧ f n1 m = some r := by
  cases e with
  | none => cases h
  | some q =>
    unfold xc_av at h
    dsimp only at h
    cases hb : Nat.ble n q.1 with
    | false => rw [hb] at h; cases h
    | true => rw [hb] at h; exact ⟨q.1, q.2, rfl, Nat.le_of_ble_eq_true hb, h⟩
def xj_j {α β : Type} (k : α) (b : α → β) : β := b k
theorem xj_e {α β : Type} {k : α} {b : α → β} {r : β} (h : xj_j k b = r) : ∃ j, j = k ∧ b j = r := ⟨k, rfl, h⟩
def xs_m {β : Type} (m : xm_S) (b : xm_S → β) : β := b m
theorem xs_e {β : Type} {k : xm_S} {b : xm_S → β} {r : β} (h : xs_m k b = r) : ∃ j, j = k ∧ b j = r := ⟨k, rfl, h⟩
def xw_g (m : xm_S) (n : Nat) : xm_S := (xz_2 m.1 (58 + n) 0, xc_y (xz_2 m.2 (58 + n) 0) (58 + n) (va_cpy (m.2 (xk_c n)) (fun _ => 0) 0 0 (xk_l n)))
theorem xl_n : xm_le [] [] := trivial
theorem xl_o {a b : xm_L} {w : Option xm_V} (h : xm_le a b) : xm_le (none :: a) (w :: b) := h
theorem xl_s {a b : xm_L} {v : xm_V} (h : xm_le a b) : xm_le (some v :: a) (some v :: b) := ⟨rfl, h⟩
theorem xi_1 (x : Int32) : x + Int32.ofInt 1 = x + 1 := rfl
theorem xi_m1 (x : Int32) : x + Int32.ofInt (-1) = x + (-1) := rfl
theorem xi_8 (x : Int32) : x + Int32.ofInt 8 = x + 8 := rfl
end
section
/-! Three methods of the JDK: fill, min, copyOf. -/
def ja_fill_l5 (k N : Nat) (x : Int32) : Nat → Int32 → xm_S → Option xm_S
  | 0, _, _ => none
  | fu + 1, i, m => if nI N ≤ i then some m else xg_n i N (xs_m (xw_i m k i.toNatClampNeg x) fun m2 => ja_fill_l5 k N x fu (i + (1 : Int32)) m2)
def ja_fill (F k N : Nat) (x : Int32) (m : xm_S) : Option xm_S := ja_fill_l5 k N x F (0 : Int32) m
theorem ja_fill_l5_ok {xt : Nat → Nat × (Nat → Int32)} (d : Nat) {T : List xm_T} {k N : Nat} {x : Int32} {m' : xm_S} (hT : T[k]? = some (xt_r 0 N)) : ∀ (fu : Nat) (i : Int32) (m : xm_S), ja_fill_l5 k N x fu i m = some m' → xm_Run pg xt d 3 0 0 (xQ_v T m') 5 [some (xv_r k), some (xv_i x), some (xv_i i), some (xv_i (nI N))] [] (xq_2 T m) 0 0 := by
  intro fu
  induction fu with
  | zero => intro i m h; cases h
  | succ fu ih =>
    intro i m h
    rw [ja_fill_l5] at h
    refine xr_iload_n (in_3 rfl) rfl ?_
    refine xr_iload_n (in_3 rfl) rfl ?_
    by_cases c : nI N ≤ i
    · replace h := (if_pos c).symm.trans h
      refine xr_ict 20 (in_3 rfl) rfl c ?_
      obtain rfl := Option.some.inj h
      exact xr_vret kd_3 (in_3 rfl) (Nat.le_refl _) (Nat.le_refl _) ⟨rfl, rfl⟩
    · replace h := (if_neg c).symm.trans h
      refine xr_icf 20 (in_3 rfl) rfl c ?_
      refine xr_aload_n (in_3 rfl) rfl ?_
      refine xr_iload_n (in_3 rfl) rfl ?_
      refine xr_iload_n (in_3 rfl) rfl ?_
      obtain ⟨o1, h⟩ := xg_e h
      refine xq_iast (in_3 rfl) hT o1 ?_
      obtain ⟨m2, e2, h⟩ := xs_e h
      rw [← e2]
      clear e2
      refine xr_iinc (i + (1 : Int32)) [some (xv_r k), some (xv_i x), some (xv_i (i + (1 : Int32))), some (xv_i (nI N))] (in_3 rfl) rfl (xi_1 _) (nl_3 rfl) rfl ?_
      refine xr_goto 5 (in_3 rfl) rfl ?_
      exact ih _ _ h
theorem ja_fill_ok {xt : Nat → Nat × (Nat → Int32)} (_n d : Nat) {F : Nat} {T : List xm_T} {k N : Nat} {x : Int32} {m m' : xm_S} (hT : T[k]? = some (xt_r 0 N)) (h : ja_fill F k N x m = some m') : xm_Run pg xt d 3 0 0 (xQ_v T m') 0 [some (xv_r k), some (xv_i x), none, none] [] (xq_2 T m) 0 0 := by
  refine xr_iconst_ _ (in_3 rfl) (show _ = (0 : Int32) by decide) ?_
  refine xr_istore_n [some (xv_r k), some (xv_i x), some (xv_i (0 : Int32)), none] (in_3 rfl) (nl_3 rfl) rfl ?_
  refine xr_aload_n (in_3 rfl) rfl ?_
  refine xq_alen (in_3 rfl) hT (by decide) ?_
  refine xr_istore_n [some (xv_r k), some (xv_i x), some (xv_i (0 : Int32)), some (xv_i (nI N))] (in_3 rfl) (nl_3 rfl) rfl ?_
  exact ja_fill_l5_ok d hT F _ m h
theorem jm_min_ok {xt : Nat → Nat × (Nat → Int32)} (d : Nat) {T : List xm_T} {m : xm_S} {a b : Int32} (hab : ¬ b < a) : xm_Run pg xt d 43 0 0 (xQ_i T a m) 0 [some (xv_i a), some (xv_i b)] [] (xq_2 T m) 0 0 := by
  refine xr_iload_n (in_43 rfl) rfl ?_
  refine xr_iload_n (in_43 rfl) rfl ?_
  refine xr_icf 9 (in_43 rfl) rfl hab ?_
  refine xr_iload_n (in_43 rfl) rfl ?_
  refine xr_goto 10 (in_43 rfl) rfl ?_
  exact xr_iret kd_43 (in_43 rfl) (Nat.le_refl _) (Nat.le_refl _) ⟨rfl, rfl⟩
theorem xk_l_s (n : Nat) : xk_l (n + 1) = 2 * xk_l n := by unfold xk_l; rw [Nat.pow_succ]; omega
theorem xk_l_0 (n : Nat) : 512 ≤ xk_l n := by
  unfold xk_l
  have := Nat.one_le_two_pow (n := n)
  omega
theorem xk_l_b {n : Nat} (h : n ≤ 10) : xk_l n ≤ 524288 := by
  have h2 : 2 ^ n ≤ 2 ^ 10 := Nat.pow_le_pow_right (by decide) h
  unfold xk_l
  omega
theorem xw_g_e {m : xm_S} {n : Nat} : xw_c (xw_a m (58 + n)) (58 + n) (xk_c n) 0 0 (xk_l n) = xw_g m n := by
  have hne : xk_c n ≠ 58 + n := by
    cases n with
    | zero => decide
    | succ n => show 58 + n ≠ 58 + (n + 1); omega
  unfold xw_c xw_a xw_g
  have e1 : xz_2 m.2 (58 + n) 0 (xk_c n) = m.2 (xk_c n) := by funext b; simp [xz_2, hne]
  have e2 : xz_2 m.2 (58 + n) (0 : Int64) (58 + n) = fun _ => 0 := by funext b; simp [xz_2]
  show (_, _) = (_, _)
  dsimp only
  rw [e1, e2]
theorem ja_copyOf_ok {xt : Nat → Nat × (Nat → Int32)} (n d : Nat) {x : Int32} {m : xm_S} (h : x = nI (xk_l (n + 1)) ∧ n ≤ 10) : xm_Run pg xt (d + 1) 42 1 (xk_l (n + 1)) (fun r' M1 => r' = some (xv_r (58 + n)) ∧ M1 = xq_2 (sh n ++ [xt_r 1 (xk_l (n + 1))]) (xw_g m n)) 0 [some (xv_r (xk_c n)), some (xv_i x), none] [] (xq_2 (sh n) m) 0 0 := by
  obtain ⟨rfl, hn⟩ := h
  have b1 := xk_l_b hn
  have b2 := xk_l_s n
  have b3 := xk_l_0 n
  have hk : (sh n ++ [xt_r 1 (xk_l (n + 1))])[xk_c n]? = some (xt_r 1 (xk_l n)) := by
    rw [List.getElem?_append_left (List.getElem?_eq_some_iff.mp (sh_k n)).1]
    exact sh_k n
  have hq : (sh n ++ [xt_r 1 (xk_l (n + 1))])[58 + n]? = some (xt_r 1 (xk_l (n + 1))) := by
    rw [List.getElem?_append_right (by rw [sh_len]; exact Nat.le_refl _), sh_len, Nat.sub_self]
    rfl
  have hc : xk_c n ≠ 58 + n := by
    cases n with
    | zero => decide
    | succ n => show 58 + n ≠ 58 + (n + 1); omega
  have hne : ¬ nI (xk_l (n + 1)) = nI (xk_l n) := fun q => by
    have q2 := (nI_eq (by omega) (by omega)).mp q
    omega
  refine xr_iload_n (in_42 rfl) rfl ?_
  refine xr_aload_n (in_42 rfl) rfl ?_
  refine xq_alen (in_42 rfl) (sh_k n) (by decide) ?_
  refine xr_ict 14 (in_42 rfl) rfl hne ?_
  refine xr_iload_n (in_42 rfl) rfl ?_
  refine xq_newa 1 (xk_l (n + 1)) (58 + n) (sh n ++ [xt_r 1 (xk_l (n + 1))]) (in_42 rfl) (nI_pos (by omega)) (nI_clamp (by omega)) (by omega) (Or.inr (Or.inl ⟨rfl, rfl⟩)) (sh_len n) rfl ?_
  refine xr_astore_n [some (xv_r (xk_c n)), some (xv_i (nI (xk_l (n + 1)))), some (xv_r (58 + n))] (in_42 rfl) (nl_42 rfl) rfl ?_
  refine xr_aload_n (in_42 rfl) rfl ?_
  refine xr_iconst_ _ (in_42 rfl) (show _ = (0 : Int32) by decide) ?_
  refine xr_aload_n (in_42 rfl) rfl ?_
  refine xr_iconst_ _ (in_42 rfl) (show _ = (0 : Int32) by decide) ?_
  refine xr_aload_n (in_42 rfl) rfl ?_
  refine xq_alen (in_42 rfl) hk (by decide) ?_
  refine xr_iload_n (in_42 rfl) rfl ?_
  refine xq_calla [xv_i (nI (xk_l n)), xv_i (nI (xk_l (n + 1)))] [xv_i (0 : Int32), xv_r (58 + n), xv_i (0 : Int32), xv_r (xk_c n)] [some (xv_i (nI (xk_l n))), some (xv_i (nI (xk_l (n + 1))))] (xk_S (in_42 rfl)) (cl_42 rfl) rfl rfl rfl rfl (jm_min_ok d (nI_nlt (by omega) (by omega))) ?_
  have h0 : (0 : Int32).toNatClampNeg = 0 := by decide
  have hl : (nI (xk_l n)).toNatClampNeg = xk_l n := nI_clamp (by omega)
  refine xq_copy (in_42 rfl) (xo_42 rfl) rfl hk hq (by decide) (by decide) (nI_pos (by omega)) (by rw [h0, hl]; omega) (by rw [h0, hl]; omega) hc ?_
  rw [h0, hl, xw_g_e]
  refine xr_aload_n (in_42 rfl) rfl ?_
  exact xr_aret kd_42 (in_42 rfl) (Nat.le_refl _) (by omega) ⟨rfl, rfl⟩
end
