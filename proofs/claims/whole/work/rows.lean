section
/-! The abstract machine: values, cells, memory; one step with what follows as a predicate. -/
-- int, long, reference to a cell of ours by its number (none: null), a row that stands outside and is only read
abbrev xm_V : Type := Int32 ⊕ (Int64 ⊕ (Option Nat ⊕ Nat))
-- a field of an object: a number (it stands in the contents), or a reference
abbrev xm_F : Type := Option (Option Nat)
-- shape of a cell: a row (0 int, 1 long, 2 boolean; its length), or an object (the number of its kind, its fields)
abbrev xm_T : Type := (Nat × Nat) ⊕ (Nat × List xm_F)
-- memory: shapes; ints and booleans by cell and place; longs by cell and place
abbrev xm_M : Type := List xm_T × (Nat → Nat → Int32) × (Nat → Nat → Int64)
abbrev xm_L : Type := List (Option xm_V)
abbrev xm_K : Type := Nat → xm_L → List xm_V → xm_M → Nat → Nat → Prop
abbrev xv_i (x : Int32) : xm_V := Sum.inl x
abbrev xv_l (x : Int64) : xm_V := Sum.inr (Sum.inl x)
abbrev xv_r (k : Nat) : xm_V := Sum.inr (Sum.inr (Sum.inl (some k)))
abbrev xv_n : xm_V := Sum.inr (Sum.inr (Sum.inl none))
abbrev xv_x (k : Nat) : xm_V := Sum.inr (Sum.inr (Sum.inr k))
abbrev xt_r (t n : Nat) : xm_T := Sum.inl (t, n)
abbrev xt_o (ci : Nat) (fs : List xm_F) : xm_T := Sum.inr (ci, fs)
-- a method: instructions with the place behind; constants; fields (kind of object, place, type: 0 int, 2 reference, 3 boolean, 12 reference that is written once, 22 such a one elsewhere); what 'new' makes; statics; calls that are one step (1 arraycopy of longs, 2 Object(); at 0 stands 9 for a method <init>)
abbrev xm_Y : Type := (Nat → Option (Jvm.ClassFile.Instr × Nat)) × (Nat → Option xm_V) × (Nat → Option (Nat × Nat × Nat)) × (Nat → Option (Nat × List xm_F)) × (Nat → Option Nat) × (Nat → Nat)
def xm_cat : xm_V → Nat
  | Sum.inr (Sum.inl _) => 2
  | _ => 1
def xm_c8 (st : List xm_V) : Bool := Nat.ble ((st.map xm_cat).sum) 8
def xu_2 {α : Type} (f : Nat → Nat → α) (k j : Nat) (x : α) : Nat → Nat → α := fun a b => if a = k then (if b = j then x else f a b) else f a b
def xz_2 {α : Type} (f : Nat → Nat → α) (k : Nat) (z : α) : Nat → Nat → α := fun a b => if a = k then z else f a b
def xc_y {α : Type} (f : Nat → Nat → α) (k : Nat) (g : Nat → α) : Nat → Nat → α := fun a b => if a = k then g b else f a b
-- a place of the locals is written: a long ahead of it is broken; behind a long the next place is gone
def xm_brk (loc : xm_L) (i : Nat) : xm_L := match i with
  | 0 => loc
  | j + 1 => match loc[j]? with
    | some (some (Sum.inr (Sum.inl _))) => loc.set j none
    | _ => loc
def xm_st1 (loc : xm_L) (i : Nat) (v : xm_V) : xm_L := (xm_brk loc i).set i (some v)
def xm_st2 (loc : xm_L) (i : Nat) (v : xm_V) : xm_L := ((xm_brk loc i).set i (some v)).set (i + 1) none
def xm_fv (I : Nat → Nat → Int32) (k j : Nat) : xm_F → xm_V
  | none => xv_i (I k j)
  | some none => xv_n
  | some (some q) => xv_r q
def xm_c1 (c : Jvm.ClassFile.Cond) (x : Int32) : Prop := match c with
  | .eq => x = 0
  | .ne => ¬ x = 0
  | .lt => x < 0
  | .ge => 0 ≤ x
  | .gt => 0 < x
  | .le => x ≤ 0
def xm_c2 (c : Jvm.ClassFile.Cond) (x y : Int32) : Prop := match c with
  | .eq => x = y
  | .ne => ¬ x = y
  | .lt => x < y
  | .ge => y ≤ x
  | .gt => y < x
  | .le => x ≤ y
-- lengths of instructions (0: a switch)
def xm_len (i : Jvm.ClassFile.Instr) : Nat := match i with
  | .bipush _ => 2
  | .ldc _ => 2
  | .iload _ => 2
  | .lload _ => 2
  | .aload _ => 2
  | .istore _ => 2
  | .lstore _ => 2
  | .astore _ => 2
  | .newarray _ => 2
  | .sipush _ => 3
  | .ldc2_w _ => 3
  | .iinc _ _ => 3
  | .goto _ => 3
  | .ifCond _ _ => 3
  | .if_icmp _ _ => 3
  | .getfield _ => 3
  | .putfield _ => 3
  | .getstatic _ => 3
  | .new _ => 3
  | .invokevirtual _ => 3
  | .invokestatic _ => 3
  | .invokespecial _ => 3
  | .tableswitch _ _ _ _ => 0
  | .lookupswitch _ _ => 0
  | _ => 1
-- a method's instructions by place, in runs: (first place behind the run, its instructions with the place behind each)
abbrev xm_I : Type := Nat × Jvm.ClassFile.Instr × Nat
def xm_in (pc : Nat) : List xm_I → Option (Jvm.ClassFile.Instr × Nat)
  | [] => none
  | q :: r => bif Nat.beq q.1 pc then some q.2 else xm_in pc r
def xm_tb (pc : Nat) : List (Nat × List xm_I) → Option (Jvm.ClassFile.Instr × Nat)
  | [] => none
  | q :: r => bif Nat.blt pc q.1 then xm_in pc q.2 else xm_tb pc r
-- the one step
def xm_s1 (Y : xm_Y) (xt : Nat → Nat × (Nat → Int32)) (nL : Nat) (pc : Nat) (loc : xm_L) (st : List xm_V) (M : xm_M) (nc ns : Nat) (K : xm_K) : Prop :=
  ∃ (i : Jvm.ClassFile.Instr) (pn : Nat), Y.1 pc = some (i, pn) ∧ (match i with
    | .iconst n => K pn loc (xv_i (Int32.ofInt n) :: st) M nc ns
    | .bipush n => K pn loc (xv_i (Int8.ofInt n).toInt32 :: st) M nc ns
    | .sipush n => K pn loc (xv_i (Int16.ofInt n).toInt32 :: st) M nc ns
    | .lconst n => K pn loc (xv_l (Int64.ofNat (n : Nat)) :: st) M nc ns
    | .ldc ix => ∃ v, Y.2.1 ix = some (xv_i v) ∧ K pn loc (xv_i v :: st) M nc ns
    | .ldc2_w ix => ∃ v, Y.2.1 ix = some (xv_l v) ∧ K pn loc (xv_l v :: st) M nc ns
    | .iload k => ∃ x, loc[k]? = some (some (xv_i x)) ∧ K pn loc (xv_i x :: st) M nc ns
    | .iload_n k => ∃ x, loc[(k : Nat)]? = some (some (xv_i x)) ∧ K pn loc (xv_i x :: st) M nc ns
    | .lload k => ∃ x, loc[k]? = some (some (xv_l x)) ∧ K pn loc (xv_l x :: st) M nc ns
    | .lload_n k => ∃ x, loc[(k : Nat)]? = some (some (xv_l x)) ∧ K pn loc (xv_l x :: st) M nc ns
    | .aload k => (∃ q, loc[k]? = some (some (xv_r q)) ∧ K pn loc (xv_r q :: st) M nc ns) ∨ (∃ q, loc[k]? = some (some (xv_x q)) ∧ K pn loc (xv_x q :: st) M nc ns)
    | .aload_n k => (∃ q, loc[(k : Nat)]? = some (some (xv_r q)) ∧ K pn loc (xv_r q :: st) M nc ns) ∨ (∃ q, loc[(k : Nat)]? = some (some (xv_x q)) ∧ K pn loc (xv_x q :: st) M nc ns)
    | .istore k => ∃ x r, st = xv_i x :: r ∧ k < nL ∧ K pn (xm_st1 loc k (xv_i x)) r M nc ns
    | .istore_n k => ∃ x r, st = xv_i x :: r ∧ (k : Nat) < nL ∧ K pn (xm_st1 loc k (xv_i x)) r M nc ns
    | .lstore k => ∃ x r, st = xv_l x :: r ∧ k + 1 < nL ∧ K pn (xm_st2 loc k (xv_l x)) r M nc ns
    | .lstore_n k => ∃ x r, st = xv_l x :: r ∧ (k : Nat) + 1 < nL ∧ K pn (xm_st2 loc k (xv_l x)) r M nc ns
    | .astore k => ∃ x r, st = xv_r x :: r ∧ k < nL ∧ K pn (xm_st1 loc k (xv_r x)) r M nc ns
    | .astore_n k => ∃ x r, st = xv_r x :: r ∧ (k : Nat) < nL ∧ K pn (xm_st1 loc k (xv_r x)) r M nc ns
    | .iinc k n => ∃ x, loc[k]? = some (some (xv_i x)) ∧ k < nL ∧ K pn (xm_st1 loc k (xv_i (x + Int32.ofInt n))) st M nc ns
    | .iadd => ∃ x y r, st = xv_i y :: xv_i x :: r ∧ K pn loc (xv_i (x + y) :: r) M nc ns
    | .isub => ∃ x y r, st = xv_i y :: xv_i x :: r ∧ K pn loc (xv_i (x - y) :: r) M nc ns
    | .imul => ∃ x y r, st = xv_i y :: xv_i x :: r ∧ K pn loc (xv_i (x * y) :: r) M nc ns
    | .idiv => ∃ x y r, st = xv_i y :: xv_i x :: r ∧ ¬ y = 0 ∧ K pn loc (xv_i (x / y) :: r) M nc ns
    | .iand => ∃ x y r, st = xv_i y :: xv_i x :: r ∧ K pn loc (xv_i (x &&& y) :: r) M nc ns
    | .ior => ∃ x y r, st = xv_i y :: xv_i x :: r ∧ K pn loc (xv_i (x ||| y) :: r) M nc ns
    | .ixor => ∃ x y r, st = xv_i y :: xv_i x :: r ∧ K pn loc (xv_i (x ^^^ y) :: r) M nc ns
    | .ishl => ∃ x y r, st = xv_i y :: xv_i x :: r ∧ K pn loc (xv_i (x <<< (y &&& 31)) :: r) M nc ns
    | .ishr => ∃ x y r, st = xv_i y :: xv_i x :: r ∧ K pn loc (xv_i (x >>> (y &&& 31)) :: r) M nc ns
    | .ladd => ∃ x y r, st = xv_l y :: xv_l x :: r ∧ K pn loc (xv_l (x + y) :: r) M nc ns
    | .lsub => ∃ x y r, st = xv_l y :: xv_l x :: r ∧ K pn loc (xv_l (x - y) :: r) M nc ns
    | .land => ∃ x y r, st = xv_l y :: xv_l x :: r ∧ K pn loc (xv_l (x &&& y) :: r) M nc ns
    | .lor => ∃ x y r, st = xv_l y :: xv_l x :: r ∧ K pn loc (xv_l (x ||| y) :: r) M nc ns
    | .lshl => ∃ x y r, st = xv_i y :: xv_l x :: r ∧ K pn loc (xv_l (x <<< (y.toInt64 &&& 63)) :: r) M nc ns
    | .lshr => ∃ x y r, st = xv_i y :: xv_l x :: r ∧ K pn loc (xv_l (x >>> (y.toInt64 &&& 63)) :: r) M nc ns
    | .lcmp => ∃ x y r, st = xv_l y :: xv_l x :: r ∧ K pn loc (xv_i (lg_cmp x y) :: r) M nc ns
    | .i2l => ∃ x r, st = xv_i x :: r ∧ K pn loc (xv_l x.toInt64 :: r) M nc ns
    | .l2i => ∃ x r, st = xv_l x :: r ∧ K pn loc (xv_i x.toInt32 :: r) M nc ns
    | .dup => ∃ v r, st = v :: r ∧ xm_cat v = 1 ∧ K pn loc (v :: v :: r) M nc ns
    | .pop => ∃ v r, st = v :: r ∧ xm_cat v = 1 ∧ K pn loc r M nc ns
    | .dup2 => ∃ v w r, st = v :: w :: r ∧ xm_cat v = 1 ∧ xm_cat w = 1 ∧ K pn loc (v :: w :: v :: w :: r) M nc ns
    | .goto off => ∃ t : Nat, (pc : Int) + off = (t : Int) ∧ K t loc st M nc ns
    | .ifCond c off => ∃ (x : Int32) (r : List xm_V) (t : Nat), st = xv_i x :: r ∧ (pc : Int) + off = (t : Int) ∧ (xm_c1 c x → K t loc r M nc ns) ∧ (¬ xm_c1 c x → K pn loc r M nc ns)
    | .if_icmp c off => ∃ (x y : Int32) (r : List xm_V) (t : Nat), st = xv_i y :: xv_i x :: r ∧ (pc : Int) + off = (t : Int) ∧ (xm_c2 c x y → K t loc r M nc ns) ∧ (¬ xm_c2 c x y → K pn loc r M nc ns)
    | .tableswitch d lo hi os => ∃ (x : Int32) (r : List xm_V), st = xv_i x :: r ∧
        ((∃ t : Nat, (x.toInt < lo ∨ hi < x.toInt) ∧ (pc : Int) + d = (t : Int) ∧ K t loc r M nc ns) ∨
         (∃ (off : Int) (t : Nat), (¬ x.toInt < lo ∧ ¬ hi < x.toInt) ∧ os[(x.toInt - lo).toNat]? = some off ∧ (pc : Int) + off = (t : Int) ∧ K t loc r M nc ns))
    | .iaload => (∃ i k n r, st = xv_i i :: xv_r k :: r ∧ M.1[k]? = some (xt_r 0 n) ∧ vp_in i n ∧ K pn loc (xv_i (M.2.1 k i.toNatClampNeg) :: r) M nc ns) ∨
        (∃ i q r, st = xv_i i :: xv_x q :: r ∧ vp_in i (xt q).1 ∧ K pn loc (xv_i ((xt q).2 i.toNatClampNeg) :: r) M nc ns)
    | .baload => ∃ i k n r, st = xv_i i :: xv_r k :: r ∧ M.1[k]? = some (xt_r 2 n) ∧ vp_in i n ∧ K pn loc (xv_i (M.2.1 k i.toNatClampNeg) :: r) M nc ns
    | .laload => ∃ i k n r, st = xv_i i :: xv_r k :: r ∧ M.1[k]? = some (xt_r 1 n) ∧ vp_in i n ∧ K pn loc (xv_l (M.2.2 k i.toNatClampNeg) :: r) M nc ns
    | .iastore => ∃ i x k n r, st = xv_i x :: xv_i i :: xv_r k :: r ∧ M.1[k]? = some (xt_r 0 n) ∧ vp_in i n ∧ K pn loc r (M.1, xu_2 M.2.1 k i.toNatClampNeg x, M.2.2) nc ns
    | .bastore => ∃ i x k n r, st = xv_i x :: xv_i i :: xv_r k :: r ∧ M.1[k]? = some (xt_r 2 n) ∧ vp_in i n ∧ (x = 0 ∨ x = 1) ∧ K pn loc r (M.1, xu_2 M.2.1 k i.toNatClampNeg x, M.2.2) nc ns
    | .lastore => ∃ i x k n r, st = xv_l x :: xv_i i :: xv_r k :: r ∧ M.1[k]? = some (xt_r 1 n) ∧ vp_in i n ∧ K pn loc r (M.1, M.2.1, xu_2 M.2.2 k i.toNatClampNeg x) nc ns
    | .arraylength => (∃ k t n r, st = xv_r k :: r ∧ M.1[k]? = some (xt_r t n) ∧ t < 3 ∧ K pn loc (xv_i (nI n) :: r) M nc ns) ∨
        (∃ q r, st = xv_x q :: r ∧ K pn loc (xv_i (nI (xt q).1) :: r) M nc ns)
    | .getfield ix => ∃ ci j ty k fs f r, Y.2.2.1 ix = some (ci, j, ty) ∧ st = xv_r k :: r ∧ M.1[k]? = some (xt_o ci fs) ∧ fs[j]? = some f ∧ K pn loc (xm_fv M.2.1 k j f :: r) M nc ns
    | .putfield ix => (∃ ci j ty k fs x r, Y.2.2.1 ix = some (ci, j, ty) ∧ st = xv_i x :: xv_r k :: r ∧ M.1[k]? = some (xt_o ci fs) ∧ fs[j]? = some none ∧ (ty = 0 ∨ (ty = 3 ∧ (x = 0 ∨ x = 1))) ∧ K pn loc r (M.1, xu_2 M.2.1 k j x, M.2.2) nc ns) ∨
        (∃ ci j t k fs q o r, Y.2.2.1 ix = some (ci, j, t) ∧ (t = 2 ∨ (t = 12 ∧ Y.2.2.2.2.2 0 = 9)) ∧ st = xv_r q :: xv_r k :: r ∧ M.1[k]? = some (xt_o ci fs) ∧ fs[j]? = some (some o) ∧ K pn loc r (M.1.set k (xt_o ci (fs.set j (some (some q)))), M.2.1, M.2.2) nc ns)
    | .getstatic ix => ∃ q, Y.2.2.2.2.1 ix = some q ∧ K pn loc (xv_x q :: st) M nc ns
    | .new ix => ∃ ci fs, Y.2.2.2.1 ix = some (ci, fs) ∧ K pn loc (xv_r M.1.length :: st) (M.1 ++ [xt_o ci fs], xz_2 M.2.1 M.1.length 0, M.2.2) (nc + 1) (ns + fs.length)
    | .newarray ty => ∃ (t : Nat) (n : Int32) (N : Nat) (r : List xm_V), st = xv_i n :: r ∧ ¬ n < 0 ∧ n.toNatClampNeg = N ∧ N ≤ 67108864 ∧ ((ty = .int ∧ t = 0) ∨ (ty = .long ∧ t = 1) ∨ (ty = .boolean ∧ t = 2)) ∧
        K pn loc (xv_r M.1.length :: r) (M.1 ++ [xt_r t N], xz_2 M.2.1 M.1.length 0, xz_2 M.2.2 M.1.length 0) (nc + 1) (ns + N)
    | .invokespecial ix => Y.2.2.2.2.2 ix = 2 ∧ ∃ k r, st = xv_r k :: r ∧ xm_c8 r = true ∧ K pn loc r M nc ns
    | .invokestatic ix => Y.2.2.2.2.2 ix = 1 ∧ ∃ (n dp sp : Int32) (kd ks nd n0 : Nat) (r : List xm_V), st = xv_i n :: xv_i dp :: xv_r kd :: xv_i sp :: xv_r ks :: r ∧ M.1[ks]? = some (xt_r 1 n0) ∧ M.1[kd]? = some (xt_r 1 nd) ∧ ¬ sp < 0 ∧ ¬ dp < 0 ∧ ¬ n < 0 ∧ sp.toNatClampNeg + n.toNatClampNeg ≤ n0 ∧ dp.toNatClampNeg + n.toNatClampNeg ≤ nd ∧ ks ≠ kd ∧ xm_c8 r = true ∧
        K pn loc r (M.1, M.2.1, xc_y M.2.2 kd (va_cpy (M.2.2 ks) (M.2.2 kd) sp.toNatClampNeg dp.toNatClampNeg n.toNatClampNeg)) nc ns
    | _ => False)
end
section
/-! Pure: 'from here the method comes to its end with Q', as the least predicate that is closed under step, call, return, and forgetting of locals. -/
abbrev xm_P : Type := Option xm_V → xm_M → Prop
-- a program: code, number of locals and kind of answer (0 none, 1 int, 2 long, 3 reference, 4 boolean) of each method; which method a call means, how many values it takes, how it is called (0 virtual, 1 static, 2 special), the receiver's kind
abbrev xm_Pr : Type := (Nat → xm_Y) × (Nat → Nat) × (Nat → Nat) × (Nat → Nat → Option (Nat × Nat × Nat × Nat))
abbrev xm_GT : Type := Nat → Nat → Nat → Nat → xm_P → xm_K
def xm_en : List xm_V → xm_L
  | [] => []
  | v :: r => bif Nat.beq (xm_cat v) 2 then some v :: none :: xm_en r else some v :: xm_en r
def xm_ent (n : Nat) (av : List xm_V) : xm_L := xm_en av ++ List.replicate (n - (xm_en av).length) none
def xm_isCall (Y : xm_Y) (T : List xm_T) (av : List xm_V) (pc ix pn kd ci : Nat) : Prop :=
  (kd = 0 ∧ Y.1 pc = some (.invokevirtual ix, pn) ∧ ∃ k fs as, av = xv_r k :: as ∧ T[k]? = some (xt_o ci fs)) ∨ (kd = 1 ∧ Y.1 pc = some (.invokestatic ix, pn)) ∨ (kd = 2 ∧ Y.1 pc = some (.invokespecial ix, pn) ∧ ∃ k as, av = xv_r k :: as)
theorem xk_V {Y : xm_Y} {T : List xm_T} {as : List xm_V} {fs : List xm_F} {k pc ix pn ci : Nat} (h : Y.1 pc = some (.invokevirtual ix, pn)) (hk : T[k]? = some (xt_o ci fs)) : xm_isCall Y T (xv_r k :: as) pc ix pn 0 ci := Or.inl ⟨rfl, h, _, _, _, rfl, hk⟩
theorem xk_S {Y : xm_Y} {T : List xm_T} {as : List xm_V} {pc ix pn ci : Nat} (h : Y.1 pc = some (.invokestatic ix, pn)) : xm_isCall Y T as pc ix pn 1 ci := Or.inr (Or.inl ⟨rfl, h⟩)
theorem xk_I {Y : xm_Y} {T : List xm_T} {as : List xm_V} {k pc ix pn ci : Nat} (h : Y.1 pc = some (.invokespecial ix, pn)) : xm_isCall Y T (xv_r k :: as) pc ix pn 2 ci := Or.inr (Or.inr ⟨rfl, h, _, _, rfl⟩)
def xm_cS (P : xm_Pr) (xt : Nat → Nat × (Nat → Int32)) (G : xm_GT) : Prop := ∀ (d y C0 S0 : Nat) (Q : xm_P) (pc : Nat) (loc : xm_L) (st : List xm_V) (M : xm_M) (nc ns : Nat),
  ∀ K : xm_K, xm_s1 (P.1 y) xt (P.2.1 y) pc loc st M nc ns K → (∀ a1 a2 a3 a4 a5 a6, K a1 a2 a3 a4 a5 a6 → G d y C0 S0 Q a1 a2 a3 a4 a5 a6) → G d y C0 S0 Q pc loc st M nc ns
def xm_cC (P : xm_Pr) (G : xm_GT) : Prop := ∀ (d y C0 S0 : Nat) (Q : xm_P) (pc : Nat) (loc : xm_L) (M : xm_M) (nc ns ix pn y' kd ci c1 s1 : Nat) (av rest : List xm_V) (Q' : xm_P),
  xm_isCall (P.1 y) M.1 av pc ix pn kd ci → P.2.2.2 y ix = some (y', av.length, kd, ci) → (xm_en av).length ≤ P.2.1 y' → xm_c8 rest = true →
  G d y' c1 s1 Q' 0 (xm_ent (P.2.1 y') av) [] M 0 0 → (∀ r M', Q' r M' → G (d + 1) y C0 S0 Q pn loc (r.toList ++ rest) M' (nc + c1) (ns + s1)) →
  G (d + 1) y C0 S0 Q pc loc (av.reverse ++ rest) M nc ns
def xm_retOk (Y : xm_Y) (k pc : Nat) (r : Option xm_V) : Prop := ∃ pn : Nat, match k, r with
  | 0, none => Y.1 pc = some (.return_, pn)
  | 1, some (Sum.inl _) => Y.1 pc = some (.ireturn, pn)
  | 2, some (Sum.inr (Sum.inl _)) => Y.1 pc = some (.lreturn, pn)
  | 3, some (Sum.inr (Sum.inr (Sum.inl (some _)))) => Y.1 pc = some (.areturn, pn)
  | 4, some (Sum.inl x) => Y.1 pc = some (.ireturn, pn) ∧ (x = 0 ∨ x = 1)
  | _, _ => False
def xm_cR (P : xm_Pr) (G : xm_GT) : Prop := ∀ (d y C0 S0 : Nat) (Q : xm_P) (pc : Nat) (loc : xm_L) (M : xm_M) (nc ns : Nat) (r : Option xm_V),
  xm_retOk (P.1 y) (P.2.2.1 y) pc r → nc ≤ C0 → ns ≤ S0 → Q r M → G d y C0 S0 Q pc loc r.toList M nc ns
-- fewer locals are known
def xm_le : xm_L → xm_L → Prop
  | [], [] => True
  | none :: a, _ :: b => xm_le a b
  | some v :: a, w :: b => w = some v ∧ xm_le a b
  | _, _ => False
def xm_cF (G : xm_GT) : Prop := ∀ (d y C0 S0 : Nat) (Q : xm_P) (pc : Nat) (loc loc' : xm_L) (st : List xm_V) (M : xm_M) (nc ns : Nat),
  xm_le loc' loc → G d y C0 S0 Q pc loc' st M nc ns → G d y C0 S0 Q pc loc st M nc ns
def xm_clo (P : xm_Pr) (xt : Nat → Nat × (Nat → Int32)) (G : xm_GT) : Prop := xm_cS P xt G ∧ xm_cC P G ∧ xm_cR P G ∧ xm_cF G
def xm_Run (P : xm_Pr) (xt : Nat → Nat × (Nat → Int32)) : xm_GT := fun d y C0 S0 Q pc loc st M nc ns => ∀ G : xm_GT, xm_clo P xt G → G d y C0 S0 Q pc loc st M nc ns
section RUN
variable {P : xm_Pr} {xt : Nat → Nat × (Nat → Int32)} {d y C0 S0 : Nat} {Q : xm_P} {pc pn : Nat} {loc : xm_L} {st : List xm_V} {M : xm_M} {nc ns : Nat}
theorem xr_step (h : xm_s1 (P.1 y) xt (P.2.1 y) pc loc st M nc ns (xm_Run P xt d y C0 S0 Q)) : xm_Run P xt d y C0 S0 Q pc loc st M nc ns :=
  fun G hG => hG.1 d y C0 S0 Q pc loc st M nc ns _ h fun a1 a2 a3 a4 a5 a6 k => k G hG
theorem xr_forget {loc' : xm_L} (h : xm_le loc' loc) (k : xm_Run P xt d y C0 S0 Q pc loc' st M nc ns) : xm_Run P xt d y C0 S0 Q pc loc st M nc ns :=
  fun G hG => hG.2.2.2 d y C0 S0 Q pc loc loc' st M nc ns h (k G hG)
theorem xr_call0 {ix y' kd ci c1 s1 : Nat} (av : List xm_V) {rest : List xm_V} {Q' : xm_P} (hi : xm_isCall (P.1 y) M.1 av pc ix pn kd ci) (hc : P.2.2.2 y ix = some (y', av.length, kd, ci)) (hle : (xm_en av).length ≤ P.2.1 y') (h8 : xm_c8 rest = true)
    (hy : xm_Run P xt d y' c1 s1 Q' 0 (xm_ent (P.2.1 y') av) [] M 0 0) (hk : ∀ r M', Q' r M' → xm_Run P xt (d + 1) y C0 S0 Q pn loc (r.toList ++ rest) M' (nc + c1) (ns + s1)) :
    xm_Run P xt (d + 1) y C0 S0 Q pc loc (av.reverse ++ rest) M nc ns :=
  fun G hG => hG.2.1 d y C0 S0 Q pc loc M nc ns ix pn y' kd ci c1 s1 av rest Q' hi hc hle h8 (hy G hG) (fun r M' q => hk r M' q G hG)
theorem xr_ret0 {r : Option xm_V} (hr : xm_retOk (P.1 y) (P.2.2.1 y) pc r) (h1 : nc ≤ C0) (h2 : ns ≤ S0) (hq : Q r M) : xm_Run P xt d y C0 S0 Q pc loc r.toList M nc ns :=
  fun G hG => hG.2.2.1 d y C0 S0 Q pc loc M nc ns r hr h1 h2 hq
-- the end may be weakened
theorem xr_post {Q' : xm_P} (h : xm_Run P xt d y C0 S0 Q pc loc st M nc ns) (hq : ∀ r M, Q r M → Q' r M) : xm_Run P xt d y C0 S0 Q' pc loc st M nc ns :=
  fun G hG => h (fun d y C0 S0 Q pc loc st M nc ns => ∀ Q' : xm_P, (∀ r M, Q r M → Q' r M) → G d y C0 S0 Q' pc loc st M nc ns)
    ⟨fun d y C0 S0 Q pc loc st M nc ns K h hk Q' hq => hG.1 d y C0 S0 Q' pc loc st M nc ns K h fun a1 a2 a3 a4 a5 a6 k => hk a1 a2 a3 a4 a5 a6 k Q' hq,
     fun d y C0 S0 Q pc loc M nc ns ix pn y' kd ci c1 s1 av rest R hi hc hle h8 hy hk Q' hq => hG.2.1 d y C0 S0 Q' pc loc M nc ns ix pn y' kd ci c1 s1 av rest R hi hc hle h8 (hy R fun _ _ q => q) (fun r M' q => hk r M' q Q' hq),
     fun d y C0 S0 Q pc loc M nc ns r hr h1 h2 hq0 Q' hq => hG.2.2.1 d y C0 S0 Q' pc loc M nc ns r hr h1 h2 (hq r M hq0),
     fun d y C0 S0 Q pc loc loc' st M nc ns hl h Q' hq => hG.2.2.2 d y C0 S0 Q' pc loc loc' st M nc ns hl (h Q' hq)⟩ Q' hq
-- more frames do no harm
theorem xr_deep {d' : Nat} (h : xm_Run P xt d y C0 S0 Q pc loc st M nc ns) (hd : d ≤ d') : xm_Run P xt d' y C0 S0 Q pc loc st M nc ns :=
  fun G hG => h (fun d y C0 S0 Q pc loc st M nc ns => ∀ d' : Nat, d ≤ d' → G d' y C0 S0 Q pc loc st M nc ns)
    ⟨fun d y C0 S0 Q pc loc st M nc ns K h hk d' hd => hG.1 d' y C0 S0 Q pc loc st M nc ns K h fun a1 a2 a3 a4 a5 a6 k => hk a1 a2 a3 a4 a5 a6 k d' hd,
     fun d y C0 S0 Q pc loc M nc ns ix pn y' kd ci c1 s1 av rest R hi hc hle h8 hy hk d' hd => by
       cases d' with
       | zero => exact absurd hd (Nat.not_succ_le_zero d)
       | succ d' => exact hG.2.1 d' y C0 S0 Q pc loc M nc ns ix pn y' kd ci c1 s1 av rest R hi hc hle h8 (hy d' (Nat.le_of_succ_le_succ hd)) (fun r M' q => hk r M' q (d' + 1) hd),
     fun d y C0 S0 Q pc loc M nc ns r hr h1 h2 hq0 d' hd => hG.2.2.1 d' y C0 S0 Q pc loc M nc ns r hr h1 h2 hq0,
     fun d y C0 S0 Q pc loc loc' st M nc ns hl h d' hd => hG.2.2.2 d' y C0 S0 Q pc loc loc' st M nc ns hl (h d' hd)⟩ d' hd
theorem xr_iconst {n : Int} (hi : (P.1 y).1 pc = some (.iconst n, pn))  (k : xm_Run P xt d y C0 S0 Q pn loc (xv_i (Int32.ofInt n) :: st) M nc ns) : xm_Run P xt d y C0 S0 Q pc loc st M nc ns := xr_step ⟨_, _, hi, k⟩
theorem xr_bipush {n : Int} (hi : (P.1 y).1 pc = some (.bipush n, pn))  (k : xm_Run P xt d y C0 S0 Q pn loc (xv_i (Int8.ofInt n).toInt32 :: st) M nc ns) : xm_Run P xt d y C0 S0 Q pc loc st M nc ns := xr_step ⟨_, _, hi, k⟩
theorem xr_sipush {n : Int} (hi : (P.1 y).1 pc = some (.sipush n, pn))  (k : xm_Run P xt d y C0 S0 Q pn loc (xv_i (Int16.ofInt n).toInt32 :: st) M nc ns) : xm_Run P xt d y C0 S0 Q pc loc st M nc ns := xr_step ⟨_, _, hi, k⟩
theorem xr_iconst_ {n : Int} (v : Int32) (hi : (P.1 y).1 pc = some (.iconst n, pn)) (hv : Int32.ofInt n = v) (k : xm_Run P xt d y C0 S0 Q pn loc (xv_i v :: st) M nc ns) : xm_Run P xt d y C0 S0 Q pc loc st M nc ns := by subst hv; exact xr_step ⟨_, _, hi, k⟩
theorem xr_bipush_ {n : Int} (v : Int32) (hi : (P.1 y).1 pc = some (.bipush n, pn)) (hv : (Int8.ofInt n).toInt32 = v) (k : xm_Run P xt d y C0 S0 Q pn loc (xv_i v :: st) M nc ns) : xm_Run P xt d y C0 S0 Q pc loc st M nc ns := by subst hv; exact xr_step ⟨_, _, hi, k⟩
theorem xr_sipush_ {n : Int} (v : Int32) (hi : (P.1 y).1 pc = some (.sipush n, pn)) (hv : (Int16.ofInt n).toInt32 = v) (k : xm_Run P xt d y C0 S0 Q pn loc (xv_i v :: st) M nc ns) : xm_Run P xt d y C0 S0 Q pc loc st M nc ns := by subst hv; exact xr_step ⟨_, _, hi, k⟩
theorem xr_lconst_ {n : Fin 2} (v : Int64) (hi : (P.1 y).1 pc = some (.lconst n, pn)) (hv : Int64.ofNat (n : Nat) = v) (k : xm_Run P xt d y C0 S0 Q pn loc (xv_l v :: st) M nc ns) : xm_Run P xt d y C0 S0 Q pc loc st M nc ns := by subst hv; exact xr_step ⟨_, _, hi, k⟩
theorem xr_ldc {ix : Nat} {v : Int32} (hi : (P.1 y).1 pc = some (.ldc ix, pn)) (hv : (P.1 y).2.1 ix = some (xv_i v)) (k : xm_Run P xt d y C0 S0 Q pn loc (xv_i v :: st) M nc ns) : xm_Run P xt d y C0 S0 Q pc loc st M nc ns := xr_step ⟨_, _, hi, ⟨_, hv, k⟩⟩
theorem xr_ldc2 {ix : Nat} {v : Int64} (hi : (P.1 y).1 pc = some (.ldc2_w ix, pn)) (hv : (P.1 y).2.1 ix = some (xv_l v)) (k : xm_Run P xt d y C0 S0 Q pn loc (xv_l v :: st) M nc ns) : xm_Run P xt d y C0 S0 Q pc loc st M nc ns := xr_step ⟨_, _, hi, ⟨_, hv, k⟩⟩
theorem xr_iload {a : Nat} {x : Int32} (hi : (P.1 y).1 pc = some (.iload a, pn)) (hl : loc[a]? = some (some (xv_i x))) (k : xm_Run P xt d y C0 S0 Q pn loc (xv_i x :: st) M nc ns) : xm_Run P xt d y C0 S0 Q pc loc st M nc ns := xr_step ⟨_, _, hi, ⟨_, hl, k⟩⟩
theorem xr_iload_n {a : Fin 4} {x : Int32} (hi : (P.1 y).1 pc = some (.iload_n a, pn)) (hl : loc[(a : Nat)]? = some (some (xv_i x))) (k : xm_Run P xt d y C0 S0 Q pn loc (xv_i x :: st) M nc ns) : xm_Run P xt d y C0 S0 Q pc loc st M nc ns := xr_step ⟨_, _, hi, ⟨_, hl, k⟩⟩
theorem xr_lload {a : Nat} {x : Int64} (hi : (P.1 y).1 pc = some (.lload a, pn)) (hl : loc[a]? = some (some (xv_l x))) (k : xm_Run P xt d y C0 S0 Q pn loc (xv_l x :: st) M nc ns) : xm_Run P xt d y C0 S0 Q pc loc st M nc ns := xr_step ⟨_, _, hi, ⟨_, hl, k⟩⟩
theorem xr_lload_n {a : Fin 4} {x : Int64} (hi : (P.1 y).1 pc = some (.lload_n a, pn)) (hl : loc[(a : Nat)]? = some (some (xv_l x))) (k : xm_Run P xt d y C0 S0 Q pn loc (xv_l x :: st) M nc ns) : xm_Run P xt d y C0 S0 Q pc loc st M nc ns := xr_step ⟨_, _, hi, ⟨_, hl, k⟩⟩
theorem xr_aload {a q : Nat} (hi : (P.1 y).1 pc = some (.aload a, pn)) (hl : loc[a]? = some (some (xv_r q))) (k : xm_Run P xt d y C0 S0 Q pn loc (xv_r q :: st) M nc ns) : xm_Run P xt d y C0 S0 Q pc loc st M nc ns := xr_step ⟨_, _, hi, Or.inl ⟨_, hl, k⟩⟩
theorem xr_aload_n {a : Fin 4} {q : Nat} (hi : (P.1 y).1 pc = some (.aload_n a, pn)) (hl : loc[(a : Nat)]? = some (some (xv_r q))) (k : xm_Run P xt d y C0 S0 Q pn loc (xv_r q :: st) M nc ns) : xm_Run P xt d y C0 S0 Q pc loc st M nc ns := xr_step ⟨_, _, hi, Or.inl ⟨_, hl, k⟩⟩
theorem xr_aloadx {a q : Nat} (hi : (P.1 y).1 pc = some (.aload a, pn)) (hl : loc[a]? = some (some (xv_x q))) (k : xm_Run P xt d y C0 S0 Q pn loc (xv_x q :: st) M nc ns) : xm_Run P xt d y C0 S0 Q pc loc st M nc ns := xr_step ⟨_, _, hi, Or.inr ⟨_, hl, k⟩⟩
theorem xr_aload_nx {a : Fin 4} {q : Nat} (hi : (P.1 y).1 pc = some (.aload_n a, pn)) (hl : loc[(a : Nat)]? = some (some (xv_x q))) (k : xm_Run P xt d y C0 S0 Q pn loc (xv_x q :: st) M nc ns) : xm_Run P xt d y C0 S0 Q pc loc st M nc ns := xr_step ⟨_, _, hi, Or.inr ⟨_, hl, k⟩⟩
theorem xr_istore {a : Nat} {x : Int32} (loc' : xm_L) (hi : (P.1 y).1 pc = some (.istore a, pn)) (hn : a < P.2.1 y) (hl : xm_st1 loc a (xv_i x) = loc') (k : xm_Run P xt d y C0 S0 Q pn loc' st M nc ns) : xm_Run P xt d y C0 S0 Q pc loc (xv_i x :: st) M nc ns := by subst hl; exact xr_step ⟨_, _, hi, _, _, rfl, hn, k⟩
theorem xr_istore_n {a : Fin 4} {x : Int32} (loc' : xm_L) (hi : (P.1 y).1 pc = some (.istore_n a, pn)) (hn : (a : Nat) < P.2.1 y) (hl : xm_st1 loc (a : Nat) (xv_i x) = loc') (k : xm_Run P xt d y C0 S0 Q pn loc' st M nc ns) : xm_Run P xt d y C0 S0 Q pc loc (xv_i x :: st) M nc ns := by subst hl; exact xr_step ⟨_, _, hi, _, _, rfl, hn, k⟩
theorem xr_lstore {a : Nat} {x : Int64} (loc' : xm_L) (hi : (P.1 y).1 pc = some (.lstore a, pn)) (hn : a + 1 < P.2.1 y) (hl : xm_st2 loc a (xv_l x) = loc') (k : xm_Run P xt d y C0 S0 Q pn loc' st M nc ns) : xm_Run P xt d y C0 S0 Q pc loc (xv_l x :: st) M nc ns := by subst hl; exact xr_step ⟨_, _, hi, _, _, rfl, hn, k⟩
theorem xr_lstore_n {a : Fin 4} {x : Int64} (loc' : xm_L) (hi : (P.1 y).1 pc = some (.lstore_n a, pn)) (hn : (a : Nat) + 1 < P.2.1 y) (hl : xm_st2 loc (a : Nat) (xv_l x) = loc') (k : xm_Run P xt d y C0 S0 Q pn loc' st M nc ns) : xm_Run P xt d y C0 S0 Q pc loc (xv_l x :: st) M nc ns := by subst hl; exact xr_step ⟨_, _, hi, _, _, rfl, hn, k⟩
theorem xr_astore {a : Nat} {x : Nat} (loc' : xm_L) (hi : (P.1 y).1 pc = some (.astore a, pn)) (hn : a < P.2.1 y) (hl : xm_st1 loc a (xv_r x) = loc') (k : xm_Run P xt d y C0 S0 Q pn loc' st M nc ns) : xm_Run P xt d y C0 S0 Q pc loc (xv_r x :: st) M nc ns := by subst hl; exact xr_step ⟨_, _, hi, _, _, rfl, hn, k⟩
theorem xr_astore_n {a : Fin 4} {x : Nat} (loc' : xm_L) (hi : (P.1 y).1 pc = some (.astore_n a, pn)) (hn : (a : Nat) < P.2.1 y) (hl : xm_st1 loc (a : Nat) (xv_r x) = loc') (k : xm_Run P xt d y C0 S0 Q pn loc' st M nc ns) : xm_Run P xt d y C0 S0 Q pc loc (xv_r x :: st) M nc ns := by subst hl; exact xr_step ⟨_, _, hi, _, _, rfl, hn, k⟩
theorem xr_iinc {a : Nat} {n : Int} {x : Int32} (v : Int32) (loc' : xm_L) (hi : (P.1 y).1 pc = some (.iinc a n, pn)) (hx : loc[a]? = some (some (xv_i x))) (hv : x + Int32.ofInt n = v) (hn : a < P.2.1 y) (hl : xm_st1 loc a (xv_i v) = loc') (k : xm_Run P xt d y C0 S0 Q pn loc' st M nc ns) : xm_Run P xt d y C0 S0 Q pc loc st M nc ns := by subst hv; subst hl; exact xr_step ⟨_, _, hi, _, hx, hn, k⟩
theorem xr_iadd {x z : Int32} (hi : (P.1 y).1 pc = some (.iadd, pn))  (k : xm_Run P xt d y C0 S0 Q pn loc (xv_i (x + z) :: st) M nc ns) : xm_Run P xt d y C0 S0 Q pc loc (xv_i z :: xv_i x :: st) M nc ns := xr_step ⟨_, _, hi, ⟨_, _, _, rfl, k⟩⟩
theorem xr_isub {x z : Int32} (hi : (P.1 y).1 pc = some (.isub, pn))  (k : xm_Run P xt d y C0 S0 Q pn loc (xv_i (x - z) :: st) M nc ns) : xm_Run P xt d y C0 S0 Q pc loc (xv_i z :: xv_i x :: st) M nc ns := xr_step ⟨_, _, hi, ⟨_, _, _, rfl, k⟩⟩
theorem xr_imul {x z : Int32} (hi : (P.1 y).1 pc = some (.imul, pn))  (k : xm_Run P xt d y C0 S0 Q pn loc (xv_i (x * z) :: st) M nc ns) : xm_Run P xt d y C0 S0 Q pc loc (xv_i z :: xv_i x :: st) M nc ns := xr_step ⟨_, _, hi, ⟨_, _, _, rfl, k⟩⟩
theorem xr_iand {x z : Int32} (hi : (P.1 y).1 pc = some (.iand, pn))  (k : xm_Run P xt d y C0 S0 Q pn loc (xv_i (x &&& z) :: st) M nc ns) : xm_Run P xt d y C0 S0 Q pc loc (xv_i z :: xv_i x :: st) M nc ns := xr_step ⟨_, _, hi, ⟨_, _, _, rfl, k⟩⟩
theorem xr_ior {x z : Int32} (hi : (P.1 y).1 pc = some (.ior, pn))  (k : xm_Run P xt d y C0 S0 Q pn loc (xv_i (x ||| z) :: st) M nc ns) : xm_Run P xt d y C0 S0 Q pc loc (xv_i z :: xv_i x :: st) M nc ns := xr_step ⟨_, _, hi, ⟨_, _, _, rfl, k⟩⟩
theorem xr_ixor {x z : Int32} (hi : (P.1 y).1 pc = some (.ixor, pn))  (k : xm_Run P xt d y C0 S0 Q pn loc (xv_i (x ^^^ z) :: st) M nc ns) : xm_Run P xt d y C0 S0 Q pc loc (xv_i z :: xv_i x :: st) M nc ns := xr_step ⟨_, _, hi, ⟨_, _, _, rfl, k⟩⟩
theorem xr_ishl {x z : Int32} (hi : (P.1 y).1 pc = some (.ishl, pn))  (k : xm_Run P xt d y C0 S0 Q pn loc (xv_i (x <<< (z &&& 31)) :: st) M nc ns) : xm_Run P xt d y C0 S0 Q pc loc (xv_i z :: xv_i x :: st) M nc ns := xr_step ⟨_, _, hi, ⟨_, _, _, rfl, k⟩⟩
theorem xr_ishr {x z : Int32} (hi : (P.1 y).1 pc = some (.ishr, pn))  (k : xm_Run P xt d y C0 S0 Q pn loc (xv_i (x >>> (z &&& 31)) :: st) M nc ns) : xm_Run P xt d y C0 S0 Q pc loc (xv_i z :: xv_i x :: st) M nc ns := xr_step ⟨_, _, hi, ⟨_, _, _, rfl, k⟩⟩
theorem xr_idiv {x z : Int32} (hi : (P.1 y).1 pc = some (.idiv, pn)) (h0 : ¬ z = 0) (k : xm_Run P xt d y C0 S0 Q pn loc (xv_i (x / z) :: st) M nc ns) : xm_Run P xt d y C0 S0 Q pc loc (xv_i z :: xv_i x :: st) M nc ns := xr_step ⟨_, _, hi, ⟨_, _, _, rfl, h0, k⟩⟩
theorem xr_ladd {x z : Int64} (hi : (P.1 y).1 pc = some (.ladd, pn))  (k : xm_Run P xt d y C0 S0 Q pn loc (xv_l (x + z) :: st) M nc ns) : xm_Run P xt d y C0 S0 Q pc loc (xv_l z :: xv_l x :: st) M nc ns := xr_step ⟨_, _, hi, ⟨_, _, _, rfl, k⟩⟩
theorem xr_lsub {x z : Int64} (hi : (P.1 y).1 pc = some (.lsub, pn))  (k : xm_Run P xt d y C0 S0 Q pn loc (xv_l (x - z) :: st) M nc ns) : xm_Run P xt d y C0 S0 Q pc loc (xv_l z :: xv_l x :: st) M nc ns := xr_step ⟨_, _, hi, ⟨_, _, _, rfl, k⟩⟩
theorem xr_land {x z : Int64} (hi : (P.1 y).1 pc = some (.land, pn))  (k : xm_Run P xt d y C0 S0 Q pn loc (xv_l (x &&& z) :: st) M nc ns) : xm_Run P xt d y C0 S0 Q pc loc (xv_l z :: xv_l x :: st) M nc ns := xr_step ⟨_, _, hi, ⟨_, _, _, rfl, k⟩⟩
theorem xr_lor {x z : Int64} (hi : (P.1 y).1 pc = some (.lor, pn))  (k : xm_Run P xt d y C0 S0 Q pn loc (xv_l (x ||| z) :: st) M nc ns) : xm_Run P xt d y C0 S0 Q pc loc (xv_l z :: xv_l x :: st) M nc ns := xr_step ⟨_, _, hi, ⟨_, _, _, rfl, k⟩⟩
theorem xr_lcmp {x z : Int64} (hi : (P.1 y).1 pc = some (.lcmp, pn))  (k : xm_Run P xt d y C0 S0 Q pn loc (xv_i (lg_cmp x z) :: st) M nc ns) : xm_Run P xt d y C0 S0 Q pc loc (xv_l z :: xv_l x :: st) M nc ns := xr_step ⟨_, _, hi, ⟨_, _, _, rfl, k⟩⟩
theorem xr_lshl {x : Int64} {z : Int32} (hi : (P.1 y).1 pc = some (.lshl, pn))  (k : xm_Run P xt d y C0 S0 Q pn loc (xv_l (x <<< (z.toInt64 &&& 63)) :: st) M nc ns) : xm_Run P xt d y C0 S0 Q pc loc (xv_i z :: xv_l x :: st) M nc ns := xr_step ⟨_, _, hi, ⟨_, _, _, rfl, k⟩⟩
theorem xr_lshr {x : Int64} {z : Int32} (hi : (P.1 y).1 pc = some (.lshr, pn))  (k : xm_Run P xt d y C0 S0 Q pn loc (xv_l (x >>> (z.toInt64 &&& 63)) :: st) M nc ns) : xm_Run P xt d y C0 S0 Q pc loc (xv_i z :: xv_l x :: st) M nc ns := xr_step ⟨_, _, hi, ⟨_, _, _, rfl, k⟩⟩
theorem xr_i2l {x : Int32} (hi : (P.1 y).1 pc = some (.i2l, pn))  (k : xm_Run P xt d y C0 S0 Q pn loc (xv_l x.toInt64 :: st) M nc ns) : xm_Run P xt d y C0 S0 Q pc loc (xv_i x :: st) M nc ns := xr_step ⟨_, _, hi, ⟨_, _, rfl, k⟩⟩
theorem xr_l2i {x : Int64} (hi : (P.1 y).1 pc = some (.l2i, pn))  (k : xm_Run P xt d y C0 S0 Q pn loc (xv_i x.toInt32 :: st) M nc ns) : xm_Run P xt d y C0 S0 Q pc loc (xv_l x :: st) M nc ns := xr_step ⟨_, _, hi, ⟨_, _, rfl, k⟩⟩
theorem xr_dup {v : xm_V} (hi : (P.1 y).1 pc = some (.dup, pn)) (hc : xm_cat v = 1) (k : xm_Run P xt d y C0 S0 Q pn loc (v :: v :: st) M nc ns) : xm_Run P xt d y C0 S0 Q pc loc (v :: st) M nc ns := xr_step ⟨_, _, hi, ⟨_, _, rfl, hc, k⟩⟩
theorem xr_pop {v : xm_V} (hi : (P.1 y).1 pc = some (.pop, pn)) (hc : xm_cat v = 1) (k : xm_Run P xt d y C0 S0 Q pn loc st M nc ns) : xm_Run P xt d y C0 S0 Q pc loc (v :: st) M nc ns := xr_step ⟨_, _, hi, ⟨_, _, rfl, hc, k⟩⟩
theorem xr_dup2 {v w : xm_V} (hi : (P.1 y).1 pc = some (.dup2, pn)) (hc : xm_cat v = 1) (hw : xm_cat w = 1) (k : xm_Run P xt d y C0 S0 Q pn loc (v :: w :: v :: w :: st) M nc ns) : xm_Run P xt d y C0 S0 Q pc loc (v :: w :: st) M nc ns := xr_step ⟨_, _, hi, ⟨_, _, _, rfl, hc, hw, k⟩⟩
theorem xr_goto {off : Int} (t : Nat) (hi : (P.1 y).1 pc = some (.goto off, pn)) (ht : (pc : Int) + off = (t : Int)) (k : xm_Run P xt d y C0 S0 Q t loc st M nc ns) : xm_Run P xt d y C0 S0 Q pc loc st M nc ns := xr_step ⟨_, _, hi, ⟨t, ht, k⟩⟩
theorem xr_ift {off : Int} {c : Jvm.ClassFile.Cond} {x : Int32} (t : Nat) (hi : (P.1 y).1 pc = some (.ifCond c off, pn)) (ht : (pc : Int) + off = (t : Int)) (hx : xm_c1 c x) (k : xm_Run P xt d y C0 S0 Q t loc st M nc ns) : xm_Run P xt d y C0 S0 Q pc loc (xv_i x :: st) M nc ns := xr_step ⟨_, _, hi, ⟨_, _, t, rfl, ht, fun _ => k, fun q => absurd hx q⟩⟩
theorem xr_iff {off : Int} {c : Jvm.ClassFile.Cond} {x : Int32} (t : Nat) (hi : (P.1 y).1 pc = some (.ifCond c off, pn)) (ht : (pc : Int) + off = (t : Int)) (hx : ¬ xm_c1 c x) (k : xm_Run P xt d y C0 S0 Q pn loc st M nc ns) : xm_Run P xt d y C0 S0 Q pc loc (xv_i x :: st) M nc ns := xr_step ⟨_, _, hi, ⟨_, _, t, rfl, ht, fun q => absurd q hx, fun _ => k⟩⟩
theorem xr_ict {off : Int} {c : Jvm.ClassFile.Cond} {x z : Int32} (t : Nat) (hi : (P.1 y).1 pc = some (.if_icmp c off, pn)) (ht : (pc : Int) + off = (t : Int)) (hx : xm_c2 c x z) (k : xm_Run P xt d y C0 S0 Q t loc st M nc ns) : xm_Run P xt d y C0 S0 Q pc loc (xv_i z :: xv_i x :: st) M nc ns := xr_step ⟨_, _, hi, ⟨_, _, _, t, rfl, ht, fun _ => k, fun q => absurd hx q⟩⟩
theorem xr_icf {off : Int} {c : Jvm.ClassFile.Cond} {x z : Int32} (t : Nat) (hi : (P.1 y).1 pc = some (.if_icmp c off, pn)) (ht : (pc : Int) + off = (t : Int)) (hx : ¬ xm_c2 c x z) (k : xm_Run P xt d y C0 S0 Q pn loc st M nc ns) : xm_Run P xt d y C0 S0 Q pc loc (xv_i z :: xv_i x :: st) M nc ns := xr_step ⟨_, _, hi, ⟨_, _, _, t, rfl, ht, fun q => absurd q hx, fun _ => k⟩⟩
theorem xr_swo {df lo up : Int} {os : Array Int} {x : Int32} (t : Nat) (hi : (P.1 y).1 pc = some (.tableswitch df lo up os, pn)) (hx : x.toInt < lo ∨ up < x.toInt) (ht : (pc : Int) + df = (t : Int)) (k : xm_Run P xt d y C0 S0 Q t loc st M nc ns) : xm_Run P xt d y C0 S0 Q pc loc (xv_i x :: st) M nc ns := xr_step ⟨_, _, hi, ⟨_, _, rfl, Or.inl ⟨t, hx, ht, k⟩⟩⟩
theorem xr_swi {df lo up : Int} {os : Array Int} {x : Int32} {off : Int} (t : Nat) (hi : (P.1 y).1 pc = some (.tableswitch df lo up os, pn)) (h1 : ¬ x.toInt < lo) (h2 : ¬ up < x.toInt) (ho : os[(x.toInt - lo).toNat]? = some off) (ht : (pc : Int) + off = (t : Int)) (k : xm_Run P xt d y C0 S0 Q t loc st M nc ns) : xm_Run P xt d y C0 S0 Q pc loc (xv_i x :: st) M nc ns := xr_step ⟨_, _, hi, ⟨_, _, rfl, Or.inr ⟨_, t, ⟨h1, h2⟩, ho, ht, k⟩⟩⟩
theorem xr_iald {i : Int32} {a n : Nat} (hi : (P.1 y).1 pc = some (.iaload, pn)) (ha : M.1[a]? = some (xt_r 0 n)) (hn : vp_in i n) (k : xm_Run P xt d y C0 S0 Q pn loc (xv_i (M.2.1 a i.toNatClampNeg) :: st) M nc ns) : xm_Run P xt d y C0 S0 Q pc loc (xv_i i :: xv_r a :: st) M nc ns := xr_step ⟨_, _, hi, Or.inl ⟨_, _, _, _, rfl, ha, hn, k⟩⟩
theorem xr_ialdx {i : Int32} {q : Nat} (hi : (P.1 y).1 pc = some (.iaload, pn)) (hn : vp_in i (xt q).1) (k : xm_Run P xt d y C0 S0 Q pn loc (xv_i ((xt q).2 i.toNatClampNeg) :: st) M nc ns) : xm_Run P xt d y C0 S0 Q pc loc (xv_i i :: xv_x q :: st) M nc ns := xr_step ⟨_, _, hi, Or.inr ⟨_, _, _, rfl, hn, k⟩⟩
theorem xr_bald {i : Int32} {a n : Nat} (hi : (P.1 y).1 pc = some (.baload, pn)) (ha : M.1[a]? = some (xt_r 2 n)) (hn : vp_in i n) (k : xm_Run P xt d y C0 S0 Q pn loc (xv_i (M.2.1 a i.toNatClampNeg) :: st) M nc ns) : xm_Run P xt d y C0 S0 Q pc loc (xv_i i :: xv_r a :: st) M nc ns := xr_step ⟨_, _, hi, ⟨_, _, _, _, rfl, ha, hn, k⟩⟩
theorem xr_lald {i : Int32} {a n : Nat} (hi : (P.1 y).1 pc = some (.laload, pn)) (ha : M.1[a]? = some (xt_r 1 n)) (hn : vp_in i n) (k : xm_Run P xt d y C0 S0 Q pn loc (xv_l (M.2.2 a i.toNatClampNeg) :: st) M nc ns) : xm_Run P xt d y C0 S0 Q pc loc (xv_i i :: xv_r a :: st) M nc ns := xr_step ⟨_, _, hi, ⟨_, _, _, _, rfl, ha, hn, k⟩⟩
theorem xr_iast {i x : Int32} {a n : Nat} (hi : (P.1 y).1 pc = some (.iastore, pn)) (ha : M.1[a]? = some (xt_r 0 n)) (hn : vp_in i n) (k : xm_Run P xt d y C0 S0 Q pn loc st (M.1, xu_2 M.2.1 a i.toNatClampNeg x, M.2.2) nc ns) : xm_Run P xt d y C0 S0 Q pc loc (xv_i x :: xv_i i :: xv_r a :: st) M nc ns := xr_step ⟨_, _, hi, ⟨_, _, _, _, _, rfl, ha, hn, k⟩⟩
theorem xr_bast {i x : Int32} {a n : Nat} (hi : (P.1 y).1 pc = some (.bastore, pn)) (ha : M.1[a]? = some (xt_r 2 n)) (hn : vp_in i n) (hx : x = 0 ∨ x = 1) (k : xm_Run P xt d y C0 S0 Q pn loc st (M.1, xu_2 M.2.1 a i.toNatClampNeg x, M.2.2) nc ns) : xm_Run P xt d y C0 S0 Q pc loc (xv_i x :: xv_i i :: xv_r a :: st) M nc ns := xr_step ⟨_, _, hi, ⟨_, _, _, _, _, rfl, ha, hn, hx, k⟩⟩
theorem xr_last {i : Int32} {x : Int64} {a n : Nat} (hi : (P.1 y).1 pc = some (.lastore, pn)) (ha : M.1[a]? = some (xt_r 1 n)) (hn : vp_in i n) (k : xm_Run P xt d y C0 S0 Q pn loc st (M.1, M.2.1, xu_2 M.2.2 a i.toNatClampNeg x) nc ns) : xm_Run P xt d y C0 S0 Q pc loc (xv_l x :: xv_i i :: xv_r a :: st) M nc ns := xr_step ⟨_, _, hi, ⟨_, _, _, _, _, rfl, ha, hn, k⟩⟩
theorem xr_alen {a t n : Nat} (v : Int32) (hi : (P.1 y).1 pc = some (.arraylength, pn)) (ha : M.1[a]? = some (xt_r t n)) (ht : t < 3) (hv : nI n = v) (k : xm_Run P xt d y C0 S0 Q pn loc (xv_i v :: st) M nc ns) : xm_Run P xt d y C0 S0 Q pc loc (xv_r a :: st) M nc ns := xr_step ⟨_, _, hi, Or.inl ⟨_, _, _, _, rfl, ha, ht, by rw [hv]; exact k⟩⟩
theorem xr_alenx {q : Nat} (hi : (P.1 y).1 pc = some (.arraylength, pn))  (k : xm_Run P xt d y C0 S0 Q pn loc (xv_i (nI (xt q).1) :: st) M nc ns) : xm_Run P xt d y C0 S0 Q pc loc (xv_x q :: st) M nc ns := xr_step ⟨_, _, hi, Or.inr ⟨_, _, rfl, k⟩⟩
theorem xr_get {ix ci j ty a : Nat} {fs : List xm_F} {f : xm_F} (v : xm_V) (hi : (P.1 y).1 pc = some (.getfield ix, pn)) (hf : (P.1 y).2.2.1 ix = some (ci, j, ty)) (ha : M.1[a]? = some (xt_o ci fs)) (hj : fs[j]? = some f) (hv : xm_fv M.2.1 a j f = v) (k : xm_Run P xt d y C0 S0 Q pn loc (v :: st) M nc ns) : xm_Run P xt d y C0 S0 Q pc loc (xv_r a :: st) M nc ns := xr_step ⟨_, _, hi, ⟨_, _, _, _, _, _, _, hf, rfl, ha, hj, by rw [hv]; exact k⟩⟩
theorem xr_put {ix ci j ty a : Nat} {fs : List xm_F} {x : Int32} (hi : (P.1 y).1 pc = some (.putfield ix, pn)) (hf : (P.1 y).2.2.1 ix = some (ci, j, ty)) (ha : M.1[a]? = some (xt_o ci fs)) (hj : fs[j]? = some none) (ht : ty = 0 ∨ (ty = 3 ∧ (x = 0 ∨ x = 1))) (k : xm_Run P xt d y C0 S0 Q pn loc st (M.1, xu_2 M.2.1 a j x, M.2.2) nc ns) : xm_Run P xt d y C0 S0 Q pc loc (xv_i x :: xv_r a :: st) M nc ns := xr_step ⟨_, _, hi, Or.inl ⟨_, _, _, _, _, _, _, hf, rfl, ha, hj, ht, k⟩⟩
theorem xr_putr {ix ci j t a q : Nat} {fs : List xm_F} {w : Option Nat} (T' : List xm_T) (hi : (P.1 y).1 pc = some (.putfield ix, pn)) (hf : (P.1 y).2.2.1 ix = some (ci, j, t)) (ht : t = 2 ∨ (t = 12 ∧ (P.1 y).2.2.2.2.2 0 = 9)) (ha : M.1[a]? = some (xt_o ci fs)) (hj : fs[j]? = some (some w)) (hT : M.1.set a (xt_o ci (fs.set j (some (some q)))) = T') (k : xm_Run P xt d y C0 S0 Q pn loc st (T', M.2.1, M.2.2) nc ns) : xm_Run P xt d y C0 S0 Q pc loc (xv_r q :: xv_r a :: st) M nc ns := xr_step ⟨_, _, hi, Or.inr ⟨_, _, _, _, _, _, _, _, hf, ht, rfl, ha, hj, by rw [hT]; exact k⟩⟩
theorem xr_gets {ix q : Nat} (hi : (P.1 y).1 pc = some (.getstatic ix, pn)) (hf : (P.1 y).2.2.2.2.1 ix = some q) (k : xm_Run P xt d y C0 S0 Q pn loc (xv_x q :: st) M nc ns) : xm_Run P xt d y C0 S0 Q pc loc st M nc ns := xr_step ⟨_, _, hi, ⟨_, hf, k⟩⟩
theorem xr_new {ix ci : Nat} {fs : List xm_F} (q m1 : Nat) (T' : List xm_T) (hi : (P.1 y).1 pc = some (.new ix, pn)) (hf : (P.1 y).2.2.2.1 ix = some (ci, fs)) (hm : fs.length = m1) (hq : M.1.length = q) (hT : M.1 ++ [xt_o ci fs] = T') (k : xm_Run P xt d y C0 S0 Q pn loc (xv_r q :: st) (T', xz_2 M.2.1 q 0, M.2.2) (nc + 1) (ns + m1)) : xm_Run P xt d y C0 S0 Q pc loc st M nc ns := by subst hm; subst hq; subst hT; exact xr_step ⟨_, _, hi, _, _, hf, k⟩
theorem xr_newa {ty : Jvm.ClassFile.ArrayType} {n : Int32} (t N q : Nat) (T' : List xm_T) (hi : (P.1 y).1 pc = some (.newarray ty, pn)) (hn : ¬ n < 0) (hN : n.toNatClampNeg = N) (hN2 : N ≤ 67108864) (ht : (ty = .int ∧ t = 0) ∨ (ty = .long ∧ t = 1) ∨ (ty = .boolean ∧ t = 2)) (hq : M.1.length = q) (hT : M.1 ++ [xt_r t N] = T') (k : xm_Run P xt d y C0 S0 Q pn loc (xv_r q :: st) (T', xz_2 M.2.1 q 0, xz_2 M.2.2 q 0) (nc + 1) (ns + N)) : xm_Run P xt d y C0 S0 Q pc loc (xv_i n :: st) M nc ns := by subst hq; subst hT; exact xr_step ⟨_, _, hi, _, _, _, _, rfl, hn, hN, hN2, ht, k⟩
theorem xr_obj {ix a : Nat} (hi : (P.1 y).1 pc = some (.invokespecial ix, pn)) (hx : (P.1 y).2.2.2.2.2 ix = 2) (h8 : xm_c8 st = true) (k : xm_Run P xt d y C0 S0 Q pn loc st M nc ns) : xm_Run P xt d y C0 S0 Q pc loc (xv_r a :: st) M nc ns := xr_step ⟨_, _, hi, ⟨hx, _, _, rfl, h8, k⟩⟩
theorem xr_copy {ix ks kd n0 nd : Nat} {n dp sp : Int32} (hi : (P.1 y).1 pc = some (.invokestatic ix, pn)) (hx : (P.1 y).2.2.2.2.2 ix = 1) (h8 : xm_c8 st = true) (ha : M.1[ks]? = some (xt_r 1 n0)) (hb : M.1[kd]? = some (xt_r 1 nd)) (h1 : ¬ sp < 0) (h2 : ¬ dp < 0) (h3 : ¬ n < 0) (h4 : sp.toNatClampNeg + n.toNatClampNeg ≤ n0) (h5 : dp.toNatClampNeg + n.toNatClampNeg ≤ nd) (hk : ks ≠ kd) (k : xm_Run P xt d y C0 S0 Q pn loc st (M.1, M.2.1, xc_y M.2.2 kd (va_cpy (M.2.2 ks) (M.2.2 kd) sp.toNatClampNeg dp.toNatClampNeg n.toNatClampNeg)) nc ns) : xm_Run P xt d y C0 S0 Q pc loc (xv_i n :: xv_i dp :: xv_r kd :: xv_i sp :: xv_r ks :: st) M nc ns := xr_step ⟨_, _, hi, hx, _, _, _, _, _, _, _, _, rfl, ha, hb, h1, h2, h3, h4, h5, hk, h8, k⟩
theorem xr_vret (hk : P.2.2.1 y = 0) (hi : (P.1 y).1 pc = some (.return_, pn)) (h1 : nc ≤ C0) (h2 : ns ≤ S0) (hq : Q none M) : xm_Run P xt d y C0 S0 Q pc loc [] M nc ns := xr_ret0 (r := none) (by rw [hk]; exact ⟨_, hi⟩) h1 h2 hq
theorem xr_iret {x : Int32} (hk : P.2.2.1 y = 1) (hi : (P.1 y).1 pc = some (.ireturn, pn)) (h1 : nc ≤ C0) (h2 : ns ≤ S0) (hq : Q (some (xv_i x)) M) : xm_Run P xt d y C0 S0 Q pc loc [xv_i x] M nc ns := xr_ret0 (r := some (xv_i x)) (by rw [hk]; exact ⟨_, hi⟩) h1 h2 hq
theorem xr_zret {x : Int32} (hk : P.2.2.1 y = 4) (hi : (P.1 y).1 pc = some (.ireturn, pn)) (hx : x = 0 ∨ x = 1) (h1 : nc ≤ C0) (h2 : ns ≤ S0) (hq : Q (some (xv_i x)) M) : xm_Run P xt d y C0 S0 Q pc loc [xv_i x] M nc ns := xr_ret0 (r := some (xv_i x)) (by rw [hk]; exact ⟨_, hi, hx⟩) h1 h2 hq
theorem xr_lret {x : Int64} (hk : P.2.2.1 y = 2) (hi : (P.1 y).1 pc = some (.lreturn, pn)) (h1 : nc ≤ C0) (h2 : ns ≤ S0) (hq : Q (some (xv_l x)) M) : xm_Run P xt d y C0 S0 Q pc loc [xv_l x] M nc ns := xr_ret0 (r := some (xv_l x)) (by rw [hk]; exact ⟨_, hi⟩) h1 h2 hq
theorem xr_aret {x : Nat} (hk : P.2.2.1 y = 3) (hi : (P.1 y).1 pc = some (.areturn, pn)) (h1 : nc ≤ C0) (h2 : ns ≤ S0) (hq : Q (some (xv_r x)) M) : xm_Run P xt d y C0 S0 Q pc loc [xv_r x] M nc ns := xr_ret0 (r := some (xv_r x)) (by rw [hk]; exact ⟨_, hi⟩) h1 h2 hq
end RUN
-- memory with its shape apart
abbrev xm_S : Type := (Nat → Nat → Int32) × (Nat → Nat → Int64)
abbrev xq_2 (T : List xm_T) (m : xm_S) : xm_M := (T, m.1, m.2)
abbrev xQ_i (T : List xm_T) (r : Int32) (m : xm_S) : xm_P := fun r' M1 => r' = some (xv_i r) ∧ M1 = xq_2 T m
abbrev xQ_l (T : List xm_T) (r : Int64) (m : xm_S) : xm_P := fun r' M1 => r' = some (xv_l r) ∧ M1 = xq_2 T m
abbrev xQ_r (T : List xm_T) (r : Nat) (m : xm_S) : xm_P := fun r' M1 => r' = some (xv_r r) ∧ M1 = xq_2 T m
abbrev xQ_v (T : List xm_T) (m : xm_S) : xm_P := fun r' M1 => r' = none ∧ M1 = xq_2 T m
def xw_i (m : xm_S) (k j : Nat) (x : Int32) : xm_S := (xu_2 m.1 k j x, m.2)
def xw_l (m : xm_S) (k j : Nat) (x : Int64) : xm_S := (m.1, xu_2 m.2 k j x)
def xw_c (m : xm_S) (kd ks sp dp n : Nat) : xm_S := (m.1, xc_y m.2 kd (va_cpy (m.2 ks) (m.2 kd) sp dp n))
def xw_o (m : xm_S) (q : Nat) : xm_S := (xz_2 m.1 q 0, m.2)
def xw_a (m : xm_S) (q : Nat) : xm_S := (xz_2 m.1 q 0, xz_2 m.2 q 0)
section RUNQ
variable {P : xm_Pr} {xt : Nat → Nat × (Nat → Int32)} {d y C0 S0 : Nat} {Q : xm_P} {pc pn : Nat} {loc : xm_L} {st : List xm_V} {T : List xm_T} {m : xm_S} {nc ns : Nat}
theorem xq_iald {i : Int32} {a n : Nat} (hi : (P.1 y).1 pc = some (.iaload, pn)) (ha : T[a]? = some (xt_r 0 n)) (hn : vp_in i n) (k : xm_Run P xt d y C0 S0 Q pn loc (xv_i (m.1 a i.toNatClampNeg) :: st) (xq_2 T m) nc ns) : xm_Run P xt d y C0 S0 Q pc loc (xv_i i :: xv_r a :: st) (xq_2 T m) nc ns := xr_iald hi ha hn k
theorem xq_bald {i : Int32} {a n : Nat} (hi : (P.1 y).1 pc = some (.baload, pn)) (ha : T[a]? = some (xt_r 2 n)) (hn : vp_in i n) (k : xm_Run P xt d y C0 S0 Q pn loc (xv_i (m.1 a i.toNatClampNeg) :: st) (xq_2 T m) nc ns) : xm_Run P xt d y C0 S0 Q pc loc (xv_i i :: xv_r a :: st) (xq_2 T m) nc ns := xr_bald hi ha hn k
theorem xq_lald {i : Int32} {a n : Nat} (hi : (P.1 y).1 pc = some (.laload, pn)) (ha : T[a]? = some (xt_r 1 n)) (hn : vp_in i n) (k : xm_Run P xt d y C0 S0 Q pn loc (xv_l (m.2 a i.toNatClampNeg) :: st) (xq_2 T m) nc ns) : xm_Run P xt d y C0 S0 Q pc loc (xv_i i :: xv_r a :: st) (xq_2 T m) nc ns := xr_lald hi ha hn k
theorem xq_iast {i x : Int32} {a n : Nat} (hi : (P.1 y).1 pc = some (.iastore, pn)) (ha : T[a]? = some (xt_r 0 n)) (hn : vp_in i n) (k : xm_Run P xt d y C0 S0 Q pn loc st (xq_2 T (xw_i m a i.toNatClampNeg x)) nc ns) : xm_Run P xt d y C0 S0 Q pc loc (xv_i x :: xv_i i :: xv_r a :: st) (xq_2 T m) nc ns := xr_iast hi ha hn k
theorem xq_bast {i x : Int32} {a n : Nat} (hi : (P.1 y).1 pc = some (.bastore, pn)) (ha : T[a]? = some (xt_r 2 n)) (hn : vp_in i n) (hx : x = 0 ∨ x = 1) (k : xm_Run P xt d y C0 S0 Q pn loc st (xq_2 T (xw_i m a i.toNatClampNeg x)) nc ns) : xm_Run P xt d y C0 S0 Q pc loc (xv_i x :: xv_i i :: xv_r a :: st) (xq_2 T m) nc ns := xr_bast hi ha hn hx k
theorem xq_last {i : Int32} {x : Int64} {a n : Nat} (hi : (P.1 y).1 pc = some (.lastore, pn)) (ha : T[a]? = some (xt_r 1 n)) (hn : vp_in i n) (k : xm_Run P xt d y C0 S0 Q pn loc st (xq_2 T (xw_l m a i.toNatClampNeg x)) nc ns) : xm_Run P xt d y C0 S0 Q pc loc (xv_l x :: xv_i i :: xv_r a :: st) (xq_2 T m) nc ns := xr_last hi ha hn k
theorem xq_alen {a t n : Nat} (hi : (P.1 y).1 pc = some (.arraylength, pn)) (ha : T[a]? = some (xt_r t n)) (ht : t < 3) (k : xm_Run P xt d y C0 S0 Q pn loc (xv_i (nI n) :: st) (xq_2 T m) nc ns) : xm_Run P xt d y C0 S0 Q pc loc (xv_r a :: st) (xq_2 T m) nc ns := xr_alen _ hi ha ht rfl k
theorem xq_geti {ix ci j ty a : Nat} {fs : List xm_F} (hi : (P.1 y).1 pc = some (.getfield ix, pn)) (hf : (P.1 y).2.2.1 ix = some (ci, j, ty)) (ha : T[a]? = some (xt_o ci fs)) (hj : fs[j]? = some none) (k : xm_Run P xt d y C0 S0 Q pn loc (xv_i (m.1 a j) :: st) (xq_2 T m) nc ns) : xm_Run P xt d y C0 S0 Q pc loc (xv_r a :: st) (xq_2 T m) nc ns := xr_get _ hi hf ha hj rfl k
theorem xq_getr {ix ci j ty a q : Nat} {fs : List xm_F} (hi : (P.1 y).1 pc = some (.getfield ix, pn)) (hf : (P.1 y).2.2.1 ix = some (ci, j, ty)) (ha : T[a]? = some (xt_o ci fs)) (hj : fs[j]? = some (some (some q))) (k : xm_Run P xt d y C0 S0 Q pn loc (xv_r q :: st) (xq_2 T m) nc ns) : xm_Run P xt d y C0 S0 Q pc loc (xv_r a :: st) (xq_2 T m) nc ns := xr_get _ hi hf ha hj rfl k
theorem xq_put {ix ci j ty a : Nat} {fs : List xm_F} {x : Int32} (hi : (P.1 y).1 pc = some (.putfield ix, pn)) (hf : (P.1 y).2.2.1 ix = some (ci, j, ty)) (ha : T[a]? = some (xt_o ci fs)) (hj : fs[j]? = some none) (ht : ty = 0 ∨ (ty = 3 ∧ (x = 0 ∨ x = 1))) (k : xm_Run P xt d y C0 S0 Q pn loc st (xq_2 T (xw_i m a j x)) nc ns) : xm_Run P xt d y C0 S0 Q pc loc (xv_i x :: xv_r a :: st) (xq_2 T m) nc ns := xr_put hi hf ha hj ht k
theorem xq_putr {ix ci j t a q : Nat} {fs : List xm_F} {w : Option Nat} (T' : List xm_T) (hi : (P.1 y).1 pc = some (.putfield ix, pn)) (hf : (P.1 y).2.2.1 ix = some (ci, j, t)) (ht : t = 2 ∨ (t = 12 ∧ (P.1 y).2.2.2.2.2 0 = 9)) (ha : T[a]? = some (xt_o ci fs)) (hj : fs[j]? = some (some w)) (hT : T.set a (xt_o ci (fs.set j (some (some q)))) = T') (k : xm_Run P xt d y C0 S0 Q pn loc st (xq_2 T' m) nc ns) : xm_Run P xt d y C0 S0 Q pc loc (xv_r q :: xv_r a :: st) (xq_2 T m) nc ns := xr_putr T' hi hf ht ha hj hT k
theorem xq_new {ix ci : Nat} {fs : List xm_F} (q m1 : Nat) (T' : List xm_T) (hi : (P.1 y).1 pc = some (.new ix, pn)) (hf : (P.1 y).2.2.2.1 ix = some (ci, fs)) (hm : fs.length = m1) (hq : T.length = q) (hT : T ++ [xt_o ci fs] = T') (k : xm_Run P xt d y C0 S0 Q pn loc (xv_r q :: st) (xq_2 T' (xw_o m q)) (nc + 1) (ns + m1)) : xm_Run P xt d y C0 S0 Q pc loc st (xq_2 T m) nc ns := xr_new q m1 T' hi hf hm hq hT k
theorem xq_newa {ty : Jvm.ClassFile.ArrayType} {n : Int32} (t N q : Nat) (T' : List xm_T) (hi : (P.1 y).1 pc = some (.newarray ty, pn)) (hn : ¬ n < 0) (hN : n.toNatClampNeg = N) (hN2 : N ≤ 67108864) (ht : (ty = .int ∧ t = 0) ∨ (ty = .long ∧ t = 1) ∨ (ty = .boolean ∧ t = 2)) (hq : T.length = q) (hT : T ++ [xt_r t N] = T') (k : xm_Run P xt d y C0 S0 Q pn loc (xv_r q :: st) (xq_2 T' (xw_a m q)) (nc + 1) (ns + N)) : xm_Run P xt d y C0 S0 Q pc loc (xv_i n :: st) (xq_2 T m) nc ns := xr_newa t N q T' hi hn hN hN2 ht hq hT k
theorem xq_copy {ix ks kd n0 nd : Nat} {n dp sp : Int32} (hi : (P.1 y).1 pc = some (.invokestatic ix, pn)) (hx : (P.1 y).2.2.2.2.2 ix = 1) (h8 : xm_c8 st = true) (ha : T[ks]? = some (xt_r 1 n0)) (hb : T[kd]? = some (xt_r 1 nd)) (h1 : ¬ sp < 0) (h2 : ¬ dp < 0) (h3 : ¬ n < 0) (h4 : sp.toNatClampNeg + n.toNatClampNeg ≤ n0) (h5 : dp.toNatClampNeg + n.toNatClampNeg ≤ nd) (hk : ks ≠ kd) (k : xm_Run P xt d y C0 S0 Q pn loc st (xq_2 T (xw_c m kd ks sp.toNatClampNeg dp.toNatClampNeg n.toNatClampNeg)) nc ns) : xm_Run P xt d y C0 S0 Q pc loc (xv_i n :: xv_i dp :: xv_r kd :: xv_i sp :: xv_r ks :: st) (xq_2 T m) nc ns := xr_copy hi hx h8 ha hb h1 h2 h3 h4 h5 hk k
theorem xq_calla {ix y' kd ci : Nat} (av rest : List xm_V) {v : xm_V} {T' : List xm_T} {m' : xm_S} (loc1 : xm_L) {st0 : List xm_V} (hi : xm_isCall (P.1 y) T av pc ix pn kd ci) (hc : P.2.2.2 y ix = some (y', av.length, kd, ci)) (hst : av.reverse ++ rest = st0) (h8 : xm_c8 rest = true) (hle : Nat.ble (xm_en av).length (P.2.1 y') = true) (hl : xm_ent (P.2.1 y') av = loc1) (hy : xm_Run P xt d y' 0 0 (fun r' M1 => r' = some v ∧ M1 = xq_2 T' m') 0 loc1 [] (xq_2 T m) 0 0) (k : xm_Run P xt (d + 1) y C0 S0 Q pn loc (v :: rest) (xq_2 T' m') nc ns) : xm_Run P xt (d + 1) y C0 S0 Q pc loc st0 (xq_2 T m) nc ns := by subst hst; subst hl; exact xr_call0 av hi hc (Nat.le_of_ble_eq_true hle) h8 hy (fun r' M1 q => by obtain ⟨rfl, rfl⟩ := q; exact k)
theorem xq_callan {ix y' kd ci c1 s1 : Nat} (av rest : List xm_V) {v : xm_V} {T' : List xm_T} {m' : xm_S} (loc1 : xm_L) {st0 : List xm_V} (hi : xm_isCall (P.1 y) T av pc ix pn kd ci) (hc : P.2.2.2 y ix = some (y', av.length, kd, ci)) (hst : av.reverse ++ rest = st0) (h8 : xm_c8 rest = true) (hle : Nat.ble (xm_en av).length (P.2.1 y') = true) (hl : xm_ent (P.2.1 y') av = loc1) (hy : xm_Run P xt d y' c1 s1 (fun r' M1 => r' = some v ∧ M1 = xq_2 T' m') 0 loc1 [] (xq_2 T m) 0 0) (k : xm_Run P xt (d + 1) y C0 S0 Q pn loc (v :: rest) (xq_2 T' m') (nc + c1) (ns + s1)) : xm_Run P xt (d + 1) y C0 S0 Q pc loc st0 (xq_2 T m) nc ns := by subst hst; subst hl; exact xr_call0 av hi hc (Nat.le_of_ble_eq_true hle) h8 hy (fun r' M1 q => by obtain ⟨rfl, rfl⟩ := q; exact k)
theorem xq_callv {ix y' kd ci : Nat} (av rest : List xm_V) {T' : List xm_T} {m' : xm_S} (loc1 : xm_L) {st0 : List xm_V} (hi : xm_isCall (P.1 y) T av pc ix pn kd ci) (hc : P.2.2.2 y ix = some (y', av.length, kd, ci)) (hst : av.reverse ++ rest = st0) (h8 : xm_c8 rest = true) (hle : Nat.ble (xm_en av).length (P.2.1 y') = true) (hl : xm_ent (P.2.1 y') av = loc1) (hy : xm_Run P xt d y' 0 0 (fun r' M1 => r' = none ∧ M1 = xq_2 T' m') 0 loc1 [] (xq_2 T m) 0 0) (k : xm_Run P xt (d + 1) y C0 S0 Q pn loc (rest) (xq_2 T' m') nc ns) : xm_Run P xt (d + 1) y C0 S0 Q pc loc st0 (xq_2 T m) nc ns := by subst hst; subst hl; exact xr_call0 av hi hc (Nat.le_of_ble_eq_true hle) h8 hy (fun r' M1 q => by obtain ⟨rfl, rfl⟩ := q; exact k)
theorem xq_callvn {ix y' kd ci c1 s1 : Nat} (av rest : List xm_V) {T' : List xm_T} {m' : xm_S} (loc1 : xm_L) {st0 : List xm_V} (hi : xm_isCall (P.1 y) T av pc ix pn kd ci) (hc : P.2.2.2 y ix = some (y', av.length, kd, ci)) (hst : av.reverse ++ rest = st0) (h8 : xm_c8 rest = true) (hle : Nat.ble (xm_en av).length (P.2.1 y') = true) (hl : xm_ent (P.2.1 y') av = loc1) (hy : xm_Run P xt d y' c1 s1 (fun r' M1 => r' = none ∧ M1 = xq_2 T' m') 0 loc1 [] (xq_2 T m) 0 0) (k : xm_Run P xt (d + 1) y C0 S0 Q pn loc (rest) (xq_2 T' m') (nc + c1) (ns + s1)) : xm_Run P xt (d + 1) y C0 S0 Q pc loc st0 (xq_2 T m) nc ns := by subst hst; subst hl; exact xr_call0 av hi hc (Nat.le_of_ble_eq_true hle) h8 hy (fun r' M1 q => by obtain ⟨rfl, rfl⟩ := q; exact k)
end RUNQ
end
