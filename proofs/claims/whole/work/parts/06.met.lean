/-! A run of the abstract machine is a run of the machine: step, call, return. -/
-- what the methods are to the machine: names, bytes, answers; the words that all have
abbrev xm_N : Type := (Nat → MethodName) × (Nat → ByteArray) × (Nat → Option FieldType) × List Cond
def xm_rm (d C0 S0 : Nat) : Room := { frames := d + 1, cells := C0, slots := S0, locals := 200 * (d + 1) }
def xm_ws (P : xm_Pr) (N : xm_N) (y : Nat) : List Cond := Cond.code (N.1 y) (N.2.1 y) (P.2.1 y) (N.2.2.1 y) :: N.2.2.2.filter goodWord
-- words that hold of a nest: they are no word of a contract, they go with the world
def xm_nst (w : Cond) : Prop := (∃ a i b n d h, w = Cond.fieldLinkNest a i b n d h) ∨ ∃ a i x h, w = Cond.methodLinkNest a i x h
def xm_nw (N : xm_N) (U : State) : Prop := ∀ w ∈ N.2.2.2, xm_nst w → va_Nw w U
def xm_rt (k : Nat) (t : Option FieldType) : Prop := (k = 0 ∧ t = none) ∨ (k = 1 ∧ t = some .int) ∨ (k = 2 ∧ t = some .long) ∨ (k = 3 ∧ ((∃ n, t = some (.object n)) ∨ ∃ a, t = some (.array a))) ∨ (k = 4 ∧ t = some .boolean)
abbrev xm_A (h0 : Nat) : Nat → Prop := fun q => h0 ≤ q
abbrev xm_Z : Type := String × String × String
-- the world at a state
def xm_wd (D : va_G) (cl : List vw_C) (ex : Nat → Nat) (xt : Nat → Nat × (Nat → Int32)) (h0 : Nat) (z : xm_Z) (U : State) (H : Heap) (M : xm_M) (ad : Nat → Nat) (ca : Nat → ClassId) : Prop :=
  h0 ≤ H.size ∧ xm_scM M.1 ∧ va_P D cl (xm_w ad ca M) H ∧ va_D (xm_A h0) (xm_w ad ca M) ∧ va_K D cl [] U ∧ xm_ka ca M.1 U ∧ (∀ k, va_T .int (ex k) (xt k).1 (fun j => .int ((xt k).2 j)) (xm_A h0) U H) ∧ va_Z z.1 z.2.1 z.2.2 (.ref (ex 1)) (xm_A h0) U H
theorem xm_wd.moved {D : va_G} {cl : List vw_C} {ex : Nat → Nat} {xt : Nat → Nat × (Nat → Int32)} {h0 : Nat} {z : xm_Z} {u U : State} {H : Heap} {M : xm_M} {ad : Nat → Nat} {ca : Nat → ClassId} (hvm : u.vm.Alike U.vm) (h : xm_wd D cl ex xt h0 z u H M ad ca) : xm_wd D cl ex xt h0 z U H M ad ca := by
  obtain ⟨h1, h2, h3, h4, h5, h6, h7, h8⟩ := h
  exact ⟨h1, h2, h3, h4, va_K.moved hvm h5, fun k e ty a b => ⟨arrOfT_moved hvm (h6 k e ty a b).1, (h6 k e ty a b).2.moved hvm⟩, fun k => (h7 k).moved hvm, h8.moved hvm⟩
-- a method's end
def xm_Qc (D : va_G) (cl : List vw_C) (ex : Nat → Nat) (xt : Nat → Nat × (Nat → Int32)) (h0 : Nat) (z : xm_Z) (Q : xm_P) (n0 : Nat) (ad0 : Nat → Nat) (ca0 : Nat → ClassId) : Array Value → State → Outcome → State → Prop := fun _ st oc t =>
  (∃ (r : Option xm_V) (M : xm_M) (ad : Nat → Nat) (ca : Nat → ClassId), Q r M ∧ oc = .returned (r.map (xm_v ad ex)) ∧ n0 ≤ M.1.length ∧ (∀ k, k < n0 → ad k = ad0 k ∧ ca k = ca0 k) ∧ (∀ v, r = some v → xm_sc M.1.length v) ∧ xm_wd D cl ex xt h0 z t t.heap M ad ca) ∧ va_F (xm_A h0) st t
-- what a call needs of the tables
def xm_cok (P : xm_Pr) (N : xm_N) (cl : List vw_C) (y ix y' n kd ci : Nat) : Prop :=
  Cond.code (N.1 y') (N.2.1 y') (P.2.1 y') (N.2.2.1 y') ∈ N.2.2.2 ∧ plainName (N.1 y').cls = true ∧ ((N.1 y').cls ≠ "java/lang/invoke/MethodHandle" ∧ (N.1 y').cls ≠ "java/lang/invoke/VarHandle") ∧ Cond.initialized (N.1 y').cls ∈ N.2.2.2 ∧
  (∃ n1 : Nat, (parseMethodDescriptor (N.1 y').desc).map (fun d => d.parameters.length) = some n1 ∧
    ((kd = 0 ∧ n = n1 + 1 ∧ Cond.instanceMethod (N.1 y') ∈ N.2.2.2 ∧ (∃ T K, cl[ci]? = some ((N.1 y').cls, T, K)) ∧ Cond.selects (N.1 y').cls (N.1 y') (N.1 y') ∈ N.2.2.2 ∧ (Cond.methodLink (N.1 y).cls ix (N.1 y') ∈ N.2.2.2 ∨ ∃ host, Cond.methodLinkNest (N.1 y).cls ix (N.1 y') host ∈ N.2.2.2)) ∨
     (kd = 1 ∧ n = n1 ∧ Cond.static (N.1 y') ∈ N.2.2.2 ∧ Cond.methodLink (N.1 y).cls ix (N.1 y') ∈ N.2.2.2) ∨
     (kd = 2 ∧ n = n1 + 1 ∧ Cond.instanceMethod (N.1 y') ∈ N.2.2.2 ∧ (N.1 y').name = "<init>" ∧ N.2.2.1 y' = none ∧ (Cond.methodLink (N.1 y).cls ix (N.1 y') ∈ N.2.2.2 ∨ ∃ host, Cond.methodLinkNest (N.1 y).cls ix (N.1 y') host ∈ N.2.2.2))))
-- the tables are true of the program
def xm_pok (P : xm_Pr) (N : xm_N) (cl : List vw_C) (z : xm_Z) : Prop :=
  (∀ y, xm_yok (N.1 y).cls (N.2.1 y) N.2.2.2 cl (P.1 y) ∧ ((P.1 y).2.2.2.2.2 0 = 9 → (N.1 y).name = "<init>")) ∧ (∀ y, xm_rt (P.2.2.1 y) (N.2.2.1 y)) ∧ (∀ y, P.2.1 y ≤ 100) ∧
  (∀ w ∈ N.2.2.2, goodWord w = true ∨ xm_nst w) ∧
  (∀ y ix q, (P.1 y).2.2.2.2.1 ix = some q → q = 1 ∧ Cond.fieldLink (N.1 y).cls ix z.1 z.2.1 z.2.2 ∈ N.2.2.2) ∧
  (∀ y ix y' n kd ci, P.2.2.2 y ix = some (y', n, kd, ci) → xm_cok P N cl y ix y' n kd ci) ∧
  (Cond.instanceMethod objectInit ∈ N.2.2.2 ∧ Cond.code objectInit ⟨#[0xb1]⟩ 1 none ∈ N.2.2.2 ∧ Cond.arrayClass .int ∈ N.2.2.2 ∧ Cond.arrayClass .long ∈ N.2.2.2 ∧ Cond.arrayClass .boolean ∈ N.2.2.2 ∧ Cond.native arraycopyName ∈ N.2.2.2 ∧ Cond.static arraycopyName ∈ N.2.2.2 ∧ Cond.initialized "java/lang/System" ∈ N.2.2.2) ∧
  (Cond.static Lib.Math.min.name ∈ N.2.2.2 ∧ Cond.initialized "java/lang/Math" ∈ N.2.2.2 ∧ Cond.code Lib.Math.min.name Lib.Math.min.code 2 (some .int) ∈ N.2.2.2)
-- a method's own state and all that stands fixed through it
def xm_cx (P : xm_Pr) (N : xm_N) (D : va_G) (cl : List vw_C) (ex : Nat → Nat) (xt : Nat → Nat × (Nat → Int32)) (h0 : Nat) (z : xm_Z) (y : Nat) (p : Program) (s : State) (m : MethodId) (args : Array Value) (meth : Method) (c : Code) : Prop :=
  p.tables.exec = Jvm.exec ∧ c.code = N.2.1 y ∧ c.maxLocals = P.2.1 y ∧ s.vm.findClass (N.1 y).cls = some m.cls ∧ (∀ w ∈ N.2.2.2, w.before args s = true) ∧ meth.sig.returnType = N.2.2.1 y ∧ meth.locks = false ∧ ((N.1 y).name = "<init>" → meth.name = "<init>") ∧
  va_K D cl [] s ∧ h0 ≤ s.heap.size ∧ (∀ k, va_T .int (ex k) (xt k).1 (fun j => .int ((xt k).2 j)) (xm_A h0) s s.heap) ∧ va_Z z.1 z.2.1 z.2.2 (.ref (ex 1)) (xm_A h0) s s.heap
-- what a return needs
def xm_rtn (P : xm_Pr) (D : va_G) (cl : List vw_C) (ex : Nat → Nat) (h0 : Nat) (y C0 S0 : Nat) (Q : xm_P) (p : Program) (l : Launch) (e : Env) (R : Room) (s : State) (m : MethodId) (args : Array Value) (below : List Frame) (meth : Method) (c : Code) (n0 : Nat) (ad0 : Nat → Nat) (ca0 : Nat → ClassId) (Qf : State → Prop) : Prop :=
  ∀ (pc : Nat) (r : Option xm_V) (M : xm_M) (ad : Nat → Nat) (ca : Nat → ClassId) (ls : Array Slot) (H : Heap) (locs : List Loc) (nc ns : Nat), xm_retOk (P.1 y) (P.2.2.1 y) pc r → nc ≤ C0 → ns ≤ S0 → Q r M → n0 ≤ M.1.length → (∀ k, k < n0 → ad k = ad0 k ∧ ca k = ca0 k) → xm_hs M.1.length r.toList → xm_hm D cl (xm_A h0) s ad ca H locs M →
    W p l e R s m args below meth c H locs nc ns Qf (F0 m pc ls (r.toList.map (xm_v ad ex)))
def xm_rok (d C0 S0 : Nat) (R : Room) : Prop := d + 1 ≤ R.frames ∧ C0 ≤ R.cells ∧ S0 ≤ R.slots ∧ 200 * (d + 1) ≤ R.locals
def xm_G (P : xm_Pr) (N : xm_N) (xt : Nat → Nat × (Nat → Int32)) (l : Launch) (D : va_G) (cl : List vw_C) (ex : Nat → Nat) (h0 : Nat) (z : xm_Z) : xm_GT := fun d y C0 S0 Q pc loc st M nc ns =>
  (nc ≤ C0 ∧ ns ≤ S0 ∧ ∃ r M', Q r M') ∧
  ∀ (p : Program) (e : Env) (R : Room) (s : State) (m : MethodId) (args : Array Value) (below : List Frame) (meth : Method) (c : Code) (n0 : Nat) (ad0 : Nat → Nat) (ca0 : Nat → ClassId) (Qf : State → Prop), xm_rok d C0 S0 R → xm_cx P N D cl ex xt h0 z y p s m args meth c → xm_rtn P D cl ex h0 y C0 S0 Q p l e R s m args below meth c n0 ad0 ca0 Qf →
    xm_W1 p l e R s m args below meth c Qf D cl ex (xm_A h0) (P.2.1 y) n0 ad0 ca0 pc loc st M nc ns
theorem xm_en_args {ad ex : Nat → Nat} : ∀ {av : List xm_V} {b i : Nat} {v : xm_V}, (xm_en av)[i]? = some (some v) → (b + i, xm_v ad ex v) ∈ lv_args b (av.map (xm_v ad ex))
  | [], b, i, v, h => by simp [xm_en] at h
  | w :: r, b, i, v, h => by
    unfold xm_en at h
    show (b + i, xm_v ad ex v) ∈ (b, xm_v ad ex w) :: lv_args (if (xm_v ad ex w).category = 2 then b + 2 else b + 1) (r.map (xm_v ad ex))
    rw [xm_cat_v]
    cases hb : Nat.beq (xm_cat w) 2 with
    | true =>
      rw [hb] at h
      rw [if_pos (Nat.eq_of_beq_eq_true hb)]
      match i, h with
      | 0, h => simp at h; subst h; exact List.mem_cons_self
      | 1, h => simp at h
      | i + 2, h =>
        have h2 := xm_en_args (ad := ad) (ex := ex) (av := r) (b := b + 2) (i := i) (v := v) (by simpa using h)
        rw [show b + 2 + i = b + (i + 2) by omega] at h2
        exact List.mem_cons_of_mem _ h2
    | false =>
      rw [hb] at h
      rw [if_neg (fun q => by rw [q] at hb; cases hb)]
      match i, h with
      | 0, h => simp at h; subst h; exact List.mem_cons_self
      | i + 1, h =>
        have h2 := xm_en_args (ad := ad) (ex := ex) (av := r) (b := b + 1) (i := i) (v := v) (by simpa using h)
        rw [show b + 1 + i = b + (i + 1) by omega] at h2
        exact List.mem_cons_of_mem _ h2
theorem xm_en_sl {ad ex : Nat → Nat} : ∀ (av : List xm_V), (lg_sl (av.map (xm_v ad ex))).length = (xm_en av).length
  | [] => rfl
  | w :: r => by
    have ih := xm_en_sl (ad := ad) (ex := ex) r
    unfold xm_en
    show (List.flatMap _ (xm_v ad ex w :: r.map (xm_v ad ex))).length = _
    rw [List.flatMap_cons, List.length_append]
    rw [xm_cat_v]
    have ih : (List.flatMap (fun v : Value => if v.category = 2 then [Slot.val v, .second] else [.val v]) (r.map (xm_v ad ex))).length = (xm_en r).length := ih
    cases hb : Nat.beq (xm_cat w) 2 with
    | true => rw [if_pos (Nat.eq_of_beq_eq_true hb), ih]; simp; omega
    | false => rw [if_neg (fun q => by rw [q] at hb; cases hb), ih]; simp; omega
theorem xm_entry {ad ex : Nat → Nat} {n nL : Nat} {av : List xm_V} (hle : (xm_en av).length ≤ nL) (hs : xm_hs n av) : xm_hl ad ex n nL ((lg_sl (av.map (xm_v ad ex)) ++ List.replicate (nL - (lg_sl (av.map (xm_v ad ex))).length) Slot.unset).toArray) (xm_ent nL av) := by
  have hl := lv_entry (av.map (xm_v ad ex)) (n := nL) (by rw [xm_en_sl]; exact hle)
  refine ⟨⟨hl.1, hl.2.1⟩, fun i v hv => ?_⟩
  unfold xm_ent at hv
  by_cases hi : i < (xm_en av).length
  · rw [List.getElem?_append_left hi] at hv
    have h2 := xm_en_args (ad := ad) (ex := ex) (b := 0) hv
    rw [Nat.zero_add] at h2
    refine ⟨hl.2.2 _ h2, ?_⟩
    have hm : ∀ {a : List xm_V} {i : Nat}, (xm_en a)[i]? = some (some v) → v ∈ a := by
      intro a
      induction a with
      | nil => intro i h; simp [xm_en] at h
      | cons w r ih =>
        intro i h
        unfold xm_en at h
        cases hb : Nat.beq (xm_cat w) 2 with
        | true =>
          rw [hb] at h
          match i, h with
          | 0, h => simp at h; subst h; exact List.mem_cons_self
          | 1, h => simp at h
          | i + 2, h => exact List.mem_cons_of_mem _ (ih (i := i) (by simpa using h))
        | false =>
          rw [hb] at h
          match i, h with
          | 0, h => simp at h; subst h; exact List.mem_cons_self
          | i + 1, h => exact List.mem_cons_of_mem _ (ih (i := i) (by simpa using h))
    exact hs v (hm hv)
  · rw [List.getElem?_append_right (Nat.le_of_not_lt hi)] at hv
    have := List.getElem?_replicate (n := nL - (xm_en av).length) (a := (none : Option xm_V)) (i := i - (xm_en av).length)
    rw [this] at hv
    split at hv <;> simp at hv
section XMET
variable {P : xm_Pr} {N : xm_N} {xt : Nat → Nat × (Nat → Int32)} {l : Launch} {D : va_G} {cl : List vw_C} {ex : Nat → Nat} {h0 : Nat} {z : xm_Z}
theorem xm_goodT : GoodIn N.2.2.2 (N.2.2.2.filter goodWord) := fun w hw => ⟨(List.mem_filter.mp hw).1, by
  have h := (List.mem_filter.mp hw).2
  cases w
  case arrayClass ty => exact Or.inr ⟨ty, rfl⟩
  all_goals exact Or.inl h⟩
theorem xm_nst_t {w : Cond} (h : xm_nst w) : w.onTables = true := by
  rcases h with ⟨a, i, b, n, d, h, rfl⟩ | ⟨a, i, x, h, rfl⟩ <;> rfl
theorem xm_nst_w {w : Cond} (h : xm_nst w) {s U : State} (hW : s.WarmedH U.vm) (hZ : va_Nw w s) : va_Nw w U := by
  rcases h with ⟨a, i, b, n, d, h, rfl⟩ | ⟨a, i, x, h, rfl⟩
  · exact va_Nw.warmF hW hZ
  · exact va_Nw.warmM hW hZ
-- the world at the call, for the callee
theorem xm_wd_at {s U : State} {H : Heap} {locs : List Loc} {M : xm_M} {ad : Nat → Nat} {ca : Nat → ClassId} (hm : xm_hm D cl (xm_A h0) s ad ca H locs M) (hK : va_K D cl [] s) (hh : h0 ≤ s.heap.size) (hT : ∀ k, va_T .int (ex k) (xt k).1 (fun j => .int ((xt k).2 j)) (xm_A h0) s s.heap) (hZ : va_Z z.1 z.2.1 z.2.2 (.ref (ex 1)) (xm_A h0) s s.heap)
    (hU : U.heap = H) (hvm : s.vm.Alike U.vm) : xm_wd D cl ex xt h0 z U U.heap M ad ca := by
  rw [hU]
  obtain ⟨g1, g2, g3, g4, g5⟩ := hm
  refine xm_wd.moved hvm ⟨Nat.le_trans hh g4.1, g1, g2, g3, hK, g5, fun k => (hT k).kept g4.2.1, hZ.kept g4.2.1⟩
-- the kit's own returns
theorem xm_rets (O : xm_pok P N cl z) {y C0 S0 : Nat} {Q : xm_P} {p : Program} {e : Env} {R : Room} {s : State} {m : MethodId} {args : Array Value} {below : List Frame} {meth : Method} {c : Code} {n0 : Nat} {ad0 : Nat → Nat} {ca0 : Nat → ClassId} (cx : xm_cx P N D cl ex xt h0 z y p s m args meth c) :
    xm_rtn P D cl ex h0 y C0 S0 Q p l e R s m args below meth c n0 ad0 ca0 (MQ below (xm_Qc D cl ex xt h0 z Q n0 ad0 ca0) args s C0 S0 (xm_A h0)) := by
  intro pc r M ad ca ls H locs nc ns hr h1 h2 hq hn hag hs hm
  obtain ⟨q1, q2, q3, q4, q5, q6, q7, q8, q9, q10, q11, q12⟩ := cx
  have hdec := (O.1 y).1.1
  have hrt := O.2.1 y
  have hend : ∀ t : State, t.heap = H → s.WarmedH t.vm → xm_Qc D cl ex xt h0 z Q n0 ad0 ca0 args s (.returned (r.map (xm_v ad ex))) t := fun t ht hW =>
    ⟨⟨r, M, ad, ca, hq, rfl, hn, hag, fun v hv => hs v (by rw [hv]; exact List.mem_cons_self), xm_wd_at hm q9 q10 q11 q12 ht hW.alike⟩, hm.2.2.2.1.F ht⟩
  refine W.widen h1 h2 ?_
  obtain ⟨pn, hr⟩ := hr
  match hk : P.2.2.1 y, r, hr with
  | 0, none, hr =>
    obtain ⟨ln, hd, -, hln⟩ := hdec pc _ hr
    obtain rfl : ln = 1 := xm_ln 0 hln rfl
    rw [hk] at hrt
    rcases hrt with ⟨-, e⟩ | ⟨ctr, -⟩ | ⟨ctr, -⟩ | ⟨ctr, -⟩ | ⟨ctr, -⟩ <;> try exact absurd ctr (by decide)
    exact W.vret q1 q2 (q6.trans e) hend hm.2.2.2.1.2.2 hd q7
  | 1, some (Sum.inl x), hr =>
    obtain ⟨ln, hd, -, hln⟩ := hdec pc _ hr
    obtain rfl : ln = 1 := xm_ln 0 hln rfl
    rw [hk] at hrt
    rcases hrt with ⟨ctr, -⟩ | ⟨-, e⟩ | ⟨ctr, -⟩ | ⟨ctr, -⟩ | ⟨ctr, -⟩ <;> try exact absurd ctr (by decide)
    exact W.iret q1 q2 (q6.trans e) hend hm.2.2.2.1.2.2 hd q7
  | 2, some (Sum.inr (Sum.inl x)), hr =>
    obtain ⟨ln, hd, -, hln⟩ := hdec pc _ hr
    obtain rfl : ln = 1 := xm_ln 0 hln rfl
    rw [hk] at hrt
    rcases hrt with ⟨ctr, -⟩ | ⟨ctr, -⟩ | ⟨-, e⟩ | ⟨ctr, -⟩ | ⟨ctr, -⟩ <;> try exact absurd ctr (by decide)
    exact W.lret q1 q2 (q6.trans e) hend hm.2.2.2.1.2.2 hd q7
  | 3, some (Sum.inr (Sum.inr (Sum.inl (some x)))), hr =>
    obtain ⟨ln, hd, -, hln⟩ := hdec pc _ hr
    obtain rfl : ln = 1 := xm_ln 0 hln rfl
    rw [hk] at hrt
    rcases hrt with ⟨ctr, -⟩ | ⟨ctr, -⟩ | ⟨ctr, -⟩ | ⟨-, ⟨n, e⟩ | ⟨n, e⟩⟩ | ⟨ctr, -⟩ <;> try exact absurd ctr (by decide)
    · exact W.aret q1 q2 (q6.trans e) (Or.inl ⟨n, rfl⟩) (Or.inr ⟨_, rfl⟩) hend hm.2.2.2.1.2.2 hd q7
    · exact W.aret q1 q2 (q6.trans e) (Or.inr ⟨n, rfl⟩) (Or.inr ⟨_, rfl⟩) hend hm.2.2.2.1.2.2 hd q7
  | 4, some (Sum.inl x), hr =>
    obtain ⟨hr, h01⟩ := hr
    obtain ⟨ln, hd, -, hln⟩ := hdec pc _ hr
    obtain rfl : ln = 1 := xm_ln 0 hln rfl
    rw [hk] at hrt
    rcases hrt with ⟨ctr, -⟩ | ⟨ctr, -⟩ | ⟨ctr, -⟩ | ⟨ctr, -⟩ | ⟨-, e⟩ <;> try exact absurd ctr (by decide)
    exact W.zret q1 q2 (q6.trans e) (by rcases h01 with rfl | rfl <;> rfl) hend hm.2.2.2.1.2.2 hd q7
-- a callee's contract
theorem xm_met (O : xm_pok P N cl z) {d y C0 S0 : Nat} {Q : xm_P} {av : List xm_V} {M : xm_M} {ad : Nat → Nat} {ca : Nat → ClassId} (hpl : plainName (N.1 y).cls = true) (hle : (xm_en av).length ≤ P.2.1 y) (hsc : xm_hs M.1.length av)
    (hG : xm_G P N xt l D cl ex h0 z d y C0 S0 Q 0 (xm_ent (P.2.1 y) av) [] M 0 0) :
    Met l (N.1 y) (xm_ws P N y) (xm_rm d C0 S0) (va_Pc (av.map (xm_v ad ex)) (fun U => xm_wd D cl ex xt h0 z U U.heap M ad ca ∧ xm_nw N U)) (xm_Qc D cl ex xt h0 z Q M.1.length ad ca) C0 S0 (xm_A h0) := by
  refine Met.ofW (cc := N.2.1 y) (maxL := P.2.1 y) (ret := N.2.2.1 y) hpl rfl ?_
  intro p e s m args below meth c s₁ B hml hv
  obtain ⟨rfl, ⟨h1, h2, h3, h4, h5, h6, h7, h8⟩, hnw⟩ := hv
  have hts := atoms_spec (ws := xm_ws P N y) B.pre
  have cx : xm_cx P N D cl ex xt h0 z y p s m (av.map (xm_v ad ex)).toArray meth c := ⟨B.exec, B.bytes, hml, findClass_of_methodNamed B.named, fun w hw => (O.2.2.2.1 w hw).elim (fun g => hts w (List.mem_cons_of_mem _ (List.mem_filter.mpr ⟨hw, g⟩))) (fun g => va_Nw.use (xm_nst_t g) (hnw w hw g)), B.returns, B.notSynchronized, fun q => (name_of_methodNamed B.named B.method).1.trans q, h5, h1, h7, h8⟩
  have w := hG.2 p e (xm_rm d C0 S0) s m _ below meth c M.1.length ad ca _ ⟨Nat.le_refl _, Nat.le_refl _, Nat.le_refl _, Nat.le_refl _⟩ cx (xm_rets O cx) ad ca _ s.heap [] (Nat.le_refl _) (fun _ _ => ⟨rfl, rfl⟩) (xm_entry hle hsc) (fun v hv => by cases hv) ⟨h2, h3, h4, va_S.rf, h6⟩
  rw [lg_entry_eq]
  exact w
-- a call, whatever it answers
theorem xm_call {p : Program} {e : Env} {R : Room} {s : State} {m : MethodId} {args : Array Value} {below : List Frame} {meth : Method} {c : Code} {H : Heap} {locs : List Loc} {nc ns mc ms pc : Nat} {ls : Array Slot} {st0 rest : List Value} {Qa : State → Outcome → State → Prop} {A : Nat → Prop} {Qw : State → Prop}
    (hr : va_Run p l e R s m args below meth c H locs nc ns mc ms (F0 m pc ls st0) rest Qa A) (hS : va_S A s.heap H locs) (hF : ∀ st o t, Qa st o t → va_F A st t)
    (kk : ∀ (v : Option Value) (st t : State) (H1 : Heap) (locs1 : List Loc), t.heap = H1 → s.vm.Alike t.vm → Qa st (.returned v) t → H.size ≤ H1.size → va_S A s.heap H1 locs1 → W p l e R s m args below meth c H1 locs1 (nc + mc) (ns + ms) Qw (F0 m (pc + 3) ls (v.toList ++ rest))) : W p l e R s m args below meth c H locs nc ns Qw (F0 m pc ls st0) := by
  intro T hT X
  obtain ⟨v, st₀, t, T', L, e0, X', hL, e1, e2, hq, st⟩ := hr T hT X
  obtain ⟨hz, hk⟩ := hF _ _ _ hq
  rw [e0] at hz hk
  obtain ⟨t2, a1, b1⟩ := kk v st₀ t T'.heap (locs ++ L) e1.symm (by rw [← e2]; exact X'.warmed.alike) hq (by rw [e1]; exact hz)
    ⟨Nat.le_trans hS.1 (by rw [e1]; exact hz), fun q h1 h2 => by rw [e1, hk q (Nat.lt_of_lt_of_le h1 hS.1) h2]; exact hS.2.1 q h1 h2, fun q hq => by
      rcases List.mem_append.mp hq with h | h
      · exact hS.2.2 q h
      · exact hL q h⟩ T' rfl X'
  exact ⟨t2, st t2 a1, b1⟩
theorem xm_blind {av : List Value} {M : xm_M} {ad : Nat → Nat} {ca : Nat → ClassId} : FrameBlind (va_Pc av (fun U => xm_wd D cl ex xt h0 z U U.heap M ad ca ∧ xm_nw N U)) := fun a U g mk h => ⟨h.1, xm_wd.moved (u := U) (U := U.calling g mk a) (Vm.Alike.refl U.vm) h.2.1, fun w hw g1 => va_Nw.same (xm_nst_t g1) (u := U) (U := U.calling g mk a) rfl (h.2.2 w hw g1)⟩
theorem xm_clo_S (O : xm_pok P N cl z) : xm_cS P xt (xm_G P N xt l D cl ex h0 z) := by
  intro d y C0 S0 Q pc loc st M nc ns K h hk
  obtain ⟨a1, a2, a3, a4, a5, a6, hK, g1, g2⟩ := xm_s1_ex h
  have r := (hk _ _ _ _ _ _ hK).1
  refine ⟨⟨Nat.le_trans g1 r.1, Nat.le_trans g2 r.2.1, r.2.2⟩, ?_⟩
  intro p e R s m args below meth c n0 ad0 ca0 Qf hR cx hrt
  obtain ⟨q1, q2, q3, q4, q5, q6, q7, q8, q9, q10, q11, q12⟩ := cx
  obtain ⟨o1, o2, o3, o4, o5, o6, o7, o8⟩ := O
  refine xm_sound (own := (N.1 y).cls) (cc := N.2.1 y) (Ts := N.2.2.2) (xt := xt) (C0 := C0) (S0 := S0) (Y := P.1 y) ⟨q1, q2, q3, q4, q5, q9, fun q hq => Nat.le_trans q10 hq, ⟨hR.2.1, hR.2.2.1⟩, q11⟩ (o1 y).1 (fun q => q8 ((o1 y).2 q)) (Nat.le_trans (Nat.le_add_left 1 d) hR.1) (Nat.le_trans (show 100 ≤ 200 * (d + 1) by omega) hR.2.2.2)
    ⟨q5 _ o7.1, q5 _ o7.2.1⟩ ⟨q5 _ o7.2.2.1, q5 _ o7.2.2.2.1, q5 _ o7.2.2.2.2.1⟩ ⟨q5 _ o7.2.2.2.2.2.1, q5 _ o7.2.2.2.2.2.2.1, q5 _ o7.2.2.2.2.2.2.2⟩ ⟨q5 _ o8.1, q5 _ o8.2.1, q5 _ o8.2.2⟩ ?_ (fun _ _ _ _ _ _ k => ⟨(hk _ _ _ _ _ _ k).1.1, (hk _ _ _ _ _ _ k).1.2.1⟩) (fun _ _ _ _ _ _ k => (hk _ _ _ _ _ _ k).2 p e R s m args below meth c n0 ad0 ca0 Qf hR ⟨q1, q2, q3, q4, q5, q6, q7, q8, q9, q10, q11, q12⟩ hrt) h
  intro ix q hq
  obtain ⟨rfl, hl⟩ := o5 y ix q hq
  exact ⟨_, _, _, q12, q5 _ hl⟩
theorem xm_clo_F : xm_cF (xm_G P N xt l D cl ex h0 z) := by
  intro d y C0 S0 Q pc loc loc' st M nc ns hle h
  refine ⟨h.1, fun p e R s m args below meth c n0 ad0 ca0 Qf hR cx hrt ad ca ls H locs hn hag hl hs hm => ?_⟩
  exact h.2 p e R s m args below meth c n0 ad0 ca0 Qf hR cx hrt ad ca ls H locs hn hag ⟨hl.1, fun i v hv => hl.2 i v (xm_le_at hle hv)⟩ hs hm
theorem xm_clo_R : xm_cR P (xm_G P N xt l D cl ex h0 z) := by
  intro d y C0 S0 Q pc loc M nc ns r hr h1 h2 hq
  refine ⟨⟨h1, h2, r, M, hq⟩, fun p e R s m args below meth c n0 ad0 ca0 Qf hR cx hrt ad ca ls H locs hn hag hl hs hm => ?_⟩
  exact hrt pc r M ad ca ls H locs nc ns hr h1 h2 hq hn hag hs hm
set_option maxHeartbeats 2000000 in
theorem xm_clo_C (O : xm_pok P N cl z) : xm_cC P (xm_G P N xt l D cl ex h0 z) := by
  intro d y C0 S0 Q pc loc M nc ns ix pn y' kd ci c1 s1 av rest Q' hi hc hle h8 hy hk
  have O0 := O
  obtain ⟨o1, o2, o3, o4, o5, o6, o7, o8⟩ := O
  obtain ⟨w1, w2, w3, w4, n1, w5, w6⟩ := o6 y ix y' av.length kd ci hc
  obtain ⟨r0, M0, hq0⟩ := hy.1.2.2
  have rr := (hk r0 M0 hq0).1
  refine ⟨⟨by omega, by omega, rr.2.2⟩, fun p e R s m args below meth c n0 ad0 ca0 Qf hR cx hrt ad ca ls H locs hn hag hl hs hm => ?_⟩
  have cx0 := cx
  obtain ⟨q1, q2, q3, q4, q5, q6, q7, q8, q9, q10, q11, q12⟩ := cx
  have hsa : xm_hs M.1.length av := fun v hv => hs v (List.mem_append_left _ (List.mem_reverse.mpr hv))
  have hsr : xm_hs M.1.length rest := fun v hv => hs v (List.mem_append_right _ hv)
  have hM := xm_met (ad := ad) (ca := ca) O0 w2 hle hsa hy
  have hgT := xm_goodT (N := N)
  have hG : GoodIn N.2.2.2 (xm_ws P N y') := fun w hw => by
    rcases List.mem_cons.mp hw with rfl | hw
    · exact ⟨w1, Or.inl rfl⟩
    · exact hgT _ hw
  have hRR : (xm_rm d c1 s1).frames + 1 ≤ R.frames ∧ 8 + (P.2.1 y' + 11) + (xm_rm d c1 s1).locals ≤ R.locals := by
    have := o3 y'
    have h2 := hR.2.2.2
    refine ⟨hR.1, ?_⟩
    show 8 + (P.2.1 y' + 11) + 200 * (d + 1) ≤ R.locals
    omega
  have hfit : nc + c1 ≤ R.cells ∧ ns + s1 ≤ R.slots := ⟨Nat.le_trans rr.1 hR.2.1, Nat.le_trans rr.2.1 hR.2.2.1⟩
  have h9 := xm_sum8 (ad := ad) (ex := ex) h8
  have go : pn = pc + 3 → va_Run p l e R s m args below meth c H locs nc ns c1 s1 (F0 m pc ls ((av.reverse ++ rest).map (xm_v ad ex))) (rest.map (xm_v ad ex)) (xm_Qc D cl ex xt h0 z Q' M.1.length ad ca (av.map (xm_v ad ex)).toArray) (xm_A h0) →
      W p l e R s m args below meth c H locs nc ns Qf (F0 m pc ls ((av.reverse ++ rest).map (xm_v ad ex))) := by
    intro hpn hrun
    refine xm_call hrun hm.2.2.2.1 (fun st o t q => q.2) (fun v st t H1 locs1 ht hvm hq hsz hS => ?_)
    obtain ⟨⟨r, M1, ad1, ca1, hQ, hv, hle1, hag1, hsc1, hwd⟩, -⟩ := hq
    have hwd2 := xm_wd.moved hvm.symm hwd
    rw [ht] at hwd2
    obtain ⟨g1, g2, g3, g4, g5, g6, g7, g8⟩ := hwd2
    have e1 : ∀ v, xm_sc M.1.length v → xm_v ad1 ex v = xm_v ad ex v := by
      intro v hv
      rcases v with x | x | (_ | k) | k
      · rfl
      · rfl
      · rfl
      · show Value.ref (ad1 k) = Value.ref (ad k)
        rw [(hag1 k hv).1]
      · rfl
    have e2 : (r.toList ++ rest).map (xm_v ad1 ex) = v.toList ++ rest.map (xm_v ad ex) := by
      injection hv with hv
      rw [hv, List.map_append, List.map_congr_left (fun w hw => e1 w (hsr w hw))]
      cases r <;> rfl
    have w := (hk r M1 hQ).2 p e R s m args below meth c n0 ad0 ca0 Qf hR cx0 hrt ad1 ca1 ls H1 locs1 (Nat.le_trans hn hle1) (fun k hk => ⟨(hag1 k (Nat.lt_of_lt_of_le hk hn)).1.trans (hag k hk).1, (hag1 k (Nat.lt_of_lt_of_le hk hn)).2.trans (hag k hk).2⟩)
      ⟨hl.1, fun i v hv => ⟨by rw [e1 v (hl.2 i v hv).2]; exact (hl.2 i v hv).1, xm_sc_le hle1 (hl.2 i v hv).2⟩⟩
      (fun v hv => by
        rcases List.mem_append.mp hv with hv | hv
        · cases r with
          | none => cases hv
          | some r => simp at hv; subst hv; exact hsc1 v rfl
        · exact xm_sc_le hle1 (hsr v hv))
      ⟨g2, g3, g4, hS, g6⟩
    rw [e2, hpn] at w
    exact w
  have hpre : ∀ U : State, U.heap = H → s.WarmedH U.vm → xm_wd D cl ex xt h0 z U U.heap M ad ca ∧ xm_nw N U := fun U hU hW => ⟨xm_wd_at hm q9 q10 q11 q12 hU hW.alike, fun w hw g => xm_nst_w g hW (va_Nw.of (xm_nst_t g) (q5 w hw))⟩
  rcases hi with ⟨rfl, hI, k, fs, as, rfl, hT⟩ | ⟨rfl, hI⟩ | ⟨rfl, hI, k, as, rfl⟩
  · obtain ⟨ln, hd, hpn, hln⟩ := (o1 y).1.1 pc _ hI
    obtain rfl : ln = 3 := xm_ln 2 hln rfl
    rcases w6 with ⟨-, hn1, hin, ⟨T1, K1, hcl⟩, hsel, hlk⟩ | ⟨ctr, -⟩ | ⟨ctr, -⟩ <;> try exact absurd ctr (by decide)
    have hrec := va_recv q9 hm.2.1 hcl (xm_w_at hT)
    have hst : ((xv_r k :: as).reverse ++ rest).map (xm_v ad ex) = (as.map (xm_v ad ex)).reverse ++ .ref (ad k) :: rest.map (xm_v ad ex) := by simp [xm_v]
    have hlen : (as.map (xm_v ad ex)).length = n1 := by rw [List.length_map]; simpa using hn1
    rcases hlk with hlk | ⟨host, hlk⟩
    · exact go hpn (va_runV ⟨q1, q2, q3, q4, q5⟩ hM ⟨callB_of n1 q5 hG rfl rfl rfl (q5 _ w4) (q5 _ hlk) ⟨w3.1, w3.2, w5⟩ hRR, q5 _ hin, q5 _ hsel⟩ ⟨xm_blind, hrec, fun U hU hW => ⟨rfl, hpre U hU hW⟩⟩ rfl hlen hl.1.1 hst (by show 2 * 0 + _ ≤ 8; omega) hd hfit)
    · refine go hpn (va_runVN ⟨q1, q2, q3, q4, q5⟩ hM ⟨⟨⟨rfl, rfl, hRR.1, hRR.2, pay_in q5 hG, List.mem_cons_self⟩, q5 _ w1, q5 _ w4, w3, fun sig h => ?_, q5 _ hlk⟩, q5 _ hin, q5 _ hsel⟩ ⟨xm_blind, hrec, fun U hU hW => ⟨rfl, hpre U hU hW⟩⟩ rfl hlen hl.1.1 hst (by show 2 * 0 + _ ≤ 8; omega) hd hfit)
      rw [h] at w5
      exact (Option.some.inj w5).symm
  · obtain ⟨ln, hd, hpn, hln⟩ := (o1 y).1.1 pc _ hI
    obtain rfl : ln = 3 := xm_ln 2 hln rfl
    rcases w6 with ⟨ctr, -⟩ | ⟨-, hn1, hsta, hlk⟩ | ⟨ctr, -⟩ <;> try exact absurd ctr (by decide)
    have hst : (av.reverse ++ rest).map (xm_v ad ex) = (av.map (xm_v ad ex)).reverse ++ rest.map (xm_v ad ex) := by simp
    exact go hpn (va_runS ⟨q1, q2, q3, q4, q5⟩ hM ⟨callB_of n1 q5 hG rfl rfl rfl (q5 _ w4) (q5 _ hlk) ⟨w3.1, w3.2, w5⟩ hRR, q5 _ hsta⟩ ⟨xm_blind, fun U hU hW => ⟨rfl, hpre U hU hW⟩⟩ rfl (by rw [List.length_map]; exact hn1) hl.1.1 hst (by show 2 * 0 + _ ≤ 8; omega) hd hfit)
  · obtain ⟨ln, hd, hpn, hln⟩ := (o1 y).1.1 pc _ hI
    obtain rfl : ln = 3 := xm_ln 2 hln rfl
    rcases w6 with ⟨ctr, -⟩ | ⟨ctr, -⟩ | ⟨-, hn1, hin, hnm, hrn, hlk⟩ <;> try exact absurd ctr (by decide)
    have hst : ((xv_r k :: as).reverse ++ rest).map (xm_v ad ex) = (as.map (xm_v ad ex)).reverse ++ .ref (ad k) :: rest.map (xm_v ad ex) := by simp [xm_v]
    have hlen : (as.map (xm_v ad ex)).length = n1 := by rw [List.length_map]; simpa using hn1
    have hws : xm_ws P N y' = Cond.code (N.1 y') (N.2.1 y') (P.2.1 y') none :: N.2.2.2.filter goodWord := by unfold xm_ws; rw [hrn]
    rcases hlk with hlk | ⟨host, hlk⟩
    · exact go hpn (va_runI ⟨q1, q2, q3, q4, q5⟩ hM ⟨callB_of n1 q5 hG hws rfl rfl (q5 _ w4) (q5 _ hlk) ⟨w3.1, w3.2, w5⟩ hRR, hnm, q5 _ hin⟩ ⟨xm_blind, fun U hU hW => ⟨rfl, hpre U hU hW⟩⟩ rfl hlen hl.1.1 hst (by show 2 * 0 + _ ≤ 8; omega) hd hfit)
    · refine go hpn (va_runIN ⟨q1, q2, q3, q4, q5⟩ hM ⟨⟨⟨rfl, rfl, hRR.1, hRR.2, pay_in q5 hG, by rw [hws]; exact List.mem_cons_self⟩, by rw [← hrn]; exact q5 _ w1, q5 _ w4, w3, fun sig h => ?_, q5 _ hlk⟩, hnm, q5 _ hin⟩ ⟨xm_blind, fun U hU hW => ⟨rfl, hpre U hU hW⟩⟩ rfl hlen hl.1.1 hst (by show 2 * 0 + _ ≤ 8; omega) hd hfit)
      rw [h] at w5
      exact (Option.some.inj w5).symm
theorem xm_clo_all (O : xm_pok P N cl z) : xm_clo P xt (xm_G P N xt l D cl ex h0 z) := ⟨xm_clo_S O, xm_clo_C O, xm_clo_R, xm_clo_F⟩
end XMET
