/-! The abstract machine is true of the machine: relations. -/
def xm_v (ad ex : Nat → Nat) : xm_V → Value
  | Sum.inl x => .int x
  | Sum.inr (Sum.inl x) => .long x
  | Sum.inr (Sum.inr (Sum.inl (some k))) => .ref (ad k)
  | Sum.inr (Sum.inr (Sum.inl none)) => .null
  | Sum.inr (Sum.inr (Sum.inr k)) => .ref (ex k)
-- a reference names a cell that is there
def xm_sc (n : Nat) : xm_V → Prop
  | Sum.inr (Sum.inr (Sum.inl (some k))) => k < n
  | _ => True
def xm_fw (ad : Nat → Nat) (I : Nat → Nat → Int32) (k j : Nat) : xm_F → Value
  | none => .int (I k j)
  | some none => .null
  | some (some q) => .ref (ad q)
def xm_e (ad : Nat → Nat) (ca : Nat → ClassId) (I : Nat → Nat → Int32) (J : Nat → Nat → Int64) (k : Nat) : xm_T → va_E
  | Sum.inl (t, n) => bif Nat.beq t 1 then .inl (ca k, n, .inr (.inl (J k))) else .inl (ca k, n, .inl (I k))
  | Sum.inr (ci, fs) => .inr (ci, fs.mapIdx fun j f => xm_fw ad I k j f)
def xm_ty : xm_T → Option FieldType
  | Sum.inl (t, _) => bif Nat.beq t 0 then some .int else bif Nat.beq t 1 then some .long else bif Nat.beq t 2 then some .boolean else none
  | Sum.inr _ => none
def xm_w (ad : Nat → Nat) (ca : Nat → ClassId) (M : xm_M) : va_W := M.1.mapIdx fun k t => (ad k, xm_e ad ca M.2.1 M.2.2 k t)
theorem xm_w_at {ad : Nat → Nat} {ca : Nat → ClassId} {M : xm_M} {k : Nat} {e : xm_T} (h : M.1[k]? = some e) : (xm_w ad ca M)[k]? = some (ad k, xm_e ad ca M.2.1 M.2.2 k e) := by
  simp [xm_w, h]
theorem xm_fv_v {ad ex : Nat → Nat} {I : Nat → Nat → Int32} {k j : Nat} (f : xm_F) : xm_v ad ex (xm_fv I k j f) = xm_fw ad I k j f := by
  rcases f with _ | _ | q <;> rfl
-- shapes are the same but at k, contents are the same but at k
theorem xm_w_set {ad : Nat → Nat} {ca : Nat → ClassId} {M : xm_M} {k : Nat} {T' : List xm_T} {e : xm_T} {I' : Nat → Nat → Int32} {J' : Nat → Nat → Int64} (hk : T'[k]? = some e) (hT : ∀ a, a ≠ k → T'[a]? = M.1[a]?) (hl : T'.length = M.1.length) (hI : ∀ a, a ≠ k → I' a = M.2.1 a) (hJ : ∀ a, a ≠ k → J' a = M.2.2 a) :
    (xm_w ad ca M).set k (ad k, xm_e ad ca I' J' k e) = xm_w ad ca (T', I', J') := by
  apply List.ext_getElem?
  intro a
  by_cases h : k = a
  · subst h
    have hlt : k < M.1.length := by rw [← hl]; exact (List.getElem?_eq_some_iff.mp hk).1
    rw [List.getElem?_set]
    simp [xm_w, hk, hlt]
  · have h2 : a ≠ k := fun q => h q.symm
    rw [List.getElem?_set_ne h]
    simp only [xm_w, List.getElem?_mapIdx, hT a h2]
    cases M.1[a]? with
    | none => rfl
    | some t =>
      rcases t with ⟨t, n⟩ | ⟨ci, fs⟩
      · simp [xm_e, hI a h2, hJ a h2]
      · have e1 : ∀ (j : Nat) (f : xm_F), xm_fw ad I' a j f = xm_fw ad M.2.1 a j f := fun j f => by rcases f with _ | _ | q <;> simp [xm_fw, hI a h2]
        simp [xm_e, e1]
def xm_scM (T : List xm_T) : Prop := ∀ (k ci : Nat) (fs : List xm_F), T[k]? = some (xt_o ci fs) → ∀ q, some (some q) ∈ fs → q < T.length
def xm_ka (ca : Nat → ClassId) (T : List xm_T) (U : State) : Prop := ∀ (k : Nat) (e : xm_T) (ty : FieldType), T[k]? = some e → xm_ty e = some ty → ArrOfT U (ca k) ty ∧ va_RA U (ca k) ty
def xm_hl (ad ex : Nat → Nat) (n nL : Nat) (ls : Array Slot) (loc : xm_L) : Prop := (ls.size = nL ∧ lv_wf ls) ∧ ∀ (i : Nat) (v : xm_V), loc[i]? = some (some v) → ls[i]? = some (.val (xm_v ad ex v)) ∧ xm_sc n v
def xm_hs (n : Nat) (st : List xm_V) : Prop := ∀ v, v ∈ st → xm_sc n v
-- memory against heap, at a method's state s (its entry) and now
def xm_hm (D : va_G) (cl : List vw_C) (A : Nat → Prop) (s : State) (ad : Nat → Nat) (ca : Nat → ClassId) (H : Heap) (locs : List Loc) (M : xm_M) : Prop :=
  xm_scM M.1 ∧ va_P D cl (xm_w ad ca M) H ∧ va_D A (xm_w ad ca M) ∧ va_S A s.heap H locs ∧ xm_ka ca M.1 s
-- a reading of the locals as the kit has it
def xm_fl (ad ex : Nat → Nat) (loc : xm_L) : List (Nat × Value) := loc.zipIdx.filterMap fun q => q.1.map fun v => (q.2, xm_v ad ex v)
theorem xm_fl_mem {ad ex : Nat → Nat} {loc : xm_L} {i : Nat} {w : Value} : (i, w) ∈ xm_fl ad ex loc ↔ ∃ v, loc[i]? = some (some v) ∧ w = xm_v ad ex v := by
  simp only [xm_fl, List.mem_filterMap]
  constructor
  · rintro ⟨⟨o, j⟩, hm, he⟩
    rw [List.mk_mem_zipIdx_iff_getElem?] at hm
    cases o with
    | none => simp at he
    | some v => simp at he; obtain ⟨rfl, rfl⟩ := he; exact ⟨v, hm, rfl⟩
  · rintro ⟨v, hv, rfl⟩
    exact ⟨(some v, i), (List.mk_mem_zipIdx_iff_getElem?).mpr hv, by simp⟩
theorem xm_hl.has {ad ex : Nat → Nat} {n nL : Nat} {ls : Array Slot} {loc : xm_L} (h : xm_hl ad ex n nL ls loc) : lv_has ls nL (xm_fl ad ex loc) := by
  refine ⟨h.1.1, h.1.2, fun q hq => ?_⟩
  obtain ⟨i, w⟩ := q
  obtain ⟨v, hv, rfl⟩ := xm_fl_mem.mp hq
  exact (h.2 i v hv).1
theorem xm_cat_v (ad ex : Nat → Nat) (v : xm_V) : (xm_v ad ex v).category = xm_cat v := by
  rcases v with x | x | (_ | k) | k <;> rfl
-- a store of a value of one word, of two words
theorem xm_brk_at {loc : xm_L} {i j : Nat} {v : xm_V} (h : (xm_brk loc i)[j]? = some (some v)) : loc[j]? = some (some v) ∧ ¬ (j + 1 = i ∧ xm_cat v = 2) := by
  unfold xm_brk at h
  cases i with
  | zero => exact ⟨h, by omega⟩
  | succ k =>
    simp only at h
    split at h
    · rename_i x hx
      by_cases hj : k = j
      · subst hj
        rw [List.getElem?_set] at h
        split at h <;> simp_all
      · rw [List.getElem?_set_ne hj] at h
        exact ⟨h, by omega⟩
    · rename_i hn
      refine ⟨h, fun ⟨e1, e2⟩ => ?_⟩
      have e1 : j = k := by omega
      subst e1
      rcases v with x | x | (_ | q) | q <;> simp [xm_cat] at e2
      exact hn x h
theorem xm_hl.st1 {ad ex : Nat → Nat} {n nL i : Nat} {ls ls' : Array Slot} {loc : xm_L} {v : xm_V} (h : xm_hl ad ex n nL ls loc) (hv : xm_sc n v)
    (h' : lv_has ls' nL ((i, xm_v ad ex v) :: (xm_fl ad ex loc).filter (fun q => !(q.1 == i) && !(q.1 + 1 == i && q.2.category == 2)))) : xm_hl ad ex n nL ls' (xm_st1 loc i v) := by
  refine ⟨⟨h'.1, h'.2.1⟩, fun j w hw => ?_⟩
  unfold xm_st1 at hw
  by_cases hj : i = j
  · subst hj
    rw [List.getElem?_set, if_pos rfl] at hw
    split at hw
    · simp at hw
      subst hw
      exact ⟨h'.2.2 _ List.mem_cons_self, hv⟩
    · cases hw
  · rw [List.getElem?_set_ne hj] at hw
    obtain ⟨h1, h2⟩ := xm_brk_at hw
    refine ⟨h'.2.2 (j, xm_v ad ex w) (List.mem_cons_of_mem _ (List.mem_filter.mpr ⟨xm_fl_mem.mpr ⟨w, h1, rfl⟩, ?_⟩)), (h.2 j w h1).2⟩
    simp only [xm_cat_v]
    simp only [Bool.and_eq_true, Bool.not_eq_true', beq_eq_false_iff_ne, Bool.and_eq_false_iff]
    refine ⟨fun e => hj e.symm, ?_⟩
    by_cases e1 : j + 1 = i
    · exact Or.inr (by simpa using fun e2 => h2 ⟨e1, e2⟩)
    · exact Or.inl e1
theorem xm_hl.st2 {ad ex : Nat → Nat} {n nL i : Nat} {ls ls' : Array Slot} {loc : xm_L} {v : xm_V} (h : xm_hl ad ex n nL ls loc) (hv : xm_sc n v)
    (h' : lv_has ls' nL ((i, xm_v ad ex v) :: (xm_fl ad ex loc).filter (fun q => !(q.1 == i) && (!(q.1 == i + 1) && !(q.1 + 1 == i && q.2.category == 2))))) : xm_hl ad ex n nL ls' (xm_st2 loc i v) := by
  refine ⟨⟨h'.1, h'.2.1⟩, fun j w hw => ?_⟩
  unfold xm_st2 at hw
  by_cases hk : i + 1 = j
  · subst hk
    rw [List.getElem?_set, if_pos rfl] at hw
    split at hw <;> simp at hw
  · rw [List.getElem?_set_ne hk] at hw
    by_cases hj : i = j
    · subst hj
      rw [List.getElem?_set, if_pos rfl] at hw
      split at hw
      · simp at hw
        subst hw
        exact ⟨h'.2.2 _ List.mem_cons_self, hv⟩
      · cases hw
    · rw [List.getElem?_set_ne hj] at hw
      obtain ⟨h1, h2⟩ := xm_brk_at hw
      refine ⟨h'.2.2 (j, xm_v ad ex w) (List.mem_cons_of_mem _ (List.mem_filter.mpr ⟨xm_fl_mem.mpr ⟨w, h1, rfl⟩, ?_⟩)), (h.2 j w h1).2⟩
      simp only [xm_cat_v]
      simp only [Bool.and_eq_true, Bool.not_eq_true', beq_eq_false_iff_ne, Bool.and_eq_false_iff]
      refine ⟨fun e => hj e.symm, fun e => hk e.symm, ?_⟩
      by_cases e1 : j + 1 = i
      · exact Or.inr (by simpa using fun e2 => h2 ⟨e1, e2⟩)
      · exact Or.inl e1
theorem xm_le_at {i : Nat} {v : xm_V} : ∀ {a b : xm_L}, xm_le a b → a[i]? = some (some v) → b[i]? = some (some v)
  | [], [], _, h => by simp at h
  | none :: a, _ :: b, hl, h => by
    cases i with
    | zero => simp at h
    | succ i => simpa using xm_le_at (a := a) (b := b) hl (by simpa using h)
  | some w :: a, x :: b, hl, h => by
    obtain ⟨rfl, hl⟩ := hl
    cases i with
    | zero => simpa using h
    | succ i => simpa using xm_le_at (a := a) (b := b) hl (by simpa using h)
  | [], _ :: _, hl, _ => hl.elim
  | none :: _, [], hl, _ => hl.elim
  | some _ :: _, [], hl, _ => hl.elim
theorem xm_in_mem {pc : Nat} {i : Jvm.ClassFile.Instr × Nat} : ∀ {l : List xm_I}, xm_in pc l = some i → (pc, i) ∈ l
  | [], h => by cases h
  | q :: r, h => by
    unfold xm_in at h
    cases hb : Nat.beq q.1 pc with
    | true =>
      rw [hb] at h
      have e : q.1 = pc := Nat.eq_of_beq_eq_true hb
      have e2 : q.2 = i := Option.some.inj h
      rw [← e, ← e2]
      exact List.mem_cons_self
    | false =>
      rw [hb] at h
      exact List.mem_cons_of_mem _ (xm_in_mem h)
theorem xm_tb_mem {pc : Nat} {i : Jvm.ClassFile.Instr × Nat} : ∀ {l : List (Nat × List xm_I)}, xm_tb pc l = some i → ∃ q ∈ l, (pc, i) ∈ q.2
  | [], h => by cases h
  | q :: r, h => by
    unfold xm_tb at h
    cases hb : Nat.blt pc q.1 with
    | true => rw [hb] at h; exact ⟨q, List.mem_cons_self, xm_in_mem h⟩
    | false =>
      rw [hb] at h
      obtain ⟨q', h1, h2⟩ := xm_tb_mem h
      exact ⟨q', List.mem_cons_of_mem _ h1, h2⟩
-- a method's table is true of its bytes
def xm_dec (cc : ByteArray) (q : xm_I) : Prop := ∃ n, decode cc q.1 = .ok (q.2.1, n) ∧ q.2.2 = q.1 + n ∧ (xm_len q.2.1 = 0 ∨ n = xm_len q.2.1)
-- what links say, of one method's code in the tables' words Ts
def xm_fok (own : String) (Ts : List Cond) (cl : List vw_C) (ix ci j t : Nat) : Prop :=
  ∃ (C : String) (T : u_T) (N : Nat) (ty : Nat → FieldType), cl[ci]? = some (C, T, N) ∧ j < N ∧ (∀ w ∈ u_ws C T N, w ∈ Ts) ∧ (∀ k, k < N → parseFieldDescriptor (T k).2.2.1 = some (ty k)) ∧ (∀ a, a < N → ∀ b, b < N → a ≠ b → (T a).2.1 ≠ (T b).2.1) ∧
    (Cond.fieldLink own ix (T j).1 (T j).2.1 (T j).2.2.1 ∈ Ts ∨ ∃ host, Cond.fieldLinkNest own ix (T j).1 (T j).2.1 (T j).2.2.1 host ∈ Ts) ∧
    ((t = 0 ∧ ty j = .int ∧ (T j).2.2.2 = false) ∨ (t = 3 ∧ ty j = .boolean ∧ (T j).2.2.2 = false) ∨ (t = 2 ∧ ((∃ n, ty j = .object n) ∨ ∃ a, ty j = .array a) ∧ (T j).2.2.2 = false) ∨ (t = 12 ∧ ((∃ n, ty j = .object n) ∨ ∃ a, ty j = .array a) ∧ (T j).2.2.2 = true ∧ (T j).1 = own ∧ Cond.fieldLink own ix (T j).1 (T j).2.1 (T j).2.2.1 ∈ Ts) ∨ t = 22)
def xm_nok (own : String) (Ts : List Cond) (cl : List vw_C) (ix ci : Nat) (fs : List xm_F) : Prop :=
  ∃ (C : String) (T : u_T) (N : Nat) (ty : Nat → FieldType), cl[ci]? = some (C, T, N) ∧ (∀ w ∈ u_ws C T N, w ∈ Ts) ∧ (∀ k, k < N → parseFieldDescriptor (T k).2.2.1 = some (ty k)) ∧
    Cond.classLink own ix C ∈ Ts ∧ Cond.instantiable C N ∈ Ts ∧ Cond.initialized C ∈ Ts ∧ fs.length = N ∧ (∀ f, f ∈ fs → f = none ∨ f = some none) ∧ ∀ j, j < N → ∀ (ad : Nat → Nat) (I : Nat → Nat → Int32) (k : Nat), (∀ b, I k b = 0) → defaultValue (ty j) = vp_V (fs.mapIdx fun j f => xm_fw ad I k j f) j
def xm_yok (own : String) (cc : ByteArray) (Ts : List Cond) (cl : List vw_C) (Y : xm_Y) : Prop :=
  (∀ pc i, Y.1 pc = some i → xm_dec cc (pc, i)) ∧ (∀ ix v, Y.2.1 ix = some (xv_i v) → Jvm.Cond.constant own ix v ∈ Ts) ∧ (∀ ix v, Y.2.1 ix = some (xv_l v) → Jvm.Cond.constantLong own ix v ∈ Ts) ∧
  (∀ ix ci j t, Y.2.2.1 ix = some (ci, j, t) → xm_fok own Ts cl ix ci j t) ∧ (∀ ix ci fs, Y.2.2.2.1 ix = some (ci, fs) → xm_nok own Ts cl ix ci fs) ∧
  (∀ ix, Y.2.2.2.2.2 ix = 2 → Cond.methodLink own ix objectInit ∈ Ts) ∧ (∀ ix, Y.2.2.2.2.2 ix = 1 → Cond.methodLink own ix arraycopyName ∈ Ts) ∧ (∀ ix, Y.2.2.2.2.2 ix = 3 → Cond.methodLink own ix Lib.Math.min.name ∈ Ts)
-- what stands fixed through a method
def xm_fx (own : String) (cc : ByteArray) (nL : Nat) (Ts : List Cond) (ex : Nat → Nat) (xt : Nat → Nat × (Nat → Int32)) (C0 S0 : Nat) (p : Program) (R : Room) (s : State) (m : MethodId) (args : Array Value) (c : Code) (D : va_G) (cl : List vw_C) (A : Nat → Prop) : Prop :=
  p.tables.exec = Jvm.exec ∧ c.code = cc ∧ c.maxLocals = nL ∧ s.vm.findClass own = some m.cls ∧ (∀ w ∈ Ts, w.before args s = true) ∧ va_K D cl [] s ∧ (∀ q : Nat, s.heap.size ≤ q → A q) ∧ (C0 ≤ R.cells ∧ S0 ≤ R.slots) ∧
  (∀ k, va_T .int (ex k) (xt k).1 (fun j => .int ((xt k).2 j)) A s s.heap)
theorem xm_hs_cons {n : Nat} {v : xm_V} {r : List xm_V} (h : xm_hs n (v :: r)) : xm_sc n v ∧ xm_hs n r := ⟨h v List.mem_cons_self, fun w hw => h w (List.mem_cons_of_mem _ hw)⟩
theorem xm_hs_push {n : Nat} {v : xm_V} {r : List xm_V} (hv : xm_sc n v) (h : xm_hs n r) : xm_hs n (v :: r) := fun w hw => by
  rcases List.mem_cons.mp hw with rfl | hw
  · exact hv
  · exact h w hw
