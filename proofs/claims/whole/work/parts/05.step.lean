/-! The one step is true of the machine. -/
theorem xm_ln {i : Jvm.ClassFile.Instr} {n : Nat} (k : Nat) (h : xm_len i = 0 ∨ n = xm_len i) (hk : xm_len i = k + 1) : n = k + 1 := by
  rcases h with h | h
  · rw [hk] at h; cases h
  · rw [h, hk]
theorem xm_K1 {D : va_G} {cl : List vw_C} {s : State} {cA : ClassId} {ty : FieldType} (hK : va_K D cl [] s) (h : ArrOfT s cA ty ∧ va_RA s cA ty) : va_K D cl [(cA, ty)] s := by
  refine ⟨hK.1, fun k q hq => ?_⟩
  cases k with
  | zero => cases hq; exact h
  | succ k => cases hq
theorem xm_K2 {D : va_G} {cl : List vw_C} {s : State} {cA cB : ClassId} {ty : FieldType} (hK : va_K D cl [] s) (h : ArrOfT s cA ty ∧ va_RA s cA ty) (h2 : ArrOfT s cB ty ∧ va_RA s cB ty) : va_K D cl [(cA, ty), (cB, ty)] s := by
  refine ⟨hK.1, fun k q hq => ?_⟩
  match k, hq with
  | 0, hq => cases hq; exact h
  | 1, hq => cases hq; exact h2
  | k + 2, hq => cases hq
theorem xm_map_congr {α β : Type} {l : List α} {f g : Nat → α → β} (h : ∀ i a, l[i]? = some a → f i a = g i a) : l.mapIdx f = l.mapIdx g := by
  apply List.ext_getElem?
  intro i
  simp only [List.getElem?_mapIdx]
  cases hl : l[i]? with
  | none => rfl
  | some a => simp [h i a hl]
theorem xm_sc_le {n n' : Nat} (h : n ≤ n') {v : xm_V} (hv : xm_sc n v) : xm_sc n' v := by
  rcases v with x | x | (_ | k) | k
  · trivial
  · trivial
  · trivial
  · exact Nat.lt_of_lt_of_le (show k < n from hv) h
  · trivial
theorem xm_v_up {ad ex : Nat → Nat} {n q : Nat} {v : xm_V} (h : xm_sc n v) : xm_v (va_up ad n q) ex v = xm_v ad ex v := by
  rcases v with x | x | (_ | k) | k
  · rfl
  · rfl
  · rfl
  · have hk : k < n := h
    show Value.ref (va_up ad n q k) = Value.ref (ad k)
    simp [va_up, Nat.ne_of_lt hk]
  · rfl
theorem xm_st_up {ad ex : Nat → Nat} {n q : Nat} {st : List xm_V} (h : xm_hs n st) : st.map (xm_v (va_up ad n q) ex) = st.map (xm_v ad ex) := List.map_congr_left fun v hv => xm_v_up (h v hv)
theorem xm_hl.up {ad ex : Nat → Nat} {n nL q : Nat} {ls : Array Slot} {loc : xm_L} (h : xm_hl ad ex n nL ls loc) : xm_hl (va_up ad n q) ex (n + 1) nL ls loc :=
  ⟨h.1, fun i v hv => ⟨by rw [xm_v_up (h.2 i v hv).2]; exact (h.2 i v hv).1, xm_sc_le (Nat.le_succ n) (h.2 i v hv).2⟩⟩
theorem xm_hs.up {n n' : Nat} {st : List xm_V} (h : xm_hs n st) (hn : n ≤ n') : xm_hs n' st := fun v hv => xm_sc_le hn (h v hv)
theorem xm_sum8 {ad ex : Nat → Nat} {r : List xm_V} (h : xm_c8 r = true) : ((r.map (xm_v ad ex)).map fun v => v.category).sum ≤ 8 := by
  rw [List.map_map]
  have e : ((fun v : Value => v.category) ∘ xm_v ad ex) = xm_cat := funext fun v => xm_cat_v ad ex v
  rw [e]
  exact Nat.le_of_ble_eq_true h
theorem xm_w_push {ad : Nat → Nat} {ca ca' : Nat → ClassId} {M : xm_M} {q : Nat} {t : xm_T} {I' : Nat → Nat → Int32} {J' : Nat → Nat → Int64} (hsc : xm_scM M.1) (hca : ∀ k, k < M.1.length → ca' k = ca k) (hI : ∀ k, k < M.1.length → I' k = M.2.1 k) (hJ : ∀ k, k < M.1.length → J' k = M.2.2 k) :
    xm_w ad ca M ++ [(q, xm_e (va_up ad M.1.length q) ca' I' J' M.1.length t)] = xm_w (va_up ad M.1.length q) ca' (M.1 ++ [t], I', J') := by
  unfold xm_w
  rw [List.mapIdx_concat]
  congr 1
  · refine xm_map_congr fun i a hi => ?_
    have hlt : i < M.1.length := (List.getElem?_eq_some_iff.mp hi).1
    have e1 : va_up ad M.1.length q i = ad i := by simp [va_up, Nat.ne_of_lt hlt]
    rw [e1]
    rcases a with ⟨t', n⟩ | ⟨ci, fs⟩
    · simp only [xm_e, hca i hlt, hI i hlt, hJ i hlt]
    · have e2 : (fs.mapIdx fun j f => xm_fw ad M.2.1 i j f) = fs.mapIdx fun j f => xm_fw (va_up ad M.1.length q) I' i j f := by
        refine xm_map_congr fun j f hf => ?_
        rcases f with _ | _ | z
        · simp [xm_fw, hI i hlt]
        · rfl
        · have hz : z < M.1.length := hsc i ci fs hi z (List.mem_of_getElem? hf)
          simp [xm_fw, va_up, Nat.ne_of_lt hz]
      simp only [xm_e, e2]
  · simp [va_up]
theorem xm_push {D : va_G} {cl : List vw_C} {A : Nat → Prop} {s : State} {ad : Nat → Nat} {ca ca' : Nat → ClassId} {H H1 : Heap} {locs : List Loc} {M : xm_M} {q : Nat} {t : xm_T} {I' : Nat → Nat → Int32} {J' : Nat → Nat → Int64} {e : va_E} (hm : xm_hm D cl A s ad ca H locs M) (hca : ∀ k, k < M.1.length → ca' k = ca k) (hI : ∀ k, k < M.1.length → I' k = M.2.1 k) (hJ : ∀ k, k < M.1.length → J' k = M.2.2 k)
    (hsc : ∀ ci fs, t = xt_o ci fs → ∀ f, f ∈ fs → f = none ∨ f = some none) (hka : ∀ ty, xm_ty t = some ty → ArrOfT s (ca' M.1.length) ty ∧ va_RA s (ca' M.1.length) ty) (he : e = xm_e (va_up ad M.1.length q) ca' I' J' M.1.length t)
    (hP : va_P D cl (xm_w ad ca M ++ [(q, e)]) H1) (hD : va_D A (xm_w ad ca M ++ [(q, e)])) (hS : va_S A s.heap H1 locs) : xm_hm D cl A s (va_up ad M.1.length q) ca' H1 locs (M.1 ++ [t], I', J') := by
  subst he
  rw [xm_w_push hm.1 hca hI hJ] at hP hD
  refine ⟨fun k ci fs hk z hz => ?_, hP, hD, hS, fun k e ty hk hty => ?_⟩
  · have hk : (M.1 ++ [t])[k]? = some (xt_o ci fs) := hk
    show z < (M.1 ++ [t]).length
    rw [List.length_append, List.length_singleton]
    by_cases hlt : k < M.1.length
    · rw [List.getElem?_append_left hlt] at hk
      exact Nat.lt_succ_of_lt (hm.1 k ci fs hk z hz)
    · rw [List.getElem?_append_right (Nat.le_of_not_lt hlt)] at hk
      cases hj : k - M.1.length with
      | zero =>
        rw [hj] at hk
        rcases hsc ci fs (Option.some.inj hk) _ hz with q | q <;> cases q
      | succ j => rw [hj] at hk; cases hk
  · have hk : (M.1 ++ [t])[k]? = some e := hk
    by_cases hlt : k < M.1.length
    · rw [List.getElem?_append_left hlt] at hk
      rw [hca k hlt]
      exact hm.2.2.2.2 k e ty hk hty
    · rw [List.getElem?_append_right (Nat.le_of_not_lt hlt)] at hk
      cases hj : k - M.1.length with
      | zero =>
        rw [hj] at hk
        have hk0 : k = M.1.length := by omega
        subst hk0
        have ht : t = e := Option.some.inj hk
        subst ht
        exact hka ty hty
      | succ j => rw [hj] at hk; cases hk
-- contents change at k alone, shapes stay
theorem xm_hm.store {D : va_G} {cl : List vw_C} {A : Nat → Prop} {s : State} {ad : Nat → Nat} {ca : Nat → ClassId} {H H1 : Heap} {locs locs1 : List Loc} {M : xm_M} {k : Nat} {t : xm_T} {I' : Nat → Nat → Int32} {J' : Nat → Nat → Int64} {e : va_E} (hm : xm_hm D cl A s ad ca H locs M) (hk : M.1[k]? = some t) (hI : ∀ a, a ≠ k → I' a = M.2.1 a) (hJ : ∀ a, a ≠ k → J' a = M.2.2 a) (he : e = xm_e ad ca I' J' k t)
    (hP : va_P D cl ((xm_w ad ca M).set k (ad k, e)) H1) (hD : va_D A ((xm_w ad ca M).set k (ad k, e))) (hS : va_S A s.heap H1 locs1) : xm_hm D cl A s ad ca H1 locs1 (M.1, I', J') := by
  subst he
  rw [xm_w_set (T' := M.1) hk (fun _ _ => rfl) rfl hI hJ] at hP hD
  exact ⟨hm.1, hP, hD, hS, hm.2.2.2.2⟩
theorem xm_xu_k {α : Type} {f : Nat → Nat → α} {k j : Nat} {x : α} (a : Nat) (h : a ≠ k) : xu_2 f k j x a = f a := by funext b; simp [xu_2, h]
theorem xm_xc_k {α : Type} {f : Nat → Nat → α} {k : Nat} {g : Nat → α} (a : Nat) (h : a ≠ k) : xc_y f k g a = f a := by funext b; simp [xc_y, h]
theorem xm_xz_k {α : Type} {f : Nat → Nat → α} {k : Nat} {x : α} (a : Nat) (h : a < k) : xz_2 f k x a = f a := by funext b; simp [xz_2, Nat.ne_of_lt h]
theorem xm_put_e {ad : Nat → Nat} {I : Nat → Nat → Int32} {k j : Nat} {fs : List xm_F} {x : Int32} (hj : fs[j]? = some none) : (fs.mapIdx fun b f => xm_fw ad I k b f).set j (.int x) = fs.mapIdx fun b f => xm_fw ad (xu_2 I k j x) k b f := by
  apply List.ext_getElem?
  intro b
  by_cases h : j = b
  · subst h
    rw [List.getElem?_set]
    simp [List.getElem?_mapIdx, hj, xm_fw, xu_2, (List.getElem?_eq_some_iff.mp hj).1]
  · rw [List.getElem?_set_ne h]
    simp only [List.getElem?_mapIdx]
    cases fs[b]? with
    | none => rfl
    | some f => rcases f with _ | _ | q <;> simp [xm_fw, xu_2, fun q : b = j => h q.symm]
theorem xm_putr_e {ad : Nat → Nat} {I : Nat → Nat → Int32} {k j q : Nat} {fs : List xm_F} : (fs.mapIdx fun b f => xm_fw ad I k b f).set j (.ref (ad q)) = (fs.set j (some (some q))).mapIdx fun b f => xm_fw ad I k b f := by
  apply List.ext_getElem?
  intro b
  simp only [List.getElem?_mapIdx, List.getElem?_set, List.length_mapIdx]
  by_cases h : j = b
  · subst h
    by_cases h2 : j < fs.length
    · simp [h2, xm_fw]
    · simp [h2]
  · simp [h]
def xm_W1 (p : Program) (l : Launch) (e : Env) (R : Room) (s : State) (m : MethodId) (args : Array Value) (below : List Frame) (meth : Method) (c : Code) (Q : State → Prop) (D : va_G) (cl : List vw_C) (ex : Nat → Nat) (A : Nat → Prop) (nL n0 : Nat) (ad0 : Nat → Nat) (ca0 : Nat → ClassId) : xm_K := fun pc loc st M nc ns =>
  ∀ (ad : Nat → Nat) (ca : Nat → ClassId) (ls : Array Slot) (H : Heap) (locs : List Loc), n0 ≤ M.1.length → (∀ k, k < n0 → ad k = ad0 k ∧ ca k = ca0 k) → xm_hl ad ex M.1.length nL ls loc → xm_hs M.1.length st → xm_hm D cl A s ad ca H locs M →
    W p l e R s m args below meth c H locs nc ns Q (F0 m pc ls (st.map (xm_v ad ex)))
section XSTEP
variable {p : Program} {l : Launch} {e : Env} {R : Room} {s : State} {m : MethodId} {args : Array Value} {below : List Frame} {meth : Method} {c : Code} {Q : State → Prop} {D : va_G} {cl : List vw_C} {ex : Nat → Nat} {A : Nat → Prop} {nL n0 : Nat} {ad0 : Nat → Nat} {ca0 : Nat → ClassId}
variable {own : String} {cc : ByteArray} {Ts : List Cond} {xt : Nat → Nat × (Nat → Int32)} {C0 S0 : Nat} {Y : xm_Y} {K : xm_K} {pc : Nat} {loc : xm_L} {st : List xm_V} {M : xm_M} {nc ns : Nat}
set_option maxHeartbeats 8000000 in
set_option maxRecDepth 100000 in
theorem xm_sound (F : xm_fx own cc nL Ts ex xt C0 S0 p R s m args c D cl A) (O : xm_yok own cc Ts cl Y) (hini : Y.2.2.2.2.2 0 = 9 → meth.name = "<init>") (hRf : 1 ≤ R.frames) (hRl : 100 ≤ R.locals)
    (hoi : (Cond.instanceMethod objectInit).before args s = true ∧ (Cond.code objectInit ⟨#[0xb1]⟩ 1 none).before args s = true)
    (har : (Cond.arrayClass .int).before args s = true ∧ (Cond.arrayClass .long).before args s = true ∧ (Cond.arrayClass .boolean).before args s = true)
    (hcy : (Cond.native arraycopyName).before args s = true ∧ (Cond.static arraycopyName).before args s = true ∧ (Cond.initialized "java/lang/System").before args s = true)
    (hst : ∀ ix q, Y.2.2.2.2.1 ix = some q → ∃ (C n d : String), va_Z C n d (.ref (ex q)) A s s.heap ∧ (Cond.fieldLink own ix C n d).before args s = true)
    (h : xm_s1 Y xt nL pc loc st M nc ns K) (hr : ∀ a1 a2 a3 a4 a5 a6, K a1 a2 a3 a4 a5 a6 → a5 ≤ C0 ∧ a6 ≤ S0)
    (kk : ∀ a1 a2 a3 a4 a5 a6, K a1 a2 a3 a4 a5 a6 → xm_W1 p l e R s m args below meth c Q D cl ex A nL n0 ad0 ca0 a1 a2 a3 a4 a5 a6) : xm_W1 p l e R s m args below meth c Q D cl ex A nL n0 ad0 ca0 pc loc st M nc ns := by
  obtain ⟨hx, hb, hml, hown, hts, hK, hA, ⟨hRc, hRs⟩, hT⟩ := F
  obtain ⟨hdec, hkc, hkl, hfo, hno, hob, hcp⟩ := O
  intro ad ca ls H locs hn hag hl hs hm
  obtain ⟨i, pn, hi, h⟩ := h
  obtain ⟨ln, hd, hpn, hln⟩ := hdec pc (i, pn) hi
  dsimp only at hd hpn hln
  cases i
  case iconst n =>
    obtain rfl := xm_ln 0 hln rfl
    subst hpn
    dsimp only at h
    exact lv_iconst hx hb hd rfl (kk _ _ _ _ _ _ h ad ca ls H locs hn hag hl (xm_hs_push trivial hs) hm)
  case bipush n =>
    obtain rfl := xm_ln 1 hln rfl
    subst hpn
    dsimp only at h
    exact lv_bipush hx hb hd rfl (kk _ _ _ _ _ _ h ad ca ls H locs hn hag hl (xm_hs_push trivial hs) hm)
  case sipush n =>
    obtain rfl := xm_ln 2 hln rfl
    subst hpn
    dsimp only at h
    exact lv_sipush hx hb hd rfl (kk _ _ _ _ _ _ h ad ca ls H locs hn hag hl (xm_hs_push trivial hs) hm)
  case lconst n =>
    obtain rfl := xm_ln 0 hln rfl
    subst hpn
    dsimp only at h
    exact lv_lconst hx hb hd rfl (kk _ _ _ _ _ _ h ad ca ls H locs hn hag hl (xm_hs_push trivial hs) hm)
  case ldc ix =>
    obtain rfl := xm_ln 1 hln rfl
    subst hpn
    dsimp only at h
    obtain ⟨v, hv, h⟩ := h
    exact lv_ldc hx hb hown (hts _ (hkc ix v hv)) hd (kk _ _ _ _ _ _ h ad ca ls H locs hn hag hl (xm_hs_push trivial hs) hm)
  case ldc2_w ix =>
    obtain rfl := xm_ln 2 hln rfl
    subst hpn
    dsimp only at h
    obtain ⟨v, hv, h⟩ := h
    exact lv_ldc2 hx hb hown (hts _ (hkl ix v hv)) hd (kk _ _ _ _ _ _ h ad ca ls H locs hn hag hl (xm_hs_push trivial hs) hm)
  case iload k =>
    obtain rfl := xm_ln 1 hln rfl
    subst hpn
    dsimp only at h
    obtain ⟨x, hv, h⟩ := h
    exact lv_iload hx hb hd (hl.2 _ _ hv).1 (kk _ _ _ _ _ _ h ad ca ls H locs hn hag hl (xm_hs_push trivial hs) hm)
  case iload_n k =>
    obtain rfl := xm_ln 0 hln rfl
    subst hpn
    dsimp only at h
    obtain ⟨x, hv, h⟩ := h
    exact lv_iload_n hx hb hd rfl (hl.2 _ _ hv).1 (kk _ _ _ _ _ _ h ad ca ls H locs hn hag hl (xm_hs_push trivial hs) hm)
  case lload k =>
    obtain rfl := xm_ln 1 hln rfl
    subst hpn
    dsimp only at h
    obtain ⟨x, hv, h⟩ := h
    exact lv_lload hx hb hd (hl.2 _ _ hv).1 (kk _ _ _ _ _ _ h ad ca ls H locs hn hag hl (xm_hs_push trivial hs) hm)
  case lload_n k =>
    obtain rfl := xm_ln 0 hln rfl
    subst hpn
    dsimp only at h
    obtain ⟨x, hv, h⟩ := h
    exact lv_lload_n hx hb hd rfl (hl.2 _ _ hv).1 (kk _ _ _ _ _ _ h ad ca ls H locs hn hag hl (xm_hs_push trivial hs) hm)
  case aload k =>
    obtain rfl := xm_ln 1 hln rfl
    subst hpn
    dsimp only at h
    rcases h with ⟨q, hv, h⟩ | ⟨q, hv, h⟩
    · exact lv_aload hx hb hd (hl.2 _ _ hv).1 (kk _ _ _ _ _ _ h ad ca ls H locs hn hag hl (xm_hs_push (hl.2 _ _ hv).2 hs) hm)
    · exact lv_aload hx hb hd (hl.2 _ _ hv).1 (kk _ _ _ _ _ _ h ad ca ls H locs hn hag hl (xm_hs_push trivial hs) hm)
  case aload_n k =>
    obtain rfl := xm_ln 0 hln rfl
    subst hpn
    dsimp only at h
    rcases h with ⟨q, hv, h⟩ | ⟨q, hv, h⟩
    · exact lv_aload_n hx hb hd rfl (hl.2 _ _ hv).1 (kk _ _ _ _ _ _ h ad ca ls H locs hn hag hl (xm_hs_push (hl.2 _ _ hv).2 hs) hm)
    · exact lv_aload_n hx hb hd rfl (hl.2 _ _ hv).1 (kk _ _ _ _ _ _ h ad ca ls H locs hn hag hl (xm_hs_push trivial hs) hm)
  case istore k =>
    obtain rfl := xm_ln 1 hln rfl
    subst hpn
    dsimp only at h
    obtain ⟨x, r, rfl, hk, h⟩ := h
    exact lv_istore hx hb hd hl.has hk rfl (fun ls' hl' => kk _ _ _ _ _ _ h ad ca ls' H locs hn hag (hl.st1 trivial hl') (xm_hs_cons hs).2 hm)
  case lstore k =>
    obtain rfl := xm_ln 1 hln rfl
    subst hpn
    dsimp only at h
    obtain ⟨x, r, rfl, hk, h⟩ := h
    exact lv_lstore hx hb hd hl.has hk rfl (fun ls' hl' => kk _ _ _ _ _ _ h ad ca ls' H locs hn hag (hl.st2 trivial hl') (xm_hs_cons hs).2 hm)
  case astore k =>
    obtain rfl := xm_ln 1 hln rfl
    subst hpn
    dsimp only at h
    obtain ⟨x, r, rfl, hk, h⟩ := h
    exact lv_astore hx hb hd hl.has hk rfl (fun ls' hl' => kk _ _ _ _ _ _ h ad ca ls' H locs hn hag (hl.st1 (xm_hs_cons hs).1 hl') (xm_hs_cons hs).2 hm)
  case istore_n k =>
    obtain rfl := xm_ln 0 hln rfl
    subst hpn
    dsimp only at h
    obtain ⟨x, r, rfl, hk, h⟩ := h
    exact lv_istore_n hx hb hd rfl hl.has hk rfl (fun ls' hl' => kk _ _ _ _ _ _ h ad ca ls' H locs hn hag (hl.st1 trivial hl') (xm_hs_cons hs).2 hm)
  case lstore_n k =>
    obtain rfl := xm_ln 0 hln rfl
    subst hpn
    dsimp only at h
    obtain ⟨x, r, rfl, hk, h⟩ := h
    exact lv_lstore_n hx hb hd rfl hl.has hk rfl (fun ls' hl' => kk _ _ _ _ _ _ h ad ca ls' H locs hn hag (hl.st2 trivial hl') (xm_hs_cons hs).2 hm)
  case astore_n k =>
    obtain rfl := xm_ln 0 hln rfl
    subst hpn
    dsimp only at h
    obtain ⟨x, r, rfl, hk, h⟩ := h
    exact lv_astore_n hx hb hd rfl hl.has hk rfl (fun ls' hl' => kk _ _ _ _ _ _ h ad ca ls' H locs hn hag (hl.st1 (xm_hs_cons hs).1 hl') (xm_hs_cons hs).2 hm)
  case iinc k n =>
    obtain rfl := xm_ln 2 hln rfl
    subst hpn
    dsimp only at h
    obtain ⟨x, hv, hk, h⟩ := h
    obtain ⟨q, hq⟩ := List.mem_iff_getElem?.mp ((xm_fl_mem (ad := ad) (ex := ex)).mpr ⟨_, hv, rfl⟩)
    exact lv_iinc hx hb hd hl.has hq rfl hk rfl (fun ls' hl' => kk _ _ _ _ _ _ h ad ca ls' H locs hn hag (hl.st1 trivial hl') hs hm)
  case iadd =>
    obtain rfl := xm_ln 0 hln rfl
    subst hpn
    dsimp only at h
    obtain ⟨x, y, r, rfl, h⟩ := h
    exact lv_iadd hx hb hd (kk _ _ _ _ _ _ h ad ca ls H locs hn hag hl (xm_hs_push trivial (xm_hs_cons (xm_hs_cons hs).2).2) hm)
  case isub =>
    obtain rfl := xm_ln 0 hln rfl
    subst hpn
    dsimp only at h
    obtain ⟨x, y, r, rfl, h⟩ := h
    exact lv_isub hx hb hd (kk _ _ _ _ _ _ h ad ca ls H locs hn hag hl (xm_hs_push trivial (xm_hs_cons (xm_hs_cons hs).2).2) hm)
  case imul =>
    obtain rfl := xm_ln 0 hln rfl
    subst hpn
    dsimp only at h
    obtain ⟨x, y, r, rfl, h⟩ := h
    exact lv_imul hx hb hd (kk _ _ _ _ _ _ h ad ca ls H locs hn hag hl (xm_hs_push trivial (xm_hs_cons (xm_hs_cons hs).2).2) hm)
  case iand =>
    obtain rfl := xm_ln 0 hln rfl
    subst hpn
    dsimp only at h
    obtain ⟨x, y, r, rfl, h⟩ := h
    exact lv_iand hx hb hd (kk _ _ _ _ _ _ h ad ca ls H locs hn hag hl (xm_hs_push trivial (xm_hs_cons (xm_hs_cons hs).2).2) hm)
  case ior =>
    obtain rfl := xm_ln 0 hln rfl
    subst hpn
    dsimp only at h
    obtain ⟨x, y, r, rfl, h⟩ := h
    exact lv_ior hx hb hd (kk _ _ _ _ _ _ h ad ca ls H locs hn hag hl (xm_hs_push trivial (xm_hs_cons (xm_hs_cons hs).2).2) hm)
  case ixor =>
    obtain rfl := xm_ln 0 hln rfl
    subst hpn
    dsimp only at h
    obtain ⟨x, y, r, rfl, h⟩ := h
    exact lv_ixor hx hb hd (kk _ _ _ _ _ _ h ad ca ls H locs hn hag hl (xm_hs_push trivial (xm_hs_cons (xm_hs_cons hs).2).2) hm)
  case ishl =>
    obtain rfl := xm_ln 0 hln rfl
    subst hpn
    dsimp only at h
    obtain ⟨x, y, r, rfl, h⟩ := h
    exact lv_ishl hx hb hd (kk _ _ _ _ _ _ h ad ca ls H locs hn hag hl (xm_hs_push trivial (xm_hs_cons (xm_hs_cons hs).2).2) hm)
  case ishr =>
    obtain rfl := xm_ln 0 hln rfl
    subst hpn
    dsimp only at h
    obtain ⟨x, y, r, rfl, h⟩ := h
    exact lv_ishr hx hb hd (kk _ _ _ _ _ _ h ad ca ls H locs hn hag hl (xm_hs_push trivial (xm_hs_cons (xm_hs_cons hs).2).2) hm)
  case ladd =>
    obtain rfl := xm_ln 0 hln rfl
    subst hpn
    dsimp only at h
    obtain ⟨x, y, r, rfl, h⟩ := h
    exact lv_ladd hx hb hd (kk _ _ _ _ _ _ h ad ca ls H locs hn hag hl (xm_hs_push trivial (xm_hs_cons (xm_hs_cons hs).2).2) hm)
  case lsub =>
    obtain rfl := xm_ln 0 hln rfl
    subst hpn
    dsimp only at h
    obtain ⟨x, y, r, rfl, h⟩ := h
    exact lv_lsub hx hb hd (kk _ _ _ _ _ _ h ad ca ls H locs hn hag hl (xm_hs_push trivial (xm_hs_cons (xm_hs_cons hs).2).2) hm)
  case land =>
    obtain rfl := xm_ln 0 hln rfl
    subst hpn
    dsimp only at h
    obtain ⟨x, y, r, rfl, h⟩ := h
    exact lv_land hx hb hd (kk _ _ _ _ _ _ h ad ca ls H locs hn hag hl (xm_hs_push trivial (xm_hs_cons (xm_hs_cons hs).2).2) hm)
  case lor =>
    obtain rfl := xm_ln 0 hln rfl
    subst hpn
    dsimp only at h
    obtain ⟨x, y, r, rfl, h⟩ := h
    exact lv_lor hx hb hd (kk _ _ _ _ _ _ h ad ca ls H locs hn hag hl (xm_hs_push trivial (xm_hs_cons (xm_hs_cons hs).2).2) hm)
  case idiv =>
    obtain rfl := xm_ln 0 hln rfl
    subst hpn
    dsimp only at h
    obtain ⟨x, y, r, rfl, h0, h⟩ := h
    exact lv_idiv hx hb hd h0 (kk _ _ _ _ _ _ h ad ca ls H locs hn hag hl (xm_hs_push trivial (xm_hs_cons (xm_hs_cons hs).2).2) hm)
  case lcmp =>
    obtain rfl := xm_ln 0 hln rfl
    subst hpn
    dsimp only at h
    obtain ⟨x, y, r, rfl, h⟩ := h
    exact W.lcmp hx hb hd (kk _ _ _ _ _ _ h ad ca ls H locs hn hag hl (xm_hs_push trivial (xm_hs_cons (xm_hs_cons hs).2).2) hm)
  case lshl =>
    obtain rfl := xm_ln 0 hln rfl
    subst hpn
    dsimp only at h
    obtain ⟨x, y, r, rfl, h⟩ := h
    exact lv_lshl hx hb hd rfl (kk _ _ _ _ _ _ h ad ca ls H locs hn hag hl (xm_hs_push trivial (xm_hs_cons (xm_hs_cons hs).2).2) hm)
  case lshr =>
    obtain rfl := xm_ln 0 hln rfl
    subst hpn
    dsimp only at h
    obtain ⟨x, y, r, rfl, h⟩ := h
    exact lv_lshr hx hb hd rfl (kk _ _ _ _ _ _ h ad ca ls H locs hn hag hl (xm_hs_push trivial (xm_hs_cons (xm_hs_cons hs).2).2) hm)
  case i2l =>
    obtain rfl := xm_ln 0 hln rfl
    subst hpn
    dsimp only at h
    obtain ⟨x, r, rfl, h⟩ := h
    exact lv_i2l hx hb hd rfl (kk _ _ _ _ _ _ h ad ca ls H locs hn hag hl (xm_hs_push trivial (xm_hs_cons hs).2) hm)
  case l2i =>
    obtain rfl := xm_ln 0 hln rfl
    subst hpn
    dsimp only at h
    obtain ⟨x, r, rfl, h⟩ := h
    exact lv_l2i hx hb hd rfl (kk _ _ _ _ _ _ h ad ca ls H locs hn hag hl (xm_hs_push trivial (xm_hs_cons hs).2) hm)
  case dup =>
    obtain rfl := xm_ln 0 hln rfl
    subst hpn
    dsimp only at h
    obtain ⟨v, r, rfl, hc, h⟩ := h
    exact lv_dup hx hb hd (by rw [xm_cat_v]; exact hc) (kk _ _ _ _ _ _ h ad ca ls H locs hn hag hl (xm_hs_push (xm_hs_cons hs).1 hs) hm)
  case pop =>
    obtain rfl := xm_ln 0 hln rfl
    subst hpn
    dsimp only at h
    obtain ⟨v, r, rfl, hc, h⟩ := h
    exact lv_pop hx hb hd (by rw [xm_cat_v]; exact hc) (kk _ _ _ _ _ _ h ad ca ls H locs hn hag hl (xm_hs_cons hs).2 hm)
  case dup2 =>
    obtain rfl := xm_ln 0 hln rfl
    subst hpn
    dsimp only at h
    obtain ⟨v, w, r, rfl, hc, hc2, h⟩ := h
    exact lv_dup2_11 hx hb hd (by rw [xm_cat_v]; exact hc) (by rw [xm_cat_v]; exact hc2) (kk _ _ _ _ _ _ h ad ca ls H locs hn hag hl (xm_hs_push (xm_hs_cons hs).1 (xm_hs_push (xm_hs_cons (xm_hs_cons hs).2).1 hs)) hm)
  case goto off =>
    obtain rfl := xm_ln 2 hln rfl
    subst hpn
    dsimp only at h
    obtain ⟨t, ht, h⟩ := h
    exact lv_goto hx hb hd ht (kk _ _ _ _ _ _ h ad ca ls H locs hn hag hl hs hm)
  case ifCond co off =>
    obtain rfl := xm_ln 2 hln rfl
    subst hpn
    dsimp only at h
    obtain ⟨x, r, t, rfl, ht, h1, h2⟩ := h
    cases co
    case eq =>
      exact lv_if_eq hx hb hd ht (fun b => kk _ _ _ _ _ _ (h1 b) ad ca ls H locs hn hag hl (xm_hs_cons hs).2 hm) (fun b => kk _ _ _ _ _ _ (h2 b) ad ca ls H locs hn hag hl (xm_hs_cons hs).2 hm)
    case ne =>
      exact lv_if_ne hx hb hd ht (fun b => kk _ _ _ _ _ _ (h1 b) ad ca ls H locs hn hag hl (xm_hs_cons hs).2 hm) (fun b => kk _ _ _ _ _ _ (h2 fun nb => nb b) ad ca ls H locs hn hag hl (xm_hs_cons hs).2 hm)
    case lt =>
      exact lv_if_lt hx hb hd ht (fun b => kk _ _ _ _ _ _ (h1 b) ad ca ls H locs hn hag hl (xm_hs_cons hs).2 hm) (fun b => kk _ _ _ _ _ _ (h2 b) ad ca ls H locs hn hag hl (xm_hs_cons hs).2 hm)
    case ge =>
      exact lv_if_ge hx hb hd ht (fun b => kk _ _ _ _ _ _ (h1 b) ad ca ls H locs hn hag hl (xm_hs_cons hs).2 hm) (fun b => kk _ _ _ _ _ _ (h2 b) ad ca ls H locs hn hag hl (xm_hs_cons hs).2 hm)
    case gt =>
      exact lv_if_gt hx hb hd ht (fun b => kk _ _ _ _ _ _ (h1 b) ad ca ls H locs hn hag hl (xm_hs_cons hs).2 hm) (fun b => kk _ _ _ _ _ _ (h2 b) ad ca ls H locs hn hag hl (xm_hs_cons hs).2 hm)
    case le =>
      exact lv_if_le hx hb hd ht (fun b => kk _ _ _ _ _ _ (h1 b) ad ca ls H locs hn hag hl (xm_hs_cons hs).2 hm) (fun b => kk _ _ _ _ _ _ (h2 b) ad ca ls H locs hn hag hl (xm_hs_cons hs).2 hm)
  case if_icmp co off =>
    obtain rfl := xm_ln 2 hln rfl
    subst hpn
    dsimp only at h
    obtain ⟨x, y, r, t, rfl, ht, h1, h2⟩ := h
    cases co
    case eq =>
      exact lv_icmp_eq hx hb hd ht (fun b => kk _ _ _ _ _ _ (h1 b) ad ca ls H locs hn hag hl (xm_hs_cons (xm_hs_cons hs).2).2 hm) (fun b => kk _ _ _ _ _ _ (h2 b) ad ca ls H locs hn hag hl (xm_hs_cons (xm_hs_cons hs).2).2 hm)
    case ne =>
      exact lv_icmp_ne hx hb hd ht (fun b => kk _ _ _ _ _ _ (h1 b) ad ca ls H locs hn hag hl (xm_hs_cons (xm_hs_cons hs).2).2 hm) (fun b => kk _ _ _ _ _ _ (h2 fun nb => nb b) ad ca ls H locs hn hag hl (xm_hs_cons (xm_hs_cons hs).2).2 hm)
    case lt =>
      exact lv_icmp_lt hx hb hd ht (fun b => kk _ _ _ _ _ _ (h1 b) ad ca ls H locs hn hag hl (xm_hs_cons (xm_hs_cons hs).2).2 hm) (fun b => kk _ _ _ _ _ _ (h2 b) ad ca ls H locs hn hag hl (xm_hs_cons (xm_hs_cons hs).2).2 hm)
    case ge =>
      exact lv_icmp_ge hx hb hd ht (fun b => kk _ _ _ _ _ _ (h1 b) ad ca ls H locs hn hag hl (xm_hs_cons (xm_hs_cons hs).2).2 hm) (fun b => kk _ _ _ _ _ _ (h2 b) ad ca ls H locs hn hag hl (xm_hs_cons (xm_hs_cons hs).2).2 hm)
    case gt =>
      exact lv_icmp_gt hx hb hd ht (fun b => kk _ _ _ _ _ _ (h1 b) ad ca ls H locs hn hag hl (xm_hs_cons (xm_hs_cons hs).2).2 hm) (fun b => kk _ _ _ _ _ _ (h2 b) ad ca ls H locs hn hag hl (xm_hs_cons (xm_hs_cons hs).2).2 hm)
    case le =>
      exact lv_icmp_le hx hb hd ht (fun b => kk _ _ _ _ _ _ (h1 b) ad ca ls H locs hn hag hl (xm_hs_cons (xm_hs_cons hs).2).2 hm) (fun b => kk _ _ _ _ _ _ (h2 b) ad ca ls H locs hn hag hl (xm_hs_cons (xm_hs_cons hs).2).2 hm)
  case tableswitch df lo up os =>
    dsimp only at h
    obtain ⟨x, r, rfl, ⟨t, b, ht, h⟩ | ⟨off, t, ⟨b1, b2⟩, ho, ht, h⟩⟩ := h
    · exact lv_tableOut hx hb hd b ht (kk _ _ _ _ _ _ h ad ca ls H locs hn hag hl (xm_hs_cons hs).2 hm)
    · exact lv_tableIn hx hb hd b1 b2 ho ht (kk _ _ _ _ _ _ h ad ca ls H locs hn hag hl (xm_hs_cons hs).2 hm)
  case iaload =>
    obtain rfl := xm_ln 0 hln rfl
    subst hpn
    dsimp only at h
    rcases h with ⟨i, k, n, r, rfl, hM, hin, h⟩ | ⟨i, q, r, rfl, hin, h⟩
    · exact va_iald hx hb (xm_K1 hK (hm.2.2.2.2 k _ .int hM rfl)) hm.2.1 k 0 (xm_w_at hM) rfl hin hd (kk _ _ _ _ _ _ h ad ca ls H locs hn hag hl (xm_hs_push trivial (xm_hs_cons (xm_hs_cons hs).2).2) hm)
    · exact va_ti hx hb (hT q) hm.2.2.2.1 hin rfl hd (kk _ _ _ _ _ _ h ad ca ls H locs hn hag hl (xm_hs_push trivial (xm_hs_cons (xm_hs_cons hs).2).2) hm)
  case laload =>
    obtain rfl := xm_ln 0 hln rfl
    subst hpn
    dsimp only at h
    obtain ⟨i, k, n, r, rfl, hM, hin, h⟩ := h
    exact va_lald hx hb (xm_K1 hK (hm.2.2.2.2 k _ .long hM rfl)) hm.2.1 k 0 (xm_w_at hM) rfl hin hd (kk _ _ _ _ _ _ h ad ca ls H locs hn hag hl (xm_hs_push trivial (xm_hs_cons (xm_hs_cons hs).2).2) hm)
  case baload =>
    obtain rfl := xm_ln 0 hln rfl
    subst hpn
    dsimp only at h
    obtain ⟨i, k, n, r, rfl, hM, hin, h⟩ := h
    exact va_zald hx hb (xm_K1 hK (hm.2.2.2.2 k _ .boolean hM rfl)) hm.2.1 k 0 (xm_w_at hM) rfl hin hd (kk _ _ _ _ _ _ h ad ca ls H locs hn hag hl (xm_hs_push trivial (xm_hs_cons (xm_hs_cons hs).2).2) hm)
  case iastore =>
    obtain rfl := xm_ln 0 hln rfl
    subst hpn
    dsimp only at h
    obtain ⟨i, x, k, n, r, rfl, hM, hin, h⟩ := h
    refine va_iast hx hb (xm_K1 hK (hm.2.2.2.2 k _ .int hM rfl)) hm.2.1 hm.2.2.1 hm.2.2.2.1 k 0 (xm_w_at hM) rfl hin hd (fun H1 locs1 hP hD hS => ?_)
    exact kk _ _ _ _ _ _ h ad ca ls H1 locs1 hn hag hl (xm_hs_cons (xm_hs_cons (xm_hs_cons hs).2).2).2 (hm.store hM xm_xu_k (fun _ _ => rfl) (by show _ = Sum.inl (ca k, n, Sum.inl (xu_2 M.2.1 k i.toNatClampNeg x k)); congr 3; funext b; simp [xu_2, upd]) hP hD hS)
  case bastore =>
    obtain rfl := xm_ln 0 hln rfl
    subst hpn
    dsimp only at h
    obtain ⟨i, x, k, n, r, rfl, hM, hin, h01, h⟩ := h
    refine va_zast hx hb (xm_K1 hK (hm.2.2.2.2 k _ .boolean hM rfl)) hm.2.1 hm.2.2.1 hm.2.2.2.1 k 0 (xm_w_at hM) rfl hin hd (fun H1 locs1 hP hD hS => ?_)
    rw [show vp_nar .boolean x = x by rcases h01 with rfl | rfl <;> rfl] at hP hD
    exact kk _ _ _ _ _ _ h ad ca ls H1 locs1 hn hag hl (xm_hs_cons (xm_hs_cons (xm_hs_cons hs).2).2).2 (hm.store hM xm_xu_k (fun _ _ => rfl) (by show _ = Sum.inl (ca k, n, Sum.inl (xu_2 M.2.1 k i.toNatClampNeg x k)); congr 3; funext b; simp [xu_2, upd]) hP hD hS)
  case lastore =>
    obtain rfl := xm_ln 0 hln rfl
    subst hpn
    dsimp only at h
    obtain ⟨i, x, k, n, r, rfl, hM, hin, h⟩ := h
    refine va_last hx hb (xm_K1 hK (hm.2.2.2.2 k _ .long hM rfl)) hm.2.1 hm.2.2.1 hm.2.2.2.1 k 0 (xm_w_at hM) rfl hin hd (fun H1 locs1 hP hD hS => ?_)
    exact kk _ _ _ _ _ _ h ad ca ls H1 locs1 hn hag hl (xm_hs_cons (xm_hs_cons (xm_hs_cons hs).2).2).2 (hm.store hM (fun _ _ => rfl) xm_xu_k (by show _ = Sum.inl (ca k, n, Sum.inr (Sum.inl (xu_2 M.2.2 k i.toNatClampNeg x k))); congr 4; funext b; simp [xu_2, vp_updL]) hP hD hS)
  case arraylength =>
    obtain rfl := xm_ln 0 hln rfl
    subst hpn
    dsimp only at h
    rcases h with ⟨k, t, n, r, rfl, hM, ht3, h⟩ | ⟨q, r, rfl, h⟩
    · match t, hM, ht3 with
      | 0, hM, _ => exact va_alen hx hb (xm_K1 hK (hm.2.2.2.2 k _ .int hM rfl)) hm.2.1 k 0 (xm_w_at hM) rfl rfl hd (kk _ _ _ _ _ _ h ad ca ls H locs hn hag hl (xm_hs_push trivial (xm_hs_cons hs).2) hm)
      | 1, hM, _ => exact va_alen hx hb (xm_K1 hK (hm.2.2.2.2 k _ .long hM rfl)) hm.2.1 k 0 (xm_w_at hM) rfl rfl hd (kk _ _ _ _ _ _ h ad ca ls H locs hn hag hl (xm_hs_push trivial (xm_hs_cons hs).2) hm)
      | 2, hM, _ => exact va_alen hx hb (xm_K1 hK (hm.2.2.2.2 k _ .boolean hM rfl)) hm.2.1 k 0 (xm_w_at hM) rfl rfl hd (kk _ _ _ _ _ _ h ad ca ls H locs hn hag hl (xm_hs_push trivial (xm_hs_cons hs).2) hm)
      | t + 3, hM, ht3 => exact absurd ht3 (by omega)
    · exact va_tlen hx hb (hT q) hm.2.2.2.1 rfl hd (kk _ _ _ _ _ _ h ad ca ls H locs hn hag hl (xm_hs_push trivial (xm_hs_cons hs).2) hm)
  case getfield ix =>
    obtain rfl := xm_ln 2 hln rfl
    subst hpn
    dsimp only at h
    obtain ⟨ci, j, t, k, fs, f, r, hY, rfl, hM, hf, h⟩ := h
    obtain ⟨C, T, N, ty, hc, hjN, hin, hty, hnm, hlk, -⟩ := hfo ix _ j t hY
    have hv2 : (fs.mapIdx fun b f => xm_fw ad M.2.1 k b f)[j]? = some (xm_v ad ex (xm_fv M.2.1 k j f)) := by rw [xm_fv_v, List.getElem?_mapIdx, hf]; rfl
    have hsv : xm_sc M.1.length (xm_fv M.2.1 k j f) := by
      rcases f with _ | _ | q
      · trivial
      · trivial
      · exact hm.1 k ci fs hM q (List.mem_of_getElem? hf)
    rcases hlk with hlk | ⟨host, hlk⟩
    · exact va_get hx hb hts hin hown hK hm.2.1 k (xm_w_at hM) hc j hjN (hts _ hlk) (fun _ q => q) hv2 hd (kk _ _ _ _ _ _ h ad ca ls H locs hn hag hl (xm_hs_push hsv (xm_hs_cons hs).2) hm)
    · exact va_getN hx hb hts hin hown hK hm.2.1 k (xm_w_at hM) hc j hjN (hts _ hlk) (fun _ q => q) hv2 hd (kk _ _ _ _ _ _ h ad ca ls H locs hn hag hl (xm_hs_push hsv (xm_hs_cons hs).2) hm)
  case putfield ix =>
    obtain rfl := xm_ln 2 hln rfl
    subst hpn
    dsimp only at h
    have go : ∀ (ci j t k : Nat) (fs : List xm_F) (f : xm_F) (v : xm_V) (r : List xm_V), Y.2.2.1 ix = some (ci, j, t) → M.1[k]? = some (xt_o ci fs) → fs[j]? = some f →
        ((t = 0 ∧ ∃ x, v = xv_i x) ∨ (t = 3 ∧ ∃ x, v = xv_i x ∧ (x = 0 ∨ x = 1)) ∨ (t = 2 ∧ ∃ q, v = xv_r q) ∨ (t = 12 ∧ Y.2.2.2.2.2 0 = 9 ∧ ∃ q, v = xv_r q)) →
        (∀ (H1 : Heap) (locs1 : List Loc), va_P D cl ((xm_w ad ca M).set k (ad k, .inr (ci, (fs.mapIdx fun b f => xm_fw ad M.2.1 k b f).set j (xm_v ad ex v)))) H1 → va_D A ((xm_w ad ca M).set k (ad k, .inr (ci, (fs.mapIdx fun b f => xm_fw ad M.2.1 k b f).set j (xm_v ad ex v)))) → va_S A s.heap H1 locs1 → W p l e R s m args below meth c H1 locs1 nc ns Q (F0 m (pc + 3) ls (r.map (xm_v ad ex)))) →
        W p l e R s m args below meth c H locs nc ns Q (F0 m pc ls ((v :: xv_r k :: r).map (xm_v ad ex))) := by
      intro ci j t k fs f v r hY hM hf hv fin
      obtain ⟨C, T, N, ty, hc, hjN, hin, hty, hnm, hlk, htt⟩ := hfo ix _ j t hY
      have hjl : j < (fs.mapIdx fun b f => xm_fw ad M.2.1 k b f).length := by rw [List.length_mapIdx]; exact (List.getElem?_eq_some_iff.mp hf).1
      have put : narrow (ty j) (xm_v ad ex v) = xm_v ad ex v → fits (ty j) (xm_v ad ex v) = true → (T j).2.2.2 = false → W p l e R s m args below meth c H locs nc ns Q (F0 m pc ls ((v :: xv_r k :: r).map (xm_v ad ex))) := by
        intro hn1 hf1 hb2
        rcases hlk with hlk | ⟨host, hlk⟩
        · exact va_put hx hb hts hin ty hty hnm hown hK hm.2.1 hm.2.2.1 hm.2.2.2.1 k (xm_w_at hM) hc j hjN (hts _ hlk) (fun _ q => q) hb2 (hty j hjN) hn1 hf1 hjl hd fin
        · exact va_putN hx hb hts hin ty hty hnm hown hK hm.2.1 hm.2.2.1 hm.2.2.2.1 k (xm_w_at hM) hc j hjN (hts _ hlk) (fun _ q => q) hb2 (hty j hjN) hn1 hf1 hjl hd fin
      rcases hv with ⟨rfl, x, rfl⟩ | ⟨rfl, x, rfl, h01⟩ | ⟨rfl, q, rfl⟩ | ⟨rfl, h9, q, rfl⟩
      · rcases htt with ⟨-, e1, e2⟩ | ⟨q, -⟩ | ⟨q, -⟩ | ⟨q, -⟩ | q <;> [skip; cases q; cases q; cases q; cases q]
        exact put (by rw [e1]; rfl) (by rw [e1]; rfl) e2
      · rcases htt with ⟨q, -⟩ | ⟨-, e1, e2⟩ | ⟨q, -⟩ | ⟨q, -⟩ | q <;> [cases q; skip; cases q; cases q; cases q]
        exact put (by rw [e1]; rcases h01 with rfl | rfl <;> rfl) (by rw [e1]; rcases h01 with rfl | rfl <;> rfl) e2
      · rcases htt with ⟨q, -⟩ | ⟨q, -⟩ | ⟨-, ⟨n, e1⟩ | ⟨n, e1⟩, e2⟩ | ⟨q, -⟩ | q <;> [cases q; cases q; skip; skip; cases q; cases q]
        · exact put (by rw [e1]; rfl) (by rw [e1]; rfl) e2
        · exact put (by rw [e1]; rfl) (by rw [e1]; rfl) e2
      · rcases htt with ⟨q, -⟩ | ⟨q, -⟩ | ⟨q, -⟩ | ⟨-, e1, hb2, h2, h3⟩ | q <;> [cases q; cases q; cases q; skip; cases q]
        have nf : narrow (ty j) (xm_v ad ex (xv_r q)) = xm_v ad ex (xv_r q) ∧ fits (ty j) (xm_v ad ex (xv_r q)) = true := by
          rcases e1 with ⟨n, e1⟩ | ⟨n, e1⟩ <;> rw [e1] <;> exact ⟨rfl, rfl⟩
        exact va_putF hx hb hts hin ty hty hnm hown hK hm.2.1 hm.2.2.1 hm.2.2.2.1 k (xm_w_at hM) hc j hjN (hts _ h3) (fun _ q => q) hb2 (hini h9) h2 (hty j hjN) nf.1 nf.2 hjl hd fin
    rcases h with ⟨ci, j, t, k, fs, x, r, hY, rfl, hM, hf, htx, h⟩ | ⟨ci, j, t, k, fs, q, w, r, hY, htt, rfl, hM, hf, h⟩
    · refine go ci j t k fs none (xv_i x) r hY hM hf (htx.elim (fun q => Or.inl ⟨q, x, rfl⟩) (fun q => Or.inr (Or.inl ⟨q.1, x, rfl, q.2⟩))) ?_
      intro H1 locs1 hP hD hS
      exact kk _ _ _ _ _ _ h ad ca ls H1 locs1 hn hag hl (xm_hs_cons (xm_hs_cons hs).2).2 (hm.store hM xm_xu_k (fun _ _ => rfl) (by show _ = Sum.inr (ci, _); rw [← xm_put_e hf]; rfl) hP hD hS)
    · refine go ci j t k fs (some w) (xv_r q) r hY hM hf (htt.elim (fun e => Or.inr (Or.inr (Or.inl ⟨e, q, rfl⟩))) (fun e => Or.inr (Or.inr (Or.inr ⟨e.1, e.2, q, rfl⟩)))) ?_
      · intro H1 locs1 hP hD hS
        have hlt : k < M.1.length := (List.getElem?_eq_some_iff.mp hM).1
        have hq : q < M.1.length := (xm_hs_cons hs).1
        have eM : (M.1.set k (xt_o ci (fs.set j (some (some q)))))[k]? = some (xt_o ci (fs.set j (some (some q)))) := by rw [List.getElem?_set]; simp [hlt]
        have e9 := xm_w_set (ad := ad) (ca := ca) (M := M) (k := k) (T' := M.1.set k (xt_o ci (fs.set j (some (some q))))) (I' := M.2.1) (J' := M.2.2) eM (fun a ha => List.getElem?_set_ne (fun q => ha q.symm)) (List.length_set ..) (fun _ _ => rfl) (fun _ _ => rfl)
        have e8 : (Sum.inr (ci, (fs.mapIdx fun b f => xm_fw ad M.2.1 k b f).set j (.ref (ad q))) : va_E) = xm_e ad ca M.2.1 M.2.2 k (xt_o ci (fs.set j (some (some q)))) := by rw [xm_putr_e]; rfl
        have hP : va_P D cl ((xm_w ad ca M).set k (ad k, .inr (ci, (fs.mapIdx fun b f => xm_fw ad M.2.1 k b f).set j (.ref (ad q))))) H1 := hP
        have hD : va_D A ((xm_w ad ca M).set k (ad k, .inr (ci, (fs.mapIdx fun b f => xm_fw ad M.2.1 k b f).set j (.ref (ad q))))) := hD
        rw [e8, e9] at hP hD
        refine kk _ _ _ _ _ _ h ad ca ls H1 locs1 (by rw [List.length_set]; exact hn) hag (by rw [List.length_set]; exact hl) (by rw [List.length_set]; exact (xm_hs_cons (xm_hs_cons hs).2).2) ⟨?_, hP, hD, hS, ?_⟩
        · intro k' ci' fs' hk' z hz
          have hk' : (M.1.set k (xt_o ci (fs.set j (some (some q)))))[k']? = some (xt_o ci' fs') := hk'
          show z < (M.1.set k (xt_o ci (fs.set j (some (some q))))).length
          rw [List.length_set]
          by_cases hkk : k = k'
          · subst hkk
            rw [eM] at hk'
            have e7 := Option.some.inj hk'
            injection e7 with e7
            obtain ⟨-, rfl⟩ := Prod.mk.inj e7
            rcases List.mem_or_eq_of_mem_set hz with hz | hz
            · exact hm.1 k ci fs hM z hz
            · injection hz with hz
              injection hz with hz
              rw [hz]; exact hq
          · rw [List.getElem?_set_ne hkk] at hk'
            exact hm.1 k' ci' fs' hk' z hz
        · intro k' e' ty' hk' hty'
          have hk' : (M.1.set k (xt_o ci (fs.set j (some (some q)))))[k']? = some e' := hk'
          by_cases hkk : k = k'
          · subst hkk
            rw [eM] at hk'
            obtain rfl := Option.some.inj hk'
            cases hty'
          · rw [List.getElem?_set_ne hkk] at hk'
            exact hm.2.2.2.2 k' e' ty' hk' hty'
  case getstatic ix =>
    obtain rfl := xm_ln 2 hln rfl
    subst hpn
    dsimp only at h
    obtain ⟨q, hq, h⟩ := h
    obtain ⟨C, n, d, hZ, hlk⟩ := hst ix q hq
    exact va_gets hx hb hZ hm.2.2.2.1 hown hlk (fun _ q => q) hd (kk _ _ _ _ _ _ h ad ca ls H locs hn hag hl (xm_hs_push trivial hs) hm)
  case new ix =>
    obtain rfl := xm_ln 2 hln rfl
    subst hpn
    dsimp only at h
    obtain ⟨ci, fs, hY, h⟩ := h
    obtain ⟨hc1, hs1⟩ := hr _ _ _ _ _ _ h
    obtain ⟨C, T, N, ty, hc, hin, hty, hcl, hinst, hinit, hNl, hdef, hdv⟩ := hno ix ci fs hY
    subst hNl
    refine va_new hx hb hts hin ty hty hown (hts _ hcl) (hts _ hinst) (hts _ hinit) hK hm.2.1 hm.2.2.1 hm.2.2.2.1 hA hc (fs := fs.mapIdx fun j f => xm_fw ad (xz_2 M.2.1 M.1.length 0) M.1.length j f) (fun j hj => hdv j hj ad _ _ (fun b => by simp [xz_2])) (Nat.le_trans hc1 hRc) (Nat.le_trans hs1 hRs) hd (fun q H1 hP hD hS => ?_)
    have e1 : (fs.mapIdx fun j f => xm_fw ad (xz_2 M.2.1 M.1.length 0) M.1.length j f) = fs.mapIdx fun j f => xm_fw (va_up ad M.1.length q) (xz_2 M.2.1 M.1.length 0) M.1.length j f := xm_map_congr fun j f hf => by
      rcases hdef f (List.mem_of_getElem? hf) with rfl | rfl <;> rfl
    rw [← xm_st_up (q := q) hs]
    exact kk _ _ _ _ _ _ h (va_up ad M.1.length q) ca ls H1 locs (by rw [List.length_append]; exact Nat.le_add_right_of_le hn) (fun k hk => ⟨by rw [← (hag k hk).1]; simp [va_up, Nat.ne_of_lt (Nat.lt_of_lt_of_le hk hn)], (hag k hk).2⟩) (by rw [List.length_append]; exact hl.up) (by rw [List.length_append]; exact xm_hs_push (Nat.lt_succ_self _) (xm_hs.up hs (Nat.le_succ _))) (xm_push hm (fun _ _ => rfl) (fun a ha => xm_xz_k a ha) (fun _ _ => rfl) (fun ci' fs' e f hf => by injection e with e; obtain ⟨-, rfl⟩ := Prod.mk.inj e; exact hdef f hf) (fun _ q => by cases q) (by rw [e1]; rfl) hP hD hS)
  case newarray ty =>
    obtain rfl := xm_ln 1 hln rfl
    subst hpn
    dsimp only at h
    obtain ⟨t, n, N, r, rfl, hn0, hN, hN2, ht, h⟩ := h
    obtain ⟨hc1, hs1⟩ := hr _ _ _ _ _ _ h
    rcases ht with ⟨rfl, rfl⟩ | ⟨rfl, rfl⟩ | ⟨rfl, rfl⟩
    · refine va_newa hx hb har.1 (ty := .int) rfl hK hm.2.1 hm.2.2.1 hm.2.2.2.1 hA (a0 := (N, Sum.inl fun _ => 0)) (fun cA => rfl) hn0 hN (by show N * 4 ≤ 536870912; omega) (Nat.le_trans hc1 hRc) (Nat.le_trans hs1 hRs) hd (fun q cA H1 hK1 hP hD hS => ?_)
      rw [← xm_st_up (q := q) (xm_hs_cons hs).2]
      exact kk _ _ _ _ _ _ h (va_up ad M.1.length q) (va_up ca M.1.length cA) ls H1 locs (by rw [List.length_append]; exact Nat.le_add_right_of_le hn) (fun k hk => ⟨by rw [← (hag k hk).1]; simp [va_up, Nat.ne_of_lt (Nat.lt_of_lt_of_le hk hn)], by rw [← (hag k hk).2]; simp [va_up, Nat.ne_of_lt (Nat.lt_of_lt_of_le hk hn)]⟩) (by rw [List.length_append]; exact hl.up) (by rw [List.length_append]; exact xm_hs_push (Nat.lt_succ_self _) (xm_hs.up (xm_hs_cons hs).2 (Nat.le_succ _))) (xm_push hm (fun k hk => by simp [va_up, Nat.ne_of_lt hk]) (fun a ha => xm_xz_k a ha) (fun a ha => xm_xz_k a ha) (fun ci' fs' e => by cases e) (fun ty' e => by have e := Option.some.inj e; subst e; rw [show va_up ca M.1.length cA M.1.length = cA by simp [va_up]]; exact hK1.2 0 (cA, .int) rfl) (by show _ = Sum.inl (va_up ca M.1.length cA M.1.length, N, Sum.inl (xz_2 M.2.1 M.1.length 0 M.1.length)); rw [show va_up ca M.1.length cA M.1.length = cA by simp [va_up]]; congr 3; funext b; simp [xz_2]) hP hD hS)
    · refine va_newa hx hb har.2.1 (ty := .long) rfl hK hm.2.1 hm.2.2.1 hm.2.2.2.1 hA (a0 := (N, Sum.inr (Sum.inl fun _ => 0))) (fun cA => rfl) hn0 hN (by show N * 8 ≤ 536870912; omega) (Nat.le_trans hc1 hRc) (Nat.le_trans hs1 hRs) hd (fun q cA H1 hK1 hP hD hS => ?_)
      rw [← xm_st_up (q := q) (xm_hs_cons hs).2]
      exact kk _ _ _ _ _ _ h (va_up ad M.1.length q) (va_up ca M.1.length cA) ls H1 locs (by rw [List.length_append]; exact Nat.le_add_right_of_le hn) (fun k hk => ⟨by rw [← (hag k hk).1]; simp [va_up, Nat.ne_of_lt (Nat.lt_of_lt_of_le hk hn)], by rw [← (hag k hk).2]; simp [va_up, Nat.ne_of_lt (Nat.lt_of_lt_of_le hk hn)]⟩) (by rw [List.length_append]; exact hl.up) (by rw [List.length_append]; exact xm_hs_push (Nat.lt_succ_self _) (xm_hs.up (xm_hs_cons hs).2 (Nat.le_succ _))) (xm_push hm (fun k hk => by simp [va_up, Nat.ne_of_lt hk]) (fun a ha => xm_xz_k a ha) (fun a ha => xm_xz_k a ha) (fun ci' fs' e => by cases e) (fun ty' e => by have e := Option.some.inj e; subst e; rw [show va_up ca M.1.length cA M.1.length = cA by simp [va_up]]; exact hK1.2 0 (cA, .long) rfl) (by show _ = Sum.inl (va_up ca M.1.length cA M.1.length, N, Sum.inr (Sum.inl (xz_2 M.2.2 M.1.length 0 M.1.length))); rw [show va_up ca M.1.length cA M.1.length = cA by simp [va_up]]; congr 4; funext b; simp [xz_2]) hP hD hS)
    · refine va_newa hx hb har.2.2 (ty := .boolean) rfl hK hm.2.1 hm.2.2.1 hm.2.2.2.1 hA (a0 := (N, Sum.inl fun _ => 0)) (fun cA => rfl) hn0 hN (by show N * 1 ≤ 536870912; omega) (Nat.le_trans hc1 hRc) (Nat.le_trans hs1 hRs) hd (fun q cA H1 hK1 hP hD hS => ?_)
      rw [← xm_st_up (q := q) (xm_hs_cons hs).2]
      exact kk _ _ _ _ _ _ h (va_up ad M.1.length q) (va_up ca M.1.length cA) ls H1 locs (by rw [List.length_append]; exact Nat.le_add_right_of_le hn) (fun k hk => ⟨by rw [← (hag k hk).1]; simp [va_up, Nat.ne_of_lt (Nat.lt_of_lt_of_le hk hn)], by rw [← (hag k hk).2]; simp [va_up, Nat.ne_of_lt (Nat.lt_of_lt_of_le hk hn)]⟩) (by rw [List.length_append]; exact hl.up) (by rw [List.length_append]; exact xm_hs_push (Nat.lt_succ_self _) (xm_hs.up (xm_hs_cons hs).2 (Nat.le_succ _))) (xm_push hm (fun k hk => by simp [va_up, Nat.ne_of_lt hk]) (fun a ha => xm_xz_k a ha) (fun a ha => xm_xz_k a ha) (fun ci' fs' e => by cases e) (fun ty' e => by have e := Option.some.inj e; subst e; rw [show va_up ca M.1.length cA M.1.length = cA by simp [va_up]]; exact hK1.2 0 (cA, .boolean) rfl) (by show _ = Sum.inl (va_up ca M.1.length cA M.1.length, N, Sum.inl (xz_2 M.2.1 M.1.length 0 M.1.length)); rw [show va_up ca M.1.length cA M.1.length = cA by simp [va_up]]; congr 3; funext b; simp [xz_2]) hP hD hS)
  case invokespecial ix =>
    obtain rfl := xm_ln 2 hln rfl
    subst hpn
    dsimp only at h
    obtain ⟨hx2, k, r, rfl, h8, h⟩ := h
    have h9 := xm_sum8 (ad := ad) (ex := ex) h8
    exact W.objInit hx hb hown (hts _ (hob ix hx2)) hoi.1 hoi.2 (g := F0 m pc ls ((xv_r k :: r).map (xm_v ad ex))) rfl (hl.1.1.trans hml.symm) rfl hd hRf (by show 2 * 0 + _ + 12 ≤ _; omega) (kk _ _ _ _ _ _ h ad ca ls H locs hn hag hl (xm_hs_cons hs).2 hm)
  case invokestatic ix =>
    obtain rfl := xm_ln 2 hln rfl
    subst hpn
    dsimp only at h
    obtain ⟨hx1, n, dp, sp, kd, ks, nd, n1, r, rfl, hM0, hM1, h1, h2, h3, h4, h5, hkk, h8, h⟩ := h
    have h9 := xm_sum8 (ad := ad) (ex := ex) h8
    have h10 : nativeFrameWords "java/lang/System" "arraycopy" 5 ≤ 60 := by decide
    refine va_copyl hx hb (hml.trans hl.1.1.symm) hown (hts _ (hcp ix hx1)) hcy.1 hcy.2.1 hcy.2.2 (xm_K2 hK (hm.2.2.2.2 ks _ .long hM0 rfl) (hm.2.2.2.2 kd _ .long hM1 rfl)) hm.2.1 hm.2.2.1 hm.2.2.2.1 ks kd 0 1 (xm_w_at hM0) (xm_w_at hM1) rfl rfl rfl h1 h2 h3 h4 h5 (fun i _ => rfl) hRf (by omega) hd (fun H1 locs1 hP hD hS => ?_)
    exact kk _ _ _ _ _ _ h ad ca ls H1 locs1 hn hag hl (xm_hs_cons (xm_hs_cons (xm_hs_cons (xm_hs_cons (xm_hs_cons hs).2).2).2).2).2 (hm.store hM1 (fun _ _ => rfl) xm_xc_k (by show _ = Sum.inl (ca kd, nd, Sum.inr (Sum.inl (xc_y M.2.2 kd _ kd))); congr 4; funext b; simp [xc_y]) hP hD hS)
  all_goals exact h.elim
end XSTEP
