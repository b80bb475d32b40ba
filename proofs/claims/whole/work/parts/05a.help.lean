/-! The one step is true of the machine. -/
theorem xm_ln {i : Jvm.ClassFile.Instr} {n : Nat} (k : Nat) (h : xm_len i = 0 ∨ n = xm_len i) (hk : xm_len i = k + 1) : n = k + 1 := by
  rcases h with h | h
  · rw [hk] at h; cases h
  · rw [h, hk]
theorem xm_K1 {D : va_G} {cl : List vw_C} {s : State} {cA : ClassId} {ty : FieldType} (hK : va_K D cl [] s) (h : ArrOfT s cA ty ∧ va_RA s cA ty) : va_K D cl [(cA, ty)] s := by
  refine ⟨hK.1, fun k q hq => ?_⟩
  cases k with
  | zero => cases hq; exact h
  | succ k => cases hq
theorem xm_K2 {D : va_G} {cl : List vw_C} {s : State} {cA cB : ClassId} {ty : FieldType} (hK : va_K D cl [] s) (h : ArrOfT s cA ty ∧ va_RA s cA ty) (h2 : ArrOfT s cB ty ∧ va_RA s cB ty) : va_K D cl [(cA, ty), (cB, ty)] s := by
  refine ⟨hK.1, fun k q hq => ?_⟩
  match k, hq with
  | 0, hq => cases hq; exact h
  | 1, hq => cases hq; exact h2
  | k + 2, hq => cases hq
theorem xm_map_congr {α β : Type} {l : List α} {f g : Nat → α → β} (h : ∀ i a, l[i]? = some a → f i a = g i a) : l.mapIdx f = l.mapIdx g := by
  apply List.ext_getElem?
  intro i
  simp only [List.getElem?_mapIdx]
  cases hl : l[i]? with
  | none => rfl
  | some a => simp [h i a hl]
theorem xm_sc_le {n n' : Nat} (h : n ≤ n') {v : xm_V} (hv : xm_sc n v) : xm_sc n' v := by
  rcases v with x | x | (_ | k) | k
  · trivial
  · trivial
  · trivial
  · exact Nat.lt_of_lt_of_le (show k < n from hv) h
  · trivial
theorem xm_v_up {ad ex : Nat → Nat} {n q : Nat} {v : xm_V} (h : xm_sc n v) : xm_v (va_up ad n q) ex v = xm_v ad ex v := by
  rcases v with x | x | (_ | k) | k
  · rfl
  · rfl
  · rfl
  · have hk : k < n := h
    show Value.ref (va_up ad n q k) = Value.ref (ad k)
    simp [va_up, Nat.ne_of_lt hk]
  · rfl
theorem xm_st_up {ad ex : Nat → Nat} {n q : Nat} {st : List xm_V} (h : xm_hs n st) : st.map (xm_v (va_up ad n q) ex) = st.map (xm_v ad ex) := List.map_congr_left fun v hv => xm_v_up (h v hv)
theorem xm_hl.up {ad ex : Nat → Nat} {n nL q : Nat} {ls : Array Slot} {loc : xm_L} (h : xm_hl ad ex n nL ls loc) : xm_hl (va_up ad n q) ex (n + 1) nL ls loc :=
  ⟨h.1, fun i v hv => ⟨by rw [xm_v_up (h.2 i v hv).2]; exact (h.2 i v hv).1, xm_sc_le (Nat.le_succ n) (h.2 i v hv).2⟩⟩
theorem xm_hs.up {n n' : Nat} {st : List xm_V} (h : xm_hs n st) (hn : n ≤ n') : xm_hs n' st := fun v hv => xm_sc_le hn (h v hv)
theorem xm_sum8 {ad ex : Nat → Nat} {r : List xm_V} (h : xm_c8 r = true) : ((r.map (xm_v ad ex)).map fun v => v.category).sum ≤ 8 := by
  rw [List.map_map]
  have e : ((fun v : Value => v.category) ∘ xm_v ad ex) = xm_cat := funext fun v => xm_cat_v ad ex v
  rw [e]
  exact Nat.le_of_ble_eq_true h
theorem xm_w_push {ad : Nat → Nat} {ca ca' : Nat → ClassId} {M : xm_M} {q : Nat} {t : xm_T} {I' : Nat → Nat → Int32} {J' : Nat → Nat → Int64} (hsc : xm_scM M.1) (hca : ∀ k, k < M.1.length → ca' k = ca k) (hI : ∀ k, k < M.1.length → I' k = M.2.1 k) (hJ : ∀ k, k < M.1.length → J' k = M.2.2 k) :
    xm_w ad ca M ++ [(q, xm_e (va_up ad M.1.length q) ca' I' J' M.1.length t)] = xm_w (va_up ad M.1.length q) ca' (M.1 ++ [t], I', J') := by
  unfold xm_w
  rw [List.mapIdx_concat]
  congr 1
  · refine xm_map_congr fun i a hi => ?_
    have hlt : i < M.1.length := (List.getElem?_eq_some_iff.mp hi).1
    have e1 : va_up ad M.1.length q i = ad i := by simp [va_up, Nat.ne_of_lt hlt]
    rw [e1]
    rcases a with ⟨t', n⟩ | ⟨ci, fs⟩
    · simp only [xm_e, hca i hlt, hI i hlt, hJ i hlt]
    · have e2 : (fs.mapIdx fun j f => xm_fw ad M.2.1 i j f) = fs.mapIdx fun j f => xm_fw (va_up ad M.1.length q) I' i j f := by
        refine xm_map_congr fun j f hf => ?_
        rcases f with _ | _ | z
        · simp [xm_fw, hI i hlt]
        · rfl
        · have hz : z < M.1.length := hsc i ci fs hi z (List.mem_of_getElem? hf)
          simp [xm_fw, va_up, Nat.ne_of_lt hz]
      simp only [xm_e, e2]
  · simp [va_up]
theorem xm_push {D : va_G} {cl : List vw_C} {A : Nat → Prop} {s : State} {ad : Nat → Nat} {ca ca' : Nat → ClassId} {H H1 : Heap} {locs : List Loc} {M : xm_M} {q : Nat} {t : xm_T} {I' : Nat → Nat → Int32} {J' : Nat → Nat → Int64} {e : va_E} (hm : xm_hm D cl A s ad ca H locs M) (hca : ∀ k, k < M.1.length → ca' k = ca k) (hI : ∀ k, k < M.1.length → I' k = M.2.1 k) (hJ : ∀ k, k < M.1.length → J' k = M.2.2 k)
    (hsc : ∀ ci fs, t = xt_o ci fs → ∀ f, f ∈ fs → f = none ∨ f = some none) (hka : ∀ ty, xm_ty t = some ty → ArrOfT s (ca' M.1.length) ty ∧ va_RA s (ca' M.1.length) ty) (he : e = xm_e (va_up ad M.1.length q) ca' I' J' M.1.length t)
    (hP : va_P D cl (xm_w ad ca M ++ [(q, e)]) H1) (hD : va_D A (xm_w ad ca M ++ [(q, e)])) (hS : va_S A s.heap H1 locs) : xm_hm D cl A s (va_up ad M.1.length q) ca' H1 locs (M.1 ++ [t], I', J') := by
  subst he
  rw [xm_w_push hm.1 hca hI hJ] at hP hD
  refine ⟨fun k ci fs hk z hz => ?_, hP, hD, hS, fun k e ty hk hty => ?_⟩
  · have hk : (M.1 ++ [t])[k]? = some (xt_o ci fs) := hk
    show z < (M.1 ++ [t]).length
    rw [List.length_append, List.length_singleton]
    by_cases hlt : k < M.1.length
    · rw [List.getElem?_append_left hlt] at hk
      exact Nat.lt_succ_of_lt (hm.1 k ci fs hk z hz)
    · rw [List.getElem?_append_right (Nat.le_of_not_lt hlt)] at hk
      cases hj : k - M.1.length with
      | zero =>
        rw [hj] at hk
        rcases hsc ci fs (Option.some.inj hk) _ hz with q | q <;> cases q
      | succ j => rw [hj] at hk; cases hk
  · have hk : (M.1 ++ [t])[k]? = some e := hk
    by_cases hlt : k < M.1.length
    · rw [List.getElem?_append_left hlt] at hk
      rw [hca k hlt]
      exact hm.2.2.2.2 k e ty hk hty
    · rw [List.getElem?_append_right (Nat.le_of_not_lt hlt)] at hk
      cases hj : k - M.1.length with
      | zero =>
        rw [hj] at hk
        have hk0 : k = M.1.length := by omega
        subst hk0
        have hk2 : (M.1 ++ [t])[M.1.length]? = some e := hk
        have ht : t = e := by simpa using hk2
        subst ht
        exact hka ty hty
      | succ j => rw [hj] at hk; cases hk
theorem xm_eu {α : Type} {f : Nat → Nat → α} {k j : Nat} {x : α} : xu_2 f k j x k = fun b => if b = j then x else f k b := by funext b; simp [xu_2]
-- contents change at k alone, shapes stay
theorem xm_hm.store {D : va_G} {cl : List vw_C} {A : Nat → Prop} {s : State} {ad : Nat → Nat} {ca : Nat → ClassId} {H H1 : Heap} {locs locs1 : List Loc} {M : xm_M} {k : Nat} {t : xm_T} {I' : Nat → Nat → Int32} {J' : Nat → Nat → Int64} {e : va_E} (hm : xm_hm D cl A s ad ca H locs M) (hk : M.1[k]? = some t) (hI : ∀ a, a ≠ k → I' a = M.2.1 a) (hJ : ∀ a, a ≠ k → J' a = M.2.2 a) (he : e = xm_e ad ca I' J' k t)
    (hP : va_P D cl ((xm_w ad ca M).set k (ad k, e)) H1) (hD : va_D A ((xm_w ad ca M).set k (ad k, e))) (hS : va_S A s.heap H1 locs1) : xm_hm D cl A s ad ca H1 locs1 (M.1, I', J') := by
  subst he
  rw [xm_w_set (T' := M.1) hk (fun _ _ => rfl) rfl hI hJ] at hP hD
  exact ⟨hm.1, hP, hD, hS, hm.2.2.2.2⟩
theorem xm_xu_k {α : Type} {f : Nat → Nat → α} {k j : Nat} {x : α} (a : Nat) (h : a ≠ k) : xu_2 f k j x a = f a := by funext b; simp [xu_2, h]
theorem xm_xc_k {α : Type} {f : Nat → Nat → α} {k : Nat} {g : Nat → α} (a : Nat) (h : a ≠ k) : xc_y f k g a = f a := by funext b; simp [xc_y, h]
theorem xm_ez {α : Type} {f : Nat → Nat → α} {k : Nat} {x : α} : xz_2 f k x k = fun _ => x := by funext b; simp [xz_2]
theorem xm_ec {α : Type} {f : Nat → Nat → α} {k : Nat} {g : Nat → α} : xc_y f k g k = g := by funext b; simp [xc_y]
theorem xm_xz_k {α : Type} {f : Nat → Nat → α} {k : Nat} {x : α} (a : Nat) (h : a < k) : xz_2 f k x a = f a := by funext b; simp [xz_2, Nat.ne_of_lt h]
theorem xm_put_e {ad : Nat → Nat} {I : Nat → Nat → Int32} {k j : Nat} {fs : List xm_F} {x : Int32} (hj : fs[j]? = some none) : (fs.mapIdx fun b f => xm_fw ad I k b f).set j (.int x) = fs.mapIdx fun b f => xm_fw ad (xu_2 I k j x) k b f := by
  apply List.ext_getElem?
  intro b
  by_cases h : j = b
  · subst h
    have e1 : (fs.mapIdx fun b f => xm_fw ad (xu_2 I k j x) k b f)[j]? = some (.int x) := by
      rw [List.getElem?_mapIdx, hj]
      show some (Value.int (xu_2 I k j x k j)) = _
      simp [xu_2]
    rw [e1, List.getElem?_set]
    simp [(List.getElem?_eq_some_iff.mp hj).1]
  · rw [List.getElem?_set_ne h]
    simp only [List.getElem?_mapIdx]
    cases fs[b]? with
    | none => rfl
    | some f =>
      have h2 : ¬ b = j := fun q => h q.symm
      rcases f with _ | _ | q <;> simp [xm_fw, xu_2, h2]
theorem xm_putr_e {ad : Nat → Nat} {I : Nat → Nat → Int32} {k j q : Nat} {fs : List xm_F} : (fs.mapIdx fun b f => xm_fw ad I k b f).set j (.ref (ad q)) = (fs.set j (some (some q))).mapIdx fun b f => xm_fw ad I k b f := by
  apply List.ext_getElem?
  intro b
  simp only [List.getElem?_mapIdx, List.getElem?_set, List.length_mapIdx]
  by_cases h : j = b
  · subst h
    by_cases h2 : j < fs.length
    · simp [h2, xm_fw]
    · simp [h2]
  · simp [h]
def xm_W1 (p : Program) (l : Launch) (e : Env) (R : Room) (s : State) (m : MethodId) (args : Array Value) (below : List Frame) (meth : Method) (c : Code) (Q : State → Prop) (D : va_G) (cl : List vw_C) (ex : Nat → Nat) (A : Nat → Prop) (nL n0 : Nat) (ad0 : Nat → Nat) (ca0 : Nat → ClassId) : xm_K := fun pc loc st M nc ns =>
  ∀ (ad : Nat → Nat) (ca : Nat → ClassId) (ls : Array Slot) (H : Heap) (locs : List Loc), n0 ≤ M.1.length → (∀ k, k < n0 → ad k = ad0 k ∧ ca k = ca0 k) → xm_hl ad ex M.1.length nL ls loc → xm_hs M.1.length st → xm_hm D cl A s ad ca H locs M →
    W p l e R s m args below meth c H locs nc ns Q (F0 m pc ls (st.map (xm_v ad ex)))
