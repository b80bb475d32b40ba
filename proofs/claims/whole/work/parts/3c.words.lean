/-! Fields, constants, new objects, calls: that the words say so (written by program). -/
theorem xm_as_mem {α : Type} {ix : Nat} {v : α} : ∀ {l : List (Nat × α)}, xm_as ix l = some v → (ix, v) ∈ l
  | [], h => by cases h
  | q :: r, h => by
    unfold xm_as at h
    cases hb : Nat.beq q.1 ix with
    | true =>
      rw [hb] at h
      have e : q.1 = ix := Nat.eq_of_beq_eq_true hb
      have e2 : q.2 = v := Option.some.inj h
      rw [← e, ← e2]
      exact List.mem_cons_self
    | false =>
      rw [hb] at h
      exact List.mem_cons_of_mem _ (xm_as_mem h)
abbrev fc_cons {α : Type} {p : α → Prop} {a : α} {l : List α} (h : p a) (hl : ∀ x ∈ l, p x) : ∀ x ∈ a :: l, p x := List.forall_mem_cons.mpr ⟨h, hl⟩
theorem fc_nil {α : Type} {p : α → Prop} : ∀ x ∈ ([] : List α), p x := fun _ h => absurd h List.not_mem_nil
-- a call's words, by the caller's own class
def xm_cow (P : xm_Pr) (N : xm_N) (cl : List vw_C) (own : String) (ix y' n kd ci : Nat) : Prop :=
  Cond.code (N.1 y') (N.2.1 y') (P.2.1 y') (N.2.2.1 y') ∈ N.2.2.2 ∧ plainName (N.1 y').cls = true ∧ ((N.1 y').cls ≠ "java/lang/invoke/MethodHandle" ∧ (N.1 y').cls ≠ "java/lang/invoke/VarHandle") ∧ Cond.initialized (N.1 y').cls ∈ N.2.2.2 ∧
  (∃ n1 : Nat, (parseMethodDescriptor (N.1 y').desc).map (fun d => d.parameters.length) = some n1 ∧
    ((kd = 0 ∧ n = n1 + 1 ∧ Cond.instanceMethod (N.1 y') ∈ N.2.2.2 ∧ (∃ T K, cl[ci]? = some ((N.1 y').cls, T, K)) ∧ Cond.selects (N.1 y').cls (N.1 y') (N.1 y') ∈ N.2.2.2 ∧ (Cond.methodLink own ix (N.1 y') ∈ N.2.2.2 ∨ ∃ host, Cond.methodLinkNest own ix (N.1 y') host ∈ N.2.2.2)) ∨
     (kd = 1 ∧ n = n1 ∧ Cond.static (N.1 y') ∈ N.2.2.2 ∧ Cond.methodLink own ix (N.1 y') ∈ N.2.2.2) ∨
     (kd = 2 ∧ n = n1 + 1 ∧ Cond.instanceMethod (N.1 y') ∈ N.2.2.2 ∧ (N.1 y').name = "<init>" ∧ N.2.2.1 y' = none ∧ (Cond.methodLink own ix (N.1 y') ∈ N.2.2.2 ∨ ∃ host, Cond.methodLinkNest own ix (N.1 y') host ∈ N.2.2.2))))
def xm_dfb (ty : FieldType) (f : xm_F) : Bool := match ty, f with
  | .int, none => true
  | .boolean, none => true
  | .object _, some none => true
  | .array _, some none => true
  | _, _ => false
theorem xm_dfl (ty : Nat → FieldType) (fs : List xm_F) (h : (List.range fs.length).all (fun j => match fs[j]? with | some f => xm_dfb (ty j) f | none => false) = true) : ∀ j, j < fs.length → ∀ (ad : Nat → Nat) (I : Nat → Nat → Int32) (k : Nat), (∀ b, I k b = 0) → defaultValue (ty j) = vp_V (fs.mapIdx fun j f => xm_fw ad I k j f) j := by
  intro j hj ad I k hz
  have h1 := List.all_eq_true.mp h j (List.mem_range.mpr hj)
  have h2 : fs[j]? = some (fs[j]) := List.getElem?_eq_getElem hj
  rw [h2] at h1
  dsimp only at h1
  have e : vp_V (fs.mapIdx fun j f => xm_fw ad I k j f) j = xm_fw ad I k j (fs[j]) := by
    unfold vp_V
    simp [hj]
  rw [e]
  generalize fs[j] = f at h1
  generalize ty j = t at h1
  unfold xm_dfb at h1
  split at h1
  · show Value.int 0 = Value.int (I k j); rw [hz]
  · show Value.int 0 = Value.int (I k j); rw [hz]
  · rfl
  · rfl
  · cases h1
set_option maxRecDepth 20000 in
theorem ki_0 : ∀ e ∈ kc_0, ∀ v, e.2 = xv_i v → Jvm.Cond.constant "MachineMaker" e.1 v ∈ xm_tg := fc_nil
set_option maxRecDepth 20000 in
theorem kj_0 : ∀ e ∈ kc_0, ∀ v, e.2 = xv_l v → Jvm.Cond.constantLong "MachineMaker" e.1 v ∈ xm_tg := fc_nil
set_option maxRecDepth 20000 in
theorem kf_0_10 : xm_fok "MachineMaker" xm_tg xm_vc 10 0 0 12 := ⟨"MachineMaker", vT_0, 6, vY_0, rfl, by decide, vW_0, vD_0, vN_0, Or.inl (mt_at 290 rfl), Or.inr (Or.inr (Or.inr (Or.inl ⟨rfl, Or.inl ⟨_, rfl⟩, rfl, rfl, mt_at 290 rfl⟩)))⟩
set_option maxRecDepth 20000 in
theorem kf_0_21 : xm_fok "MachineMaker" xm_tg xm_vc 21 0 1 12 := ⟨"MachineMaker", vT_0, 6, vY_0, rfl, by decide, vW_0, vD_0, vN_0, Or.inl (mt_at 291 rfl), Or.inr (Or.inr (Or.inr (Or.inl ⟨rfl, Or.inl ⟨_, rfl⟩, rfl, rfl, mt_at 291 rfl⟩)))⟩
set_option maxRecDepth 20000 in
theorem kf_0_28 : xm_fok "MachineMaker" xm_tg xm_vc 28 0 2 12 := ⟨"MachineMaker", vT_0, 6, vY_0, rfl, by decide, vW_0, vD_0, vN_0, Or.inl (mt_at 292 rfl), Or.inr (Or.inr (Or.inr (Or.inl ⟨rfl, Or.inl ⟨_, rfl⟩, rfl, rfl, mt_at 292 rfl⟩)))⟩
set_option maxRecDepth 20000 in
theorem kf_0_37 : xm_fok "MachineMaker" xm_tg xm_vc 37 0 3 12 := ⟨"MachineMaker", vT_0, 6, vY_0, rfl, by decide, vW_0, vD_0, vN_0, Or.inl (mt_at 293 rfl), Or.inr (Or.inr (Or.inr (Or.inl ⟨rfl, Or.inl ⟨_, rfl⟩, rfl, rfl, mt_at 293 rfl⟩)))⟩
set_option maxRecDepth 20000 in
theorem kf_0_46 : xm_fok "MachineMaker" xm_tg xm_vc 46 0 4 12 := ⟨"MachineMaker", vT_0, 6, vY_0, rfl, by decide, vW_0, vD_0, vN_0, Or.inl (mt_at 294 rfl), Or.inr (Or.inr (Or.inr (Or.inl ⟨rfl, Or.inl ⟨_, rfl⟩, rfl, rfl, mt_at 294 rfl⟩)))⟩
set_option maxRecDepth 20000 in
theorem kf_0_55 : xm_fok "MachineMaker" xm_tg xm_vc 55 0 5 12 := ⟨"MachineMaker", vT_0, 6, vY_0, rfl, by decide, vW_0, vD_0, vN_0, Or.inl (mt_at 295 rfl), Or.inr (Or.inr (Or.inr (Or.inl ⟨rfl, Or.inl ⟨_, rfl⟩, rfl, rfl, mt_at 295 rfl⟩)))⟩
set_option maxRecDepth 20000 in
theorem kf_0_81 : xm_fok "MachineMaker" xm_tg xm_vc 81 1 5 0 := ⟨"MachineMaker$Book", vT_1, 6, vY_1, rfl, by decide, vW_1, vD_1, vN_1, Or.inr ⟨_, mt_at 92 rfl⟩, Or.inl ⟨rfl, rfl, rfl⟩⟩
set_option maxRecDepth 20000 in
theorem kf_0_100 : xm_fok "MachineMaker" xm_tg xm_vc 100 5 6 0 := ⟨"MachineMaker$Automaton", vT_5, 9, vY_5, rfl, by decide, vW_5, vD_5, vN_5, Or.inr ⟨_, mt_at 198 rfl⟩, Or.inl ⟨rfl, rfl, rfl⟩⟩
set_option maxRecDepth 20000 in
theorem kf_0_116 : xm_fok "MachineMaker" xm_tg xm_vc 116 7 2 0 := ⟨"MachineMaker$Winner", vT_7, 9, vY_7, rfl, by decide, vW_7, vD_7, vN_7, Or.inr ⟨_, mt_at 260 rfl⟩, Or.inl ⟨rfl, rfl, rfl⟩⟩
set_option maxRecDepth 20000 in
theorem kf_0_117 : xm_fok "MachineMaker" xm_tg xm_vc 117 7 3 0 := ⟨"MachineMaker$Winner", vT_7, 9, vY_7, rfl, by decide, vW_7, vD_7, vN_7, Or.inr ⟨_, mt_at 262 rfl⟩, Or.inl ⟨rfl, rfl, rfl⟩⟩
set_option maxRecDepth 20000 in
theorem kf_0_120 : xm_fok "MachineMaker" xm_tg xm_vc 120 7 4 0 := ⟨"MachineMaker$Winner", vT_7, 9, vY_7, rfl, by decide, vW_7, vD_7, vN_7, Or.inr ⟨_, mt_at 264 rfl⟩, Or.inl ⟨rfl, rfl, rfl⟩⟩
set_option maxRecDepth 20000 in
theorem kf_0_124 : xm_fok "MachineMaker" xm_tg xm_vc 124 7 1 0 := ⟨"MachineMaker$Winner", vT_7, 9, vY_7, rfl, by decide, vW_7, vD_7, vN_7, Or.inr ⟨_, mt_at 258 rfl⟩, Or.inl ⟨rfl, rfl, rfl⟩⟩
set_option maxRecDepth 20000 in
theorem kf_0_127 : xm_fok "MachineMaker" xm_tg xm_vc 127 7 7 22 := ⟨"MachineMaker$Winner", vT_7, 9, vY_7, rfl, by decide, vW_7, vD_7, vN_7, Or.inr ⟨_, mt_at 268 rfl⟩, Or.inr (Or.inr (Or.inr (Or.inr rfl)))⟩
set_option maxRecDepth 20000 in
theorem kf_0_134 : xm_fok "MachineMaker" xm_tg xm_vc 134 7 8 22 := ⟨"MachineMaker$Winner", vT_7, 9, vY_7, rfl, by decide, vW_7, vD_7, vN_7, Or.inr ⟨_, mt_at 270 rfl⟩, Or.inr (Or.inr (Or.inr (Or.inr rfl)))⟩
set_option maxRecDepth 20000 in
theorem kg_0 : ∀ e ∈ kf_0, xm_fok "MachineMaker" xm_tg xm_vc e.1 e.2.1 e.2.2.1 e.2.2.2 := fc_cons kf_0_10 (fc_cons kf_0_21 (fc_cons kf_0_28 (fc_cons kf_0_37 (fc_cons kf_0_46 (fc_cons kf_0_55 (fc_cons kf_0_81 (fc_cons kf_0_100 (fc_cons kf_0_116 (fc_cons kf_0_117 (fc_cons kf_0_120 (fc_cons kf_0_124 (fc_cons kf_0_127 (fc_cons kf_0_134 (fc_nil))))))))))))))
set_option maxRecDepth 20000 in
theorem kn_0_7 : xm_nok "MachineMaker" xm_tg xm_vc 7 1 [some none, some none, some none, some none, some none, none] := ⟨"MachineMaker$Book", vT_1, 6, vY_1, rfl, vW_1, vD_1, mt_at 70 rfl, mt_at 71 rfl, mt_at 51 rfl, rfl, by decide, xm_dfl vY_1 [some none, some none, some none, some none, some none, none] rfl⟩
set_option maxRecDepth 20000 in
theorem kn_0_16 : xm_nok "MachineMaker" xm_tg xm_vc 16 2 [some none, some none, some none, none, none] := ⟨"MachineMaker$Word", vT_2, 5, vY_2, rfl, vW_2, vD_2, mt_at 107 rfl, mt_at 108 rfl, mt_at 53 rfl, rfl, by decide, xm_dfl vY_2 [some none, some none, some none, none, none] rfl⟩
set_option maxRecDepth 20000 in
theorem kn_0_25 : xm_nok "MachineMaker" xm_tg xm_vc 25 3 [some none, some none, some none, some none, none, some none, some none, some none] := ⟨"MachineMaker$WayTable", vT_3, 8, vY_3, rfl, vW_3, vD_3, mt_at 129 rfl, mt_at 130 rfl, mt_at 54 rfl, rfl, by decide, xm_dfl vY_3 [some none, some none, some none, some none, none, some none, some none, some none] rfl⟩
set_option maxRecDepth 20000 in
theorem kn_0_32 : xm_nok "MachineMaker" xm_tg xm_vc 32 5 [some none, some none, some none, none, some none, some none, none, some none, some none] := ⟨"MachineMaker$Automaton", vT_5, 9, vY_5, rfl, vW_5, vD_5, mt_at 184 rfl, mt_at 185 rfl, mt_at 56 rfl, rfl, by decide, xm_dfl vY_5 [some none, some none, some none, none, some none, some none, none, some none, some none] rfl⟩
set_option maxRecDepth 20000 in
theorem kn_0_41 : xm_nok "MachineMaker" xm_tg xm_vc 41 6 [some none, some none, none, some none, some none, none] := ⟨"MachineMaker$Game", vT_6, 6, vY_6, rfl, vW_6, vD_6, mt_at 222 rfl, mt_at 223 rfl, mt_at 57 rfl, rfl, by decide, xm_dfl vY_6 [some none, some none, none, some none, some none, none] rfl⟩
set_option maxRecDepth 20000 in
theorem kn_0_50 : xm_nok "MachineMaker" xm_tg xm_vc 50 7 [some none, none, none, none, none, some none, some none, some none, some none] := ⟨"MachineMaker$Winner", vT_7, 9, vY_7, rfl, vW_7, vD_7, mt_at 250 rfl, mt_at 251 rfl, mt_at 58 rfl, rfl, by decide, xm_dfl vY_7 [some none, none, none, none, none, some none, some none, some none, some none] rfl⟩
set_option maxRecDepth 20000 in
theorem kp_0 : ∀ e ∈ kn_0, xm_nok "MachineMaker" xm_tg xm_vc e.1 e.2.1 e.2.2 := fc_cons kn_0_7 (fc_cons kn_0_16 (fc_cons kn_0_25 (fc_cons kn_0_32 (fc_cons kn_0_41 (fc_cons kn_0_50 (fc_nil))))))
set_option maxRecDepth 20000 in
theorem kt_0 : ∀ e ∈ ks_0, e.2 = 1 ∧ Cond.fieldLink "MachineMaker" e.1 "MachineMaker$Book" "DUAL_KINDS" "[I" ∈ xm_tg := fc_nil
set_option maxRecDepth 20000 in
theorem kx_0_ok : ∀ e ∈ kx_0, (e.2 = 2 → Cond.methodLink "MachineMaker" e.1 objectInit ∈ xm_tg) ∧ (e.2 = 1 → Cond.methodLink "MachineMaker" e.1 arraycopyName ∈ xm_tg) ∧ (e.2 = 3 → Cond.methodLink "MachineMaker" e.1 Lib.Math.min.name ∈ xm_tg) := fc_cons ⟨fun _ => mt_at 67 rfl, fun h => (by cases h), fun h => (by cases h)⟩ (fc_nil)
set_option maxRecDepth 20000 in
theorem kl_0_9 : xm_cow pg ng xm_vc "MachineMaker" 9 2 1 2 0 := ⟨mt_at 74 rfl, by decide +kernel, ⟨by decide +kernel, by decide +kernel⟩, mt_at 51 rfl, 0, by decide +kernel, Or.inr (Or.inr ⟨rfl, rfl, mt_at 73 rfl, rfl, rfl, Or.inl (mt_at 72 rfl)⟩)⟩
set_option maxRecDepth 20000 in
theorem kl_0_18 : xm_cow pg ng xm_vc "MachineMaker" 18 4 2 2 0 := ⟨mt_at 111 rfl, by decide +kernel, ⟨by decide +kernel, by decide +kernel⟩, mt_at 53 rfl, 1, by decide +kernel, Or.inr (Or.inr ⟨rfl, rfl, mt_at 110 rfl, rfl, rfl, Or.inl (mt_at 109 rfl)⟩)⟩
set_option maxRecDepth 20000 in
theorem kl_0_27 : xm_cow pg ng xm_vc "MachineMaker" 27 5 2 2 0 := ⟨mt_at 133 rfl, by decide +kernel, ⟨by decide +kernel, by decide +kernel⟩, mt_at 54 rfl, 1, by decide +kernel, Or.inr (Or.inr ⟨rfl, rfl, mt_at 132 rfl, rfl, rfl, Or.inl (mt_at 131 rfl)⟩)⟩
set_option maxRecDepth 20000 in
theorem kl_0_34 : xm_cow pg ng xm_vc "MachineMaker" 34 7 3 2 0 := ⟨mt_at 188 rfl, by decide +kernel, ⟨by decide +kernel, by decide +kernel⟩, mt_at 56 rfl, 2, by decide +kernel, Or.inr (Or.inr ⟨rfl, rfl, mt_at 187 rfl, rfl, rfl, Or.inl (mt_at 186 rfl)⟩)⟩
set_option maxRecDepth 20000 in
theorem kl_0_43 : xm_cow pg ng xm_vc "MachineMaker" 43 8 2 2 0 := ⟨mt_at 226 rfl, by decide +kernel, ⟨by decide +kernel, by decide +kernel⟩, mt_at 57 rfl, 1, by decide +kernel, Or.inr (Or.inr ⟨rfl, rfl, mt_at 225 rfl, rfl, rfl, Or.inl (mt_at 224 rfl)⟩)⟩
set_option maxRecDepth 20000 in
theorem kl_0_52 : xm_cow pg ng xm_vc "MachineMaker" 52 9 2 2 0 := ⟨mt_at 254 rfl, by decide +kernel, ⟨by decide +kernel, by decide +kernel⟩, mt_at 58 rfl, 1, by decide +kernel, Or.inr (Or.inr ⟨rfl, rfl, mt_at 253 rfl, rfl, rfl, Or.inl (mt_at 252 rfl)⟩)⟩
set_option maxRecDepth 20000 in
theorem kl_0_59 : xm_cow pg ng xm_vc "MachineMaker" 59 11 4 0 1 := ⟨mt_at 316 rfl, by decide +kernel, ⟨by decide +kernel, by decide +kernel⟩, mt_at 51 rfl, 3, by decide +kernel, Or.inl ⟨rfl, rfl, mt_at 314 rfl, ⟨_, _, rfl⟩, mt_at 315 rfl, Or.inl (mt_at 313 rfl)⟩⟩
set_option maxRecDepth 20000 in
theorem kl_0_63 : xm_cow pg ng xm_vc "MachineMaker" 63 14 1 1 0 := ⟨mt_at 326 rfl, by decide +kernel, ⟨by decide +kernel, by decide +kernel⟩, mt_at 51 rfl, 1, by decide +kernel, Or.inr (Or.inl ⟨rfl, rfl, mt_at 325 rfl, mt_at 324 rfl⟩)⟩
set_option maxRecDepth 20000 in
theorem kl_0_67 : xm_cow pg ng xm_vc "MachineMaker" 67 15 1 1 0 := ⟨mt_at 329 rfl, by decide +kernel, ⟨by decide +kernel, by decide +kernel⟩, mt_at 51 rfl, 1, by decide +kernel, Or.inr (Or.inl ⟨rfl, rfl, mt_at 328 rfl, mt_at 327 rfl⟩)⟩
set_option maxRecDepth 20000 in
theorem kl_0_70 : xm_cow pg ng xm_vc "MachineMaker" 70 16 4 0 1 := ⟨mt_at 333 rfl, by decide +kernel, ⟨by decide +kernel, by decide +kernel⟩, mt_at 51 rfl, 3, by decide +kernel, Or.inl ⟨rfl, rfl, mt_at 331 rfl, ⟨_, _, rfl⟩, mt_at 332 rfl, Or.inl (mt_at 330 rfl)⟩⟩
set_option maxRecDepth 20000 in
theorem kl_0_74 : xm_cow pg ng xm_vc "MachineMaker" 74 12 2 0 1 := ⟨mt_at 320 rfl, by decide +kernel, ⟨by decide +kernel, by decide +kernel⟩, mt_at 51 rfl, 1, by decide +kernel, Or.inl ⟨rfl, rfl, mt_at 318 rfl, ⟨_, _, rfl⟩, mt_at 319 rfl, Or.inl (mt_at 341 rfl)⟩⟩
set_option maxRecDepth 20000 in
theorem kl_0_77 : xm_cow pg ng xm_vc "MachineMaker" 77 19 3 0 1 := ⟨mt_at 345 rfl, by decide +kernel, ⟨by decide +kernel, by decide +kernel⟩, mt_at 51 rfl, 2, by decide +kernel, Or.inl ⟨rfl, rfl, mt_at 344 rfl, ⟨_, _, rfl⟩, mt_at 0 rfl, Or.inr ⟨_, mt_at 342 rfl⟩⟩⟩
set_option maxRecDepth 20000 in
theorem kl_0_85 : xm_cow pg ng xm_vc "MachineMaker" 85 22 5 0 2 := ⟨mt_at 361 rfl, by decide +kernel, ⟨by decide +kernel, by decide +kernel⟩, mt_at 53 rfl, 4, by decide +kernel, Or.inl ⟨rfl, rfl, mt_at 359 rfl, ⟨_, _, rfl⟩, mt_at 360 rfl, Or.inl (mt_at 358 rfl)⟩⟩
set_option maxRecDepth 20000 in
theorem kl_0_89 : xm_cow pg ng xm_vc "MachineMaker" 89 23 2 0 2 := ⟨mt_at 365 rfl, by decide +kernel, ⟨by decide +kernel, by decide +kernel⟩, mt_at 53 rfl, 1, by decide +kernel, Or.inl ⟨rfl, rfl, mt_at 363 rfl, ⟨_, _, rfl⟩, mt_at 364 rfl, Or.inl (mt_at 362 rfl)⟩⟩
set_option maxRecDepth 20000 in
theorem kl_0_92 : xm_cow pg ng xm_vc "MachineMaker" 92 32 3 0 3 := ⟨mt_at 401 rfl, by decide +kernel, ⟨by decide +kernel, by decide +kernel⟩, mt_at 54 rfl, 2, by decide +kernel, Or.inl ⟨rfl, rfl, mt_at 399 rfl, ⟨_, _, rfl⟩, mt_at 400 rfl, Or.inl (mt_at 398 rfl)⟩⟩
set_option maxRecDepth 20000 in
theorem kl_0_96 : xm_cow pg ng xm_vc "MachineMaker" 96 44 3 0 3 := ⟨mt_at 456 rfl, by decide +kernel, ⟨by decide +kernel, by decide +kernel⟩, mt_at 54 rfl, 2, by decide +kernel, Or.inl ⟨rfl, rfl, mt_at 454 rfl, ⟨_, _, rfl⟩, mt_at 455 rfl, Or.inl (mt_at 453 rfl)⟩⟩
set_option maxRecDepth 20000 in
theorem kl_0_98 : xm_cow pg ng xm_vc "MachineMaker" 98 46 2 0 5 := ⟨mt_at 464 rfl, by decide +kernel, ⟨by decide +kernel, by decide +kernel⟩, mt_at 56 rfl, 1, by decide +kernel, Or.inl ⟨rfl, rfl, mt_at 462 rfl, ⟨_, _, rfl⟩, mt_at 463 rfl, Or.inl (mt_at 461 rfl)⟩⟩
set_option maxRecDepth 20000 in
theorem kl_0_101 : xm_cow pg ng xm_vc "MachineMaker" 101 55 1 0 7 := ⟨mt_at 501 rfl, by decide +kernel, ⟨by decide +kernel, by decide +kernel⟩, mt_at 58 rfl, 0, by decide +kernel, Or.inl ⟨rfl, rfl, mt_at 499 rfl, ⟨_, _, rfl⟩, mt_at 500 rfl, Or.inl (mt_at 498 rfl)⟩⟩
set_option maxRecDepth 20000 in
theorem kl_0_104 : xm_cow pg ng xm_vc "MachineMaker" 104 56 2 0 6 := ⟨mt_at 505 rfl, by decide +kernel, ⟨by decide +kernel, by decide +kernel⟩, mt_at 57 rfl, 1, by decide +kernel, Or.inl ⟨rfl, rfl, mt_at 503 rfl, ⟨_, _, rfl⟩, mt_at 504 rfl, Or.inl (mt_at 502 rfl)⟩⟩
set_option maxRecDepth 20000 in
theorem kl_0_107 : xm_cow pg ng xm_vc "MachineMaker" 107 62 2 0 6 := ⟨mt_at 528 rfl, by decide +kernel, ⟨by decide +kernel, by decide +kernel⟩, mt_at 57 rfl, 1, by decide +kernel, Or.inl ⟨rfl, rfl, mt_at 526 rfl, ⟨_, _, rfl⟩, mt_at 527 rfl, Or.inl (mt_at 525 rfl)⟩⟩
set_option maxRecDepth 20000 in
theorem kl_0_110 : xm_cow pg ng xm_vc "MachineMaker" 110 69 1 0 7 := ⟨mt_at 556 rfl, by decide +kernel, ⟨by decide +kernel, by decide +kernel⟩, mt_at 58 rfl, 0, by decide +kernel, Or.inl ⟨rfl, rfl, mt_at 554 rfl, ⟨_, _, rfl⟩, mt_at 555 rfl, Or.inl (mt_at 553 rfl)⟩⟩
set_option maxRecDepth 20000 in
theorem kl_0_113 : xm_cow pg ng xm_vc "MachineMaker" 113 73 1 0 7 := ⟨mt_at 575 rfl, by decide +kernel, ⟨by decide +kernel, by decide +kernel⟩, mt_at 58 rfl, 0, by decide +kernel, Or.inl ⟨rfl, rfl, mt_at 573 rfl, ⟨_, _, rfl⟩, mt_at 574 rfl, Or.inl (mt_at 572 rfl)⟩⟩
set_option maxRecDepth 20000 in
theorem kl_0_123 : xm_cow pg ng xm_vc "MachineMaker" 123 76 2 0 7 := ⟨mt_at 588 rfl, by decide +kernel, ⟨by decide +kernel, by decide +kernel⟩, mt_at 58 rfl, 1, by decide +kernel, Or.inl ⟨rfl, rfl, mt_at 586 rfl, ⟨_, _, rfl⟩, mt_at 587 rfl, Or.inl (mt_at 585 rfl)⟩⟩
set_option maxRecDepth 20000 in
theorem kl_0_131 : xm_cow pg ng xm_vc "MachineMaker" 131 77 1 1 0 := ⟨mt_at 591 rfl, by decide +kernel, ⟨by decide +kernel, by decide +kernel⟩, mt_at 50 rfl, 1, by decide +kernel, Or.inr (Or.inl ⟨rfl, rfl, mt_at 590 rfl, mt_at 589 rfl⟩)⟩
set_option maxRecDepth 20000 in
theorem km_0 : ∀ e ∈ kl_0, xm_cow pg ng xm_vc "MachineMaker" e.1 e.2.1 e.2.2.1 e.2.2.2.1 e.2.2.2.2 := fc_cons kl_0_9 (fc_cons kl_0_18 (fc_cons kl_0_27 (fc_cons kl_0_34 (fc_cons kl_0_43 (fc_cons kl_0_52 (fc_cons kl_0_59 (fc_cons kl_0_63 (fc_cons kl_0_67 (fc_cons kl_0_70 (fc_cons kl_0_74 (fc_cons kl_0_77 (fc_cons kl_0_85 (fc_cons kl_0_89 (fc_cons kl_0_92 (fc_cons kl_0_96 (fc_cons kl_0_98 (fc_cons kl_0_101 (fc_cons kl_0_104 (fc_cons kl_0_107 (fc_cons kl_0_110 (fc_cons kl_0_113 (fc_cons kl_0_123 (fc_cons kl_0_131 (fc_nil))))))))))))))))))))))))
set_option maxRecDepth 20000 in
theorem ki_1 : ∀ e ∈ kc_1, ∀ v, e.2 = xv_i v → Jvm.Cond.constant "MachineMaker$Automaton" e.1 v ∈ xm_tg := fc_nil
set_option maxRecDepth 20000 in
theorem kj_1 : ∀ e ∈ kc_1, ∀ v, e.2 = xv_l v → Jvm.Cond.constantLong "MachineMaker$Automaton" e.1 v ∈ xm_tg := fc_nil
set_option maxRecDepth 20000 in
theorem kf_1_9 : xm_fok "MachineMaker$Automaton" xm_tg xm_vc 9 5 2 12 := ⟨"MachineMaker$Automaton", vT_5, 9, vY_5, rfl, by decide, vW_5, vD_5, vN_5, Or.inl (mt_at 192 rfl), Or.inr (Or.inr (Or.inr (Or.inl ⟨rfl, Or.inr ⟨_, rfl⟩, rfl, rfl, mt_at 192 rfl⟩)))⟩
set_option maxRecDepth 20000 in
theorem kf_1_15 : xm_fok "MachineMaker$Automaton" xm_tg xm_vc 15 5 4 12 := ⟨"MachineMaker$Automaton", vT_5, 9, vY_5, rfl, by decide, vW_5, vD_5, vN_5, Or.inl (mt_at 194 rfl), Or.inr (Or.inr (Or.inr (Or.inl ⟨rfl, Or.inr ⟨_, rfl⟩, rfl, rfl, mt_at 194 rfl⟩)))⟩
set_option maxRecDepth 20000 in
theorem kf_1_18 : xm_fok "MachineMaker$Automaton" xm_tg xm_vc 18 5 5 12 := ⟨"MachineMaker$Automaton", vT_5, 9, vY_5, rfl, by decide, vW_5, vD_5, vN_5, Or.inl (mt_at 195 rfl), Or.inr (Or.inr (Or.inr (Or.inl ⟨rfl, Or.inr ⟨_, rfl⟩, rfl, rfl, mt_at 195 rfl⟩)))⟩
set_option maxRecDepth 20000 in
theorem kf_1_21 : xm_fok "MachineMaker$Automaton" xm_tg xm_vc 21 5 7 12 := ⟨"MachineMaker$Automaton", vT_5, 9, vY_5, rfl, by decide, vW_5, vD_5, vN_5, Or.inl (mt_at 199 rfl), Or.inr (Or.inr (Or.inr (Or.inl ⟨rfl, Or.inr ⟨_, rfl⟩, rfl, rfl, mt_at 199 rfl⟩)))⟩
set_option maxRecDepth 20000 in
theorem kf_1_24 : xm_fok "MachineMaker$Automaton" xm_tg xm_vc 24 5 8 12 := ⟨"MachineMaker$Automaton", vT_5, 9, vY_5, rfl, by decide, vW_5, vD_5, vN_5, Or.inl (mt_at 201 rfl), Or.inr (Or.inr (Or.inr (Or.inl ⟨rfl, Or.inr ⟨_, rfl⟩, rfl, rfl, mt_at 201 rfl⟩)))⟩
set_option maxRecDepth 20000 in
theorem kf_1_27 : xm_fok "MachineMaker$Automaton" xm_tg xm_vc 27 5 0 12 := ⟨"MachineMaker$Automaton", vT_5, 9, vY_5, rfl, by decide, vW_5, vD_5, vN_5, Or.inl (mt_at 190 rfl), Or.inr (Or.inr (Or.inr (Or.inl ⟨rfl, Or.inl ⟨_, rfl⟩, rfl, rfl, mt_at 190 rfl⟩)))⟩
set_option maxRecDepth 20000 in
theorem kf_1_31 : xm_fok "MachineMaker$Automaton" xm_tg xm_vc 31 5 1 12 := ⟨"MachineMaker$Automaton", vT_5, 9, vY_5, rfl, by decide, vW_5, vD_5, vN_5, Or.inl (mt_at 191 rfl), Or.inr (Or.inr (Or.inr (Or.inl ⟨rfl, Or.inl ⟨_, rfl⟩, rfl, rfl, mt_at 191 rfl⟩)))⟩
set_option maxRecDepth 20000 in
theorem kf_1_45 : xm_fok "MachineMaker$Automaton" xm_tg xm_vc 45 5 6 0 := ⟨"MachineMaker$Automaton", vT_5, 9, vY_5, rfl, by decide, vW_5, vD_5, vN_5, Or.inl (mt_at 196 rfl), Or.inl ⟨rfl, rfl, rfl⟩⟩
set_option maxRecDepth 20000 in
theorem kf_1_52 : xm_fok "MachineMaker$Automaton" xm_tg xm_vc 52 5 3 0 := ⟨"MachineMaker$Automaton", vT_5, 9, vY_5, rfl, by decide, vW_5, vD_5, vN_5, Or.inl (mt_at 193 rfl), Or.inl ⟨rfl, rfl, rfl⟩⟩
set_option maxRecDepth 20000 in
theorem kf_1_60 : xm_fok "MachineMaker$Automaton" xm_tg xm_vc 60 1 0 22 := ⟨"MachineMaker$Book", vT_1, 6, vY_1, rfl, by decide, vW_1, vD_1, vN_1, Or.inr ⟨_, mt_at 80 rfl⟩, Or.inr (Or.inr (Or.inr (Or.inr rfl)))⟩
set_option maxRecDepth 20000 in
theorem kf_1_67 : xm_fok "MachineMaker$Automaton" xm_tg xm_vc 67 4 2 3 := ⟨"MachineMaker$WaySet", vT_4, 3, vY_4, rfl, by decide, vW_4, vD_4, vN_4, Or.inr ⟨_, mt_at 148 rfl⟩, Or.inr (Or.inl ⟨rfl, rfl, rfl⟩)⟩
set_option maxRecDepth 20000 in
theorem kf_1_73 : xm_fok "MachineMaker$Automaton" xm_tg xm_vc 73 4 1 0 := ⟨"MachineMaker$WaySet", vT_4, 3, vY_4, rfl, by decide, vW_4, vD_4, vN_4, Or.inr ⟨_, mt_at 145 rfl⟩, Or.inl ⟨rfl, rfl, rfl⟩⟩
set_option maxRecDepth 20000 in
theorem kf_1_74 : xm_fok "MachineMaker$Automaton" xm_tg xm_vc 74 4 0 22 := ⟨"MachineMaker$WaySet", vT_4, 3, vY_4, rfl, by decide, vW_4, vD_4, vN_4, Or.inr ⟨_, mt_at 142 rfl⟩, Or.inr (Or.inr (Or.inr (Or.inr rfl)))⟩
set_option maxRecDepth 20000 in
theorem kg_1 : ∀ e ∈ kf_1, xm_fok "MachineMaker$Automaton" xm_tg xm_vc e.1 e.2.1 e.2.2.1 e.2.2.2 := fc_cons kf_1_9 (fc_cons kf_1_15 (fc_cons kf_1_18 (fc_cons kf_1_21 (fc_cons kf_1_24 (fc_cons kf_1_27 (fc_cons kf_1_31 (fc_cons kf_1_45 (fc_cons kf_1_52 (fc_cons kf_1_60 (fc_cons kf_1_67 (fc_cons kf_1_73 (fc_cons kf_1_74 (fc_nil)))))))))))))
set_option maxRecDepth 20000 in
theorem kp_1 : ∀ e ∈ kn_1, xm_nok "MachineMaker$Automaton" xm_tg xm_vc e.1 e.2.1 e.2.2 := fc_nil
set_option maxRecDepth 20000 in
theorem kt_1 : ∀ e ∈ ks_1, e.2 = 1 ∧ Cond.fieldLink "MachineMaker$Automaton" e.1 "MachineMaker$Book" "DUAL_KINDS" "[I" ∈ xm_tg := fc_nil
set_option maxRecDepth 20000 in
theorem kx_1_ok : ∀ e ∈ kx_1, (e.2 = 2 → Cond.methodLink "MachineMaker$Automaton" e.1 objectInit ∈ xm_tg) ∧ (e.2 = 1 → Cond.methodLink "MachineMaker$Automaton" e.1 arraycopyName ∈ xm_tg) ∧ (e.2 = 3 → Cond.methodLink "MachineMaker$Automaton" e.1 Lib.Math.min.name ∈ xm_tg) := fc_cons ⟨fun _ => mt_at 189 rfl, fun h => (by cases h), fun h => (by cases h)⟩ (fc_nil)
set_option maxRecDepth 20000 in
theorem kl_1_35 : xm_cow pg ng xm_vc "MachineMaker$Automaton" 35 32 3 0 3 := ⟨mt_at 401 rfl, by decide +kernel, ⟨by decide +kernel, by decide +kernel⟩, mt_at 54 rfl, 2, by decide +kernel, Or.inl ⟨rfl, rfl, mt_at 399 rfl, ⟨_, _, rfl⟩, mt_at 400 rfl, Or.inl (mt_at 465 rfl)⟩⟩
set_option maxRecDepth 20000 in
theorem kl_1_41 : xm_cow pg ng xm_vc "MachineMaker$Automaton" 41 47 2 0 5 := ⟨mt_at 469 rfl, by decide +kernel, ⟨by decide +kernel, by decide +kernel⟩, mt_at 56 rfl, 1, by decide +kernel, Or.inl ⟨rfl, rfl, mt_at 468 rfl, ⟨_, _, rfl⟩, mt_at 11 rfl, Or.inl (mt_at 466 rfl)⟩⟩
set_option maxRecDepth 20000 in
theorem kl_1_49 : xm_cow pg ng xm_vc "MachineMaker$Automaton" 49 48 3 0 5 := ⟨mt_at 474 rfl, by decide +kernel, ⟨by decide +kernel, by decide +kernel⟩, mt_at 56 rfl, 2, by decide +kernel, Or.inl ⟨rfl, rfl, mt_at 473 rfl, ⟨_, _, rfl⟩, mt_at 12 rfl, Or.inl (mt_at 471 rfl)⟩⟩
set_option maxRecDepth 20000 in
theorem kl_1_55 : xm_cow pg ng xm_vc "MachineMaker$Automaton" 55 24 3 0 1 := ⟨mt_at 369 rfl, by decide +kernel, ⟨by decide +kernel, by decide +kernel⟩, mt_at 51 rfl, 2, by decide +kernel, Or.inl ⟨rfl, rfl, mt_at 367 rfl, ⟨_, _, rfl⟩, mt_at 368 rfl, Or.inl (mt_at 470 rfl)⟩⟩
set_option maxRecDepth 20000 in
theorem kl_1_63 : xm_cow pg ng xm_vc "MachineMaker$Automaton" 63 49 3 0 3 := ⟨mt_at 478 rfl, by decide +kernel, ⟨by decide +kernel, by decide +kernel⟩, mt_at 54 rfl, 2, by decide +kernel, Or.inl ⟨rfl, rfl, mt_at 476 rfl, ⟨_, _, rfl⟩, mt_at 477 rfl, Or.inl (mt_at 475 rfl)⟩⟩
set_option maxRecDepth 20000 in
theorem kl_1_78 : xm_cow pg ng xm_vc "MachineMaker$Automaton" 78 50 1 1 0 := ⟨mt_at 481 rfl, by decide +kernel, ⟨by decide +kernel, by decide +kernel⟩, mt_at 55 rfl, 1, by decide +kernel, Or.inr (Or.inl ⟨rfl, rfl, mt_at 480 rfl, mt_at 479 rfl⟩)⟩
set_option maxRecDepth 20000 in
theorem kl_1_82 : xm_cow pg ng xm_vc "MachineMaker$Automaton" 82 51 3 0 5 := ⟨mt_at 485 rfl, by decide +kernel, ⟨by decide +kernel, by decide +kernel⟩, mt_at 56 rfl, 2, by decide +kernel, Or.inl ⟨rfl, rfl, mt_at 484 rfl, ⟨_, _, rfl⟩, mt_at 13 rfl, Or.inl (mt_at 482 rfl)⟩⟩
set_option maxRecDepth 20000 in
theorem kl_1_86 : xm_cow pg ng xm_vc "MachineMaker$Automaton" 86 52 1 1 0 := ⟨mt_at 488 rfl, by decide +kernel, ⟨by decide +kernel, by decide +kernel⟩, mt_at 55 rfl, 1, by decide +kernel, Or.inr (Or.inl ⟨rfl, rfl, mt_at 487 rfl, mt_at 486 rfl⟩)⟩
set_option maxRecDepth 20000 in
theorem kl_1_89 : xm_cow pg ng xm_vc "MachineMaker$Automaton" 89 53 3 0 5 := ⟨mt_at 493 rfl, by decide +kernel, ⟨by decide +kernel, by decide +kernel⟩, mt_at 56 rfl, 2, by decide +kernel, Or.inl ⟨rfl, rfl, mt_at 492 rfl, ⟨_, _, rfl⟩, mt_at 14 rfl, Or.inl (mt_at 490 rfl)⟩⟩
set_option maxRecDepth 20000 in
theorem km_1 : ∀ e ∈ kl_1, xm_cow pg ng xm_vc "MachineMaker$Automaton" e.1 e.2.1 e.2.2.1 e.2.2.2.1 e.2.2.2.2 := fc_cons kl_1_35 (fc_cons kl_1_41 (fc_cons kl_1_49 (fc_cons kl_1_55 (fc_cons kl_1_63 (fc_cons kl_1_78 (fc_cons kl_1_82 (fc_cons kl_1_86 (fc_cons kl_1_89 (fc_nil)))))))))
set_option maxRecDepth 20000 in
theorem ki_2 : ∀ e ∈ kc_2, ∀ v, e.2 = xv_i v → Jvm.Cond.constant "MachineMaker$Book" e.1 v ∈ xm_tg := fc_nil
set_option maxRecDepth 20000 in
theorem kj_2 : ∀ e ∈ kc_2, ∀ v, e.2 = xv_l v → Jvm.Cond.constantLong "MachineMaker$Book" e.1 v ∈ xm_tg := fc_nil
set_option maxRecDepth 20000 in
theorem kf_2_9 : xm_fok "MachineMaker$Book" xm_tg xm_vc 9 1 0 12 := ⟨"MachineMaker$Book", vT_1, 6, vY_1, rfl, by decide, vW_1, vD_1, vN_1, Or.inl (mt_at 79 rfl), Or.inr (Or.inr (Or.inr (Or.inl ⟨rfl, Or.inr ⟨_, rfl⟩, rfl, rfl, mt_at 79 rfl⟩)))⟩
set_option maxRecDepth 20000 in
theorem kf_2_15 : xm_fok "MachineMaker$Book" xm_tg xm_vc 15 1 1 12 := ⟨"MachineMaker$Book", vT_1, 6, vY_1, rfl, by decide, vW_1, vD_1, vN_1, Or.inl (mt_at 83 rfl), Or.inr (Or.inr (Or.inr (Or.inl ⟨rfl, Or.inr ⟨_, rfl⟩, rfl, rfl, mt_at 83 rfl⟩)))⟩
set_option maxRecDepth 20000 in
theorem kf_2_18 : xm_fok "MachineMaker$Book" xm_tg xm_vc 18 1 2 12 := ⟨"MachineMaker$Book", vT_1, 6, vY_1, rfl, by decide, vW_1, vD_1, vN_1, Or.inl (mt_at 86 rfl), Or.inr (Or.inr (Or.inr (Or.inl ⟨rfl, Or.inr ⟨_, rfl⟩, rfl, rfl, mt_at 86 rfl⟩)))⟩
set_option maxRecDepth 20000 in
theorem kf_2_21 : xm_fok "MachineMaker$Book" xm_tg xm_vc 21 1 3 12 := ⟨"MachineMaker$Book", vT_1, 6, vY_1, rfl, by decide, vW_1, vD_1, vN_1, Or.inl (mt_at 89 rfl), Or.inr (Or.inr (Or.inr (Or.inl ⟨rfl, Or.inr ⟨_, rfl⟩, rfl, rfl, mt_at 89 rfl⟩)))⟩
set_option maxRecDepth 20000 in
theorem kf_2_24 : xm_fok "MachineMaker$Book" xm_tg xm_vc 24 1 4 12 := ⟨"MachineMaker$Book", vT_1, 6, vY_1, rfl, by decide, vW_1, vD_1, vN_1, Or.inl (mt_at 90 rfl), Or.inr (Or.inr (Or.inr (Or.inl ⟨rfl, Or.inr ⟨_, rfl⟩, rfl, rfl, mt_at 90 rfl⟩)))⟩
set_option maxRecDepth 20000 in
theorem kf_2_33 : xm_fok "MachineMaker$Book" xm_tg xm_vc 33 1 5 0 := ⟨"MachineMaker$Book", vT_1, 6, vY_1, rfl, by decide, vW_1, vD_1, vN_1, Or.inl (mt_at 91 rfl), Or.inl ⟨rfl, rfl, rfl⟩⟩
set_option maxRecDepth 20000 in
theorem kg_2 : ∀ e ∈ kf_2, xm_fok "MachineMaker$Book" xm_tg xm_vc e.1 e.2.1 e.2.2.1 e.2.2.2 := fc_cons kf_2_9 (fc_cons kf_2_15 (fc_cons kf_2_18 (fc_cons kf_2_21 (fc_cons kf_2_24 (fc_cons kf_2_33 (fc_nil))))))
set_option maxRecDepth 20000 in
theorem kp_2 : ∀ e ∈ kn_2, xm_nok "MachineMaker$Book" xm_tg xm_vc e.1 e.2.1 e.2.2 := fc_nil
set_option maxRecDepth 20000 in
theorem kt_2 : ∀ e ∈ ks_2, e.2 = 1 ∧ Cond.fieldLink "MachineMaker$Book" e.1 "MachineMaker$Book" "DUAL_KINDS" "[I" ∈ xm_tg := fc_cons ⟨rfl, mt_at 347 rfl⟩ (fc_nil)
set_option maxRecDepth 20000 in
theorem kx_2_ok : ∀ e ∈ kx_2, (e.2 = 2 → Cond.methodLink "MachineMaker$Book" e.1 objectInit ∈ xm_tg) ∧ (e.2 = 1 → Cond.methodLink "MachineMaker$Book" e.1 arraycopyName ∈ xm_tg) ∧ (e.2 = 3 → Cond.methodLink "MachineMaker$Book" e.1 Lib.Math.min.name ∈ xm_tg) := fc_cons ⟨fun _ => mt_at 75 rfl, fun h => (by cases h), fun h => (by cases h)⟩ (fc_nil)
set_option maxRecDepth 20000 in
theorem kl_2_27 : xm_cow pg ng xm_vc "MachineMaker$Book" 27 3 2 1 0 := ⟨mt_at 78 rfl, by decide +kernel, ⟨by decide +kernel, by decide +kernel⟩, mt_at 52 rfl, 2, by decide +kernel, Or.inr (Or.inl ⟨rfl, rfl, mt_at 77 rfl, mt_at 76 rfl⟩)⟩
set_option maxRecDepth 20000 in
theorem kl_2_37 : xm_cow pg ng xm_vc "MachineMaker$Book" 37 13 1 1 0 := ⟨mt_at 323 rfl, by decide +kernel, ⟨by decide +kernel, by decide +kernel⟩, mt_at 51 rfl, 1, by decide +kernel, Or.inr (Or.inl ⟨rfl, rfl, mt_at 322 rfl, mt_at 321 rfl⟩)⟩
set_option maxRecDepth 20000 in
theorem kl_2_41 : xm_cow pg ng xm_vc "MachineMaker$Book" 41 12 2 0 1 := ⟨mt_at 320 rfl, by decide +kernel, ⟨by decide +kernel, by decide +kernel⟩, mt_at 51 rfl, 1, by decide +kernel, Or.inl ⟨rfl, rfl, mt_at 318 rfl, ⟨_, _, rfl⟩, mt_at 319 rfl, Or.inl (mt_at 317 rfl)⟩⟩
set_option maxRecDepth 20000 in
theorem kl_2_44 : xm_cow pg ng xm_vc "MachineMaker$Book" 44 17 1 1 0 := ⟨mt_at 336 rfl, by decide +kernel, ⟨by decide +kernel, by decide +kernel⟩, mt_at 51 rfl, 1, by decide +kernel, Or.inr (Or.inl ⟨rfl, rfl, mt_at 335 rfl, mt_at 334 rfl⟩)⟩
set_option maxRecDepth 20000 in
theorem kl_2_47 : xm_cow pg ng xm_vc "MachineMaker$Book" 47 19 3 0 1 := ⟨mt_at 345 rfl, by decide +kernel, ⟨by decide +kernel, by decide +kernel⟩, mt_at 51 rfl, 2, by decide +kernel, Or.inl ⟨rfl, rfl, mt_at 344 rfl, ⟨_, _, rfl⟩, mt_at 0 rfl, Or.inl (mt_at 346 rfl)⟩⟩
set_option maxRecDepth 20000 in
theorem kl_2_54 : xm_cow pg ng xm_vc "MachineMaker$Book" 54 16 4 0 1 := ⟨mt_at 333 rfl, by decide +kernel, ⟨by decide +kernel, by decide +kernel⟩, mt_at 51 rfl, 3, by decide +kernel, Or.inl ⟨rfl, rfl, mt_at 331 rfl, ⟨_, _, rfl⟩, mt_at 332 rfl, Or.inl (mt_at 349 rfl)⟩⟩
set_option maxRecDepth 20000 in
theorem km_2 : ∀ e ∈ kl_2, xm_cow pg ng xm_vc "MachineMaker$Book" e.1 e.2.1 e.2.2.1 e.2.2.2.1 e.2.2.2.2 := fc_cons kl_2_27 (fc_cons kl_2_37 (fc_cons kl_2_41 (fc_cons kl_2_44 (fc_cons kl_2_47 (fc_cons kl_2_54 (fc_nil))))))
set_option maxRecDepth 20000 in
theorem ki_3 : ∀ e ∈ kc_3, ∀ v, e.2 = xv_i v → Jvm.Cond.constant "MachineMaker$Game" e.1 v ∈ xm_tg := fc_cons (fun v h => by cases h) (fc_cons (fun v h => by cases h) (fc_nil))
set_option maxRecDepth 20000 in
theorem kj_3 : ∀ e ∈ kc_3, ∀ v, e.2 = xv_l v → Jvm.Cond.constantLong "MachineMaker$Game" e.1 v ∈ xm_tg := fc_cons (fun v h => by cases h; exact mt_at 517 rfl) (fc_cons (fun v h => by cases h; exact mt_at 512 rfl) (fc_nil))
set_option maxRecDepth 20000 in
theorem kf_3_9 : xm_fok "MachineMaker$Game" xm_tg xm_vc 9 6 1 12 := ⟨"MachineMaker$Game", vT_6, 6, vY_6, rfl, by decide, vW_6, vD_6, vN_6, Or.inl (mt_at 229 rfl), Or.inr (Or.inr (Or.inr (Or.inl ⟨rfl, Or.inr ⟨_, rfl⟩, rfl, rfl, mt_at 229 rfl⟩)))⟩
set_option maxRecDepth 20000 in
theorem kf_3_15 : xm_fok "MachineMaker$Game" xm_tg xm_vc 15 6 3 12 := ⟨"MachineMaker$Game", vT_6, 6, vY_6, rfl, by decide, vW_6, vD_6, vN_6, Or.inl (mt_at 232 rfl), Or.inr (Or.inr (Or.inr (Or.inl ⟨rfl, Or.inr ⟨_, rfl⟩, rfl, rfl, mt_at 232 rfl⟩)))⟩
set_option maxRecDepth 20000 in
theorem kf_3_19 : xm_fok "MachineMaker$Game" xm_tg xm_vc 19 6 4 12 := ⟨"MachineMaker$Game", vT_6, 6, vY_6, rfl, by decide, vW_6, vD_6, vN_6, Or.inl (mt_at 233 rfl), Or.inr (Or.inr (Or.inr (Or.inl ⟨rfl, Or.inr ⟨_, rfl⟩, rfl, rfl, mt_at 233 rfl⟩)))⟩
set_option maxRecDepth 20000 in
theorem kf_3_23 : xm_fok "MachineMaker$Game" xm_tg xm_vc 23 6 0 12 := ⟨"MachineMaker$Game", vT_6, 6, vY_6, rfl, by decide, vW_6, vD_6, vN_6, Or.inl (mt_at 228 rfl), Or.inr (Or.inr (Or.inr (Or.inl ⟨rfl, Or.inl ⟨_, rfl⟩, rfl, rfl, mt_at 228 rfl⟩)))⟩
set_option maxRecDepth 20000 in
theorem kf_3_31 : xm_fok "MachineMaker$Game" xm_tg xm_vc 31 6 2 0 := ⟨"MachineMaker$Game", vT_6, 6, vY_6, rfl, by decide, vW_6, vD_6, vN_6, Or.inl (mt_at 230 rfl), Or.inl ⟨rfl, rfl, rfl⟩⟩
set_option maxRecDepth 20000 in
theorem kf_3_50 : xm_fok "MachineMaker$Game" xm_tg xm_vc 50 5 6 0 := ⟨"MachineMaker$Automaton", vT_5, 9, vY_5, rfl, by decide, vW_5, vD_5, vN_5, Or.inr ⟨_, mt_at 197 rfl⟩, Or.inl ⟨rfl, rfl, rfl⟩⟩
set_option maxRecDepth 20000 in
theorem kf_3_53 : xm_fok "MachineMaker$Game" xm_tg xm_vc 53 5 8 22 := ⟨"MachineMaker$Automaton", vT_5, 9, vY_5, rfl, by decide, vW_5, vD_5, vN_5, Or.inr ⟨_, mt_at 202 rfl⟩, Or.inr (Or.inr (Or.inr (Or.inr rfl)))⟩
set_option maxRecDepth 20000 in
theorem kf_3_56 : xm_fok "MachineMaker$Game" xm_tg xm_vc 56 5 7 22 := ⟨"MachineMaker$Automaton", vT_5, 9, vY_5, rfl, by decide, vW_5, vD_5, vN_5, Or.inr ⟨_, mt_at 200 rfl⟩, Or.inr (Or.inr (Or.inr (Or.inr rfl)))⟩
set_option maxRecDepth 20000 in
theorem kf_3_62 : xm_fok "MachineMaker$Game" xm_tg xm_vc 62 6 5 0 := ⟨"MachineMaker$Game", vT_6, 6, vY_6, rfl, by decide, vW_6, vD_6, vN_6, Or.inl (mt_at 235 rfl), Or.inl ⟨rfl, rfl, rfl⟩⟩
set_option maxRecDepth 20000 in
theorem kg_3 : ∀ e ∈ kf_3, xm_fok "MachineMaker$Game" xm_tg xm_vc e.1 e.2.1 e.2.2.1 e.2.2.2 := fc_cons kf_3_9 (fc_cons kf_3_15 (fc_cons kf_3_19 (fc_cons kf_3_23 (fc_cons kf_3_31 (fc_cons kf_3_50 (fc_cons kf_3_53 (fc_cons kf_3_56 (fc_cons kf_3_62 (fc_nil)))))))))
set_option maxRecDepth 20000 in
theorem kp_3 : ∀ e ∈ kn_3, xm_nok "MachineMaker$Game" xm_tg xm_vc e.1 e.2.1 e.2.2 := fc_nil
set_option maxRecDepth 20000 in
theorem kt_3 : ∀ e ∈ ks_3, e.2 = 1 ∧ Cond.fieldLink "MachineMaker$Game" e.1 "MachineMaker$Book" "DUAL_KINDS" "[I" ∈ xm_tg := fc_nil
set_option maxRecDepth 20000 in
theorem kx_3_ok : ∀ e ∈ kx_3, (e.2 = 2 → Cond.methodLink "MachineMaker$Game" e.1 objectInit ∈ xm_tg) ∧ (e.2 = 1 → Cond.methodLink "MachineMaker$Game" e.1 arraycopyName ∈ xm_tg) ∧ (e.2 = 3 → Cond.methodLink "MachineMaker$Game" e.1 Lib.Math.min.name ∈ xm_tg) := fc_cons ⟨fun _ => mt_at 227 rfl, fun h => (by cases h), fun h => (by cases h)⟩ (fc_nil)
set_option maxRecDepth 20000 in
theorem kl_3_27 : xm_cow pg ng xm_vc "MachineMaker$Game" 27 57 3 1 0 := ⟨mt_at 508 rfl, by decide +kernel, ⟨by decide +kernel, by decide +kernel⟩, mt_at 57 rfl, 3, by decide +kernel, Or.inr (Or.inl ⟨rfl, rfl, mt_at 507 rfl, mt_at 506 rfl⟩)⟩
set_option maxRecDepth 20000 in
theorem kl_3_35 : xm_cow pg ng xm_vc "MachineMaker$Game" 35 59 4 0 6 := ⟨mt_at 516 rfl, by decide +kernel, ⟨by decide +kernel, by decide +kernel⟩, mt_at 57 rfl, 3, by decide +kernel, Or.inl ⟨rfl, rfl, mt_at 515 rfl, ⟨_, _, rfl⟩, mt_at 15 rfl, Or.inl (mt_at 513 rfl)⟩⟩
set_option maxRecDepth 20000 in
theorem kl_3_40 : xm_cow pg ng xm_vc "MachineMaker$Game" 40 61 2 0 6 := ⟨mt_at 524 rfl, by decide +kernel, ⟨by decide +kernel, by decide +kernel⟩, mt_at 57 rfl, 1, by decide +kernel, Or.inl ⟨rfl, rfl, mt_at 523 rfl, ⟨_, _, rfl⟩, mt_at 16 rfl, Or.inl (mt_at 521 rfl)⟩⟩
set_option maxRecDepth 20000 in
theorem kl_3_46 : xm_cow pg ng xm_vc "MachineMaker$Game" 46 58 2 1 0 := ⟨mt_at 511 rfl, by decide +kernel, ⟨by decide +kernel, by decide +kernel⟩, mt_at 57 rfl, 2, by decide +kernel, Or.inr (Or.inl ⟨rfl, rfl, mt_at 510 rfl, mt_at 509 rfl⟩)⟩
set_option maxRecDepth 20000 in
theorem kl_3_59 : xm_cow pg ng xm_vc "MachineMaker$Game" 59 60 3 1 0 := ⟨mt_at 520 rfl, by decide +kernel, ⟨by decide +kernel, by decide +kernel⟩, mt_at 57 rfl, 3, by decide +kernel, Or.inr (Or.inl ⟨rfl, rfl, mt_at 519 rfl, mt_at 518 rfl⟩)⟩
set_option maxRecDepth 20000 in
theorem kl_3_65 : xm_cow pg ng xm_vc "MachineMaker$Game" 65 63 2 0 6 := ⟨mt_at 532 rfl, by decide +kernel, ⟨by decide +kernel, by decide +kernel⟩, mt_at 57 rfl, 1, by decide +kernel, Or.inl ⟨rfl, rfl, mt_at 531 rfl, ⟨_, _, rfl⟩, mt_at 17 rfl, Or.inl (mt_at 529 rfl)⟩⟩
set_option maxRecDepth 20000 in
theorem kl_3_69 : xm_cow pg ng xm_vc "MachineMaker$Game" 69 64 3 0 6 := ⟨mt_at 536 rfl, by decide +kernel, ⟨by decide +kernel, by decide +kernel⟩, mt_at 57 rfl, 2, by decide +kernel, Or.inl ⟨rfl, rfl, mt_at 535 rfl, ⟨_, _, rfl⟩, mt_at 18 rfl, Or.inl (mt_at 533 rfl)⟩⟩
set_option maxRecDepth 20000 in
theorem kl_3_73 : xm_cow pg ng xm_vc "MachineMaker$Game" 73 65 2 0 6 := ⟨mt_at 540 rfl, by decide +kernel, ⟨by decide +kernel, by decide +kernel⟩, mt_at 57 rfl, 1, by decide +kernel, Or.inl ⟨rfl, rfl, mt_at 538 rfl, ⟨_, _, rfl⟩, mt_at 539 rfl, Or.inl (mt_at 537 rfl)⟩⟩
set_option maxRecDepth 20000 in
theorem kl_3_77 : xm_cow pg ng xm_vc "MachineMaker$Game" 77 68 3 0 6 := ⟨mt_at 552 rfl, by decide +kernel, ⟨by decide +kernel, by decide +kernel⟩, mt_at 57 rfl, 2, by decide +kernel, Or.inl ⟨rfl, rfl, mt_at 550 rfl, ⟨_, _, rfl⟩, mt_at 551 rfl, Or.inl (mt_at 549 rfl)⟩⟩
set_option maxRecDepth 20000 in
theorem kl_3_81 : xm_cow pg ng xm_vc "MachineMaker$Game" 81 67 4 0 6 := ⟨mt_at 548 rfl, by decide +kernel, ⟨by decide +kernel, by decide +kernel⟩, mt_at 57 rfl, 3, by decide +kernel, Or.inl ⟨rfl, rfl, mt_at 546 rfl, ⟨_, _, rfl⟩, mt_at 547 rfl, Or.inl (mt_at 545 rfl)⟩⟩
set_option maxRecDepth 20000 in
theorem kl_3_85 : xm_cow pg ng xm_vc "MachineMaker$Game" 85 66 4 0 6 := ⟨mt_at 544 rfl, by decide +kernel, ⟨by decide +kernel, by decide +kernel⟩, mt_at 57 rfl, 3, by decide +kernel, Or.inl ⟨rfl, rfl, mt_at 543 rfl, ⟨_, _, rfl⟩, mt_at 19 rfl, Or.inl (mt_at 541 rfl)⟩⟩
set_option maxRecDepth 20000 in
theorem km_3 : ∀ e ∈ kl_3, xm_cow pg ng xm_vc "MachineMaker$Game" e.1 e.2.1 e.2.2.1 e.2.2.2.1 e.2.2.2.2 := fc_cons kl_3_27 (fc_cons kl_3_35 (fc_cons kl_3_40 (fc_cons kl_3_46 (fc_cons kl_3_59 (fc_cons kl_3_65 (fc_cons kl_3_69 (fc_cons kl_3_73 (fc_cons kl_3_77 (fc_cons kl_3_81 (fc_cons kl_3_85 (fc_nil)))))))))))
set_option maxRecDepth 20000 in
theorem ki_4 : ∀ e ∈ kc_4, ∀ v, e.2 = xv_i v → Jvm.Cond.constant "MachineMaker$WaySet" e.1 v ∈ xm_tg := fc_cons (fun v h => by cases h) (fc_nil)
set_option maxRecDepth 20000 in
theorem kj_4 : ∀ e ∈ kc_4, ∀ v, e.2 = xv_l v → Jvm.Cond.constantLong "MachineMaker$WaySet" e.1 v ∈ xm_tg := fc_cons (fun v h => by cases h; exact mt_at 489 rfl) (fc_nil)
set_option maxRecDepth 20000 in
theorem kf_4_9 : xm_fok "MachineMaker$WaySet" xm_tg xm_vc 9 4 0 12 := ⟨"MachineMaker$WaySet", vT_4, 3, vY_4, rfl, by decide, vW_4, vD_4, vN_4, Or.inl (mt_at 141 rfl), Or.inr (Or.inr (Or.inr (Or.inl ⟨rfl, Or.inr ⟨_, rfl⟩, rfl, rfl, mt_at 141 rfl⟩)))⟩
set_option maxRecDepth 20000 in
theorem kf_4_15 : xm_fok "MachineMaker$WaySet" xm_tg xm_vc 15 4 1 0 := ⟨"MachineMaker$WaySet", vT_4, 3, vY_4, rfl, by decide, vW_4, vD_4, vN_4, Or.inl (mt_at 144 rfl), Or.inl ⟨rfl, rfl, rfl⟩⟩
set_option maxRecDepth 20000 in
theorem kf_4_19 : xm_fok "MachineMaker$WaySet" xm_tg xm_vc 19 4 2 3 := ⟨"MachineMaker$WaySet", vT_4, 3, vY_4, rfl, by decide, vW_4, vD_4, vN_4, Or.inl (mt_at 147 rfl), Or.inr (Or.inl ⟨rfl, rfl, rfl⟩)⟩
set_option maxRecDepth 20000 in
theorem kg_4 : ∀ e ∈ kf_4, xm_fok "MachineMaker$WaySet" xm_tg xm_vc e.1 e.2.1 e.2.2.1 e.2.2.2 := fc_cons kf_4_9 (fc_cons kf_4_15 (fc_cons kf_4_19 (fc_nil)))
set_option maxRecDepth 20000 in
theorem kp_4 : ∀ e ∈ kn_4, xm_nok "MachineMaker$WaySet" xm_tg xm_vc e.1 e.2.1 e.2.2 := fc_nil
set_option maxRecDepth 20000 in
theorem kt_4 : ∀ e ∈ ks_4, e.2 = 1 ∧ Cond.fieldLink "MachineMaker$WaySet" e.1 "MachineMaker$Book" "DUAL_KINDS" "[I" ∈ xm_tg := fc_nil
set_option maxRecDepth 20000 in
theorem kx_4_ok : ∀ e ∈ kx_4, (e.2 = 2 → Cond.methodLink "MachineMaker$WaySet" e.1 objectInit ∈ xm_tg) ∧ (e.2 = 1 → Cond.methodLink "MachineMaker$WaySet" e.1 arraycopyName ∈ xm_tg) ∧ (e.2 = 3 → Cond.methodLink "MachineMaker$WaySet" e.1 Lib.Math.min.name ∈ xm_tg) := fc_cons ⟨fun _ => mt_at 140 rfl, fun h => (by cases h), fun h => (by cases h)⟩ (fc_nil)
set_option maxRecDepth 20000 in
theorem km_4 : ∀ e ∈ kl_4, xm_cow pg ng xm_vc "MachineMaker$WaySet" e.1 e.2.1 e.2.2.1 e.2.2.2.1 e.2.2.2.2 := fc_nil
set_option maxRecDepth 20000 in
theorem ki_5 : ∀ e ∈ kc_5, ∀ v, e.2 = xv_i v → Jvm.Cond.constant "MachineMaker$WayTable" e.1 v ∈ xm_tg := fc_nil
set_option maxRecDepth 20000 in
theorem kj_5 : ∀ e ∈ kc_5, ∀ v, e.2 = xv_l v → Jvm.Cond.constantLong "MachineMaker$WayTable" e.1 v ∈ xm_tg := fc_nil
set_option maxRecDepth 20000 in
theorem kf_5_9 : xm_fok "MachineMaker$WayTable" xm_tg xm_vc 9 3 1 12 := ⟨"MachineMaker$WayTable", vT_3, 8, vY_3, rfl, by decide, vW_3, vD_3, vN_3, Or.inl (mt_at 160 rfl), Or.inr (Or.inr (Or.inr (Or.inl ⟨rfl, Or.inr ⟨_, rfl⟩, rfl, rfl, mt_at 160 rfl⟩)))⟩
set_option maxRecDepth 20000 in
theorem kf_5_15 : xm_fok "MachineMaker$WayTable" xm_tg xm_vc 15 3 2 12 := ⟨"MachineMaker$WayTable", vT_3, 8, vY_3, rfl, by decide, vW_3, vD_3, vN_3, Or.inl (mt_at 161 rfl), Or.inr (Or.inr (Or.inr (Or.inl ⟨rfl, Or.inr ⟨_, rfl⟩, rfl, rfl, mt_at 161 rfl⟩)))⟩
set_option maxRecDepth 20000 in
theorem kf_5_18 : xm_fok "MachineMaker$WayTable" xm_tg xm_vc 18 3 3 2 := ⟨"MachineMaker$WayTable", vT_3, 8, vY_3, rfl, by decide, vW_3, vD_3, vN_3, Or.inl (mt_at 162 rfl), Or.inr (Or.inr (Or.inl ⟨rfl, Or.inr ⟨_, rfl⟩, rfl⟩))⟩
set_option maxRecDepth 20000 in
theorem kf_5_25 : xm_fok "MachineMaker$WayTable" xm_tg xm_vc 25 3 5 12 := ⟨"MachineMaker$WayTable", vT_3, 8, vY_3, rfl, by decide, vW_3, vD_3, vN_3, Or.inl (mt_at 164 rfl), Or.inr (Or.inr (Or.inr (Or.inl ⟨rfl, Or.inl ⟨_, rfl⟩, rfl, rfl, mt_at 164 rfl⟩)))⟩
set_option maxRecDepth 20000 in
theorem kf_5_29 : xm_fok "MachineMaker$WayTable" xm_tg xm_vc 29 3 6 12 := ⟨"MachineMaker$WayTable", vT_3, 8, vY_3, rfl, by decide, vW_3, vD_3, vN_3, Or.inl (mt_at 165 rfl), Or.inr (Or.inr (Or.inr (Or.inl ⟨rfl, Or.inl ⟨_, rfl⟩, rfl, rfl, mt_at 165 rfl⟩)))⟩
set_option maxRecDepth 20000 in
theorem kf_5_32 : xm_fok "MachineMaker$WayTable" xm_tg xm_vc 32 3 7 12 := ⟨"MachineMaker$WayTable", vT_3, 8, vY_3, rfl, by decide, vW_3, vD_3, vN_3, Or.inl (mt_at 166 rfl), Or.inr (Or.inr (Or.inr (Or.inl ⟨rfl, Or.inl ⟨_, rfl⟩, rfl, rfl, mt_at 166 rfl⟩)))⟩
set_option maxRecDepth 20000 in
theorem kf_5_35 : xm_fok "MachineMaker$WayTable" xm_tg xm_vc 35 3 0 12 := ⟨"MachineMaker$WayTable", vT_3, 8, vY_3, rfl, by decide, vW_3, vD_3, vN_3, Or.inl (mt_at 159 rfl), Or.inr (Or.inr (Or.inr (Or.inl ⟨rfl, Or.inl ⟨_, rfl⟩, rfl, rfl, mt_at 159 rfl⟩)))⟩
set_option maxRecDepth 20000 in
theorem kf_5_63 : xm_fok "MachineMaker$WayTable" xm_tg xm_vc 63 4 2 3 := ⟨"MachineMaker$WaySet", vT_4, 3, vY_4, rfl, by decide, vW_4, vD_4, vN_4, Or.inr ⟨_, mt_at 149 rfl⟩, Or.inr (Or.inl ⟨rfl, rfl, rfl⟩)⟩
set_option maxRecDepth 20000 in
theorem kf_5_67 : xm_fok "MachineMaker$WayTable" xm_tg xm_vc 67 3 4 0 := ⟨"MachineMaker$WayTable", vT_3, 8, vY_3, rfl, by decide, vW_3, vD_3, vN_3, Or.inl (mt_at 163 rfl), Or.inl ⟨rfl, rfl, rfl⟩⟩
set_option maxRecDepth 20000 in
theorem kf_5_71 : xm_fok "MachineMaker$WayTable" xm_tg xm_vc 71 4 1 0 := ⟨"MachineMaker$WaySet", vT_4, 3, vY_4, rfl, by decide, vW_4, vD_4, vN_4, Or.inr ⟨_, mt_at 146 rfl⟩, Or.inl ⟨rfl, rfl, rfl⟩⟩
set_option maxRecDepth 20000 in
theorem kf_5_78 : xm_fok "MachineMaker$WayTable" xm_tg xm_vc 78 4 0 22 := ⟨"MachineMaker$WaySet", vT_4, 3, vY_4, rfl, by decide, vW_4, vD_4, vN_4, Or.inr ⟨_, mt_at 143 rfl⟩, Or.inr (Or.inr (Or.inr (Or.inr rfl)))⟩
set_option maxRecDepth 20000 in
theorem kf_5_87 : xm_fok "MachineMaker$WayTable" xm_tg xm_vc 87 1 0 22 := ⟨"MachineMaker$Book", vT_1, 6, vY_1, rfl, by decide, vW_1, vD_1, vN_1, Or.inr ⟨_, mt_at 82 rfl⟩, Or.inr (Or.inr (Or.inr (Or.inr rfl)))⟩
set_option maxRecDepth 20000 in
theorem kf_5_90 : xm_fok "MachineMaker$WayTable" xm_tg xm_vc 90 1 1 22 := ⟨"MachineMaker$Book", vT_1, 6, vY_1, rfl, by decide, vW_1, vD_1, vN_1, Or.inr ⟨_, mt_at 85 rfl⟩, Or.inr (Or.inr (Or.inr (Or.inr rfl)))⟩
set_option maxRecDepth 20000 in
theorem kf_5_93 : xm_fok "MachineMaker$WayTable" xm_tg xm_vc 93 1 2 22 := ⟨"MachineMaker$Book", vT_1, 6, vY_1, rfl, by decide, vW_1, vD_1, vN_1, Or.inr ⟨_, mt_at 88 rfl⟩, Or.inr (Or.inr (Or.inr (Or.inr rfl)))⟩
set_option maxRecDepth 20000 in
theorem kg_5 : ∀ e ∈ kf_5, xm_fok "MachineMaker$WayTable" xm_tg xm_vc e.1 e.2.1 e.2.2.1 e.2.2.2 := fc_cons kf_5_9 (fc_cons kf_5_15 (fc_cons kf_5_18 (fc_cons kf_5_25 (fc_cons kf_5_29 (fc_cons kf_5_32 (fc_cons kf_5_35 (fc_cons kf_5_63 (fc_cons kf_5_67 (fc_cons kf_5_71 (fc_cons kf_5_78 (fc_cons kf_5_87 (fc_cons kf_5_90 (fc_cons kf_5_93 (fc_nil))))))))))))))
set_option maxRecDepth 20000 in
theorem kn_5_22 : xm_nok "MachineMaker$WayTable" xm_tg xm_vc 22 4 [some none, none, none] := ⟨"MachineMaker$WaySet", vT_4, 3, vY_4, rfl, vW_4, vD_4, mt_at 135 rfl, mt_at 136 rfl, mt_at 55 rfl, rfl, by decide, xm_dfl vY_4 [some none, none, none] rfl⟩
set_option maxRecDepth 20000 in
theorem kp_5 : ∀ e ∈ kn_5, xm_nok "MachineMaker$WayTable" xm_tg xm_vc e.1 e.2.1 e.2.2 := fc_cons kn_5_22 (fc_nil)
set_option maxRecDepth 20000 in
theorem kt_5 : ∀ e ∈ ks_5, e.2 = 1 ∧ Cond.fieldLink "MachineMaker$WayTable" e.1 "MachineMaker$Book" "DUAL_KINDS" "[I" ∈ xm_tg := fc_nil
set_option maxRecDepth 20000 in
theorem kx_5_ok : ∀ e ∈ kx_5, (e.2 = 2 → Cond.methodLink "MachineMaker$WayTable" e.1 objectInit ∈ xm_tg) ∧ (e.2 = 1 → Cond.methodLink "MachineMaker$WayTable" e.1 arraycopyName ∈ xm_tg) ∧ (e.2 = 3 → Cond.methodLink "MachineMaker$WayTable" e.1 Lib.Math.min.name ∈ xm_tg) := fc_cons ⟨fun _ => mt_at 134 rfl, fun h => (by cases h), fun h => (by cases h)⟩ (fc_cons ⟨fun h => (by cases h), fun _ => mt_at 452 rfl, fun h => (by cases h)⟩ (fc_nil))
set_option maxRecDepth 20000 in
theorem kl_5_24 : xm_cow pg ng xm_vc "MachineMaker$WayTable" 24 6 1 2 0 := ⟨mt_at 139 rfl, by decide +kernel, ⟨by decide +kernel, by decide +kernel⟩, mt_at 55 rfl, 0, by decide +kernel, Or.inr (Or.inr ⟨rfl, rfl, mt_at 138 rfl, rfl, rfl, Or.inr ⟨_, mt_at 137 rfl⟩⟩)⟩
set_option maxRecDepth 20000 in
theorem kl_5_39 : xm_cow pg ng xm_vc "MachineMaker$WayTable" 39 3 2 1 0 := ⟨mt_at 78 rfl, by decide +kernel, ⟨by decide +kernel, by decide +kernel⟩, mt_at 52 rfl, 2, by decide +kernel, Or.inr (Or.inl ⟨rfl, rfl, mt_at 77 rfl, mt_at 158 rfl⟩)⟩
set_option maxRecDepth 20000 in
theorem kl_5_45 : xm_cow pg ng xm_vc "MachineMaker$WayTable" 45 33 2 1 0 := ⟨mt_at 405 rfl, by decide +kernel, ⟨by decide +kernel, by decide +kernel⟩, mt_at 54 rfl, 2, by decide +kernel, Or.inr (Or.inl ⟨rfl, rfl, mt_at 404 rfl, mt_at 403 rfl⟩)⟩
set_option maxRecDepth 20000 in
theorem kl_5_49 : xm_cow pg ng xm_vc "MachineMaker$WayTable" 49 24 3 0 1 := ⟨mt_at 369 rfl, by decide +kernel, ⟨by decide +kernel, by decide +kernel⟩, mt_at 51 rfl, 2, by decide +kernel, Or.inl ⟨rfl, rfl, mt_at 367 rfl, ⟨_, _, rfl⟩, mt_at 368 rfl, Or.inl (mt_at 402 rfl)⟩⟩
set_option maxRecDepth 20000 in
theorem kl_5_55 : xm_cow pg ng xm_vc "MachineMaker$WayTable" 55 34 3 0 3 := ⟨mt_at 409 rfl, by decide +kernel, ⟨by decide +kernel, by decide +kernel⟩, mt_at 54 rfl, 2, by decide +kernel, Or.inl ⟨rfl, rfl, mt_at 408 rfl, ⟨_, _, rfl⟩, mt_at 7 rfl, Or.inl (mt_at 406 rfl)⟩⟩
set_option maxRecDepth 20000 in
theorem kl_5_59 : xm_cow pg ng xm_vc "MachineMaker$WayTable" 59 41 2 0 3 := ⟨mt_at 435 rfl, by decide +kernel, ⟨by decide +kernel, by decide +kernel⟩, mt_at 54 rfl, 1, by decide +kernel, Or.inl ⟨rfl, rfl, mt_at 434 rfl, ⟨_, _, rfl⟩, mt_at 10 rfl, Or.inl (mt_at 432 rfl)⟩⟩
set_option maxRecDepth 20000 in
theorem kl_5_74 : xm_cow pg ng xm_vc "MachineMaker$WayTable" 74 42 2 1 0 := ⟨mt_at 438 rfl, by decide +kernel, ⟨by decide +kernel, by decide +kernel⟩, mt_at 52 rfl, 2, by decide +kernel, Or.inr (Or.inl ⟨rfl, rfl, mt_at 437 rfl, mt_at 436 rfl⟩)⟩
set_option maxRecDepth 20000 in
theorem kl_5_96 : xm_cow pg ng xm_vc "MachineMaker$WayTable" 96 35 1 0 4 := ⟨mt_at 413 rfl, by decide +kernel, ⟨by decide +kernel, by decide +kernel⟩, mt_at 55 rfl, 0, by decide +kernel, Or.inl ⟨rfl, rfl, mt_at 411 rfl, ⟨_, _, rfl⟩, mt_at 412 rfl, Or.inl (mt_at 410 rfl)⟩⟩
set_option maxRecDepth 20000 in
theorem kl_5_99 : xm_cow pg ng xm_vc "MachineMaker$WayTable" 99 36 2 0 4 := ⟨mt_at 417 rfl, by decide +kernel, ⟨by decide +kernel, by decide +kernel⟩, mt_at 55 rfl, 1, by decide +kernel, Or.inl ⟨rfl, rfl, mt_at 415 rfl, ⟨_, _, rfl⟩, mt_at 416 rfl, Or.inl (mt_at 414 rfl)⟩⟩
set_option maxRecDepth 20000 in
theorem kl_5_103 : xm_cow pg ng xm_vc "MachineMaker$WayTable" 103 37 4 0 3 := ⟨mt_at 421 rfl, by decide +kernel, ⟨by decide +kernel, by decide +kernel⟩, mt_at 54 rfl, 3, by decide +kernel, Or.inl ⟨rfl, rfl, mt_at 420 rfl, ⟨_, _, rfl⟩, mt_at 8 rfl, Or.inl (mt_at 418 rfl)⟩⟩
set_option maxRecDepth 20000 in
theorem kl_5_107 : xm_cow pg ng xm_vc "MachineMaker$WayTable" 107 38 5 0 3 := ⟨mt_at 425 rfl, by decide +kernel, ⟨by decide +kernel, by decide +kernel⟩, mt_at 54 rfl, 4, by decide +kernel, Or.inl ⟨rfl, rfl, mt_at 424 rfl, ⟨_, _, rfl⟩, mt_at 9 rfl, Or.inl (mt_at 422 rfl)⟩⟩
set_option maxRecDepth 20000 in
theorem kl_5_111 : xm_cow pg ng xm_vc "MachineMaker$WayTable" 111 39 1 1 0 := ⟨mt_at 428 rfl, by decide +kernel, ⟨by decide +kernel, by decide +kernel⟩, mt_at 55 rfl, 1, by decide +kernel, Or.inr (Or.inl ⟨rfl, rfl, mt_at 427 rfl, mt_at 426 rfl⟩)⟩
set_option maxRecDepth 20000 in
theorem kl_5_115 : xm_cow pg ng xm_vc "MachineMaker$WayTable" 115 40 1 1 0 := ⟨mt_at 431 rfl, by decide +kernel, ⟨by decide +kernel, by decide +kernel⟩, mt_at 55 rfl, 1, by decide +kernel, Or.inr (Or.inl ⟨rfl, rfl, mt_at 430 rfl, mt_at 429 rfl⟩)⟩
set_option maxRecDepth 20000 in
theorem km_5 : ∀ e ∈ kl_5, xm_cow pg ng xm_vc "MachineMaker$WayTable" e.1 e.2.1 e.2.2.1 e.2.2.2.1 e.2.2.2.2 := fc_cons kl_5_24 (fc_cons kl_5_39 (fc_cons kl_5_45 (fc_cons kl_5_49 (fc_cons kl_5_55 (fc_cons kl_5_59 (fc_cons kl_5_74 (fc_cons kl_5_96 (fc_cons kl_5_99 (fc_cons kl_5_103 (fc_cons kl_5_107 (fc_cons kl_5_111 (fc_cons kl_5_115 (fc_nil)))))))))))))
set_option maxRecDepth 20000 in
theorem ki_6 : ∀ e ∈ kc_6, ∀ v, e.2 = xv_i v → Jvm.Cond.constant "MachineMaker$Winner" e.1 v ∈ xm_tg := fc_nil
set_option maxRecDepth 20000 in
theorem kj_6 : ∀ e ∈ kc_6, ∀ v, e.2 = xv_l v → Jvm.Cond.constantLong "MachineMaker$Winner" e.1 v ∈ xm_tg := fc_nil
set_option maxRecDepth 20000 in
theorem kf_6_9 : xm_fok "MachineMaker$Winner" xm_tg xm_vc 9 7 1 0 := ⟨"MachineMaker$Winner", vT_7, 9, vY_7, rfl, by decide, vW_7, vD_7, vN_7, Or.inl (mt_at 257 rfl), Or.inl ⟨rfl, rfl, rfl⟩⟩
set_option maxRecDepth 20000 in
theorem kf_6_15 : xm_fok "MachineMaker$Winner" xm_tg xm_vc 15 7 5 12 := ⟨"MachineMaker$Winner", vT_7, 9, vY_7, rfl, by decide, vW_7, vD_7, vN_7, Or.inl (mt_at 265 rfl), Or.inr (Or.inr (Or.inr (Or.inl ⟨rfl, Or.inr ⟨_, rfl⟩, rfl, rfl, mt_at 265 rfl⟩)))⟩
set_option maxRecDepth 20000 in
theorem kf_6_19 : xm_fok "MachineMaker$Winner" xm_tg xm_vc 19 7 6 12 := ⟨"MachineMaker$Winner", vT_7, 9, vY_7, rfl, by decide, vW_7, vD_7, vN_7, Or.inl (mt_at 266 rfl), Or.inr (Or.inr (Or.inr (Or.inl ⟨rfl, Or.inr ⟨_, rfl⟩, rfl, rfl, mt_at 266 rfl⟩)))⟩
set_option maxRecDepth 20000 in
theorem kf_6_22 : xm_fok "MachineMaker$Winner" xm_tg xm_vc 22 7 7 12 := ⟨"MachineMaker$Winner", vT_7, 9, vY_7, rfl, by decide, vW_7, vD_7, vN_7, Or.inl (mt_at 267 rfl), Or.inr (Or.inr (Or.inr (Or.inl ⟨rfl, Or.inr ⟨_, rfl⟩, rfl, rfl, mt_at 267 rfl⟩)))⟩
set_option maxRecDepth 20000 in
theorem kf_6_25 : xm_fok "MachineMaker$Winner" xm_tg xm_vc 25 7 8 12 := ⟨"MachineMaker$Winner", vT_7, 9, vY_7, rfl, by decide, vW_7, vD_7, vN_7, Or.inl (mt_at 269 rfl), Or.inr (Or.inr (Or.inr (Or.inl ⟨rfl, Or.inr ⟨_, rfl⟩, rfl, rfl, mt_at 269 rfl⟩)))⟩
set_option maxRecDepth 20000 in
theorem kf_6_28 : xm_fok "MachineMaker$Winner" xm_tg xm_vc 28 7 0 12 := ⟨"MachineMaker$Winner", vT_7, 9, vY_7, rfl, by decide, vW_7, vD_7, vN_7, Or.inl (mt_at 256 rfl), Or.inr (Or.inr (Or.inr (Or.inl ⟨rfl, Or.inl ⟨_, rfl⟩, rfl, rfl, mt_at 256 rfl⟩)))⟩
set_option maxRecDepth 20000 in
theorem kf_6_32 : xm_fok "MachineMaker$Winner" xm_tg xm_vc 32 7 2 0 := ⟨"MachineMaker$Winner", vT_7, 9, vY_7, rfl, by decide, vW_7, vD_7, vN_7, Or.inl (mt_at 259 rfl), Or.inl ⟨rfl, rfl, rfl⟩⟩
set_option maxRecDepth 20000 in
theorem kf_6_35 : xm_fok "MachineMaker$Winner" xm_tg xm_vc 35 7 3 0 := ⟨"MachineMaker$Winner", vT_7, 9, vY_7, rfl, by decide, vW_7, vD_7, vN_7, Or.inl (mt_at 261 rfl), Or.inl ⟨rfl, rfl, rfl⟩⟩
set_option maxRecDepth 20000 in
theorem kf_6_38 : xm_fok "MachineMaker$Winner" xm_tg xm_vc 38 7 4 0 := ⟨"MachineMaker$Winner", vT_7, 9, vY_7, rfl, by decide, vW_7, vD_7, vN_7, Or.inl (mt_at 263 rfl), Or.inl ⟨rfl, rfl, rfl⟩⟩
set_option maxRecDepth 20000 in
theorem kf_6_59 : xm_fok "MachineMaker$Winner" xm_tg xm_vc 59 6 2 0 := ⟨"MachineMaker$Game", vT_6, 6, vY_6, rfl, by decide, vW_6, vD_6, vN_6, Or.inr ⟨_, mt_at 231 rfl⟩, Or.inl ⟨rfl, rfl, rfl⟩⟩
set_option maxRecDepth 20000 in
theorem kf_6_60 : xm_fok "MachineMaker$Winner" xm_tg xm_vc 60 6 5 0 := ⟨"MachineMaker$Game", vT_6, 6, vY_6, rfl, by decide, vW_6, vD_6, vN_6, Or.inr ⟨_, mt_at 234 rfl⟩, Or.inl ⟨rfl, rfl, rfl⟩⟩
set_option maxRecDepth 20000 in
theorem kg_6 : ∀ e ∈ kf_6, xm_fok "MachineMaker$Winner" xm_tg xm_vc e.1 e.2.1 e.2.2.1 e.2.2.2 := fc_cons kf_6_9 (fc_cons kf_6_15 (fc_cons kf_6_19 (fc_cons kf_6_22 (fc_cons kf_6_25 (fc_cons kf_6_28 (fc_cons kf_6_32 (fc_cons kf_6_35 (fc_cons kf_6_38 (fc_cons kf_6_59 (fc_cons kf_6_60 (fc_nil)))))))))))
set_option maxRecDepth 20000 in
theorem kp_6 : ∀ e ∈ kn_6, xm_nok "MachineMaker$Winner" xm_tg xm_vc e.1 e.2.1 e.2.2 := fc_nil
set_option maxRecDepth 20000 in
theorem kt_6 : ∀ e ∈ ks_6, e.2 = 1 ∧ Cond.fieldLink "MachineMaker$Winner" e.1 "MachineMaker$Book" "DUAL_KINDS" "[I" ∈ xm_tg := fc_nil
set_option maxRecDepth 20000 in
theorem kx_6_ok : ∀ e ∈ kx_6, (e.2 = 2 → Cond.methodLink "MachineMaker$Winner" e.1 objectInit ∈ xm_tg) ∧ (e.2 = 1 → Cond.methodLink "MachineMaker$Winner" e.1 arraycopyName ∈ xm_tg) ∧ (e.2 = 3 → Cond.methodLink "MachineMaker$Winner" e.1 Lib.Math.min.name ∈ xm_tg) := fc_cons ⟨fun _ => mt_at 255 rfl, fun h => (by cases h), fun h => (by cases h)⟩ (fc_nil)
set_option maxRecDepth 20000 in
theorem kl_6_41 : xm_cow pg ng xm_vc "MachineMaker$Winner" 41 70 2 0 7 := ⟨mt_at 560 rfl, by decide +kernel, ⟨by decide +kernel, by decide +kernel⟩, mt_at 58 rfl, 1, by decide +kernel, Or.inl ⟨rfl, rfl, mt_at 559 rfl, ⟨_, _, rfl⟩, mt_at 20 rfl, Or.inl (mt_at 557 rfl)⟩⟩
set_option maxRecDepth 20000 in
theorem kl_6_45 : xm_cow pg ng xm_vc "MachineMaker$Winner" 45 68 3 0 6 := ⟨mt_at 552 rfl, by decide +kernel, ⟨by decide +kernel, by decide +kernel⟩, mt_at 57 rfl, 2, by decide +kernel, Or.inl ⟨rfl, rfl, mt_at 550 rfl, ⟨_, _, rfl⟩, mt_at 551 rfl, Or.inl (mt_at 566 rfl)⟩⟩
set_option maxRecDepth 20000 in
theorem kl_6_51 : xm_cow pg ng xm_vc "MachineMaker$Winner" 51 72 5 0 7 := ⟨mt_at 570 rfl, by decide +kernel, ⟨by decide +kernel, by decide +kernel⟩, mt_at 58 rfl, 4, by decide +kernel, Or.inl ⟨rfl, rfl, mt_at 569 rfl, ⟨_, _, rfl⟩, mt_at 22 rfl, Or.inl (mt_at 567 rfl)⟩⟩
set_option maxRecDepth 20000 in
theorem kl_6_55 : xm_cow pg ng xm_vc "MachineMaker$Winner" 55 65 2 0 6 := ⟨mt_at 540 rfl, by decide +kernel, ⟨by decide +kernel, by decide +kernel⟩, mt_at 57 rfl, 1, by decide +kernel, Or.inl ⟨rfl, rfl, mt_at 538 rfl, ⟨_, _, rfl⟩, mt_at 539 rfl, Or.inl (mt_at 576 rfl)⟩⟩
set_option maxRecDepth 20000 in
theorem kl_6_63 : xm_cow pg ng xm_vc "MachineMaker$Winner" 63 3 2 1 0 := ⟨mt_at 78 rfl, by decide +kernel, ⟨by decide +kernel, by decide +kernel⟩, mt_at 52 rfl, 2, by decide +kernel, Or.inr (Or.inl ⟨rfl, rfl, mt_at 77 rfl, mt_at 561 rfl⟩)⟩
set_option maxRecDepth 20000 in
theorem kl_6_69 : xm_cow pg ng xm_vc "MachineMaker$Winner" 69 71 2 0 7 := ⟨mt_at 565 rfl, by decide +kernel, ⟨by decide +kernel, by decide +kernel⟩, mt_at 58 rfl, 1, by decide +kernel, Or.inl ⟨rfl, rfl, mt_at 564 rfl, ⟨_, _, rfl⟩, mt_at 21 rfl, Or.inl (mt_at 562 rfl)⟩⟩
set_option maxRecDepth 20000 in
theorem kl_6_72 : xm_cow pg ng xm_vc "MachineMaker$Winner" 72 67 4 0 6 := ⟨mt_at 548 rfl, by decide +kernel, ⟨by decide +kernel, by decide +kernel⟩, mt_at 57 rfl, 3, by decide +kernel, Or.inl ⟨rfl, rfl, mt_at 546 rfl, ⟨_, _, rfl⟩, mt_at 547 rfl, Or.inl (mt_at 571 rfl)⟩⟩
set_option maxRecDepth 20000 in
theorem km_6 : ∀ e ∈ kl_6, xm_cow pg ng xm_vc "MachineMaker$Winner" e.1 e.2.1 e.2.2.1 e.2.2.2.1 e.2.2.2.2 := fc_cons kl_6_41 (fc_cons kl_6_45 (fc_cons kl_6_51 (fc_cons kl_6_55 (fc_cons kl_6_63 (fc_cons kl_6_69 (fc_cons kl_6_72 (fc_nil)))))))
set_option maxRecDepth 20000 in
theorem ki_7 : ∀ e ∈ kc_7, ∀ v, e.2 = xv_i v → Jvm.Cond.constant "MachineMaker$Word" e.1 v ∈ xm_tg := fc_nil
set_option maxRecDepth 20000 in
theorem kj_7 : ∀ e ∈ kc_7, ∀ v, e.2 = xv_l v → Jvm.Cond.constantLong "MachineMaker$Word" e.1 v ∈ xm_tg := fc_nil
set_option maxRecDepth 20000 in
theorem kf_7_9 : xm_fok "MachineMaker$Word" xm_tg xm_vc 9 2 1 12 := ⟨"MachineMaker$Word", vT_2, 5, vY_2, rfl, by decide, vW_2, vD_2, vN_2, Or.inl (mt_at 114 rfl), Or.inr (Or.inr (Or.inr (Or.inl ⟨rfl, Or.inr ⟨_, rfl⟩, rfl, rfl, mt_at 114 rfl⟩)))⟩
set_option maxRecDepth 20000 in
theorem kf_7_15 : xm_fok "MachineMaker$Word" xm_tg xm_vc 15 2 2 12 := ⟨"MachineMaker$Word", vT_2, 5, vY_2, rfl, by decide, vW_2, vD_2, vN_2, Or.inl (mt_at 115 rfl), Or.inr (Or.inr (Or.inr (Or.inl ⟨rfl, Or.inr ⟨_, rfl⟩, rfl, rfl, mt_at 115 rfl⟩)))⟩
set_option maxRecDepth 20000 in
theorem kf_7_18 : xm_fok "MachineMaker$Word" xm_tg xm_vc 18 2 0 12 := ⟨"MachineMaker$Word", vT_2, 5, vY_2, rfl, by decide, vW_2, vD_2, vN_2, Or.inl (mt_at 113 rfl), Or.inr (Or.inr (Or.inr (Or.inl ⟨rfl, Or.inl ⟨_, rfl⟩, rfl, rfl, mt_at 113 rfl⟩)))⟩
set_option maxRecDepth 20000 in
theorem kf_7_22 : xm_fok "MachineMaker$Word" xm_tg xm_vc 22 2 3 0 := ⟨"MachineMaker$Word", vT_2, 5, vY_2, rfl, by decide, vW_2, vD_2, vN_2, Or.inl (mt_at 116 rfl), Or.inl ⟨rfl, rfl, rfl⟩⟩
set_option maxRecDepth 20000 in
theorem kf_7_26 : xm_fok "MachineMaker$Word" xm_tg xm_vc 26 2 4 0 := ⟨"MachineMaker$Word", vT_2, 5, vY_2, rfl, by decide, vW_2, vD_2, vN_2, Or.inl (mt_at 117 rfl), Or.inl ⟨rfl, rfl, rfl⟩⟩
set_option maxRecDepth 20000 in
theorem kf_7_39 : xm_fok "MachineMaker$Word" xm_tg xm_vc 39 1 1 22 := ⟨"MachineMaker$Book", vT_1, 6, vY_1, rfl, by decide, vW_1, vD_1, vN_1, Or.inr ⟨_, mt_at 84 rfl⟩, Or.inr (Or.inr (Or.inr (Or.inr rfl)))⟩
set_option maxRecDepth 20000 in
theorem kf_7_42 : xm_fok "MachineMaker$Word" xm_tg xm_vc 42 1 2 22 := ⟨"MachineMaker$Book", vT_1, 6, vY_1, rfl, by decide, vW_1, vD_1, vN_1, Or.inr ⟨_, mt_at 87 rfl⟩, Or.inr (Or.inr (Or.inr (Or.inr rfl)))⟩
set_option maxRecDepth 20000 in
theorem kf_7_45 : xm_fok "MachineMaker$Word" xm_tg xm_vc 45 1 0 22 := ⟨"MachineMaker$Book", vT_1, 6, vY_1, rfl, by decide, vW_1, vD_1, vN_1, Or.inr ⟨_, mt_at 81 rfl⟩, Or.inr (Or.inr (Or.inr (Or.inr rfl)))⟩
set_option maxRecDepth 20000 in
theorem kg_7 : ∀ e ∈ kf_7, xm_fok "MachineMaker$Word" xm_tg xm_vc e.1 e.2.1 e.2.2.1 e.2.2.2 := fc_cons kf_7_9 (fc_cons kf_7_15 (fc_cons kf_7_18 (fc_cons kf_7_22 (fc_cons kf_7_26 (fc_cons kf_7_39 (fc_cons kf_7_42 (fc_cons kf_7_45 (fc_nil))))))))
set_option maxRecDepth 20000 in
theorem kp_7 : ∀ e ∈ kn_7, xm_nok "MachineMaker$Word" xm_tg xm_vc e.1 e.2.1 e.2.2 := fc_nil
set_option maxRecDepth 20000 in
theorem kt_7 : ∀ e ∈ ks_7, e.2 = 1 ∧ Cond.fieldLink "MachineMaker$Word" e.1 "MachineMaker$Book" "DUAL_KINDS" "[I" ∈ xm_tg := fc_nil
set_option maxRecDepth 20000 in
theorem kx_7_ok : ∀ e ∈ kx_7, (e.2 = 2 → Cond.methodLink "MachineMaker$Word" e.1 objectInit ∈ xm_tg) ∧ (e.2 = 1 → Cond.methodLink "MachineMaker$Word" e.1 arraycopyName ∈ xm_tg) ∧ (e.2 = 3 → Cond.methodLink "MachineMaker$Word" e.1 Lib.Math.min.name ∈ xm_tg) := fc_cons ⟨fun _ => mt_at 112 rfl, fun h => (by cases h), fun h => (by cases h)⟩ (fc_nil)
set_option maxRecDepth 20000 in
theorem kl_7_29 : xm_cow pg ng xm_vc "MachineMaker$Word" 29 24 3 0 1 := ⟨mt_at 369 rfl, by decide +kernel, ⟨by decide +kernel, by decide +kernel⟩, mt_at 51 rfl, 2, by decide +kernel, Or.inl ⟨rfl, rfl, mt_at 367 rfl, ⟨_, _, rfl⟩, mt_at 368 rfl, Or.inl (mt_at 366 rfl)⟩⟩
set_option maxRecDepth 20000 in
theorem kl_7_35 : xm_cow pg ng xm_vc "MachineMaker$Word" 35 25 2 0 2 := ⟨mt_at 373 rfl, by decide +kernel, ⟨by decide +kernel, by decide +kernel⟩, mt_at 53 rfl, 1, by decide +kernel, Or.inl ⟨rfl, rfl, mt_at 372 rfl, ⟨_, _, rfl⟩, mt_at 1 rfl, Or.inl (mt_at 370 rfl)⟩⟩
set_option maxRecDepth 20000 in
theorem kl_7_48 : xm_cow pg ng xm_vc "MachineMaker$Word" 48 26 1 0 2 := ⟨mt_at 377 rfl, by decide +kernel, ⟨by decide +kernel, by decide +kernel⟩, mt_at 53 rfl, 0, by decide +kernel, Or.inl ⟨rfl, rfl, mt_at 376 rfl, ⟨_, _, rfl⟩, mt_at 2 rfl, Or.inl (mt_at 374 rfl)⟩⟩
set_option maxRecDepth 20000 in
theorem kl_7_52 : xm_cow pg ng xm_vc "MachineMaker$Word" 52 27 2 0 2 := ⟨mt_at 381 rfl, by decide +kernel, ⟨by decide +kernel, by decide +kernel⟩, mt_at 53 rfl, 1, by decide +kernel, Or.inl ⟨rfl, rfl, mt_at 380 rfl, ⟨_, _, rfl⟩, mt_at 3 rfl, Or.inl (mt_at 378 rfl)⟩⟩
set_option maxRecDepth 20000 in
theorem kl_7_55 : xm_cow pg ng xm_vc "MachineMaker$Word" 55 28 2 0 2 := ⟨mt_at 385 rfl, by decide +kernel, ⟨by decide +kernel, by decide +kernel⟩, mt_at 53 rfl, 1, by decide +kernel, Or.inl ⟨rfl, rfl, mt_at 384 rfl, ⟨_, _, rfl⟩, mt_at 4 rfl, Or.inl (mt_at 382 rfl)⟩⟩
set_option maxRecDepth 20000 in
theorem kl_7_58 : xm_cow pg ng xm_vc "MachineMaker$Word" 58 29 3 0 2 := ⟨mt_at 389 rfl, by decide +kernel, ⟨by decide +kernel, by decide +kernel⟩, mt_at 53 rfl, 2, by decide +kernel, Or.inl ⟨rfl, rfl, mt_at 388 rfl, ⟨_, _, rfl⟩, mt_at 5 rfl, Or.inl (mt_at 386 rfl)⟩⟩
set_option maxRecDepth 20000 in
theorem kl_7_62 : xm_cow pg ng xm_vc "MachineMaker$Word" 62 30 3 0 2 := ⟨mt_at 393 rfl, by decide +kernel, ⟨by decide +kernel, by decide +kernel⟩, mt_at 53 rfl, 2, by decide +kernel, Or.inl ⟨rfl, rfl, mt_at 392 rfl, ⟨_, _, rfl⟩, mt_at 6 rfl, Or.inl (mt_at 390 rfl)⟩⟩
set_option maxRecDepth 20000 in
theorem km_7 : ∀ e ∈ kl_7, xm_cow pg ng xm_vc "MachineMaker$Word" e.1 e.2.1 e.2.2.1 e.2.2.2.1 e.2.2.2.2 := fc_cons kl_7_29 (fc_cons kl_7_35 (fc_cons kl_7_48 (fc_cons kl_7_52 (fc_cons kl_7_55 (fc_cons kl_7_58 (fc_cons kl_7_62 (fc_nil)))))))
set_option maxRecDepth 20000 in
theorem ki_8 : ∀ e ∈ kc_8, ∀ v, e.2 = xv_i v → Jvm.Cond.constant "MachineMakerLaw" e.1 v ∈ xm_tg := fc_cons (fun v h => by cases h) (fc_nil)
set_option maxRecDepth 20000 in
theorem kj_8 : ∀ e ∈ kc_8, ∀ v, e.2 = xv_l v → Jvm.Cond.constantLong "MachineMakerLaw" e.1 v ∈ xm_tg := fc_cons (fun v h => by cases h; exact mt_at 860 rfl) (fc_nil)
set_option maxRecDepth 20000 in
theorem kg_8 : ∀ e ∈ kf_8, xm_fok "MachineMakerLaw" xm_tg xm_vc e.1 e.2.1 e.2.2.1 e.2.2.2 := fc_nil
set_option maxRecDepth 20000 in
theorem kn_8_7 : xm_nok "MachineMakerLaw" xm_tg xm_vc 7 0 [some none, some none, some none, some none, some none, some none] := ⟨"MachineMaker", vT_0, 6, vY_0, rfl, vW_0, vD_0, mt_at 62 rfl, mt_at 63 rfl, mt_at 50 rfl, rfl, by decide, xm_dfl vY_0 [some none, some none, some none, some none, some none, some none] rfl⟩
set_option maxRecDepth 20000 in
theorem kn_8_10 : xm_nok "MachineMakerLaw" xm_tg xm_vc 10 8 [none, some none, some none, some none, some none, some none, some none, some none, some none, none, some none, none, some none, some none, some none, some none, some none, none, none, some none, some none, some none, none, none, none, none, none, some none, some none, some none, some none, some none] := ⟨"MachineMakerModel", vT_8, 32, vY_8, rfl, vW_8, vD_8, mt_at 596 rfl, mt_at 597 rfl, mt_at 59 rfl, rfl, by decide, xm_dfl vY_8 [none, some none, some none, some none, some none, some none, some none, some none, some none, none, some none, none, some none, some none, some none, some none, some none, none, none, some none, some none, some none, none, none, none, none, none, some none, some none, some none, some none, some none] rfl⟩
set_option maxRecDepth 20000 in
theorem kp_8 : ∀ e ∈ kn_8, xm_nok "MachineMakerLaw" xm_tg xm_vc e.1 e.2.1 e.2.2 := fc_cons kn_8_7 (fc_cons kn_8_10 (fc_nil))
set_option maxRecDepth 20000 in
theorem kt_8 : ∀ e ∈ ks_8, e.2 = 1 ∧ Cond.fieldLink "MachineMakerLaw" e.1 "MachineMaker$Book" "DUAL_KINDS" "[I" ∈ xm_tg := fc_nil
set_option maxRecDepth 20000 in
theorem kx_8_ok : ∀ e ∈ kx_8, (e.2 = 2 → Cond.methodLink "MachineMakerLaw" e.1 objectInit ∈ xm_tg) ∧ (e.2 = 1 → Cond.methodLink "MachineMakerLaw" e.1 arraycopyName ∈ xm_tg) ∧ (e.2 = 3 → Cond.methodLink "MachineMakerLaw" e.1 Lib.Math.min.name ∈ xm_tg) := fc_nil
set_option maxRecDepth 20000 in
theorem kl_8_9 : xm_cow pg ng xm_vc "MachineMakerLaw" 9 1 1 2 0 := ⟨mt_at 66 rfl, by decide +kernel, ⟨by decide +kernel, by decide +kernel⟩, mt_at 50 rfl, 0, by decide +kernel, Or.inr (Or.inr ⟨rfl, rfl, mt_at 65 rfl, rfl, rfl, Or.inl (mt_at 64 rfl)⟩)⟩
set_option maxRecDepth 20000 in
theorem kl_8_12 : xm_cow pg ng xm_vc "MachineMakerLaw" 12 79 1 2 0 := ⟨mt_at 600 rfl, by decide +kernel, ⟨by decide +kernel, by decide +kernel⟩, mt_at 59 rfl, 0, by decide +kernel, Or.inr (Or.inr ⟨rfl, rfl, mt_at 599 rfl, rfl, rfl, Or.inl (mt_at 598 rfl)⟩)⟩
set_option maxRecDepth 20000 in
theorem kl_8_13 : xm_cow pg ng xm_vc "MachineMakerLaw" 13 10 4 0 0 := ⟨mt_at 312 rfl, by decide +kernel, ⟨by decide +kernel, by decide +kernel⟩, mt_at 50 rfl, 3, by decide +kernel, Or.inl ⟨rfl, rfl, mt_at 310 rfl, ⟨_, _, rfl⟩, mt_at 311 rfl, Or.inl (mt_at 309 rfl)⟩⟩
set_option maxRecDepth 20000 in
theorem kl_8_17 : xm_cow pg ng xm_vc "MachineMakerLaw" 17 80 4 0 8 := ⟨mt_at 702 rfl, by decide +kernel, ⟨by decide +kernel, by decide +kernel⟩, mt_at 59 rfl, 3, by decide +kernel, Or.inl ⟨rfl, rfl, mt_at 700 rfl, ⟨_, _, rfl⟩, mt_at 701 rfl, Or.inl (mt_at 699 rfl)⟩⟩
set_option maxRecDepth 20000 in
theorem kl_8_18 : xm_cow pg ng xm_vc "MachineMakerLaw" 18 18 2 0 0 := ⟨mt_at 340 rfl, by decide +kernel, ⟨by decide +kernel, by decide +kernel⟩, mt_at 50 rfl, 1, by decide +kernel, Or.inl ⟨rfl, rfl, mt_at 338 rfl, ⟨_, _, rfl⟩, mt_at 339 rfl, Or.inl (mt_at 337 rfl)⟩⟩
set_option maxRecDepth 20000 in
theorem kl_8_22 : xm_cow pg ng xm_vc "MachineMakerLaw" 22 84 2 0 8 := ⟨mt_at 717 rfl, by decide +kernel, ⟨by decide +kernel, by decide +kernel⟩, mt_at 59 rfl, 1, by decide +kernel, Or.inl ⟨rfl, rfl, mt_at 715 rfl, ⟨_, _, rfl⟩, mt_at 716 rfl, Or.inl (mt_at 714 rfl)⟩⟩
set_option maxRecDepth 20000 in
theorem kl_8_23 : xm_cow pg ng xm_vc "MachineMakerLaw" 23 20 1 0 0 := ⟨mt_at 353 rfl, by decide +kernel, ⟨by decide +kernel, by decide +kernel⟩, mt_at 50 rfl, 0, by decide +kernel, Or.inl ⟨rfl, rfl, mt_at 351 rfl, ⟨_, _, rfl⟩, mt_at 352 rfl, Or.inl (mt_at 350 rfl)⟩⟩
set_option maxRecDepth 20000 in
theorem kl_8_27 : xm_cow pg ng xm_vc "MachineMakerLaw" 27 86 1 0 8 := ⟨mt_at 724 rfl, by decide +kernel, ⟨by decide +kernel, by decide +kernel⟩, mt_at 59 rfl, 0, by decide +kernel, Or.inl ⟨rfl, rfl, mt_at 722 rfl, ⟨_, _, rfl⟩, mt_at 723 rfl, Or.inl (mt_at 721 rfl)⟩⟩
set_option maxRecDepth 20000 in
theorem kl_8_30 : xm_cow pg ng xm_vc "MachineMakerLaw" 30 21 6 0 0 := ⟨mt_at 357 rfl, by decide +kernel, ⟨by decide +kernel, by decide +kernel⟩, mt_at 50 rfl, 5, by decide +kernel, Or.inl ⟨rfl, rfl, mt_at 355 rfl, ⟨_, _, rfl⟩, mt_at 356 rfl, Or.inl (mt_at 354 rfl)⟩⟩
set_option maxRecDepth 20000 in
theorem kl_8_34 : xm_cow pg ng xm_vc "MachineMakerLaw" 34 87 6 0 8 := ⟨mt_at 728 rfl, by decide +kernel, ⟨by decide +kernel, by decide +kernel⟩, mt_at 59 rfl, 5, by decide +kernel, Or.inl ⟨rfl, rfl, mt_at 726 rfl, ⟨_, _, rfl⟩, mt_at 727 rfl, Or.inl (mt_at 725 rfl)⟩⟩
set_option maxRecDepth 20000 in
theorem kl_8_35 : xm_cow pg ng xm_vc "MachineMakerLaw" 35 31 3 0 0 := ⟨mt_at 397 rfl, by decide +kernel, ⟨by decide +kernel, by decide +kernel⟩, mt_at 50 rfl, 2, by decide +kernel, Or.inl ⟨rfl, rfl, mt_at 395 rfl, ⟨_, _, rfl⟩, mt_at 396 rfl, Or.inl (mt_at 394 rfl)⟩⟩
set_option maxRecDepth 20000 in
theorem kl_8_39 : xm_cow pg ng xm_vc "MachineMakerLaw" 39 91 3 0 8 := ⟨mt_at 744 rfl, by decide +kernel, ⟨by decide +kernel, by decide +kernel⟩, mt_at 59 rfl, 2, by decide +kernel, Or.inl ⟨rfl, rfl, mt_at 742 rfl, ⟨_, _, rfl⟩, mt_at 743 rfl, Or.inl (mt_at 741 rfl)⟩⟩
set_option maxRecDepth 20000 in
theorem kl_8_40 : xm_cow pg ng xm_vc "MachineMakerLaw" 40 45 2 0 0 := ⟨mt_at 460 rfl, by decide +kernel, ⟨by decide +kernel, by decide +kernel⟩, mt_at 50 rfl, 1, by decide +kernel, Or.inl ⟨rfl, rfl, mt_at 458 rfl, ⟨_, _, rfl⟩, mt_at 459 rfl, Or.inl (mt_at 457 rfl)⟩⟩
set_option maxRecDepth 20000 in
theorem kl_8_43 : xm_cow pg ng xm_vc "MachineMakerLaw" 43 97 2 0 8 := ⟨mt_at 768 rfl, by decide +kernel, ⟨by decide +kernel, by decide +kernel⟩, mt_at 59 rfl, 1, by decide +kernel, Or.inl ⟨rfl, rfl, mt_at 766 rfl, ⟨_, _, rfl⟩, mt_at 767 rfl, Or.inl (mt_at 765 rfl)⟩⟩
set_option maxRecDepth 20000 in
theorem kl_8_44 : xm_cow pg ng xm_vc "MachineMakerLaw" 44 54 3 0 0 := ⟨mt_at 497 rfl, by decide +kernel, ⟨by decide +kernel, by decide +kernel⟩, mt_at 50 rfl, 2, by decide +kernel, Or.inl ⟨rfl, rfl, mt_at 495 rfl, ⟨_, _, rfl⟩, mt_at 496 rfl, Or.inl (mt_at 494 rfl)⟩⟩
set_option maxRecDepth 20000 in
theorem kl_8_47 : xm_cow pg ng xm_vc "MachineMakerLaw" 47 104 3 0 8 := ⟨mt_at 797 rfl, by decide +kernel, ⟨by decide +kernel, by decide +kernel⟩, mt_at 59 rfl, 2, by decide +kernel, Or.inl ⟨rfl, rfl, mt_at 795 rfl, ⟨_, _, rfl⟩, mt_at 796 rfl, Or.inl (mt_at 794 rfl)⟩⟩
set_option maxRecDepth 20000 in
theorem kl_8_48 : xm_cow pg ng xm_vc "MachineMakerLaw" 48 74 2 0 0 := ⟨mt_at 580 rfl, by decide +kernel, ⟨by decide +kernel, by decide +kernel⟩, mt_at 50 rfl, 1, by decide +kernel, Or.inl ⟨rfl, rfl, mt_at 578 rfl, ⟨_, _, rfl⟩, mt_at 579 rfl, Or.inl (mt_at 577 rfl)⟩⟩
set_option maxRecDepth 20000 in
theorem kl_8_51 : xm_cow pg ng xm_vc "MachineMakerLaw" 51 116 2 0 8 := ⟨mt_at 847 rfl, by decide +kernel, ⟨by decide +kernel, by decide +kernel⟩, mt_at 59 rfl, 1, by decide +kernel, Or.inl ⟨rfl, rfl, mt_at 845 rfl, ⟨_, _, rfl⟩, mt_at 846 rfl, Or.inl (mt_at 844 rfl)⟩⟩
set_option maxRecDepth 20000 in
theorem kl_8_52 : xm_cow pg ng xm_vc "MachineMakerLaw" 52 75 3 0 0 := ⟨mt_at 584 rfl, by decide +kernel, ⟨by decide +kernel, by decide +kernel⟩, mt_at 50 rfl, 2, by decide +kernel, Or.inl ⟨rfl, rfl, mt_at 582 rfl, ⟨_, _, rfl⟩, mt_at 583 rfl, Or.inl (mt_at 581 rfl)⟩⟩
set_option maxRecDepth 20000 in
theorem kl_8_55 : xm_cow pg ng xm_vc "MachineMakerLaw" 55 117 3 0 8 := ⟨mt_at 851 rfl, by decide +kernel, ⟨by decide +kernel, by decide +kernel⟩, mt_at 59 rfl, 2, by decide +kernel, Or.inl ⟨rfl, rfl, mt_at 849 rfl, ⟨_, _, rfl⟩, mt_at 850 rfl, Or.inl (mt_at 848 rfl)⟩⟩
set_option maxRecDepth 20000 in
theorem kl_8_56 : xm_cow pg ng xm_vc "MachineMakerLaw" 56 78 3 0 0 := ⟨mt_at 595 rfl, by decide +kernel, ⟨by decide +kernel, by decide +kernel⟩, mt_at 50 rfl, 2, by decide +kernel, Or.inl ⟨rfl, rfl, mt_at 593 rfl, ⟨_, _, rfl⟩, mt_at 594 rfl, Or.inl (mt_at 592 rfl)⟩⟩
set_option maxRecDepth 20000 in
theorem kl_8_59 : xm_cow pg ng xm_vc "MachineMakerLaw" 59 119 3 0 8 := ⟨mt_at 859 rfl, by decide +kernel, ⟨by decide +kernel, by decide +kernel⟩, mt_at 59 rfl, 2, by decide +kernel, Or.inl ⟨rfl, rfl, mt_at 857 rfl, ⟨_, _, rfl⟩, mt_at 858 rfl, Or.inl (mt_at 856 rfl)⟩⟩
set_option maxRecDepth 20000 in
theorem km_8 : ∀ e ∈ kl_8, xm_cow pg ng xm_vc "MachineMakerLaw" e.1 e.2.1 e.2.2.1 e.2.2.2.1 e.2.2.2.2 := fc_cons kl_8_9 (fc_cons kl_8_12 (fc_cons kl_8_13 (fc_cons kl_8_17 (fc_cons kl_8_18 (fc_cons kl_8_22 (fc_cons kl_8_23 (fc_cons kl_8_27 (fc_cons kl_8_30 (fc_cons kl_8_34 (fc_cons kl_8_35 (fc_cons kl_8_39 (fc_cons kl_8_40 (fc_cons kl_8_43 (fc_cons kl_8_44 (fc_cons kl_8_47 (fc_cons kl_8_48 (fc_cons kl_8_51 (fc_cons kl_8_52 (fc_cons kl_8_55 (fc_cons kl_8_56 (fc_cons kl_8_59 (fc_nil))))))))))))))))))))))
set_option maxRecDepth 20000 in
theorem ki_9 : ∀ e ∈ kc_9, ∀ v, e.2 = xv_i v → Jvm.Cond.constant "MachineMakerModel" e.1 v ∈ xm_tg := fc_cons (fun v h => by cases h) (fc_cons (fun v h => by cases h) (fc_cons (fun v h => by cases h) (fc_cons (fun v h => by cases h) (fc_nil))))
set_option maxRecDepth 20000 in
theorem kj_9 : ∀ e ∈ kc_9, ∀ v, e.2 = xv_l v → Jvm.Cond.constantLong "MachineMakerModel" e.1 v ∈ xm_tg := fc_cons (fun v h => by cases h; exact mt_at 733 rfl) (fc_cons (fun v h => by cases h; exact mt_at 793 rfl) (fc_cons (fun v h => by cases h; exact mt_at 814 rfl) (fc_cons (fun v h => by cases h; exact mt_at 815 rfl) (fc_nil))))
set_option maxRecDepth 20000 in
theorem kf_9_7 : xm_fok "MachineMakerModel" xm_tg xm_vc 7 8 1 2 := ⟨"MachineMakerModel", vT_8, 32, vY_8, rfl, by decide, vW_8, vD_8, vN_8, Or.inl (mt_at 603 rfl), Or.inr (Or.inr (Or.inl ⟨rfl, Or.inr ⟨_, rfl⟩, rfl⟩))⟩
set_option maxRecDepth 20000 in
theorem kf_9_13 : xm_fok "MachineMakerModel" xm_tg xm_vc 13 8 2 2 := ⟨"MachineMakerModel", vT_8, 32, vY_8, rfl, by decide, vW_8, vD_8, vN_8, Or.inl (mt_at 604 rfl), Or.inr (Or.inr (Or.inl ⟨rfl, Or.inr ⟨_, rfl⟩, rfl⟩))⟩
set_option maxRecDepth 20000 in
theorem kf_9_16 : xm_fok "MachineMakerModel" xm_tg xm_vc 16 8 3 2 := ⟨"MachineMakerModel", vT_8, 32, vY_8, rfl, by decide, vW_8, vD_8, vN_8, Or.inl (mt_at 605 rfl), Or.inr (Or.inr (Or.inl ⟨rfl, Or.inr ⟨_, rfl⟩, rfl⟩))⟩
set_option maxRecDepth 20000 in
theorem kf_9_19 : xm_fok "MachineMakerModel" xm_tg xm_vc 19 8 4 2 := ⟨"MachineMakerModel", vT_8, 32, vY_8, rfl, by decide, vW_8, vD_8, vN_8, Or.inl (mt_at 606 rfl), Or.inr (Or.inr (Or.inl ⟨rfl, Or.inr ⟨_, rfl⟩, rfl⟩))⟩
set_option maxRecDepth 20000 in
theorem kf_9_22 : xm_fok "MachineMakerModel" xm_tg xm_vc 22 8 5 2 := ⟨"MachineMakerModel", vT_8, 32, vY_8, rfl, by decide, vW_8, vD_8, vN_8, Or.inl (mt_at 607 rfl), Or.inr (Or.inr (Or.inl ⟨rfl, Or.inr ⟨_, rfl⟩, rfl⟩))⟩
set_option maxRecDepth 20000 in
theorem kf_9_25 : xm_fok "MachineMakerModel" xm_tg xm_vc 25 8 6 2 := ⟨"MachineMakerModel", vT_8, 32, vY_8, rfl, by decide, vW_8, vD_8, vN_8, Or.inl (mt_at 608 rfl), Or.inr (Or.inr (Or.inl ⟨rfl, Or.inr ⟨_, rfl⟩, rfl⟩))⟩
set_option maxRecDepth 20000 in
theorem kf_9_29 : xm_fok "MachineMakerModel" xm_tg xm_vc 29 8 7 2 := ⟨"MachineMakerModel", vT_8, 32, vY_8, rfl, by decide, vW_8, vD_8, vN_8, Or.inl (mt_at 609 rfl), Or.inr (Or.inr (Or.inl ⟨rfl, Or.inr ⟨_, rfl⟩, rfl⟩))⟩
set_option maxRecDepth 20000 in
theorem kf_9_32 : xm_fok "MachineMakerModel" xm_tg xm_vc 32 8 8 2 := ⟨"MachineMakerModel", vT_8, 32, vY_8, rfl, by decide, vW_8, vD_8, vN_8, Or.inl (mt_at 610 rfl), Or.inr (Or.inr (Or.inl ⟨rfl, Or.inr ⟨_, rfl⟩, rfl⟩))⟩
set_option maxRecDepth 20000 in
theorem kf_9_35 : xm_fok "MachineMakerModel" xm_tg xm_vc 35 8 10 2 := ⟨"MachineMakerModel", vT_8, 32, vY_8, rfl, by decide, vW_8, vD_8, vN_8, Or.inl (mt_at 612 rfl), Or.inr (Or.inr (Or.inl ⟨rfl, Or.inr ⟨_, rfl⟩, rfl⟩))⟩
set_option maxRecDepth 20000 in
theorem kf_9_38 : xm_fok "MachineMakerModel" xm_tg xm_vc 38 8 12 2 := ⟨"MachineMakerModel", vT_8, 32, vY_8, rfl, by decide, vW_8, vD_8, vN_8, Or.inl (mt_at 614 rfl), Or.inr (Or.inr (Or.inl ⟨rfl, Or.inr ⟨_, rfl⟩, rfl⟩))⟩
set_option maxRecDepth 20000 in
theorem kf_9_41 : xm_fok "MachineMakerModel" xm_tg xm_vc 41 8 13 2 := ⟨"MachineMakerModel", vT_8, 32, vY_8, rfl, by decide, vW_8, vD_8, vN_8, Or.inl (mt_at 615 rfl), Or.inr (Or.inr (Or.inl ⟨rfl, Or.inr ⟨_, rfl⟩, rfl⟩))⟩
set_option maxRecDepth 20000 in
theorem kf_9_44 : xm_fok "MachineMakerModel" xm_tg xm_vc 44 8 14 2 := ⟨"MachineMakerModel", vT_8, 32, vY_8, rfl, by decide, vW_8, vD_8, vN_8, Or.inl (mt_at 616 rfl), Or.inr (Or.inr (Or.inl ⟨rfl, Or.inr ⟨_, rfl⟩, rfl⟩))⟩
set_option maxRecDepth 20000 in
theorem kf_9_47 : xm_fok "MachineMakerModel" xm_tg xm_vc 47 8 15 2 := ⟨"MachineMakerModel", vT_8, 32, vY_8, rfl, by decide, vW_8, vD_8, vN_8, Or.inl (mt_at 617 rfl), Or.inr (Or.inr (Or.inl ⟨rfl, Or.inr ⟨_, rfl⟩, rfl⟩))⟩
set_option maxRecDepth 20000 in
theorem kf_9_50 : xm_fok "MachineMakerModel" xm_tg xm_vc 50 8 16 2 := ⟨"MachineMakerModel", vT_8, 32, vY_8, rfl, by decide, vW_8, vD_8, vN_8, Or.inl (mt_at 618 rfl), Or.inr (Or.inr (Or.inl ⟨rfl, Or.inr ⟨_, rfl⟩, rfl⟩))⟩
set_option maxRecDepth 20000 in
theorem kf_9_53 : xm_fok "MachineMakerModel" xm_tg xm_vc 53 8 19 2 := ⟨"MachineMakerModel", vT_8, 32, vY_8, rfl, by decide, vW_8, vD_8, vN_8, Or.inl (mt_at 621 rfl), Or.inr (Or.inr (Or.inl ⟨rfl, Or.inr ⟨_, rfl⟩, rfl⟩))⟩
set_option maxRecDepth 20000 in
theorem kf_9_56 : xm_fok "MachineMakerModel" xm_tg xm_vc 56 8 20 2 := ⟨"MachineMakerModel", vT_8, 32, vY_8, rfl, by decide, vW_8, vD_8, vN_8, Or.inl (mt_at 622 rfl), Or.inr (Or.inr (Or.inl ⟨rfl, Or.inr ⟨_, rfl⟩, rfl⟩))⟩
set_option maxRecDepth 20000 in
theorem kf_9_59 : xm_fok "MachineMakerModel" xm_tg xm_vc 59 8 21 2 := ⟨"MachineMakerModel", vT_8, 32, vY_8, rfl, by decide, vW_8, vD_8, vN_8, Or.inl (mt_at 623 rfl), Or.inr (Or.inr (Or.inl ⟨rfl, Or.inr ⟨_, rfl⟩, rfl⟩))⟩
set_option maxRecDepth 20000 in
theorem kf_9_63 : xm_fok "MachineMakerModel" xm_tg xm_vc 63 8 27 2 := ⟨"MachineMakerModel", vT_8, 32, vY_8, rfl, by decide, vW_8, vD_8, vN_8, Or.inl (mt_at 629 rfl), Or.inr (Or.inr (Or.inl ⟨rfl, Or.inr ⟨_, rfl⟩, rfl⟩))⟩
set_option maxRecDepth 20000 in
theorem kf_9_66 : xm_fok "MachineMakerModel" xm_tg xm_vc 66 8 28 2 := ⟨"MachineMakerModel", vT_8, 32, vY_8, rfl, by decide, vW_8, vD_8, vN_8, Or.inl (mt_at 630 rfl), Or.inr (Or.inr (Or.inl ⟨rfl, Or.inr ⟨_, rfl⟩, rfl⟩))⟩
set_option maxRecDepth 20000 in
theorem kf_9_69 : xm_fok "MachineMakerModel" xm_tg xm_vc 69 8 29 2 := ⟨"MachineMakerModel", vT_8, 32, vY_8, rfl, by decide, vW_8, vD_8, vN_8, Or.inl (mt_at 631 rfl), Or.inr (Or.inr (Or.inl ⟨rfl, Or.inr ⟨_, rfl⟩, rfl⟩))⟩
set_option maxRecDepth 20000 in
theorem kf_9_72 : xm_fok "MachineMakerModel" xm_tg xm_vc 72 8 30 2 := ⟨"MachineMakerModel", vT_8, 32, vY_8, rfl, by decide, vW_8, vD_8, vN_8, Or.inl (mt_at 632 rfl), Or.inr (Or.inr (Or.inl ⟨rfl, Or.inr ⟨_, rfl⟩, rfl⟩))⟩
set_option maxRecDepth 20000 in
theorem kf_9_75 : xm_fok "MachineMakerModel" xm_tg xm_vc 75 8 31 2 := ⟨"MachineMakerModel", vT_8, 32, vY_8, rfl, by decide, vW_8, vD_8, vN_8, Or.inl (mt_at 633 rfl), Or.inr (Or.inr (Or.inl ⟨rfl, Or.inr ⟨_, rfl⟩, rfl⟩))⟩
set_option maxRecDepth 20000 in
theorem kf_9_78 : xm_fok "MachineMakerModel" xm_tg xm_vc 78 8 0 0 := ⟨"MachineMakerModel", vT_8, 32, vY_8, rfl, by decide, vW_8, vD_8, vN_8, Or.inl (mt_at 602 rfl), Or.inl ⟨rfl, rfl, rfl⟩⟩
set_option maxRecDepth 20000 in
theorem kf_9_129 : xm_fok "MachineMakerModel" xm_tg xm_vc 129 8 9 0 := ⟨"MachineMakerModel", vT_8, 32, vY_8, rfl, by decide, vW_8, vD_8, vN_8, Or.inl (mt_at 611 rfl), Or.inl ⟨rfl, rfl, rfl⟩⟩
set_option maxRecDepth 20000 in
theorem kf_9_135 : xm_fok "MachineMakerModel" xm_tg xm_vc 135 8 17 0 := ⟨"MachineMakerModel", vT_8, 32, vY_8, rfl, by decide, vW_8, vD_8, vN_8, Or.inl (mt_at 619 rfl), Or.inl ⟨rfl, rfl, rfl⟩⟩
set_option maxRecDepth 20000 in
theorem kf_9_138 : xm_fok "MachineMakerModel" xm_tg xm_vc 138 8 11 0 := ⟨"MachineMakerModel", vT_8, 32, vY_8, rfl, by decide, vW_8, vD_8, vN_8, Or.inl (mt_at 613 rfl), Or.inl ⟨rfl, rfl, rfl⟩⟩
set_option maxRecDepth 20000 in
theorem kf_9_168 : xm_fok "MachineMakerModel" xm_tg xm_vc 168 8 18 0 := ⟨"MachineMakerModel", vT_8, 32, vY_8, rfl, by decide, vW_8, vD_8, vN_8, Or.inl (mt_at 620 rfl), Or.inl ⟨rfl, rfl, rfl⟩⟩
set_option maxRecDepth 20000 in
theorem kf_9_192 : xm_fok "MachineMakerModel" xm_tg xm_vc 192 8 22 0 := ⟨"MachineMakerModel", vT_8, 32, vY_8, rfl, by decide, vW_8, vD_8, vN_8, Or.inl (mt_at 624 rfl), Or.inl ⟨rfl, rfl, rfl⟩⟩
set_option maxRecDepth 20000 in
theorem kf_9_195 : xm_fok "MachineMakerModel" xm_tg xm_vc 195 8 24 0 := ⟨"MachineMakerModel", vT_8, 32, vY_8, rfl, by decide, vW_8, vD_8, vN_8, Or.inl (mt_at 626 rfl), Or.inl ⟨rfl, rfl, rfl⟩⟩
set_option maxRecDepth 20000 in
theorem kf_9_198 : xm_fok "MachineMakerModel" xm_tg xm_vc 198 8 23 0 := ⟨"MachineMakerModel", vT_8, 32, vY_8, rfl, by decide, vW_8, vD_8, vN_8, Or.inl (mt_at 625 rfl), Or.inl ⟨rfl, rfl, rfl⟩⟩
set_option maxRecDepth 20000 in
theorem kf_9_201 : xm_fok "MachineMakerModel" xm_tg xm_vc 201 8 25 0 := ⟨"MachineMakerModel", vT_8, 32, vY_8, rfl, by decide, vW_8, vD_8, vN_8, Or.inl (mt_at 627 rfl), Or.inl ⟨rfl, rfl, rfl⟩⟩
set_option maxRecDepth 20000 in
theorem kf_9_204 : xm_fok "MachineMakerModel" xm_tg xm_vc 204 8 26 0 := ⟨"MachineMakerModel", vT_8, 32, vY_8, rfl, by decide, vW_8, vD_8, vN_8, Or.inl (mt_at 628 rfl), Or.inl ⟨rfl, rfl, rfl⟩⟩
set_option maxRecDepth 20000 in
theorem kg_9 : ∀ e ∈ kf_9, xm_fok "MachineMakerModel" xm_tg xm_vc e.1 e.2.1 e.2.2.1 e.2.2.2 := fc_cons kf_9_7 (fc_cons kf_9_13 (fc_cons kf_9_16 (fc_cons kf_9_19 (fc_cons kf_9_22 (fc_cons kf_9_25 (fc_cons kf_9_29 (fc_cons kf_9_32 (fc_cons kf_9_35 (fc_cons kf_9_38 (fc_cons kf_9_41 (fc_cons kf_9_44 (fc_cons kf_9_47 (fc_cons kf_9_50 (fc_cons kf_9_53 (fc_cons kf_9_56 (fc_cons kf_9_59 (fc_cons kf_9_63 (fc_cons kf_9_66 (fc_cons kf_9_69 (fc_cons kf_9_72 (fc_cons kf_9_75 (fc_cons kf_9_78 (fc_cons kf_9_129 (fc_cons kf_9_135 (fc_cons kf_9_138 (fc_cons kf_9_168 (fc_cons kf_9_192 (fc_cons kf_9_195 (fc_cons kf_9_198 (fc_cons kf_9_201 (fc_cons kf_9_204 (fc_nil))))))))))))))))))))))))))))))))
set_option maxRecDepth 20000 in
theorem kp_9 : ∀ e ∈ kn_9, xm_nok "MachineMakerModel" xm_tg xm_vc e.1 e.2.1 e.2.2 := fc_nil
set_option maxRecDepth 20000 in
theorem kt_9 : ∀ e ∈ ks_9, e.2 = 1 ∧ Cond.fieldLink "MachineMakerModel" e.1 "MachineMaker$Book" "DUAL_KINDS" "[I" ∈ xm_tg := fc_nil
set_option maxRecDepth 20000 in
theorem kx_9_ok : ∀ e ∈ kx_9, (e.2 = 2 → Cond.methodLink "MachineMakerModel" e.1 objectInit ∈ xm_tg) ∧ (e.2 = 1 → Cond.methodLink "MachineMakerModel" e.1 arraycopyName ∈ xm_tg) ∧ (e.2 = 3 → Cond.methodLink "MachineMakerModel" e.1 Lib.Math.min.name ∈ xm_tg) := fc_cons ⟨fun _ => mt_at 601 rfl, fun h => (by cases h), fun h => (by cases h)⟩ (fc_nil)
set_option maxRecDepth 20000 in
theorem kl_9_82 : xm_cow pg ng xm_vc "MachineMakerModel" 82 81 2 0 8 := ⟨mt_at 706 rfl, by decide +kernel, ⟨by decide +kernel, by decide +kernel⟩, mt_at 59 rfl, 1, by decide +kernel, Or.inl ⟨rfl, rfl, mt_at 705 rfl, ⟨_, _, rfl⟩, mt_at 23 rfl, Or.inl (mt_at 703 rfl)⟩⟩
set_option maxRecDepth 20000 in
theorem kl_9_86 : xm_cow pg ng xm_vc "MachineMakerModel" 86 82 1 1 0 := ⟨mt_at 709 rfl, by decide +kernel, ⟨by decide +kernel, by decide +kernel⟩, mt_at 59 rfl, 1, by decide +kernel, Or.inr (Or.inl ⟨rfl, rfl, mt_at 708 rfl, mt_at 707 rfl⟩)⟩
set_option maxRecDepth 20000 in
theorem kl_9_89 : xm_cow pg ng xm_vc "MachineMakerModel" 89 83 4 0 8 := ⟨mt_at 713 rfl, by decide +kernel, ⟨by decide +kernel, by decide +kernel⟩, mt_at 59 rfl, 3, by decide +kernel, Or.inl ⟨rfl, rfl, mt_at 712 rfl, ⟨_, _, rfl⟩, mt_at 24 rfl, Or.inl (mt_at 710 rfl)⟩⟩
set_option maxRecDepth 20000 in
theorem kl_9_93 : xm_cow pg ng xm_vc "MachineMakerModel" 93 85 1 1 0 := ⟨mt_at 720 rfl, by decide +kernel, ⟨by decide +kernel, by decide +kernel⟩, mt_at 59 rfl, 1, by decide +kernel, Or.inr (Or.inl ⟨rfl, rfl, mt_at 719 rfl, mt_at 718 rfl⟩)⟩
set_option maxRecDepth 20000 in
theorem kl_9_99 : xm_cow pg ng xm_vc "MachineMakerModel" 99 89 3 1 0 := ⟨mt_at 736 rfl, by decide +kernel, ⟨by decide +kernel, by decide +kernel⟩, mt_at 59 rfl, 3, by decide +kernel, Or.inr (Or.inl ⟨rfl, rfl, mt_at 735 rfl, mt_at 734 rfl⟩)⟩
set_option maxRecDepth 20000 in
theorem kl_9_102 : xm_cow pg ng xm_vc "MachineMakerModel" 102 88 5 0 8 := ⟨mt_at 732 rfl, by decide +kernel, ⟨by decide +kernel, by decide +kernel⟩, mt_at 59 rfl, 4, by decide +kernel, Or.inl ⟨rfl, rfl, mt_at 731 rfl, ⟨_, _, rfl⟩, mt_at 25 rfl, Or.inl (mt_at 729 rfl)⟩⟩
set_option maxRecDepth 20000 in
theorem kl_9_106 : xm_cow pg ng xm_vc "MachineMakerModel" 106 90 6 0 8 := ⟨mt_at 740 rfl, by decide +kernel, ⟨by decide +kernel, by decide +kernel⟩, mt_at 59 rfl, 5, by decide +kernel, Or.inl ⟨rfl, rfl, mt_at 739 rfl, ⟨_, _, rfl⟩, mt_at 26 rfl, Or.inl (mt_at 737 rfl)⟩⟩
set_option maxRecDepth 20000 in
theorem kl_9_110 : xm_cow pg ng xm_vc "MachineMakerModel" 110 94 3 0 8 := ⟨mt_at 756 rfl, by decide +kernel, ⟨by decide +kernel, by decide +kernel⟩, mt_at 59 rfl, 2, by decide +kernel, Or.inl ⟨rfl, rfl, mt_at 755 rfl, ⟨_, _, rfl⟩, mt_at 29 rfl, Or.inl (mt_at 753 rfl)⟩⟩
set_option maxRecDepth 20000 in
theorem kl_9_114 : xm_cow pg ng xm_vc "MachineMakerModel" 114 95 4 0 8 := ⟨mt_at 760 rfl, by decide +kernel, ⟨by decide +kernel, by decide +kernel⟩, mt_at 59 rfl, 3, by decide +kernel, Or.inl ⟨rfl, rfl, mt_at 759 rfl, ⟨_, _, rfl⟩, mt_at 30 rfl, Or.inl (mt_at 757 rfl)⟩⟩
set_option maxRecDepth 20000 in
theorem kl_9_118 : xm_cow pg ng xm_vc "MachineMakerModel" 118 96 4 0 8 := ⟨mt_at 764 rfl, by decide +kernel, ⟨by decide +kernel, by decide +kernel⟩, mt_at 59 rfl, 3, by decide +kernel, Or.inl ⟨rfl, rfl, mt_at 763 rfl, ⟨_, _, rfl⟩, mt_at 31 rfl, Or.inl (mt_at 761 rfl)⟩⟩
set_option maxRecDepth 20000 in
theorem kl_9_122 : xm_cow pg ng xm_vc "MachineMakerModel" 122 93 3 0 8 := ⟨mt_at 752 rfl, by decide +kernel, ⟨by decide +kernel, by decide +kernel⟩, mt_at 59 rfl, 2, by decide +kernel, Or.inl ⟨rfl, rfl, mt_at 751 rfl, ⟨_, _, rfl⟩, mt_at 28 rfl, Or.inl (mt_at 749 rfl)⟩⟩
set_option maxRecDepth 20000 in
theorem kl_9_126 : xm_cow pg ng xm_vc "MachineMakerModel" 126 92 3 0 8 := ⟨mt_at 748 rfl, by decide +kernel, ⟨by decide +kernel, by decide +kernel⟩, mt_at 59 rfl, 2, by decide +kernel, Or.inl ⟨rfl, rfl, mt_at 747 rfl, ⟨_, _, rfl⟩, mt_at 27 rfl, Or.inl (mt_at 745 rfl)⟩⟩
set_option maxRecDepth 20000 in
theorem kl_9_132 : xm_cow pg ng xm_vc "MachineMakerModel" 132 102 3 0 8 := ⟨mt_at 788 rfl, by decide +kernel, ⟨by decide +kernel, by decide +kernel⟩, mt_at 59 rfl, 2, by decide +kernel, Or.inl ⟨rfl, rfl, mt_at 787 rfl, ⟨_, _, rfl⟩, mt_at 36 rfl, Or.inl (mt_at 785 rfl)⟩⟩
set_option maxRecDepth 20000 in
theorem kl_9_143 : xm_cow pg ng xm_vc "MachineMakerModel" 143 100 3 0 8 := ⟨mt_at 780 rfl, by decide +kernel, ⟨by decide +kernel, by decide +kernel⟩, mt_at 59 rfl, 2, by decide +kernel, Or.inl ⟨rfl, rfl, mt_at 779 rfl, ⟨_, _, rfl⟩, mt_at 34 rfl, Or.inl (mt_at 777 rfl)⟩⟩
set_option maxRecDepth 20000 in
theorem kl_9_147 : xm_cow pg ng xm_vc "MachineMakerModel" 147 99 2 0 8 := ⟨mt_at 776 rfl, by decide +kernel, ⟨by decide +kernel, by decide +kernel⟩, mt_at 59 rfl, 1, by decide +kernel, Or.inl ⟨rfl, rfl, mt_at 775 rfl, ⟨_, _, rfl⟩, mt_at 33 rfl, Or.inl (mt_at 773 rfl)⟩⟩
set_option maxRecDepth 20000 in
theorem kl_9_151 : xm_cow pg ng xm_vc "MachineMakerModel" 151 101 2 0 8 := ⟨mt_at 784 rfl, by decide +kernel, ⟨by decide +kernel, by decide +kernel⟩, mt_at 59 rfl, 1, by decide +kernel, Or.inl ⟨rfl, rfl, mt_at 783 rfl, ⟨_, _, rfl⟩, mt_at 35 rfl, Or.inl (mt_at 781 rfl)⟩⟩
set_option maxRecDepth 20000 in
theorem kl_9_154 : xm_cow pg ng xm_vc "MachineMakerModel" 154 103 3 0 8 := ⟨mt_at 792 rfl, by decide +kernel, ⟨by decide +kernel, by decide +kernel⟩, mt_at 59 rfl, 2, by decide +kernel, Or.inl ⟨rfl, rfl, mt_at 791 rfl, ⟨_, _, rfl⟩, mt_at 37 rfl, Or.inl (mt_at 789 rfl)⟩⟩
set_option maxRecDepth 20000 in
theorem kl_9_157 : xm_cow pg ng xm_vc "MachineMakerModel" 157 98 2 0 8 := ⟨mt_at 772 rfl, by decide +kernel, ⟨by decide +kernel, by decide +kernel⟩, mt_at 59 rfl, 1, by decide +kernel, Or.inl ⟨rfl, rfl, mt_at 771 rfl, ⟨_, _, rfl⟩, mt_at 32 rfl, Or.inl (mt_at 769 rfl)⟩⟩
set_option maxRecDepth 20000 in
theorem kl_9_162 : xm_cow pg ng xm_vc "MachineMakerModel" 162 108 2 1 0 := ⟨mt_at 813 rfl, by decide +kernel, ⟨by decide +kernel, by decide +kernel⟩, mt_at 59 rfl, 2, by decide +kernel, Or.inr (Or.inl ⟨rfl, rfl, mt_at 812 rfl, mt_at 811 rfl⟩)⟩
set_option maxRecDepth 20000 in
theorem kl_9_171 : xm_cow pg ng xm_vc "MachineMakerModel" 171 106 2 0 8 := ⟨mt_at 806 rfl, by decide +kernel, ⟨by decide +kernel, by decide +kernel⟩, mt_at 59 rfl, 1, by decide +kernel, Or.inl ⟨rfl, rfl, mt_at 805 rfl, ⟨_, _, rfl⟩, mt_at 39 rfl, Or.inl (mt_at 803 rfl)⟩⟩
set_option maxRecDepth 20000 in
theorem kl_9_175 : xm_cow pg ng xm_vc "MachineMakerModel" 175 107 4 0 8 := ⟨mt_at 810 rfl, by decide +kernel, ⟨by decide +kernel, by decide +kernel⟩, mt_at 59 rfl, 3, by decide +kernel, Or.inl ⟨rfl, rfl, mt_at 809 rfl, ⟨_, _, rfl⟩, mt_at 40 rfl, Or.inl (mt_at 807 rfl)⟩⟩
set_option maxRecDepth 20000 in
theorem kl_9_179 : xm_cow pg ng xm_vc "MachineMakerModel" 179 112 2 0 8 := ⟨mt_at 831 rfl, by decide +kernel, ⟨by decide +kernel, by decide +kernel⟩, mt_at 59 rfl, 1, by decide +kernel, Or.inl ⟨rfl, rfl, mt_at 830 rfl, ⟨_, _, rfl⟩, mt_at 44 rfl, Or.inl (mt_at 828 rfl)⟩⟩
set_option maxRecDepth 20000 in
theorem kl_9_182 : xm_cow pg ng xm_vc "MachineMakerModel" 182 111 2 0 8 := ⟨mt_at 827 rfl, by decide +kernel, ⟨by decide +kernel, by decide +kernel⟩, mt_at 59 rfl, 1, by decide +kernel, Or.inl ⟨rfl, rfl, mt_at 826 rfl, ⟨_, _, rfl⟩, mt_at 43 rfl, Or.inl (mt_at 824 rfl)⟩⟩
set_option maxRecDepth 20000 in
theorem kl_9_185 : xm_cow pg ng xm_vc "MachineMakerModel" 185 113 3 0 8 := ⟨mt_at 835 rfl, by decide +kernel, ⟨by decide +kernel, by decide +kernel⟩, mt_at 59 rfl, 2, by decide +kernel, Or.inl ⟨rfl, rfl, mt_at 834 rfl, ⟨_, _, rfl⟩, mt_at 45 rfl, Or.inl (mt_at 832 rfl)⟩⟩
set_option maxRecDepth 20000 in
theorem kl_9_188 : xm_cow pg ng xm_vc "MachineMakerModel" 188 110 3 0 8 := ⟨mt_at 823 rfl, by decide +kernel, ⟨by decide +kernel, by decide +kernel⟩, mt_at 59 rfl, 2, by decide +kernel, Or.inl ⟨rfl, rfl, mt_at 822 rfl, ⟨_, _, rfl⟩, mt_at 42 rfl, Or.inl (mt_at 820 rfl)⟩⟩
set_option maxRecDepth 20000 in
theorem kl_9_207 : xm_cow pg ng xm_vc "MachineMakerModel" 207 115 2 0 8 := ⟨mt_at 843 rfl, by decide +kernel, ⟨by decide +kernel, by decide +kernel⟩, mt_at 59 rfl, 1, by decide +kernel, Or.inl ⟨rfl, rfl, mt_at 842 rfl, ⟨_, _, rfl⟩, mt_at 47 rfl, Or.inl (mt_at 840 rfl)⟩⟩
set_option maxRecDepth 20000 in
theorem kl_9_210 : xm_cow pg ng xm_vc "MachineMakerModel" 210 84 2 0 8 := ⟨mt_at 717 rfl, by decide +kernel, ⟨by decide +kernel, by decide +kernel⟩, mt_at 59 rfl, 1, by decide +kernel, Or.inl ⟨rfl, rfl, mt_at 715 rfl, ⟨_, _, rfl⟩, mt_at 716 rfl, Or.inl (mt_at 798 rfl)⟩⟩
set_option maxRecDepth 20000 in
theorem kl_9_213 : xm_cow pg ng xm_vc "MachineMakerModel" 213 105 2 0 8 := ⟨mt_at 802 rfl, by decide +kernel, ⟨by decide +kernel, by decide +kernel⟩, mt_at 59 rfl, 1, by decide +kernel, Or.inl ⟨rfl, rfl, mt_at 801 rfl, ⟨_, _, rfl⟩, mt_at 38 rfl, Or.inl (mt_at 799 rfl)⟩⟩
set_option maxRecDepth 20000 in
theorem kl_9_216 : xm_cow pg ng xm_vc "MachineMakerModel" 216 109 2 0 8 := ⟨mt_at 819 rfl, by decide +kernel, ⟨by decide +kernel, by decide +kernel⟩, mt_at 59 rfl, 1, by decide +kernel, Or.inl ⟨rfl, rfl, mt_at 818 rfl, ⟨_, _, rfl⟩, mt_at 41 rfl, Or.inl (mt_at 816 rfl)⟩⟩
set_option maxRecDepth 20000 in
theorem kl_9_220 : xm_cow pg ng xm_vc "MachineMakerModel" 220 114 2 0 8 := ⟨mt_at 839 rfl, by decide +kernel, ⟨by decide +kernel, by decide +kernel⟩, mt_at 59 rfl, 1, by decide +kernel, Or.inl ⟨rfl, rfl, mt_at 838 rfl, ⟨_, _, rfl⟩, mt_at 46 rfl, Or.inl (mt_at 836 rfl)⟩⟩
set_option maxRecDepth 20000 in
theorem kl_9_223 : xm_cow pg ng xm_vc "MachineMakerModel" 223 118 3 0 8 := ⟨mt_at 855 rfl, by decide +kernel, ⟨by decide +kernel, by decide +kernel⟩, mt_at 59 rfl, 2, by decide +kernel, Or.inl ⟨rfl, rfl, mt_at 854 rfl, ⟨_, _, rfl⟩, mt_at 48 rfl, Or.inl (mt_at 852 rfl)⟩⟩
set_option maxRecDepth 20000 in
theorem km_9 : ∀ e ∈ kl_9, xm_cow pg ng xm_vc "MachineMakerModel" e.1 e.2.1 e.2.2.1 e.2.2.2.1 e.2.2.2.2 := fc_cons kl_9_82 (fc_cons kl_9_86 (fc_cons kl_9_89 (fc_cons kl_9_93 (fc_cons kl_9_99 (fc_cons kl_9_102 (fc_cons kl_9_106 (fc_cons kl_9_110 (fc_cons kl_9_114 (fc_cons kl_9_118 (fc_cons kl_9_122 (fc_cons kl_9_126 (fc_cons kl_9_132 (fc_cons kl_9_143 (fc_cons kl_9_147 (fc_cons kl_9_151 (fc_cons kl_9_154 (fc_cons kl_9_157 (fc_cons kl_9_162 (fc_cons kl_9_171 (fc_cons kl_9_175 (fc_cons kl_9_179 (fc_cons kl_9_182 (fc_cons kl_9_185 (fc_cons kl_9_188 (fc_cons kl_9_207 (fc_cons kl_9_210 (fc_cons kl_9_213 (fc_cons kl_9_216 (fc_cons kl_9_220 (fc_cons kl_9_223 (fc_nil)))))))))))))))))))))))))))))))
set_option maxRecDepth 20000 in
theorem ki_10 : ∀ e ∈ kc_10, ∀ v, e.2 = xv_i v → Jvm.Cond.constant "java/lang/Math" e.1 v ∈ xm_tg := fc_nil
set_option maxRecDepth 20000 in
theorem kj_10 : ∀ e ∈ kc_10, ∀ v, e.2 = xv_l v → Jvm.Cond.constantLong "java/lang/Math" e.1 v ∈ xm_tg := fc_nil
set_option maxRecDepth 20000 in
theorem kg_10 : ∀ e ∈ kf_10, xm_fok "java/lang/Math" xm_tg xm_vc e.1 e.2.1 e.2.2.1 e.2.2.2 := fc_nil
set_option maxRecDepth 20000 in
theorem kp_10 : ∀ e ∈ kn_10, xm_nok "java/lang/Math" xm_tg xm_vc e.1 e.2.1 e.2.2 := fc_nil
set_option maxRecDepth 20000 in
theorem kt_10 : ∀ e ∈ ks_10, e.2 = 1 ∧ Cond.fieldLink "java/lang/Math" e.1 "MachineMaker$Book" "DUAL_KINDS" "[I" ∈ xm_tg := fc_nil
set_option maxRecDepth 20000 in
theorem kx_10_ok : ∀ e ∈ kx_10, (e.2 = 2 → Cond.methodLink "java/lang/Math" e.1 objectInit ∈ xm_tg) ∧ (e.2 = 1 → Cond.methodLink "java/lang/Math" e.1 arraycopyName ∈ xm_tg) ∧ (e.2 = 3 → Cond.methodLink "java/lang/Math" e.1 Lib.Math.min.name ∈ xm_tg) := fc_nil
set_option maxRecDepth 20000 in
theorem km_10 : ∀ e ∈ kl_10, xm_cow pg ng xm_vc "java/lang/Math" e.1 e.2.1 e.2.2.1 e.2.2.2.1 e.2.2.2.2 := fc_nil
set_option maxRecDepth 20000 in
theorem ki_11 : ∀ e ∈ kc_11, ∀ v, e.2 = xv_i v → Jvm.Cond.constant "java/util/Arrays" e.1 v ∈ xm_tg := fc_nil
set_option maxRecDepth 20000 in
theorem kj_11 : ∀ e ∈ kc_11, ∀ v, e.2 = xv_l v → Jvm.Cond.constantLong "java/util/Arrays" e.1 v ∈ xm_tg := fc_nil
set_option maxRecDepth 20000 in
theorem kg_11 : ∀ e ∈ kf_11, xm_fok "java/util/Arrays" xm_tg xm_vc e.1 e.2.1 e.2.2.1 e.2.2.2 := fc_nil
set_option maxRecDepth 20000 in
theorem kp_11 : ∀ e ∈ kn_11, xm_nok "java/util/Arrays" xm_tg xm_vc e.1 e.2.1 e.2.2 := fc_nil
set_option maxRecDepth 20000 in
theorem kt_11 : ∀ e ∈ ks_11, e.2 = 1 ∧ Cond.fieldLink "java/util/Arrays" e.1 "MachineMaker$Book" "DUAL_KINDS" "[I" ∈ xm_tg := fc_nil
set_option maxRecDepth 20000 in
theorem kx_11_ok : ∀ e ∈ kx_11, (e.2 = 2 → Cond.methodLink "java/util/Arrays" e.1 objectInit ∈ xm_tg) ∧ (e.2 = 1 → Cond.methodLink "java/util/Arrays" e.1 arraycopyName ∈ xm_tg) ∧ (e.2 = 3 → Cond.methodLink "java/util/Arrays" e.1 Lib.Math.min.name ∈ xm_tg) := fc_cons ⟨fun h => (by cases h), fun _ => mt_at 449 rfl, fun h => (by cases h)⟩ (fc_cons ⟨fun h => (by cases h), fun h => (by cases h), fun _ => mt_at 446 rfl⟩ (fc_nil))
set_option maxRecDepth 20000 in
theorem km_11 : ∀ e ∈ kl_11, xm_cow pg ng xm_vc "java/util/Arrays" e.1 e.2.1 e.2.2.1 e.2.2.2.1 e.2.2.2.2 := fc_nil
