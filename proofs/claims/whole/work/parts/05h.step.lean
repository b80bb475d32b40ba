/-! Steps of the group G are true of the machine. -/
section XSTEP
variable {p : Program} {l : Launch} {e : Env} {R : Room} {s : State} {m : MethodId} {args : Array Value} {below : List Frame} {meth : Method} {c : Code} {Q : State → Prop} {D : va_G} {cl : List vw_C} {ex : Nat → Nat} {A : Nat → Prop} {nL n0 : Nat} {ad0 : Nat → Nat} {ca0 : Nat → ClassId}
variable {own : String} {cc : ByteArray} {Ts : List Cond} {xt : Nat → Nat × (Nat → Int32)} {C0 S0 : Nat} {Y : xm_Y} {K : xm_K} {pc : Nat} {loc : xm_L} {st : List xm_V} {M : xm_M} {nc ns : Nat}
set_option maxHeartbeats 2000000 in
theorem xm_snd_new (F : xm_fx own cc nL Ts ex xt C0 S0 p R s m args c D cl A) (O : xm_yok own cc Ts cl Y) (hini : Y.2.2.2.2.2 0 = 9 → meth.name = "<init>") (hRf : 1 ≤ R.frames) (hRl : 100 ≤ R.locals)
    (hoi : (Cond.instanceMethod objectInit).before args s = true ∧ (Cond.code objectInit ⟨#[0xb1]⟩ 1 none).before args s = true)
    (har : (Cond.arrayClass .int).before args s = true ∧ (Cond.arrayClass .long).before args s = true ∧ (Cond.arrayClass .boolean).before args s = true)
    (hcy : (Cond.native arraycopyName).before args s = true ∧ (Cond.static arraycopyName).before args s = true ∧ (Cond.initialized "java/lang/System").before args s = true)
    (hmn : (Cond.static Lib.Math.min.name).before args s = true ∧ (Cond.initialized "java/lang/Math").before args s = true ∧ (Cond.code Lib.Math.min.name Lib.Math.min.code 2 (some .int)).before args s = true)
    (hst : ∀ ix q, Y.2.2.2.2.1 ix = some q → ∃ (C n d : String), va_Z C n d (.ref (ex q)) A s s.heap ∧ (Cond.fieldLink own ix C n d).before args s = true)
    (hr : ∀ a1 a2 a3 a4 a5 a6, K a1 a2 a3 a4 a5 a6 → a5 ≤ C0 ∧ a6 ≤ S0)
    (kk : ∀ a1 a2 a3 a4 a5 a6, K a1 a2 a3 a4 a5 a6 → xm_W1 p l e R s m args below meth c Q D cl ex A nL n0 ad0 ca0 a1 a2 a3 a4 a5 a6) (h : (∃ (ix : Nat) (ci : Nat) (fs : List xm_F) (pn : Nat), Y.1 pc = some (.new ix, pn) ∧ Y.2.2.2.1 ix = some (ci, fs) ∧ K pn loc (xv_r M.1.length :: st) (M.1 ++ [xt_o ci fs], xz_2 M.2.1 M.1.length 0, M.2.2) (nc + 1) (ns + fs.length))) : xm_W1 p l e R s m args below meth c Q D cl ex A nL n0 ad0 ca0 pc loc st M nc ns := by
  obtain ⟨hx, hb, hml, hown, hts, hK, hA, ⟨hRc, hRs⟩, hT⟩ := F
  obtain ⟨hdec, hkc, hkl, hfo, hno, hob, hcp, hmi⟩ := O
  intro ad ca ls H locs hn hag hl hs hm
  obtain ⟨ix, ci, fs, pn, hi, hY, h⟩ := h
  obtain ⟨ln, hd, hpn, hln⟩ := hdec pc _ hi
  dsimp only at hd hpn hln
  obtain rfl := xm_ln 2 hln rfl
  subst hpn
  obtain ⟨hc1, hs1⟩ := hr _ _ _ _ _ _ h
  obtain ⟨C, T, N, ty, hc, hin, hty, hcl, hinst, hinit, hNl, hdef, hdv⟩ := hno ix ci fs hY
  subst hNl
  refine va_new hx hb hts hin ty hty hown (hts _ hcl) (hts _ hinst) (hts _ hinit) hK hm.2.1 hm.2.2.1 hm.2.2.2.1 hA hc (fs := fs.mapIdx fun j f => xm_fw ad (xz_2 M.2.1 M.1.length 0) M.1.length j f) (fun j hj => hdv j hj ad _ _ (fun b => by simp [xz_2])) (Nat.le_trans hc1 hRc) (Nat.le_trans hs1 hRs) hd (fun q H1 hP hD hS => ?_)
  have e1 : (fs.mapIdx fun j f => xm_fw ad (xz_2 M.2.1 M.1.length 0) M.1.length j f) = fs.mapIdx fun j f => xm_fw (va_up ad M.1.length q) (xz_2 M.2.1 M.1.length 0) M.1.length j f := xm_map_congr fun j f hf => by
    rcases hdef f (List.mem_of_getElem? hf) with rfl | rfl <;> rfl
  rw [← xm_st_up (q := q) hs]
  have he : (Sum.inr (ci, fs.mapIdx fun j f => xm_fw ad (xz_2 M.2.1 M.1.length 0) M.1.length j f) : va_E) = xm_e (va_up ad M.1.length q) ca (xz_2 M.2.1 M.1.length 0) M.2.2 M.1.length (xt_o ci fs) := by rw [e1]; rfl
  have hm2 := xm_push (t := xt_o ci fs) hm (fun _ _ => rfl) (fun a ha => xm_xz_k (x := (0 : Int32)) a ha) (fun _ _ => rfl) (fun ci' fs' e f hf => by injection e with e; obtain ⟨-, rfl⟩ := Prod.mk.inj e; exact hdef f hf) (fun _ q => by cases q) he hP hD hS
  have hw := kk _ _ _ _ _ _ h (va_up ad M.1.length q) ca ls H1 locs (by rw [List.length_append]; exact Nat.le_add_right_of_le hn) (fun k hk => ⟨by rw [← (hag k hk).1]; simp [va_up, Nat.ne_of_lt (Nat.lt_of_lt_of_le hk hn)], (hag k hk).2⟩) (by rw [List.length_append]; exact hl.up) (by rw [List.length_append]; exact xm_hs_push (Nat.lt_succ_self _) (xm_hs.up hs (Nat.le_succ _))) hm2
  have eq : xm_v (va_up ad M.1.length q) ex (xv_r M.1.length) = .ref q := by show Value.ref _ = _; simp [va_up]
  rw [List.map_cons, eq] at hw
  exact hw
set_option maxHeartbeats 2000000 in
theorem xm_snd_newa0 (F : xm_fx own cc nL Ts ex xt C0 S0 p R s m args c D cl A) (O : xm_yok own cc Ts cl Y) (hini : Y.2.2.2.2.2 0 = 9 → meth.name = "<init>") (hRf : 1 ≤ R.frames) (hRl : 100 ≤ R.locals)
    (hoi : (Cond.instanceMethod objectInit).before args s = true ∧ (Cond.code objectInit ⟨#[0xb1]⟩ 1 none).before args s = true)
    (har : (Cond.arrayClass .int).before args s = true ∧ (Cond.arrayClass .long).before args s = true ∧ (Cond.arrayClass .boolean).before args s = true)
    (hcy : (Cond.native arraycopyName).before args s = true ∧ (Cond.static arraycopyName).before args s = true ∧ (Cond.initialized "java/lang/System").before args s = true)
    (hmn : (Cond.static Lib.Math.min.name).before args s = true ∧ (Cond.initialized "java/lang/Math").before args s = true ∧ (Cond.code Lib.Math.min.name Lib.Math.min.code 2 (some .int)).before args s = true)
    (hst : ∀ ix q, Y.2.2.2.2.1 ix = some q → ∃ (C n d : String), va_Z C n d (.ref (ex q)) A s s.heap ∧ (Cond.fieldLink own ix C n d).before args s = true)
    (hr : ∀ a1 a2 a3 a4 a5 a6, K a1 a2 a3 a4 a5 a6 → a5 ≤ C0 ∧ a6 ≤ S0)
    (kk : ∀ a1 a2 a3 a4 a5 a6, K a1 a2 a3 a4 a5 a6 → xm_W1 p l e R s m args below meth c Q D cl ex A nL n0 ad0 ca0 a1 a2 a3 a4 a5 a6) (h : (∃ (n : Int32) (N : Nat) (r : List xm_V) (pn : Nat), Y.1 pc = some (.newarray .int, pn) ∧ st = xv_i n :: r ∧ ¬ n < 0 ∧ n.toNatClampNeg = N ∧ N ≤ 67108864 ∧ K pn loc (xv_r M.1.length :: r) (M.1 ++ [xt_r 0 N], xz_2 M.2.1 M.1.length 0, xz_2 M.2.2 M.1.length 0) (nc + 1) (ns + N))) : xm_W1 p l e R s m args below meth c Q D cl ex A nL n0 ad0 ca0 pc loc st M nc ns := by
  obtain ⟨hx, hb, hml, hown, hts, hK, hA, ⟨hRc, hRs⟩, hT⟩ := F
  obtain ⟨hdec, hkc, hkl, hfo, hno, hob, hcp, hmi⟩ := O
  intro ad ca ls H locs hn hag hl hs hm
  obtain ⟨n, N, r, pn, hi, rfl, hn0, hN, hN2, h⟩ := h
  obtain ⟨ln, hd, hpn, hln⟩ := hdec pc _ hi
  dsimp only at hd hpn hln
  obtain rfl := xm_ln 1 hln rfl
  subst hpn
  obtain ⟨hc1, hs1⟩ := hr _ _ _ _ _ _ h
  refine va_newa (atype := .int) hx hb (show (Cond.arrayClass (newarray.typeOf .int)).before args s = true from har.1) (ty := .int) rfl hK hm.2.1 hm.2.2.1 hm.2.2.2.1 hA (a0 := (N, Sum.inl fun _ => 0)) (fun cA => rfl) hn0 hN (by show N * 4 ≤ 536870912; omega) (Nat.le_trans hc1 hRc) (Nat.le_trans hs1 hRs) hd (fun q cA H1 hK1 hP hD hS => ?_)
  rw [← xm_st_up (q := q) (xm_hs_cons hs).2]
  have e0 : va_up ca M.1.length cA M.1.length = cA := by simp [va_up]
  have he : (Sum.inl (cA, N, Sum.inl fun _ => 0) : va_E) = Sum.inl (va_up ca M.1.length cA M.1.length, N, Sum.inl (xz_2 M.2.1 M.1.length 0 M.1.length)) := by rw [e0, xm_ez]
  have hm2 := xm_push (t := xt_r 0 N) (I' := xz_2 M.2.1 M.1.length 0) (J' := xz_2 M.2.2 M.1.length 0) (ca' := va_up ca M.1.length cA) hm (fun k hk => by simp [va_up, Nat.ne_of_lt hk]) (fun a ha => xm_xz_k a ha) (fun a ha => xm_xz_k a ha) (fun ci' fs' e => by cases e) (fun ty' e => by have e := Option.some.inj e; subst e; rw [e0]; exact hK1.2 0 (cA, .int) rfl) he hP hD hS
  have hw := kk _ _ _ _ _ _ h (va_up ad M.1.length q) (va_up ca M.1.length cA) ls H1 locs (by rw [List.length_append]; exact Nat.le_add_right_of_le hn) (fun k hk => ⟨by rw [← (hag k hk).1]; simp [va_up, Nat.ne_of_lt (Nat.lt_of_lt_of_le hk hn)], by rw [← (hag k hk).2]; simp [va_up, Nat.ne_of_lt (Nat.lt_of_lt_of_le hk hn)]⟩) (by rw [List.length_append]; exact hl.up) (by rw [List.length_append]; exact xm_hs_push (Nat.lt_succ_self _) (xm_hs.up (xm_hs_cons hs).2 (Nat.le_succ _))) hm2
  have eq : xm_v (va_up ad M.1.length q) ex (xv_r M.1.length) = .ref q := by show Value.ref _ = _; simp [va_up]
  rw [List.map_cons, eq] at hw
  exact hw
set_option maxHeartbeats 2000000 in
theorem xm_snd_newa1 (F : xm_fx own cc nL Ts ex xt C0 S0 p R s m args c D cl A) (O : xm_yok own cc Ts cl Y) (hini : Y.2.2.2.2.2 0 = 9 → meth.name = "<init>") (hRf : 1 ≤ R.frames) (hRl : 100 ≤ R.locals)
    (hoi : (Cond.instanceMethod objectInit).before args s = true ∧ (Cond.code objectInit ⟨#[0xb1]⟩ 1 none).before args s = true)
    (har : (Cond.arrayClass .int).before args s = true ∧ (Cond.arrayClass .long).before args s = true ∧ (Cond.arrayClass .boolean).before args s = true)
    (hcy : (Cond.native arraycopyName).before args s = true ∧ (Cond.static arraycopyName).before args s = true ∧ (Cond.initialized "java/lang/System").before args s = true)
    (hmn : (Cond.static Lib.Math.min.name).before args s = true ∧ (Cond.initialized "java/lang/Math").before args s = true ∧ (Cond.code Lib.Math.min.name Lib.Math.min.code 2 (some .int)).before args s = true)
    (hst : ∀ ix q, Y.2.2.2.2.1 ix = some q → ∃ (C n d : String), va_Z C n d (.ref (ex q)) A s s.heap ∧ (Cond.fieldLink own ix C n d).before args s = true)
    (hr : ∀ a1 a2 a3 a4 a5 a6, K a1 a2 a3 a4 a5 a6 → a5 ≤ C0 ∧ a6 ≤ S0)
    (kk : ∀ a1 a2 a3 a4 a5 a6, K a1 a2 a3 a4 a5 a6 → xm_W1 p l e R s m args below meth c Q D cl ex A nL n0 ad0 ca0 a1 a2 a3 a4 a5 a6) (h : (∃ (n : Int32) (N : Nat) (r : List xm_V) (pn : Nat), Y.1 pc = some (.newarray .long, pn) ∧ st = xv_i n :: r ∧ ¬ n < 0 ∧ n.toNatClampNeg = N ∧ N ≤ 67108864 ∧ K pn loc (xv_r M.1.length :: r) (M.1 ++ [xt_r 1 N], xz_2 M.2.1 M.1.length 0, xz_2 M.2.2 M.1.length 0) (nc + 1) (ns + N))) : xm_W1 p l e R s m args below meth c Q D cl ex A nL n0 ad0 ca0 pc loc st M nc ns := by
  obtain ⟨hx, hb, hml, hown, hts, hK, hA, ⟨hRc, hRs⟩, hT⟩ := F
  obtain ⟨hdec, hkc, hkl, hfo, hno, hob, hcp, hmi⟩ := O
  intro ad ca ls H locs hn hag hl hs hm
  obtain ⟨n, N, r, pn, hi, rfl, hn0, hN, hN2, h⟩ := h
  obtain ⟨ln, hd, hpn, hln⟩ := hdec pc _ hi
  dsimp only at hd hpn hln
  obtain rfl := xm_ln 1 hln rfl
  subst hpn
  obtain ⟨hc1, hs1⟩ := hr _ _ _ _ _ _ h
  refine va_newa (atype := .long) hx hb (show (Cond.arrayClass (newarray.typeOf .long)).before args s = true from har.2.1) (ty := .long) rfl hK hm.2.1 hm.2.2.1 hm.2.2.2.1 hA (a0 := (N, Sum.inr (Sum.inl fun _ => 0))) (fun cA => rfl) hn0 hN (by show N * 8 ≤ 536870912; omega) (Nat.le_trans hc1 hRc) (Nat.le_trans hs1 hRs) hd (fun q cA H1 hK1 hP hD hS => ?_)
  rw [← xm_st_up (q := q) (xm_hs_cons hs).2]
  have e0 : va_up ca M.1.length cA M.1.length = cA := by simp [va_up]
  have he : (Sum.inl (cA, N, Sum.inr (Sum.inl fun _ => 0)) : va_E) = Sum.inl (va_up ca M.1.length cA M.1.length, N, Sum.inr (Sum.inl (xz_2 M.2.2 M.1.length 0 M.1.length))) := by rw [e0, xm_ez]
  have hm2 := xm_push (t := xt_r 1 N) (I' := xz_2 M.2.1 M.1.length 0) (J' := xz_2 M.2.2 M.1.length 0) (ca' := va_up ca M.1.length cA) hm (fun k hk => by simp [va_up, Nat.ne_of_lt hk]) (fun a ha => xm_xz_k a ha) (fun a ha => xm_xz_k a ha) (fun ci' fs' e => by cases e) (fun ty' e => by have e := Option.some.inj e; subst e; rw [e0]; exact hK1.2 0 (cA, .long) rfl) he hP hD hS
  have hw := kk _ _ _ _ _ _ h (va_up ad M.1.length q) (va_up ca M.1.length cA) ls H1 locs (by rw [List.length_append]; exact Nat.le_add_right_of_le hn) (fun k hk => ⟨by rw [← (hag k hk).1]; simp [va_up, Nat.ne_of_lt (Nat.lt_of_lt_of_le hk hn)], by rw [← (hag k hk).2]; simp [va_up, Nat.ne_of_lt (Nat.lt_of_lt_of_le hk hn)]⟩) (by rw [List.length_append]; exact hl.up) (by rw [List.length_append]; exact xm_hs_push (Nat.lt_succ_self _) (xm_hs.up (xm_hs_cons hs).2 (Nat.le_succ _))) hm2
  have eq : xm_v (va_up ad M.1.length q) ex (xv_r M.1.length) = .ref q := by show Value.ref _ = _; simp [va_up]
  rw [List.map_cons, eq] at hw
  exact hw
set_option maxHeartbeats 2000000 in
theorem xm_snd_newa2 (F : xm_fx own cc nL Ts ex xt C0 S0 p R s m args c D cl A) (O : xm_yok own cc Ts cl Y) (hini : Y.2.2.2.2.2 0 = 9 → meth.name = "<init>") (hRf : 1 ≤ R.frames) (hRl : 100 ≤ R.locals)
    (hoi : (Cond.instanceMethod objectInit).before args s = true ∧ (Cond.code objectInit ⟨#[0xb1]⟩ 1 none).before args s = true)
    (har : (Cond.arrayClass .int).before args s = true ∧ (Cond.arrayClass .long).before args s = true ∧ (Cond.arrayClass .boolean).before args s = true)
    (hcy : (Cond.native arraycopyName).before args s = true ∧ (Cond.static arraycopyName).before args s = true ∧ (Cond.initialized "java/lang/System").before args s = true)
    (hmn : (Cond.static Lib.Math.min.name).before args s = true ∧ (Cond.initialized "java/lang/Math").before args s = true ∧ (Cond.code Lib.Math.min.name Lib.Math.min.code 2 (some .int)).before args s = true)
    (hst : ∀ ix q, Y.2.2.2.2.1 ix = some q → ∃ (C n d : String), va_Z C n d (.ref (ex q)) A s s.heap ∧ (Cond.fieldLink own ix C n d).before args s = true)
    (hr : ∀ a1 a2 a3 a4 a5 a6, K a1 a2 a3 a4 a5 a6 → a5 ≤ C0 ∧ a6 ≤ S0)
    (kk : ∀ a1 a2 a3 a4 a5 a6, K a1 a2 a3 a4 a5 a6 → xm_W1 p l e R s m args below meth c Q D cl ex A nL n0 ad0 ca0 a1 a2 a3 a4 a5 a6) (h : (∃ (n : Int32) (N : Nat) (r : List xm_V) (pn : Nat), Y.1 pc = some (.newarray .boolean, pn) ∧ st = xv_i n :: r ∧ ¬ n < 0 ∧ n.toNatClampNeg = N ∧ N ≤ 67108864 ∧ K pn loc (xv_r M.1.length :: r) (M.1 ++ [xt_r 2 N], xz_2 M.2.1 M.1.length 0, xz_2 M.2.2 M.1.length 0) (nc + 1) (ns + N))) : xm_W1 p l e R s m args below meth c Q D cl ex A nL n0 ad0 ca0 pc loc st M nc ns := by
  obtain ⟨hx, hb, hml, hown, hts, hK, hA, ⟨hRc, hRs⟩, hT⟩ := F
  obtain ⟨hdec, hkc, hkl, hfo, hno, hob, hcp, hmi⟩ := O
  intro ad ca ls H locs hn hag hl hs hm
  obtain ⟨n, N, r, pn, hi, rfl, hn0, hN, hN2, h⟩ := h
  obtain ⟨ln, hd, hpn, hln⟩ := hdec pc _ hi
  dsimp only at hd hpn hln
  obtain rfl := xm_ln 1 hln rfl
  subst hpn
  obtain ⟨hc1, hs1⟩ := hr _ _ _ _ _ _ h
  refine va_newa (atype := .boolean) hx hb (show (Cond.arrayClass (newarray.typeOf .boolean)).before args s = true from har.2.2) (ty := .boolean) rfl hK hm.2.1 hm.2.2.1 hm.2.2.2.1 hA (a0 := (N, Sum.inl fun _ => 0)) (fun cA => rfl) hn0 hN (by show N * 1 ≤ 536870912; omega) (Nat.le_trans hc1 hRc) (Nat.le_trans hs1 hRs) hd (fun q cA H1 hK1 hP hD hS => ?_)
  rw [← xm_st_up (q := q) (xm_hs_cons hs).2]
  have e0 : va_up ca M.1.length cA M.1.length = cA := by simp [va_up]
  have he : (Sum.inl (cA, N, Sum.inl fun _ => 0) : va_E) = Sum.inl (va_up ca M.1.length cA M.1.length, N, Sum.inl (xz_2 M.2.1 M.1.length 0 M.1.length)) := by rw [e0, xm_ez]
  have hm2 := xm_push (t := xt_r 2 N) (I' := xz_2 M.2.1 M.1.length 0) (J' := xz_2 M.2.2 M.1.length 0) (ca' := va_up ca M.1.length cA) hm (fun k hk => by simp [va_up, Nat.ne_of_lt hk]) (fun a ha => xm_xz_k a ha) (fun a ha => xm_xz_k a ha) (fun ci' fs' e => by cases e) (fun ty' e => by have e := Option.some.inj e; subst e; rw [e0]; exact hK1.2 0 (cA, .boolean) rfl) he hP hD hS
  have hw := kk _ _ _ _ _ _ h (va_up ad M.1.length q) (va_up ca M.1.length cA) ls H1 locs (by rw [List.length_append]; exact Nat.le_add_right_of_le hn) (fun k hk => ⟨by rw [← (hag k hk).1]; simp [va_up, Nat.ne_of_lt (Nat.lt_of_lt_of_le hk hn)], by rw [← (hag k hk).2]; simp [va_up, Nat.ne_of_lt (Nat.lt_of_lt_of_le hk hn)]⟩) (by rw [List.length_append]; exact hl.up) (by rw [List.length_append]; exact xm_hs_push (Nat.lt_succ_self _) (xm_hs.up (xm_hs_cons hs).2 (Nat.le_succ _))) hm2
  have eq : xm_v (va_up ad M.1.length q) ex (xv_r M.1.length) = .ref q := by show Value.ref _ = _; simp [va_up]
  rw [List.map_cons, eq] at hw
  exact hw
set_option maxHeartbeats 2000000 in
theorem xm_snd_obj (F : xm_fx own cc nL Ts ex xt C0 S0 p R s m args c D cl A) (O : xm_yok own cc Ts cl Y) (hini : Y.2.2.2.2.2 0 = 9 → meth.name = "<init>") (hRf : 1 ≤ R.frames) (hRl : 100 ≤ R.locals)
    (hoi : (Cond.instanceMethod objectInit).before args s = true ∧ (Cond.code objectInit ⟨#[0xb1]⟩ 1 none).before args s = true)
    (har : (Cond.arrayClass .int).before args s = true ∧ (Cond.arrayClass .long).before args s = true ∧ (Cond.arrayClass .boolean).before args s = true)
    (hcy : (Cond.native arraycopyName).before args s = true ∧ (Cond.static arraycopyName).before args s = true ∧ (Cond.initialized "java/lang/System").before args s = true)
    (hmn : (Cond.static Lib.Math.min.name).before args s = true ∧ (Cond.initialized "java/lang/Math").before args s = true ∧ (Cond.code Lib.Math.min.name Lib.Math.min.code 2 (some .int)).before args s = true)
    (hst : ∀ ix q, Y.2.2.2.2.1 ix = some q → ∃ (C n d : String), va_Z C n d (.ref (ex q)) A s s.heap ∧ (Cond.fieldLink own ix C n d).before args s = true)
    (hr : ∀ a1 a2 a3 a4 a5 a6, K a1 a2 a3 a4 a5 a6 → a5 ≤ C0 ∧ a6 ≤ S0)
    (kk : ∀ a1 a2 a3 a4 a5 a6, K a1 a2 a3 a4 a5 a6 → xm_W1 p l e R s m args below meth c Q D cl ex A nL n0 ad0 ca0 a1 a2 a3 a4 a5 a6) (h : (∃ (ix : Nat) (k : Nat) (r : List xm_V) (pn : Nat), Y.1 pc = some (.invokespecial ix, pn) ∧ Y.2.2.2.2.2 ix = 2 ∧ st = xv_r k :: r ∧ xm_c8 r = true ∧ K pn loc r M nc ns)) : xm_W1 p l e R s m args below meth c Q D cl ex A nL n0 ad0 ca0 pc loc st M nc ns := by
  obtain ⟨hx, hb, hml, hown, hts, hK, hA, ⟨hRc, hRs⟩, hT⟩ := F
  obtain ⟨hdec, hkc, hkl, hfo, hno, hob, hcp, hmi⟩ := O
  intro ad ca ls H locs hn hag hl hs hm
  obtain ⟨ix, k, r, pn, hi, hx2, rfl, h8, h⟩ := h
  obtain ⟨ln, hd, hpn, hln⟩ := hdec pc _ hi
  dsimp only at hd hpn hln
  obtain rfl := xm_ln 2 hln rfl
  subst hpn
  have h9 := xm_sum8 (ad := ad) (ex := ex) h8
  exact W.objInit hx hb hown (hts _ (hob ix hx2)) hoi.1 hoi.2 (g := F0 m pc ls ((xv_r k :: r).map (xm_v ad ex))) rfl (hl.1.1.trans hml.symm) rfl hd hRf (by show 2 * 0 + _ + 12 ≤ _; omega) (kk _ _ _ _ _ _ h ad ca ls H locs hn hag hl (xm_hs_cons hs).2 hm)
set_option maxHeartbeats 2000000 in
theorem xm_snd_copy (F : xm_fx own cc nL Ts ex xt C0 S0 p R s m args c D cl A) (O : xm_yok own cc Ts cl Y) (hini : Y.2.2.2.2.2 0 = 9 → meth.name = "<init>") (hRf : 1 ≤ R.frames) (hRl : 100 ≤ R.locals)
    (hoi : (Cond.instanceMethod objectInit).before args s = true ∧ (Cond.code objectInit ⟨#[0xb1]⟩ 1 none).before args s = true)
    (har : (Cond.arrayClass .int).before args s = true ∧ (Cond.arrayClass .long).before args s = true ∧ (Cond.arrayClass .boolean).before args s = true)
    (hcy : (Cond.native arraycopyName).before args s = true ∧ (Cond.static arraycopyName).before args s = true ∧ (Cond.initialized "java/lang/System").before args s = true)
    (hmn : (Cond.static Lib.Math.min.name).before args s = true ∧ (Cond.initialized "java/lang/Math").before args s = true ∧ (Cond.code Lib.Math.min.name Lib.Math.min.code 2 (some .int)).before args s = true)
    (hst : ∀ ix q, Y.2.2.2.2.1 ix = some q → ∃ (C n d : String), va_Z C n d (.ref (ex q)) A s s.heap ∧ (Cond.fieldLink own ix C n d).before args s = true)
    (hr : ∀ a1 a2 a3 a4 a5 a6, K a1 a2 a3 a4 a5 a6 → a5 ≤ C0 ∧ a6 ≤ S0)
    (kk : ∀ a1 a2 a3 a4 a5 a6, K a1 a2 a3 a4 a5 a6 → xm_W1 p l e R s m args below meth c Q D cl ex A nL n0 ad0 ca0 a1 a2 a3 a4 a5 a6) (h : (∃ (ix : Nat) (n : Int32) (dp : Int32) (sp : Int32) (kd : Nat) (ks : Nat) (nd : Nat) (n0 : Nat) (r : List xm_V) (pn : Nat), Y.1 pc = some (.invokestatic ix, pn) ∧ Y.2.2.2.2.2 ix = 1 ∧ st = xv_i n :: xv_i dp :: xv_r kd :: xv_i sp :: xv_r ks :: r ∧ M.1[ks]? = some (xt_r 1 n0) ∧ M.1[kd]? = some (xt_r 1 nd) ∧ ¬ sp < 0 ∧ ¬ dp < 0 ∧ ¬ n < 0 ∧ sp.toNatClampNeg + n.toNatClampNeg ≤ n0 ∧ dp.toNatClampNeg + n.toNatClampNeg ≤ nd ∧ ks ≠ kd ∧ xm_c8 r = true ∧ K pn loc r (M.1, M.2.1, xc_y M.2.2 kd (va_cpy (M.2.2 ks) (M.2.2 kd) sp.toNatClampNeg dp.toNatClampNeg n.toNatClampNeg)) nc ns)) : xm_W1 p l e R s m args below meth c Q D cl ex A nL n0 ad0 ca0 pc loc st M nc ns := by
  obtain ⟨hx, hb, hml, hown, hts, hK, hA, ⟨hRc, hRs⟩, hT⟩ := F
  obtain ⟨hdec, hkc, hkl, hfo, hno, hob, hcp, hmi⟩ := O
  intro ad ca ls H locs hn hag hl hs hm
  obtain ⟨ix, n, dp, sp, kd, ks, nd, n1, r, pn, hi, hx1, rfl, hM0, hM1, h1, h2, h3, h4, h5, hkk, h8, h⟩ := h
  obtain ⟨ln, hd, hpn, hln⟩ := hdec pc _ hi
  dsimp only at hd hpn hln
  obtain rfl := xm_ln 2 hln rfl
  subst hpn
  have h9 := xm_sum8 (ad := ad) (ex := ex) h8
  have h10 : nativeFrameWords "java/lang/System" "arraycopy" 5 ≤ 60 := by decide
  refine va_copyl hx hb (hml.trans hl.1.1.symm) hown (hts _ (hcp ix hx1)) hcy.1 hcy.2.1 hcy.2.2 (xm_K2 hK (hm.2.2.2.2 ks _ .long hM0 rfl) (hm.2.2.2.2 kd _ .long hM1 rfl)) hm.2.1 hm.2.2.1 hm.2.2.2.1 ks kd 0 1 (xm_w_at hM0) (xm_w_at hM1) rfl rfl rfl h1 h2 h3 h4 h5 (fun i _ => rfl) hRf (by omega) hd (fun H1 locs1 hP hD hS => ?_)
  have he : (Sum.inl (ca kd, nd, Sum.inr (Sum.inl (va_cpy (M.2.2 ks) (M.2.2 kd) sp.toNatClampNeg dp.toNatClampNeg n.toNatClampNeg))) : va_E) = Sum.inl (ca kd, nd, Sum.inr (Sum.inl (xc_y M.2.2 kd (va_cpy (M.2.2 ks) (M.2.2 kd) sp.toNatClampNeg dp.toNatClampNeg n.toNatClampNeg) kd))) := by rw [xm_ec]
  exact kk _ _ _ _ _ _ h ad ca ls H1 locs1 hn hag hl (xm_hs_cons (xm_hs_cons (xm_hs_cons (xm_hs_cons (xm_hs_cons hs).2).2).2).2).2 (hm.store hM1 (fun _ _ => rfl) xm_xc_k he hP hD hS)
set_option maxHeartbeats 2000000 in
theorem xm_snd_min (F : xm_fx own cc nL Ts ex xt C0 S0 p R s m args c D cl A) (O : xm_yok own cc Ts cl Y) (hini : Y.2.2.2.2.2 0 = 9 → meth.name = "<init>") (hRf : 1 ≤ R.frames) (hRl : 100 ≤ R.locals)
    (hoi : (Cond.instanceMethod objectInit).before args s = true ∧ (Cond.code objectInit ⟨#[0xb1]⟩ 1 none).before args s = true)
    (har : (Cond.arrayClass .int).before args s = true ∧ (Cond.arrayClass .long).before args s = true ∧ (Cond.arrayClass .boolean).before args s = true)
    (hcy : (Cond.native arraycopyName).before args s = true ∧ (Cond.static arraycopyName).before args s = true ∧ (Cond.initialized "java/lang/System").before args s = true)
    (hmn : (Cond.static Lib.Math.min.name).before args s = true ∧ (Cond.initialized "java/lang/Math").before args s = true ∧ (Cond.code Lib.Math.min.name Lib.Math.min.code 2 (some .int)).before args s = true)
    (hst : ∀ ix q, Y.2.2.2.2.1 ix = some q → ∃ (C n d : String), va_Z C n d (.ref (ex q)) A s s.heap ∧ (Cond.fieldLink own ix C n d).before args s = true)
    (hr : ∀ a1 a2 a3 a4 a5 a6, K a1 a2 a3 a4 a5 a6 → a5 ≤ C0 ∧ a6 ≤ S0)
    (kk : ∀ a1 a2 a3 a4 a5 a6, K a1 a2 a3 a4 a5 a6 → xm_W1 p l e R s m args below meth c Q D cl ex A nL n0 ad0 ca0 a1 a2 a3 a4 a5 a6) (h : (∃ (ix : Nat) (x : Int32) (y : Int32) (r : List xm_V) (pn : Nat), Y.1 pc = some (.invokestatic ix, pn) ∧ Y.2.2.2.2.2 ix = 3 ∧ st = xv_i y :: xv_i x :: r ∧ xm_c8 r = true ∧ K pn loc (xv_i (if y < x then y else x) :: r) M nc ns)) : xm_W1 p l e R s m args below meth c Q D cl ex A nL n0 ad0 ca0 pc loc st M nc ns := by
  obtain ⟨hx, hb, hml, hown, hts, hK, hA, ⟨hRc, hRs⟩, hT⟩ := F
  obtain ⟨hdec, hkc, hkl, hfo, hno, hob, hcp, hmi⟩ := O
  intro ad ca ls H locs hn hag hl hs hm
  obtain ⟨ix, x, y, r, pn, hi, hx3, rfl, h8, h⟩ := h
  obtain ⟨ln, hd, hpn, hln⟩ := hdec pc _ hi
  dsimp only at hd hpn hln
  obtain rfl := xm_ln 2 hln rfl
  subst hpn
  obtain ⟨hc1, hs1⟩ := hr _ _ _ _ _ _ h
  have h9 := xm_sum8 (ad := ad) (ex := ex) h8
  exact va_mmin hx hb (hml.trans hl.1.1.symm) hown (hts _ (hmi ix hx3)) hmn.1 hmn.2.1 hmn.2.2 hRf (by omega) (Nat.le_trans hc1 hRc) (Nat.le_trans hs1 hRs) hd (kk _ _ _ _ _ _ h ad ca ls H locs hn hag hl (xm_hs_push trivial (xm_hs_cons (xm_hs_cons hs).2).2) hm)
theorem xm_sndG (F : xm_fx own cc nL Ts ex xt C0 S0 p R s m args c D cl A) (O : xm_yok own cc Ts cl Y) (hini : Y.2.2.2.2.2 0 = 9 → meth.name = "<init>") (hRf : 1 ≤ R.frames) (hRl : 100 ≤ R.locals)
    (hoi : (Cond.instanceMethod objectInit).before args s = true ∧ (Cond.code objectInit ⟨#[0xb1]⟩ 1 none).before args s = true)
    (har : (Cond.arrayClass .int).before args s = true ∧ (Cond.arrayClass .long).before args s = true ∧ (Cond.arrayClass .boolean).before args s = true)
    (hcy : (Cond.native arraycopyName).before args s = true ∧ (Cond.static arraycopyName).before args s = true ∧ (Cond.initialized "java/lang/System").before args s = true)
    (hmn : (Cond.static Lib.Math.min.name).before args s = true ∧ (Cond.initialized "java/lang/Math").before args s = true ∧ (Cond.code Lib.Math.min.name Lib.Math.min.code 2 (some .int)).before args s = true)
    (hst : ∀ ix q, Y.2.2.2.2.1 ix = some q → ∃ (C n d : String), va_Z C n d (.ref (ex q)) A s s.heap ∧ (Cond.fieldLink own ix C n d).before args s = true)
    (hr : ∀ a1 a2 a3 a4 a5 a6, K a1 a2 a3 a4 a5 a6 → a5 ≤ C0 ∧ a6 ≤ S0)
    (kk : ∀ a1 a2 a3 a4 a5 a6, K a1 a2 a3 a4 a5 a6 → xm_W1 p l e R s m args below meth c Q D cl ex A nL n0 ad0 ca0 a1 a2 a3 a4 a5 a6) (h : xm_sG Y xt nL pc loc st M nc ns K) : xm_W1 p l e R s m args below meth c Q D cl ex A nL n0 ad0 ca0 pc loc st M nc ns := by
  unfold xm_sG at h
  rcases h with h | h | h | h | h | h | h
  · exact xm_snd_new F O hini hRf hRl hoi har hcy hmn hst hr kk h
  · exact xm_snd_newa0 F O hini hRf hRl hoi har hcy hmn hst hr kk h
  · exact xm_snd_newa1 F O hini hRf hRl hoi har hcy hmn hst hr kk h
  · exact xm_snd_newa2 F O hini hRf hRl hoi har hcy hmn hst hr kk h
  · exact xm_snd_obj F O hini hRf hRl hoi har hcy hmn hst hr kk h
  · exact xm_snd_copy F O hini hRf hRl hoi har hcy hmn hst hr kk h
  · exact xm_snd_min F O hini hRf hRl hoi har hcy hmn hst hr kk h
theorem xm_exG (h : xm_sG Y xt nL pc loc st M nc ns K) : ∃ a1 a2 a3 a4 a5 a6, K a1 a2 a3 a4 a5 a6 ∧ nc ≤ a5 ∧ ns ≤ a6 := by
  unfold xm_sG at h
  rcases h with h | h | h | h | h | h | h
  · obtain ⟨_, _, _, _, _, _, h⟩ := h
    exact ⟨_, _, _, _, _, _, h, Nat.le_add_right _ _, Nat.le_add_right _ _⟩
  · obtain ⟨_, _, _, _, _, _, _, _, _, h⟩ := h
    exact ⟨_, _, _, _, _, _, h, Nat.le_add_right _ _, Nat.le_add_right _ _⟩
  · obtain ⟨_, _, _, _, _, _, _, _, _, h⟩ := h
    exact ⟨_, _, _, _, _, _, h, Nat.le_add_right _ _, Nat.le_add_right _ _⟩
  · obtain ⟨_, _, _, _, _, _, _, _, _, h⟩ := h
    exact ⟨_, _, _, _, _, _, h, Nat.le_add_right _ _, Nat.le_add_right _ _⟩
  · obtain ⟨_, _, _, _, _, _, _, _, h⟩ := h
    exact ⟨_, _, _, _, _, _, h, Nat.le_refl _, Nat.le_refl _⟩
  · obtain ⟨_, _, _, _, _, _, _, _, _, _, _, _, _, _, _, _, _, _, _, _, _, _, h⟩ := h
    exact ⟨_, _, _, _, _, _, h, Nat.le_refl _, Nat.le_refl _⟩
  · obtain ⟨_, _, _, _, _, _, _, _, _, h⟩ := h
    exact ⟨_, _, _, _, _, _, h, Nat.le_refl _, Nat.le_refl _⟩
end XSTEP
