/-! Steps of the group A are true of the machine. -/
section XSTEP
variable {p : Program} {l : Launch} {e : Env} {R : Room} {s : State} {m : MethodId} {args : Array Value} {below : List Frame} {meth : Method} {c : Code} {Q : State → Prop} {D : va_G} {cl : List vw_C} {ex : Nat → Nat} {A : Nat → Prop} {nL n0 : Nat} {ad0 : Nat → Nat} {ca0 : Nat → ClassId}
variable {own : String} {cc : ByteArray} {Ts : List Cond} {xt : Nat → Nat × (Nat → Int32)} {C0 S0 : Nat} {Y : xm_Y} {K : xm_K} {pc : Nat} {loc : xm_L} {st : List xm_V} {M : xm_M} {nc ns : Nat}
set_option maxHeartbeats 2000000 in
theorem xm_snd_iconst (F : xm_fx own cc nL Ts ex xt C0 S0 p R s m args c D cl A) (O : xm_yok own cc Ts cl Y) (hini : Y.2.2.2.2.2 0 = 9 → meth.name = "<init>") (hRf : 1 ≤ R.frames) (hRl : 100 ≤ R.locals)
    (hoi : (Cond.instanceMethod objectInit).before args s = true ∧ (Cond.code objectInit ⟨#[0xb1]⟩ 1 none).before args s = true)
    (har : (Cond.arrayClass .int).before args s = true ∧ (Cond.arrayClass .long).before args s = true ∧ (Cond.arrayClass .boolean).before args s = true)
    (hcy : (Cond.native arraycopyName).before args s = true ∧ (Cond.static arraycopyName).before args s = true ∧ (Cond.initialized "java/lang/System").before args s = true)
    (hmn : (Cond.static Lib.Math.min.name).before args s = true ∧ (Cond.initialized "java/lang/Math").before args s = true ∧ (Cond.code Lib.Math.min.name Lib.Math.min.code 2 (some .int)).before args s = true)
    (hst : ∀ ix q, Y.2.2.2.2.1 ix = some q → ∃ (C n d : String), va_Z C n d (.ref (ex q)) A s s.heap ∧ (Cond.fieldLink own ix C n d).before args s = true)
    (hr : ∀ a1 a2 a3 a4 a5 a6, K a1 a2 a3 a4 a5 a6 → a5 ≤ C0 ∧ a6 ≤ S0)
    (kk : ∀ a1 a2 a3 a4 a5 a6, K a1 a2 a3 a4 a5 a6 → xm_W1 p l e R s m args below meth c Q D cl ex A nL n0 ad0 ca0 a1 a2 a3 a4 a5 a6) (h : (∃ (n : Int) (pn : Nat), Y.1 pc = some (.iconst n, pn) ∧ K pn loc (xv_i (Int32.ofInt n) :: st) M nc ns)) : xm_W1 p l e R s m args below meth c Q D cl ex A nL n0 ad0 ca0 pc loc st M nc ns := by
  obtain ⟨hx, hb, hml, hown, hts, hK, hA, ⟨hRc, hRs⟩, hT⟩ := F
  obtain ⟨hdec, hkc, hkl, hfo, hno, hob, hcp, hmi⟩ := O
  intro ad ca ls H locs hn hag hl hs hm
  obtain ⟨n, pn, hi, h⟩ := h
  obtain ⟨ln, hd, hpn, hln⟩ := hdec pc _ hi
  dsimp only at hd hpn hln
  obtain rfl := xm_ln 0 hln rfl
  subst hpn
  exact lv_iconst hx hb hd rfl (kk _ _ _ _ _ _ h ad ca ls H locs hn hag hl (xm_hs_push trivial hs) hm)
set_option maxHeartbeats 2000000 in
theorem xm_snd_bipush (F : xm_fx own cc nL Ts ex xt C0 S0 p R s m args c D cl A) (O : xm_yok own cc Ts cl Y) (hini : Y.2.2.2.2.2 0 = 9 → meth.name = "<init>") (hRf : 1 ≤ R.frames) (hRl : 100 ≤ R.locals)
    (hoi : (Cond.instanceMethod objectInit).before args s = true ∧ (Cond.code objectInit ⟨#[0xb1]⟩ 1 none).before args s = true)
    (har : (Cond.arrayClass .int).before args s = true ∧ (Cond.arrayClass .long).before args s = true ∧ (Cond.arrayClass .boolean).before args s = true)
    (hcy : (Cond.native arraycopyName).before args s = true ∧ (Cond.static arraycopyName).before args s = true ∧ (Cond.initialized "java/lang/System").before args s = true)
    (hmn : (Cond.static Lib.Math.min.name).before args s = true ∧ (Cond.initialized "java/lang/Math").before args s = true ∧ (Cond.code Lib.Math.min.name Lib.Math.min.code 2 (some .int)).before args s = true)
    (hst : ∀ ix q, Y.2.2.2.2.1 ix = some q → ∃ (C n d : String), va_Z C n d (.ref (ex q)) A s s.heap ∧ (Cond.fieldLink own ix C n d).before args s = true)
    (hr : ∀ a1 a2 a3 a4 a5 a6, K a1 a2 a3 a4 a5 a6 → a5 ≤ C0 ∧ a6 ≤ S0)
    (kk : ∀ a1 a2 a3 a4 a5 a6, K a1 a2 a3 a4 a5 a6 → xm_W1 p l e R s m args below meth c Q D cl ex A nL n0 ad0 ca0 a1 a2 a3 a4 a5 a6) (h : (∃ (n : Int) (pn : Nat), Y.1 pc = some (.bipush n, pn) ∧ K pn loc (xv_i (Int8.ofInt n).toInt32 :: st) M nc ns)) : xm_W1 p l e R s m args below meth c Q D cl ex A nL n0 ad0 ca0 pc loc st M nc ns := by
  obtain ⟨hx, hb, hml, hown, hts, hK, hA, ⟨hRc, hRs⟩, hT⟩ := F
  obtain ⟨hdec, hkc, hkl, hfo, hno, hob, hcp, hmi⟩ := O
  intro ad ca ls H locs hn hag hl hs hm
  obtain ⟨n, pn, hi, h⟩ := h
  obtain ⟨ln, hd, hpn, hln⟩ := hdec pc _ hi
  dsimp only at hd hpn hln
  obtain rfl := xm_ln 1 hln rfl
  subst hpn
  exact lv_bipush hx hb hd rfl (kk _ _ _ _ _ _ h ad ca ls H locs hn hag hl (xm_hs_push trivial hs) hm)
set_option maxHeartbeats 2000000 in
theorem xm_snd_sipush (F : xm_fx own cc nL Ts ex xt C0 S0 p R s m args c D cl A) (O : xm_yok own cc Ts cl Y) (hini : Y.2.2.2.2.2 0 = 9 → meth.name = "<init>") (hRf : 1 ≤ R.frames) (hRl : 100 ≤ R.locals)
    (hoi : (Cond.instanceMethod objectInit).before args s = true ∧ (Cond.code objectInit ⟨#[0xb1]⟩ 1 none).before args s = true)
    (har : (Cond.arrayClass .int).before args s = true ∧ (Cond.arrayClass .long).before args s = true ∧ (Cond.arrayClass .boolean).before args s = true)
    (hcy : (Cond.native arraycopyName).before args s = true ∧ (Cond.static arraycopyName).before args s = true ∧ (Cond.initialized "java/lang/System").before args s = true)
    (hmn : (Cond.static Lib.Math.min.name).before args s = true ∧ (Cond.initialized "java/lang/Math").before args s = true ∧ (Cond.code Lib.Math.min.name Lib.Math.min.code 2 (some .int)).before args s = true)
    (hst : ∀ ix q, Y.2.2.2.2.1 ix = some q → ∃ (C n d : String), va_Z C n d (.ref (ex q)) A s s.heap ∧ (Cond.fieldLink own ix C n d).before args s = true)
    (hr : ∀ a1 a2 a3 a4 a5 a6, K a1 a2 a3 a4 a5 a6 → a5 ≤ C0 ∧ a6 ≤ S0)
    (kk : ∀ a1 a2 a3 a4 a5 a6, K a1 a2 a3 a4 a5 a6 → xm_W1 p l e R s m args below meth c Q D cl ex A nL n0 ad0 ca0 a1 a2 a3 a4 a5 a6) (h : (∃ (n : Int) (pn : Nat), Y.1 pc = some (.sipush n, pn) ∧ K pn loc (xv_i (Int16.ofInt n).toInt32 :: st) M nc ns)) : xm_W1 p l e R s m args below meth c Q D cl ex A nL n0 ad0 ca0 pc loc st M nc ns := by
  obtain ⟨hx, hb, hml, hown, hts, hK, hA, ⟨hRc, hRs⟩, hT⟩ := F
  obtain ⟨hdec, hkc, hkl, hfo, hno, hob, hcp, hmi⟩ := O
  intro ad ca ls H locs hn hag hl hs hm
  obtain ⟨n, pn, hi, h⟩ := h
  obtain ⟨ln, hd, hpn, hln⟩ := hdec pc _ hi
  dsimp only at hd hpn hln
  obtain rfl := xm_ln 2 hln rfl
  subst hpn
  exact lv_sipush hx hb hd rfl (kk _ _ _ _ _ _ h ad ca ls H locs hn hag hl (xm_hs_push trivial hs) hm)
set_option maxHeartbeats 2000000 in
theorem xm_snd_lconst (F : xm_fx own cc nL Ts ex xt C0 S0 p R s m args c D cl A) (O : xm_yok own cc Ts cl Y) (hini : Y.2.2.2.2.2 0 = 9 → meth.name = "<init>") (hRf : 1 ≤ R.frames) (hRl : 100 ≤ R.locals)
    (hoi : (Cond.instanceMethod objectInit).before args s = true ∧ (Cond.code objectInit ⟨#[0xb1]⟩ 1 none).before args s = true)
    (har : (Cond.arrayClass .int).before args s = true ∧ (Cond.arrayClass .long).before args s = true ∧ (Cond.arrayClass .boolean).before args s = true)
    (hcy : (Cond.native arraycopyName).before args s = true ∧ (Cond.static arraycopyName).before args s = true ∧ (Cond.initialized "java/lang/System").before args s = true)
    (hmn : (Cond.static Lib.Math.min.name).before args s = true ∧ (Cond.initialized "java/lang/Math").before args s = true ∧ (Cond.code Lib.Math.min.name Lib.Math.min.code 2 (some .int)).before args s = true)
    (hst : ∀ ix q, Y.2.2.2.2.1 ix = some q → ∃ (C n d : String), va_Z C n d (.ref (ex q)) A s s.heap ∧ (Cond.fieldLink own ix C n d).before args s = true)
    (hr : ∀ a1 a2 a3 a4 a5 a6, K a1 a2 a3 a4 a5 a6 → a5 ≤ C0 ∧ a6 ≤ S0)
    (kk : ∀ a1 a2 a3 a4 a5 a6, K a1 a2 a3 a4 a5 a6 → xm_W1 p l e R s m args below meth c Q D cl ex A nL n0 ad0 ca0 a1 a2 a3 a4 a5 a6) (h : (∃ (n : Fin 2) (pn : Nat), Y.1 pc = some (.lconst n, pn) ∧ K pn loc (xv_l (Int64.ofNat (n : Nat)) :: st) M nc ns)) : xm_W1 p l e R s m args below meth c Q D cl ex A nL n0 ad0 ca0 pc loc st M nc ns := by
  obtain ⟨hx, hb, hml, hown, hts, hK, hA, ⟨hRc, hRs⟩, hT⟩ := F
  obtain ⟨hdec, hkc, hkl, hfo, hno, hob, hcp, hmi⟩ := O
  intro ad ca ls H locs hn hag hl hs hm
  obtain ⟨n, pn, hi, h⟩ := h
  obtain ⟨ln, hd, hpn, hln⟩ := hdec pc _ hi
  dsimp only at hd hpn hln
  obtain rfl := xm_ln 0 hln rfl
  subst hpn
  exact lv_lconst hx hb hd rfl (kk _ _ _ _ _ _ h ad ca ls H locs hn hag hl (xm_hs_push trivial hs) hm)
set_option maxHeartbeats 2000000 in
theorem xm_snd_ldc (F : xm_fx own cc nL Ts ex xt C0 S0 p R s m args c D cl A) (O : xm_yok own cc Ts cl Y) (hini : Y.2.2.2.2.2 0 = 9 → meth.name = "<init>") (hRf : 1 ≤ R.frames) (hRl : 100 ≤ R.locals)
    (hoi : (Cond.instanceMethod objectInit).before args s = true ∧ (Cond.code objectInit ⟨#[0xb1]⟩ 1 none).before args s = true)
    (har : (Cond.arrayClass .int).before args s = true ∧ (Cond.arrayClass .long).before args s = true ∧ (Cond.arrayClass .boolean).before args s = true)
    (hcy : (Cond.native arraycopyName).before args s = true ∧ (Cond.static arraycopyName).before args s = true ∧ (Cond.initialized "java/lang/System").before args s = true)
    (hmn : (Cond.static Lib.Math.min.name).before args s = true ∧ (Cond.initialized "java/lang/Math").before args s = true ∧ (Cond.code Lib.Math.min.name Lib.Math.min.code 2 (some .int)).before args s = true)
    (hst : ∀ ix q, Y.2.2.2.2.1 ix = some q → ∃ (C n d : String), va_Z C n d (.ref (ex q)) A s s.heap ∧ (Cond.fieldLink own ix C n d).before args s = true)
    (hr : ∀ a1 a2 a3 a4 a5 a6, K a1 a2 a3 a4 a5 a6 → a5 ≤ C0 ∧ a6 ≤ S0)
    (kk : ∀ a1 a2 a3 a4 a5 a6, K a1 a2 a3 a4 a5 a6 → xm_W1 p l e R s m args below meth c Q D cl ex A nL n0 ad0 ca0 a1 a2 a3 a4 a5 a6) (h : (∃ (ix : Nat) (v : Int32) (pn : Nat), Y.1 pc = some (.ldc ix, pn) ∧ Y.2.1 ix = some (xv_i v) ∧ K pn loc (xv_i v :: st) M nc ns)) : xm_W1 p l e R s m args below meth c Q D cl ex A nL n0 ad0 ca0 pc loc st M nc ns := by
  obtain ⟨hx, hb, hml, hown, hts, hK, hA, ⟨hRc, hRs⟩, hT⟩ := F
  obtain ⟨hdec, hkc, hkl, hfo, hno, hob, hcp, hmi⟩ := O
  intro ad ca ls H locs hn hag hl hs hm
  obtain ⟨ix, v, pn, hi, hv, h⟩ := h
  obtain ⟨ln, hd, hpn, hln⟩ := hdec pc _ hi
  dsimp only at hd hpn hln
  obtain rfl := xm_ln 1 hln rfl
  subst hpn
  exact lv_ldc hx hb hown (hts _ (hkc ix v hv)) hd (kk _ _ _ _ _ _ h ad ca ls H locs hn hag hl (xm_hs_push trivial hs) hm)
set_option maxHeartbeats 2000000 in
theorem xm_snd_ldc2 (F : xm_fx own cc nL Ts ex xt C0 S0 p R s m args c D cl A) (O : xm_yok own cc Ts cl Y) (hini : Y.2.2.2.2.2 0 = 9 → meth.name = "<init>") (hRf : 1 ≤ R.frames) (hRl : 100 ≤ R.locals)
    (hoi : (Cond.instanceMethod objectInit).before args s = true ∧ (Cond.code objectInit ⟨#[0xb1]⟩ 1 none).before args s = true)
    (har : (Cond.arrayClass .int).before args s = true ∧ (Cond.arrayClass .long).before args s = true ∧ (Cond.arrayClass .boolean).before args s = true)
    (hcy : (Cond.native arraycopyName).before args s = true ∧ (Cond.static arraycopyName).before args s = true ∧ (Cond.initialized "java/lang/System").before args s = true)
    (hmn : (Cond.static Lib.Math.min.name).before args s = true ∧ (Cond.initialized "java/lang/Math").before args s = true ∧ (Cond.code Lib.Math.min.name Lib.Math.min.code 2 (some .int)).before args s = true)
    (hst : ∀ ix q, Y.2.2.2.2.1 ix = some q → ∃ (C n d : String), va_Z C n d (.ref (ex q)) A s s.heap ∧ (Cond.fieldLink own ix C n d).before args s = true)
    (hr : ∀ a1 a2 a3 a4 a5 a6, K a1 a2 a3 a4 a5 a6 → a5 ≤ C0 ∧ a6 ≤ S0)
    (kk : ∀ a1 a2 a3 a4 a5 a6, K a1 a2 a3 a4 a5 a6 → xm_W1 p l e R s m args below meth c Q D cl ex A nL n0 ad0 ca0 a1 a2 a3 a4 a5 a6) (h : (∃ (ix : Nat) (v : Int64) (pn : Nat), Y.1 pc = some (.ldc2_w ix, pn) ∧ Y.2.1 ix = some (xv_l v) ∧ K pn loc (xv_l v :: st) M nc ns)) : xm_W1 p l e R s m args below meth c Q D cl ex A nL n0 ad0 ca0 pc loc st M nc ns := by
  obtain ⟨hx, hb, hml, hown, hts, hK, hA, ⟨hRc, hRs⟩, hT⟩ := F
  obtain ⟨hdec, hkc, hkl, hfo, hno, hob, hcp, hmi⟩ := O
  intro ad ca ls H locs hn hag hl hs hm
  obtain ⟨ix, v, pn, hi, hv, h⟩ := h
  obtain ⟨ln, hd, hpn, hln⟩ := hdec pc _ hi
  dsimp only at hd hpn hln
  obtain rfl := xm_ln 2 hln rfl
  subst hpn
  exact lv_ldc2 hx hb hown (hts _ (hkl ix v hv)) hd (kk _ _ _ _ _ _ h ad ca ls H locs hn hag hl (xm_hs_push trivial hs) hm)
set_option maxHeartbeats 2000000 in
theorem xm_snd_iload (F : xm_fx own cc nL Ts ex xt C0 S0 p R s m args c D cl A) (O : xm_yok own cc Ts cl Y) (hini : Y.2.2.2.2.2 0 = 9 → meth.name = "<init>") (hRf : 1 ≤ R.frames) (hRl : 100 ≤ R.locals)
    (hoi : (Cond.instanceMethod objectInit).before args s = true ∧ (Cond.code objectInit ⟨#[0xb1]⟩ 1 none).before args s = true)
    (har : (Cond.arrayClass .int).before args s = true ∧ (Cond.arrayClass .long).before args s = true ∧ (Cond.arrayClass .boolean).before args s = true)
    (hcy : (Cond.native arraycopyName).before args s = true ∧ (Cond.static arraycopyName).before args s = true ∧ (Cond.initialized "java/lang/System").before args s = true)
    (hmn : (Cond.static Lib.Math.min.name).before args s = true ∧ (Cond.initialized "java/lang/Math").before args s = true ∧ (Cond.code Lib.Math.min.name Lib.Math.min.code 2 (some .int)).before args s = true)
    (hst : ∀ ix q, Y.2.2.2.2.1 ix = some q → ∃ (C n d : String), va_Z C n d (.ref (ex q)) A s s.heap ∧ (Cond.fieldLink own ix C n d).before args s = true)
    (hr : ∀ a1 a2 a3 a4 a5 a6, K a1 a2 a3 a4 a5 a6 → a5 ≤ C0 ∧ a6 ≤ S0)
    (kk : ∀ a1 a2 a3 a4 a5 a6, K a1 a2 a3 a4 a5 a6 → xm_W1 p l e R s m args below meth c Q D cl ex A nL n0 ad0 ca0 a1 a2 a3 a4 a5 a6) (h : (∃ (k : Nat) (x : Int32) (pn : Nat), Y.1 pc = some (.iload k, pn) ∧ loc[k]? = some (some (xv_i x)) ∧ K pn loc (xv_i x :: st) M nc ns)) : xm_W1 p l e R s m args below meth c Q D cl ex A nL n0 ad0 ca0 pc loc st M nc ns := by
  obtain ⟨hx, hb, hml, hown, hts, hK, hA, ⟨hRc, hRs⟩, hT⟩ := F
  obtain ⟨hdec, hkc, hkl, hfo, hno, hob, hcp, hmi⟩ := O
  intro ad ca ls H locs hn hag hl hs hm
  obtain ⟨k, x, pn, hi, hv, h⟩ := h
  obtain ⟨ln, hd, hpn, hln⟩ := hdec pc _ hi
  dsimp only at hd hpn hln
  obtain rfl := xm_ln 1 hln rfl
  subst hpn
  exact lv_iload hx hb hd (hl.2 _ _ hv).1 (kk _ _ _ _ _ _ h ad ca ls H locs hn hag hl (xm_hs_push trivial hs) hm)
set_option maxHeartbeats 2000000 in
theorem xm_snd_iload_n (F : xm_fx own cc nL Ts ex xt C0 S0 p R s m args c D cl A) (O : xm_yok own cc Ts cl Y) (hini : Y.2.2.2.2.2 0 = 9 → meth.name = "<init>") (hRf : 1 ≤ R.frames) (hRl : 100 ≤ R.locals)
    (hoi : (Cond.instanceMethod objectInit).before args s = true ∧ (Cond.code objectInit ⟨#[0xb1]⟩ 1 none).before args s = true)
    (har : (Cond.arrayClass .int).before args s = true ∧ (Cond.arrayClass .long).before args s = true ∧ (Cond.arrayClass .boolean).before args s = true)
    (hcy : (Cond.native arraycopyName).before args s = true ∧ (Cond.static arraycopyName).before args s = true ∧ (Cond.initialized "java/lang/System").before args s = true)
    (hmn : (Cond.static Lib.Math.min.name).before args s = true ∧ (Cond.initialized "java/lang/Math").before args s = true ∧ (Cond.code Lib.Math.min.name Lib.Math.min.code 2 (some .int)).before args s = true)
    (hst : ∀ ix q, Y.2.2.2.2.1 ix = some q → ∃ (C n d : String), va_Z C n d (.ref (ex q)) A s s.heap ∧ (Cond.fieldLink own ix C n d).before args s = true)
    (hr : ∀ a1 a2 a3 a4 a5 a6, K a1 a2 a3 a4 a5 a6 → a5 ≤ C0 ∧ a6 ≤ S0)
    (kk : ∀ a1 a2 a3 a4 a5 a6, K a1 a2 a3 a4 a5 a6 → xm_W1 p l e R s m args below meth c Q D cl ex A nL n0 ad0 ca0 a1 a2 a3 a4 a5 a6) (h : (∃ (k : Fin 4) (x : Int32) (pn : Nat), Y.1 pc = some (.iload_n k, pn) ∧ loc[(k : Nat)]? = some (some (xv_i x)) ∧ K pn loc (xv_i x :: st) M nc ns)) : xm_W1 p l e R s m args below meth c Q D cl ex A nL n0 ad0 ca0 pc loc st M nc ns := by
  obtain ⟨hx, hb, hml, hown, hts, hK, hA, ⟨hRc, hRs⟩, hT⟩ := F
  obtain ⟨hdec, hkc, hkl, hfo, hno, hob, hcp, hmi⟩ := O
  intro ad ca ls H locs hn hag hl hs hm
  obtain ⟨k, x, pn, hi, hv, h⟩ := h
  obtain ⟨ln, hd, hpn, hln⟩ := hdec pc _ hi
  dsimp only at hd hpn hln
  obtain rfl := xm_ln 0 hln rfl
  subst hpn
  exact lv_iload_n hx hb hd rfl (hl.2 _ _ hv).1 (kk _ _ _ _ _ _ h ad ca ls H locs hn hag hl (xm_hs_push trivial hs) hm)
set_option maxHeartbeats 2000000 in
theorem xm_snd_lload (F : xm_fx own cc nL Ts ex xt C0 S0 p R s m args c D cl A) (O : xm_yok own cc Ts cl Y) (hini : Y.2.2.2.2.2 0 = 9 → meth.name = "<init>") (hRf : 1 ≤ R.frames) (hRl : 100 ≤ R.locals)
    (hoi : (Cond.instanceMethod objectInit).before args s = true ∧ (Cond.code objectInit ⟨#[0xb1]⟩ 1 none).before args s = true)
    (har : (Cond.arrayClass .int).before args s = true ∧ (Cond.arrayClass .long).before args s = true ∧ (Cond.arrayClass .boolean).before args s = true)
    (hcy : (Cond.native arraycopyName).before args s = true ∧ (Cond.static arraycopyName).before args s = true ∧ (Cond.initialized "java/lang/System").before args s = true)
    (hmn : (Cond.static Lib.Math.min.name).before args s = true ∧ (Cond.initialized "java/lang/Math").before args s = true ∧ (Cond.code Lib.Math.min.name Lib.Math.min.code 2 (some .int)).before args s = true)
    (hst : ∀ ix q, Y.2.2.2.2.1 ix = some q → ∃ (C n d : String), va_Z C n d (.ref (ex q)) A s s.heap ∧ (Cond.fieldLink own ix C n d).before args s = true)
    (hr : ∀ a1 a2 a3 a4 a5 a6, K a1 a2 a3 a4 a5 a6 → a5 ≤ C0 ∧ a6 ≤ S0)
    (kk : ∀ a1 a2 a3 a4 a5 a6, K a1 a2 a3 a4 a5 a6 → xm_W1 p l e R s m args below meth c Q D cl ex A nL n0 ad0 ca0 a1 a2 a3 a4 a5 a6) (h : (∃ (k : Nat) (x : Int64) (pn : Nat), Y.1 pc = some (.lload k, pn) ∧ loc[k]? = some (some (xv_l x)) ∧ K pn loc (xv_l x :: st) M nc ns)) : xm_W1 p l e R s m args below meth c Q D cl ex A nL n0 ad0 ca0 pc loc st M nc ns := by
  obtain ⟨hx, hb, hml, hown, hts, hK, hA, ⟨hRc, hRs⟩, hT⟩ := F
  obtain ⟨hdec, hkc, hkl, hfo, hno, hob, hcp, hmi⟩ := O
  intro ad ca ls H locs hn hag hl hs hm
  obtain ⟨k, x, pn, hi, hv, h⟩ := h
  obtain ⟨ln, hd, hpn, hln⟩ := hdec pc _ hi
  dsimp only at hd hpn hln
  obtain rfl := xm_ln 1 hln rfl
  subst hpn
  exact lv_lload hx hb hd (hl.2 _ _ hv).1 (kk _ _ _ _ _ _ h ad ca ls H locs hn hag hl (xm_hs_push trivial hs) hm)
set_option maxHeartbeats 2000000 in
theorem xm_snd_lload_n (F : xm_fx own cc nL Ts ex xt C0 S0 p R s m args c D cl A) (O : xm_yok own cc Ts cl Y) (hini : Y.2.2.2.2.2 0 = 9 → meth.name = "<init>") (hRf : 1 ≤ R.frames) (hRl : 100 ≤ R.locals)
    (hoi : (Cond.instanceMethod objectInit).before args s = true ∧ (Cond.code objectInit ⟨#[0xb1]⟩ 1 none).before args s = true)
    (har : (Cond.arrayClass .int).before args s = true ∧ (Cond.arrayClass .long).before args s = true ∧ (Cond.arrayClass .boolean).before args s = true)
    (hcy : (Cond.native arraycopyName).before args s = true ∧ (Cond.static arraycopyName).before args s = true ∧ (Cond.initialized "java/lang/System").before args s = true)
    (hmn : (Cond.static Lib.Math.min.name).before args s = true ∧ (Cond.initialized "java/lang/Math").before args s = true ∧ (Cond.code Lib.Math.min.name Lib.Math.min.code 2 (some .int)).before args s = true)
    (hst : ∀ ix q, Y.2.2.2.2.1 ix = some q → ∃ (C n d : String), va_Z C n d (.ref (ex q)) A s s.heap ∧ (Cond.fieldLink own ix C n d).before args s = true)
    (hr : ∀ a1 a2 a3 a4 a5 a6, K a1 a2 a3 a4 a5 a6 → a5 ≤ C0 ∧ a6 ≤ S0)
    (kk : ∀ a1 a2 a3 a4 a5 a6, K a1 a2 a3 a4 a5 a6 → xm_W1 p l e R s m args below meth c Q D cl ex A nL n0 ad0 ca0 a1 a2 a3 a4 a5 a6) (h : (∃ (k : Fin 4) (x : Int64) (pn : Nat), Y.1 pc = some (.lload_n k, pn) ∧ loc[(k : Nat)]? = some (some (xv_l x)) ∧ K pn loc (xv_l x :: st) M nc ns)) : xm_W1 p l e R s m args below meth c Q D cl ex A nL n0 ad0 ca0 pc loc st M nc ns := by
  obtain ⟨hx, hb, hml, hown, hts, hK, hA, ⟨hRc, hRs⟩, hT⟩ := F
  obtain ⟨hdec, hkc, hkl, hfo, hno, hob, hcp, hmi⟩ := O
  intro ad ca ls H locs hn hag hl hs hm
  obtain ⟨k, x, pn, hi, hv, h⟩ := h
  obtain ⟨ln, hd, hpn, hln⟩ := hdec pc _ hi
  dsimp only at hd hpn hln
  obtain rfl := xm_ln 0 hln rfl
  subst hpn
  exact lv_lload_n hx hb hd rfl (hl.2 _ _ hv).1 (kk _ _ _ _ _ _ h ad ca ls H locs hn hag hl (xm_hs_push trivial hs) hm)
set_option maxHeartbeats 2000000 in
theorem xm_snd_aload (F : xm_fx own cc nL Ts ex xt C0 S0 p R s m args c D cl A) (O : xm_yok own cc Ts cl Y) (hini : Y.2.2.2.2.2 0 = 9 → meth.name = "<init>") (hRf : 1 ≤ R.frames) (hRl : 100 ≤ R.locals)
    (hoi : (Cond.instanceMethod objectInit).before args s = true ∧ (Cond.code objectInit ⟨#[0xb1]⟩ 1 none).before args s = true)
    (har : (Cond.arrayClass .int).before args s = true ∧ (Cond.arrayClass .long).before args s = true ∧ (Cond.arrayClass .boolean).before args s = true)
    (hcy : (Cond.native arraycopyName).before args s = true ∧ (Cond.static arraycopyName).before args s = true ∧ (Cond.initialized "java/lang/System").before args s = true)
    (hmn : (Cond.static Lib.Math.min.name).before args s = true ∧ (Cond.initialized "java/lang/Math").before args s = true ∧ (Cond.code Lib.Math.min.name Lib.Math.min.code 2 (some .int)).before args s = true)
    (hst : ∀ ix q, Y.2.2.2.2.1 ix = some q → ∃ (C n d : String), va_Z C n d (.ref (ex q)) A s s.heap ∧ (Cond.fieldLink own ix C n d).before args s = true)
    (hr : ∀ a1 a2 a3 a4 a5 a6, K a1 a2 a3 a4 a5 a6 → a5 ≤ C0 ∧ a6 ≤ S0)
    (kk : ∀ a1 a2 a3 a4 a5 a6, K a1 a2 a3 a4 a5 a6 → xm_W1 p l e R s m args below meth c Q D cl ex A nL n0 ad0 ca0 a1 a2 a3 a4 a5 a6) (h : (∃ (k : Nat) (q : Nat) (pn : Nat), Y.1 pc = some (.aload k, pn) ∧ loc[k]? = some (some (xv_r q)) ∧ K pn loc (xv_r q :: st) M nc ns)) : xm_W1 p l e R s m args below meth c Q D cl ex A nL n0 ad0 ca0 pc loc st M nc ns := by
  obtain ⟨hx, hb, hml, hown, hts, hK, hA, ⟨hRc, hRs⟩, hT⟩ := F
  obtain ⟨hdec, hkc, hkl, hfo, hno, hob, hcp, hmi⟩ := O
  intro ad ca ls H locs hn hag hl hs hm
  obtain ⟨k, q, pn, hi, hv, h⟩ := h
  obtain ⟨ln, hd, hpn, hln⟩ := hdec pc _ hi
  dsimp only at hd hpn hln
  obtain rfl := xm_ln 1 hln rfl
  subst hpn
  exact lv_aload hx hb hd (hl.2 _ _ hv).1 (kk _ _ _ _ _ _ h ad ca ls H locs hn hag hl (xm_hs_push (hl.2 _ _ hv).2 hs) hm)
set_option maxHeartbeats 2000000 in
theorem xm_snd_aload_n (F : xm_fx own cc nL Ts ex xt C0 S0 p R s m args c D cl A) (O : xm_yok own cc Ts cl Y) (hini : Y.2.2.2.2.2 0 = 9 → meth.name = "<init>") (hRf : 1 ≤ R.frames) (hRl : 100 ≤ R.locals)
    (hoi : (Cond.instanceMethod objectInit).before args s = true ∧ (Cond.code objectInit ⟨#[0xb1]⟩ 1 none).before args s = true)
    (har : (Cond.arrayClass .int).before args s = true ∧ (Cond.arrayClass .long).before args s = true ∧ (Cond.arrayClass .boolean).before args s = true)
    (hcy : (Cond.native arraycopyName).before args s = true ∧ (Cond.static arraycopyName).before args s = true ∧ (Cond.initialized "java/lang/System").before args s = true)
    (hmn : (Cond.static Lib.Math.min.name).before args s = true ∧ (Cond.initialized "java/lang/Math").before args s = true ∧ (Cond.code Lib.Math.min.name Lib.Math.min.code 2 (some .int)).before args s = true)
    (hst : ∀ ix q, Y.2.2.2.2.1 ix = some q → ∃ (C n d : String), va_Z C n d (.ref (ex q)) A s s.heap ∧ (Cond.fieldLink own ix C n d).before args s = true)
    (hr : ∀ a1 a2 a3 a4 a5 a6, K a1 a2 a3 a4 a5 a6 → a5 ≤ C0 ∧ a6 ≤ S0)
    (kk : ∀ a1 a2 a3 a4 a5 a6, K a1 a2 a3 a4 a5 a6 → xm_W1 p l e R s m args below meth c Q D cl ex A nL n0 ad0 ca0 a1 a2 a3 a4 a5 a6) (h : (∃ (k : Fin 4) (q : Nat) (pn : Nat), Y.1 pc = some (.aload_n k, pn) ∧ loc[(k : Nat)]? = some (some (xv_r q)) ∧ K pn loc (xv_r q :: st) M nc ns)) : xm_W1 p l e R s m args below meth c Q D cl ex A nL n0 ad0 ca0 pc loc st M nc ns := by
  obtain ⟨hx, hb, hml, hown, hts, hK, hA, ⟨hRc, hRs⟩, hT⟩ := F
  obtain ⟨hdec, hkc, hkl, hfo, hno, hob, hcp, hmi⟩ := O
  intro ad ca ls H locs hn hag hl hs hm
  obtain ⟨k, q, pn, hi, hv, h⟩ := h
  obtain ⟨ln, hd, hpn, hln⟩ := hdec pc _ hi
  dsimp only at hd hpn hln
  obtain rfl := xm_ln 0 hln rfl
  subst hpn
  exact lv_aload_n hx hb hd rfl (hl.2 _ _ hv).1 (kk _ _ _ _ _ _ h ad ca ls H locs hn hag hl (xm_hs_push (hl.2 _ _ hv).2 hs) hm)
set_option maxHeartbeats 2000000 in
theorem xm_snd_aloadx (F : xm_fx own cc nL Ts ex xt C0 S0 p R s m args c D cl A) (O : xm_yok own cc Ts cl Y) (hini : Y.2.2.2.2.2 0 = 9 → meth.name = "<init>") (hRf : 1 ≤ R.frames) (hRl : 100 ≤ R.locals)
    (hoi : (Cond.instanceMethod objectInit).before args s = true ∧ (Cond.code objectInit ⟨#[0xb1]⟩ 1 none).before args s = true)
    (har : (Cond.arrayClass .int).before args s = true ∧ (Cond.arrayClass .long).before args s = true ∧ (Cond.arrayClass .boolean).before args s = true)
    (hcy : (Cond.native arraycopyName).before args s = true ∧ (Cond.static arraycopyName).before args s = true ∧ (Cond.initialized "java/lang/System").before args s = true)
    (hmn : (Cond.static Lib.Math.min.name).before args s = true ∧ (Cond.initialized "java/lang/Math").before args s = true ∧ (Cond.code Lib.Math.min.name Lib.Math.min.code 2 (some .int)).before args s = true)
    (hst : ∀ ix q, Y.2.2.2.2.1 ix = some q → ∃ (C n d : String), va_Z C n d (.ref (ex q)) A s s.heap ∧ (Cond.fieldLink own ix C n d).before args s = true)
    (hr : ∀ a1 a2 a3 a4 a5 a6, K a1 a2 a3 a4 a5 a6 → a5 ≤ C0 ∧ a6 ≤ S0)
    (kk : ∀ a1 a2 a3 a4 a5 a6, K a1 a2 a3 a4 a5 a6 → xm_W1 p l e R s m args below meth c Q D cl ex A nL n0 ad0 ca0 a1 a2 a3 a4 a5 a6) (h : (∃ (k : Nat) (q : Nat) (pn : Nat), Y.1 pc = some (.aload k, pn) ∧ loc[k]? = some (some (xv_x q)) ∧ K pn loc (xv_x q :: st) M nc ns)) : xm_W1 p l e R s m args below meth c Q D cl ex A nL n0 ad0 ca0 pc loc st M nc ns := by
  obtain ⟨hx, hb, hml, hown, hts, hK, hA, ⟨hRc, hRs⟩, hT⟩ := F
  obtain ⟨hdec, hkc, hkl, hfo, hno, hob, hcp, hmi⟩ := O
  intro ad ca ls H locs hn hag hl hs hm
  obtain ⟨k, q, pn, hi, hv, h⟩ := h
  obtain ⟨ln, hd, hpn, hln⟩ := hdec pc _ hi
  dsimp only at hd hpn hln
  obtain rfl := xm_ln 1 hln rfl
  subst hpn
  exact lv_aload hx hb hd (hl.2 _ _ hv).1 (kk _ _ _ _ _ _ h ad ca ls H locs hn hag hl (xm_hs_push trivial hs) hm)
set_option maxHeartbeats 2000000 in
theorem xm_snd_aload_nx (F : xm_fx own cc nL Ts ex xt C0 S0 p R s m args c D cl A) (O : xm_yok own cc Ts cl Y) (hini : Y.2.2.2.2.2 0 = 9 → meth.name = "<init>") (hRf : 1 ≤ R.frames) (hRl : 100 ≤ R.locals)
    (hoi : (Cond.instanceMethod objectInit).before args s = true ∧ (Cond.code objectInit ⟨#[0xb1]⟩ 1 none).before args s = true)
    (har : (Cond.arrayClass .int).before args s = true ∧ (Cond.arrayClass .long).before args s = true ∧ (Cond.arrayClass .boolean).before args s = true)
    (hcy : (Cond.native arraycopyName).before args s = true ∧ (Cond.static arraycopyName).before args s = true ∧ (Cond.initialized "java/lang/System").before args s = true)
    (hmn : (Cond.static Lib.Math.min.name).before args s = true ∧ (Cond.initialized "java/lang/Math").before args s = true ∧ (Cond.code Lib.Math.min.name Lib.Math.min.code 2 (some .int)).before args s = true)
    (hst : ∀ ix q, Y.2.2.2.2.1 ix = some q → ∃ (C n d : String), va_Z C n d (.ref (ex q)) A s s.heap ∧ (Cond.fieldLink own ix C n d).before args s = true)
    (hr : ∀ a1 a2 a3 a4 a5 a6, K a1 a2 a3 a4 a5 a6 → a5 ≤ C0 ∧ a6 ≤ S0)
    (kk : ∀ a1 a2 a3 a4 a5 a6, K a1 a2 a3 a4 a5 a6 → xm_W1 p l e R s m args below meth c Q D cl ex A nL n0 ad0 ca0 a1 a2 a3 a4 a5 a6) (h : (∃ (k : Fin 4) (q : Nat) (pn : Nat), Y.1 pc = some (.aload_n k, pn) ∧ loc[(k : Nat)]? = some (some (xv_x q)) ∧ K pn loc (xv_x q :: st) M nc ns)) : xm_W1 p l e R s m args below meth c Q D cl ex A nL n0 ad0 ca0 pc loc st M nc ns := by
  obtain ⟨hx, hb, hml, hown, hts, hK, hA, ⟨hRc, hRs⟩, hT⟩ := F
  obtain ⟨hdec, hkc, hkl, hfo, hno, hob, hcp, hmi⟩ := O
  intro ad ca ls H locs hn hag hl hs hm
  obtain ⟨k, q, pn, hi, hv, h⟩ := h
  obtain ⟨ln, hd, hpn, hln⟩ := hdec pc _ hi
  dsimp only at hd hpn hln
  obtain rfl := xm_ln 0 hln rfl
  subst hpn
  exact lv_aload_n hx hb hd rfl (hl.2 _ _ hv).1 (kk _ _ _ _ _ _ h ad ca ls H locs hn hag hl (xm_hs_push trivial hs) hm)
theorem xm_sndA (F : xm_fx own cc nL Ts ex xt C0 S0 p R s m args c D cl A) (O : xm_yok own cc Ts cl Y) (hini : Y.2.2.2.2.2 0 = 9 → meth.name = "<init>") (hRf : 1 ≤ R.frames) (hRl : 100 ≤ R.locals)
    (hoi : (Cond.instanceMethod objectInit).before args s = true ∧ (Cond.code objectInit ⟨#[0xb1]⟩ 1 none).before args s = true)
    (har : (Cond.arrayClass .int).before args s = true ∧ (Cond.arrayClass .long).before args s = true ∧ (Cond.arrayClass .boolean).before args s = true)
    (hcy : (Cond.native arraycopyName).before args s = true ∧ (Cond.static arraycopyName).before args s = true ∧ (Cond.initialized "java/lang/System").before args s = true)
    (hmn : (Cond.static Lib.Math.min.name).before args s = true ∧ (Cond.initialized "java/lang/Math").before args s = true ∧ (Cond.code Lib.Math.min.name Lib.Math.min.code 2 (some .int)).before args s = true)
    (hst : ∀ ix q, Y.2.2.2.2.1 ix = some q → ∃ (C n d : String), va_Z C n d (.ref (ex q)) A s s.heap ∧ (Cond.fieldLink own ix C n d).before args s = true)
    (hr : ∀ a1 a2 a3 a4 a5 a6, K a1 a2 a3 a4 a5 a6 → a5 ≤ C0 ∧ a6 ≤ S0)
    (kk : ∀ a1 a2 a3 a4 a5 a6, K a1 a2 a3 a4 a5 a6 → xm_W1 p l e R s m args below meth c Q D cl ex A nL n0 ad0 ca0 a1 a2 a3 a4 a5 a6) (h : xm_sA Y xt nL pc loc st M nc ns K) : xm_W1 p l e R s m args below meth c Q D cl ex A nL n0 ad0 ca0 pc loc st M nc ns := by
  unfold xm_sA at h
  rcases h with h | h | h | h | h | h | h | h | h | h | h | h | h | h
  · exact xm_snd_iconst F O hini hRf hRl hoi har hcy hmn hst hr kk h
  · exact xm_snd_bipush F O hini hRf hRl hoi har hcy hmn hst hr kk h
  · exact xm_snd_sipush F O hini hRf hRl hoi har hcy hmn hst hr kk h
  · exact xm_snd_lconst F O hini hRf hRl hoi har hcy hmn hst hr kk h
  · exact xm_snd_ldc F O hini hRf hRl hoi har hcy hmn hst hr kk h
  · exact xm_snd_ldc2 F O hini hRf hRl hoi har hcy hmn hst hr kk h
  · exact xm_snd_iload F O hini hRf hRl hoi har hcy hmn hst hr kk h
  · exact xm_snd_iload_n F O hini hRf hRl hoi har hcy hmn hst hr kk h
  · exact xm_snd_lload F O hini hRf hRl hoi har hcy hmn hst hr kk h
  · exact xm_snd_lload_n F O hini hRf hRl hoi har hcy hmn hst hr kk h
  · exact xm_snd_aload F O hini hRf hRl hoi har hcy hmn hst hr kk h
  · exact xm_snd_aload_n F O hini hRf hRl hoi har hcy hmn hst hr kk h
  · exact xm_snd_aloadx F O hini hRf hRl hoi har hcy hmn hst hr kk h
  · exact xm_snd_aload_nx F O hini hRf hRl hoi har hcy hmn hst hr kk h
theorem xm_exA (h : xm_sA Y xt nL pc loc st M nc ns K) : ∃ a1 a2 a3 a4 a5 a6, K a1 a2 a3 a4 a5 a6 ∧ nc ≤ a5 ∧ ns ≤ a6 := by
  unfold xm_sA at h
  rcases h with h | h | h | h | h | h | h | h | h | h | h | h | h | h
  · obtain ⟨_, _, _, h⟩ := h
    exact ⟨_, _, _, _, _, _, h, Nat.le_refl _, Nat.le_refl _⟩
  · obtain ⟨_, _, _, h⟩ := h
    exact ⟨_, _, _, _, _, _, h, Nat.le_refl _, Nat.le_refl _⟩
  · obtain ⟨_, _, _, h⟩ := h
    exact ⟨_, _, _, _, _, _, h, Nat.le_refl _, Nat.le_refl _⟩
  · obtain ⟨_, _, _, h⟩ := h
    exact ⟨_, _, _, _, _, _, h, Nat.le_refl _, Nat.le_refl _⟩
  · obtain ⟨_, _, _, _, _, h⟩ := h
    exact ⟨_, _, _, _, _, _, h, Nat.le_refl _, Nat.le_refl _⟩
  · obtain ⟨_, _, _, _, _, h⟩ := h
    exact ⟨_, _, _, _, _, _, h, Nat.le_refl _, Nat.le_refl _⟩
  · obtain ⟨_, _, _, _, _, h⟩ := h
    exact ⟨_, _, _, _, _, _, h, Nat.le_refl _, Nat.le_refl _⟩
  · obtain ⟨_, _, _, _, _, h⟩ := h
    exact ⟨_, _, _, _, _, _, h, Nat.le_refl _, Nat.le_refl _⟩
  · obtain ⟨_, _, _, _, _, h⟩ := h
    exact ⟨_, _, _, _, _, _, h, Nat.le_refl _, Nat.le_refl _⟩
  · obtain ⟨_, _, _, _, _, h⟩ := h
    exact ⟨_, _, _, _, _, _, h, Nat.le_refl _, Nat.le_refl _⟩
  · obtain ⟨_, _, _, _, _, h⟩ := h
    exact ⟨_, _, _, _, _, _, h, Nat.le_refl _, Nat.le_refl _⟩
  · obtain ⟨_, _, _, _, _, h⟩ := h
    exact ⟨_, _, _, _, _, _, h, Nat.le_refl _, Nat.le_refl _⟩
  · obtain ⟨_, _, _, _, _, h⟩ := h
    exact ⟨_, _, _, _, _, _, h, Nat.le_refl _, Nat.le_refl _⟩
  · obtain ⟨_, _, _, _, _, h⟩ := h
    exact ⟨_, _, _, _, _, _, h, Nat.le_refl _, Nat.le_refl _⟩
end XSTEP
