/-! Steps of the group C are true of the machine. -/
section XSTEP
variable {p : Program} {l : Launch} {e : Env} {R : Room} {s : State} {m : MethodId} {args : Array Value} {below : List Frame} {meth : Method} {c : Code} {Q : State → Prop} {D : va_G} {cl : List vw_C} {ex : Nat → Nat} {A : Nat → Prop} {nL n0 : Nat} {ad0 : Nat → Nat} {ca0 : Nat → ClassId}
variable {own : String} {cc : ByteArray} {Ts : List Cond} {xt : Nat → Nat × (Nat → Int32)} {C0 S0 : Nat} {Y : xm_Y} {K : xm_K} {pc : Nat} {loc : xm_L} {st : List xm_V} {M : xm_M} {nc ns : Nat}
set_option maxHeartbeats 2000000 in
theorem xm_snd_iadd (F : xm_fx own cc nL Ts ex xt C0 S0 p R s m args c D cl A) (O : xm_yok own cc Ts cl Y) (hini : Y.2.2.2.2.2 0 = 9 → meth.name = "<init>") (hRf : 1 ≤ R.frames) (hRl : 100 ≤ R.locals)
    (hoi : (Cond.instanceMethod objectInit).before args s = true ∧ (Cond.code objectInit ⟨#[0xb1]⟩ 1 none).before args s = true)
    (har : (Cond.arrayClass .int).before args s = true ∧ (Cond.arrayClass .long).before args s = true ∧ (Cond.arrayClass .boolean).before args s = true)
    (hcy : (Cond.native arraycopyName).before args s = true ∧ (Cond.static arraycopyName).before args s = true ∧ (Cond.initialized "java/lang/System").before args s = true)
    (hmn : (Cond.static Lib.Math.min.name).before args s = true ∧ (Cond.initialized "java/lang/Math").before args s = true ∧ (Cond.code Lib.Math.min.name Lib.Math.min.code 2 (some .int)).before args s = true)
    (hst : ∀ ix q, Y.2.2.2.2.1 ix = some q → ∃ (C n d : String), va_Z C n d (.ref (ex q)) A s s.heap ∧ (Cond.fieldLink own ix C n d).before args s = true)
    (hr : ∀ a1 a2 a3 a4 a5 a6, K a1 a2 a3 a4 a5 a6 → a5 ≤ C0 ∧ a6 ≤ S0)
    (kk : ∀ a1 a2 a3 a4 a5 a6, K a1 a2 a3 a4 a5 a6 → xm_W1 p l e R s m args below meth c Q D cl ex A nL n0 ad0 ca0 a1 a2 a3 a4 a5 a6) (h : (∃ (x : Int32) (y : Int32) (r : List xm_V) (pn : Nat), Y.1 pc = some (.iadd, pn) ∧ st = xv_i y :: xv_i x :: r ∧ K pn loc (xv_i (x + y) :: r) M nc ns)) : xm_W1 p l e R s m args below meth c Q D cl ex A nL n0 ad0 ca0 pc loc st M nc ns := by
  obtain ⟨hx, hb, hml, hown, hts, hK, hA, ⟨hRc, hRs⟩, hT⟩ := F
  obtain ⟨hdec, hkc, hkl, hfo, hno, hob, hcp, hmi⟩ := O
  intro ad ca ls H locs hn hag hl hs hm
  obtain ⟨x, y, r, pn, hi, rfl, h⟩ := h
  obtain ⟨ln, hd, hpn, hln⟩ := hdec pc _ hi
  dsimp only at hd hpn hln
  obtain rfl := xm_ln 0 hln rfl
  subst hpn
  exact lv_iadd hx hb hd (kk _ _ _ _ _ _ h ad ca ls H locs hn hag hl (xm_hs_push trivial (xm_hs_cons (xm_hs_cons hs).2).2) hm)
set_option maxHeartbeats 2000000 in
theorem xm_snd_isub (F : xm_fx own cc nL Ts ex xt C0 S0 p R s m args c D cl A) (O : xm_yok own cc Ts cl Y) (hini : Y.2.2.2.2.2 0 = 9 → meth.name = "<init>") (hRf : 1 ≤ R.frames) (hRl : 100 ≤ R.locals)
    (hoi : (Cond.instanceMethod objectInit).before args s = true ∧ (Cond.code objectInit ⟨#[0xb1]⟩ 1 none).before args s = true)
    (har : (Cond.arrayClass .int).before args s = true ∧ (Cond.arrayClass .long).before args s = true ∧ (Cond.arrayClass .boolean).before args s = true)
    (hcy : (Cond.native arraycopyName).before args s = true ∧ (Cond.static arraycopyName).before args s = true ∧ (Cond.initialized "java/lang/System").before args s = true)
    (hmn : (Cond.static Lib.Math.min.name).before args s = true ∧ (Cond.initialized "java/lang/Math").before args s = true ∧ (Cond.code Lib.Math.min.name Lib.Math.min.code 2 (some .int)).before args s = true)
    (hst : ∀ ix q, Y.2.2.2.2.1 ix = some q → ∃ (C n d : String), va_Z C n d (.ref (ex q)) A s s.heap ∧ (Cond.fieldLink own ix C n d).before args s = true)
    (hr : ∀ a1 a2 a3 a4 a5 a6, K a1 a2 a3 a4 a5 a6 → a5 ≤ C0 ∧ a6 ≤ S0)
    (kk : ∀ a1 a2 a3 a4 a5 a6, K a1 a2 a3 a4 a5 a6 → xm_W1 p l e R s m args below meth c Q D cl ex A nL n0 ad0 ca0 a1 a2 a3 a4 a5 a6) (h : (∃ (x : Int32) (y : Int32) (r : List xm_V) (pn : Nat), Y.1 pc = some (.isub, pn) ∧ st = xv_i y :: xv_i x :: r ∧ K pn loc (xv_i (x - y) :: r) M nc ns)) : xm_W1 p l e R s m args below meth c Q D cl ex A nL n0 ad0 ca0 pc loc st M nc ns := by
  obtain ⟨hx, hb, hml, hown, hts, hK, hA, ⟨hRc, hRs⟩, hT⟩ := F
  obtain ⟨hdec, hkc, hkl, hfo, hno, hob, hcp, hmi⟩ := O
  intro ad ca ls H locs hn hag hl hs hm
  obtain ⟨x, y, r, pn, hi, rfl, h⟩ := h
  obtain ⟨ln, hd, hpn, hln⟩ := hdec pc _ hi
  dsimp only at hd hpn hln
  obtain rfl := xm_ln 0 hln rfl
  subst hpn
  exact lv_isub hx hb hd (kk _ _ _ _ _ _ h ad ca ls H locs hn hag hl (xm_hs_push trivial (xm_hs_cons (xm_hs_cons hs).2).2) hm)
set_option maxHeartbeats 2000000 in
theorem xm_snd_imul (F : xm_fx own cc nL Ts ex xt C0 S0 p R s m args c D cl A) (O : xm_yok own cc Ts cl Y) (hini : Y.2.2.2.2.2 0 = 9 → meth.name = "<init>") (hRf : 1 ≤ R.frames) (hRl : 100 ≤ R.locals)
    (hoi : (Cond.instanceMethod objectInit).before args s = true ∧ (Cond.code objectInit ⟨#[0xb1]⟩ 1 none).before args s = true)
    (har : (Cond.arrayClass .int).before args s = true ∧ (Cond.arrayClass .long).before args s = true ∧ (Cond.arrayClass .boolean).before args s = true)
    (hcy : (Cond.native arraycopyName).before args s = true ∧ (Cond.static arraycopyName).before args s = true ∧ (Cond.initialized "java/lang/System").before args s = true)
    (hmn : (Cond.static Lib.Math.min.name).before args s = true ∧ (Cond.initialized "java/lang/Math").before args s = true ∧ (Cond.code Lib.Math.min.name Lib.Math.min.code 2 (some .int)).before args s = true)
    (hst : ∀ ix q, Y.2.2.2.2.1 ix = some q → ∃ (C n d : String), va_Z C n d (.ref (ex q)) A s s.heap ∧ (Cond.fieldLink own ix C n d).before args s = true)
    (hr : ∀ a1 a2 a3 a4 a5 a6, K a1 a2 a3 a4 a5 a6 → a5 ≤ C0 ∧ a6 ≤ S0)
    (kk : ∀ a1 a2 a3 a4 a5 a6, K a1 a2 a3 a4 a5 a6 → xm_W1 p l e R s m args below meth c Q D cl ex A nL n0 ad0 ca0 a1 a2 a3 a4 a5 a6) (h : (∃ (x : Int32) (y : Int32) (r : List xm_V) (pn : Nat), Y.1 pc = some (.imul, pn) ∧ st = xv_i y :: xv_i x :: r ∧ K pn loc (xv_i (x * y) :: r) M nc ns)) : xm_W1 p l e R s m args below meth c Q D cl ex A nL n0 ad0 ca0 pc loc st M nc ns := by
  obtain ⟨hx, hb, hml, hown, hts, hK, hA, ⟨hRc, hRs⟩, hT⟩ := F
  obtain ⟨hdec, hkc, hkl, hfo, hno, hob, hcp, hmi⟩ := O
  intro ad ca ls H locs hn hag hl hs hm
  obtain ⟨x, y, r, pn, hi, rfl, h⟩ := h
  obtain ⟨ln, hd, hpn, hln⟩ := hdec pc _ hi
  dsimp only at hd hpn hln
  obtain rfl := xm_ln 0 hln rfl
  subst hpn
  exact lv_imul hx hb hd (kk _ _ _ _ _ _ h ad ca ls H locs hn hag hl (xm_hs_push trivial (xm_hs_cons (xm_hs_cons hs).2).2) hm)
set_option maxHeartbeats 2000000 in
theorem xm_snd_iand (F : xm_fx own cc nL Ts ex xt C0 S0 p R s m args c D cl A) (O : xm_yok own cc Ts cl Y) (hini : Y.2.2.2.2.2 0 = 9 → meth.name = "<init>") (hRf : 1 ≤ R.frames) (hRl : 100 ≤ R.locals)
    (hoi : (Cond.instanceMethod objectInit).before args s = true ∧ (Cond.code objectInit ⟨#[0xb1]⟩ 1 none).before args s = true)
    (har : (Cond.arrayClass .int).before args s = true ∧ (Cond.arrayClass .long).before args s = true ∧ (Cond.arrayClass .boolean).before args s = true)
    (hcy : (Cond.native arraycopyName).before args s = true ∧ (Cond.static arraycopyName).before args s = true ∧ (Cond.initialized "java/lang/System").before args s = true)
    (hmn : (Cond.static Lib.Math.min.name).before args s = true ∧ (Cond.initialized "java/lang/Math").before args s = true ∧ (Cond.code Lib.Math.min.name Lib.Math.min.code 2 (some .int)).before args s = true)
    (hst : ∀ ix q, Y.2.2.2.2.1 ix = some q → ∃ (C n d : String), va_Z C n d (.ref (ex q)) A s s.heap ∧ (Cond.fieldLink own ix C n d).before args s = true)
    (hr : ∀ a1 a2 a3 a4 a5 a6, K a1 a2 a3 a4 a5 a6 → a5 ≤ C0 ∧ a6 ≤ S0)
    (kk : ∀ a1 a2 a3 a4 a5 a6, K a1 a2 a3 a4 a5 a6 → xm_W1 p l e R s m args below meth c Q D cl ex A nL n0 ad0 ca0 a1 a2 a3 a4 a5 a6) (h : (∃ (x : Int32) (y : Int32) (r : List xm_V) (pn : Nat), Y.1 pc = some (.iand, pn) ∧ st = xv_i y :: xv_i x :: r ∧ K pn loc (xv_i (x &&& y) :: r) M nc ns)) : xm_W1 p l e R s m args below meth c Q D cl ex A nL n0 ad0 ca0 pc loc st M nc ns := by
  obtain ⟨hx, hb, hml, hown, hts, hK, hA, ⟨hRc, hRs⟩, hT⟩ := F
  obtain ⟨hdec, hkc, hkl, hfo, hno, hob, hcp, hmi⟩ := O
  intro ad ca ls H locs hn hag hl hs hm
  obtain ⟨x, y, r, pn, hi, rfl, h⟩ := h
  obtain ⟨ln, hd, hpn, hln⟩ := hdec pc _ hi
  dsimp only at hd hpn hln
  obtain rfl := xm_ln 0 hln rfl
  subst hpn
  exact lv_iand hx hb hd (kk _ _ _ _ _ _ h ad ca ls H locs hn hag hl (xm_hs_push trivial (xm_hs_cons (xm_hs_cons hs).2).2) hm)
set_option maxHeartbeats 2000000 in
theorem xm_snd_ior (F : xm_fx own cc nL Ts ex xt C0 S0 p R s m args c D cl A) (O : xm_yok own cc Ts cl Y) (hini : Y.2.2.2.2.2 0 = 9 → meth.name = "<init>") (hRf : 1 ≤ R.frames) (hRl : 100 ≤ R.locals)
    (hoi : (Cond.instanceMethod objectInit).before args s = true ∧ (Cond.code objectInit ⟨#[0xb1]⟩ 1 none).before args s = true)
    (har : (Cond.arrayClass .int).before args s = true ∧ (Cond.arrayClass .long).before args s = true ∧ (Cond.arrayClass .boolean).before args s = true)
    (hcy : (Cond.native arraycopyName).before args s = true ∧ (Cond.static arraycopyName).before args s = true ∧ (Cond.initialized "java/lang/System").before args s = true)
    (hmn : (Cond.static Lib.Math.min.name).before args s = true ∧ (Cond.initialized "java/lang/Math").before args s = true ∧ (Cond.code Lib.Math.min.name Lib.Math.min.code 2 (some .int)).before args s = true)
    (hst : ∀ ix q, Y.2.2.2.2.1 ix = some q → ∃ (C n d : String), va_Z C n d (.ref (ex q)) A s s.heap ∧ (Cond.fieldLink own ix C n d).before args s = true)
    (hr : ∀ a1 a2 a3 a4 a5 a6, K a1 a2 a3 a4 a5 a6 → a5 ≤ C0 ∧ a6 ≤ S0)
    (kk : ∀ a1 a2 a3 a4 a5 a6, K a1 a2 a3 a4 a5 a6 → xm_W1 p l e R s m args below meth c Q D cl ex A nL n0 ad0 ca0 a1 a2 a3 a4 a5 a6) (h : (∃ (x : Int32) (y : Int32) (r : List xm_V) (pn : Nat), Y.1 pc = some (.ior, pn) ∧ st = xv_i y :: xv_i x :: r ∧ K pn loc (xv_i (x ||| y) :: r) M nc ns)) : xm_W1 p l e R s m args below meth c Q D cl ex A nL n0 ad0 ca0 pc loc st M nc ns := by
  obtain ⟨hx, hb, hml, hown, hts, hK, hA, ⟨hRc, hRs⟩, hT⟩ := F
  obtain ⟨hdec, hkc, hkl, hfo, hno, hob, hcp, hmi⟩ := O
  intro ad ca ls H locs hn hag hl hs hm
  obtain ⟨x, y, r, pn, hi, rfl, h⟩ := h
  obtain ⟨ln, hd, hpn, hln⟩ := hdec pc _ hi
  dsimp only at hd hpn hln
  obtain rfl := xm_ln 0 hln rfl
  subst hpn
  exact lv_ior hx hb hd (kk _ _ _ _ _ _ h ad ca ls H locs hn hag hl (xm_hs_push trivial (xm_hs_cons (xm_hs_cons hs).2).2) hm)
set_option maxHeartbeats 2000000 in
theorem xm_snd_ixor (F : xm_fx own cc nL Ts ex xt C0 S0 p R s m args c D cl A) (O : xm_yok own cc Ts cl Y) (hini : Y.2.2.2.2.2 0 = 9 → meth.name = "<init>") (hRf : 1 ≤ R.frames) (hRl : 100 ≤ R.locals)
    (hoi : (Cond.instanceMethod objectInit).before args s = true ∧ (Cond.code objectInit ⟨#[0xb1]⟩ 1 none).before args s = true)
    (har : (Cond.arrayClass .int).before args s = true ∧ (Cond.arrayClass .long).before args s = true ∧ (Cond.arrayClass .boolean).before args s = true)
    (hcy : (Cond.native arraycopyName).before args s = true ∧ (Cond.static arraycopyName).before args s = true ∧ (Cond.initialized "java/lang/System").before args s = true)
    (hmn : (Cond.static Lib.Math.min.name).before args s = true ∧ (Cond.initialized "java/lang/Math").before args s = true ∧ (Cond.code Lib.Math.min.name Lib.Math.min.code 2 (some .int)).before args s = true)
    (hst : ∀ ix q, Y.2.2.2.2.1 ix = some q → ∃ (C n d : String), va_Z C n d (.ref (ex q)) A s s.heap ∧ (Cond.fieldLink own ix C n d).before args s = true)
    (hr : ∀ a1 a2 a3 a4 a5 a6, K a1 a2 a3 a4 a5 a6 → a5 ≤ C0 ∧ a6 ≤ S0)
    (kk : ∀ a1 a2 a3 a4 a5 a6, K a1 a2 a3 a4 a5 a6 → xm_W1 p l e R s m args below meth c Q D cl ex A nL n0 ad0 ca0 a1 a2 a3 a4 a5 a6) (h : (∃ (x : Int32) (y : Int32) (r : List xm_V) (pn : Nat), Y.1 pc = some (.ixor, pn) ∧ st = xv_i y :: xv_i x :: r ∧ K pn loc (xv_i (x ^^^ y) :: r) M nc ns)) : xm_W1 p l e R s m args below meth c Q D cl ex A nL n0 ad0 ca0 pc loc st M nc ns := by
  obtain ⟨hx, hb, hml, hown, hts, hK, hA, ⟨hRc, hRs⟩, hT⟩ := F
  obtain ⟨hdec, hkc, hkl, hfo, hno, hob, hcp, hmi⟩ := O
  intro ad ca ls H locs hn hag hl hs hm
  obtain ⟨x, y, r, pn, hi, rfl, h⟩ := h
  obtain ⟨ln, hd, hpn, hln⟩ := hdec pc _ hi
  dsimp only at hd hpn hln
  obtain rfl := xm_ln 0 hln rfl
  subst hpn
  exact lv_ixor hx hb hd (kk _ _ _ _ _ _ h ad ca ls H locs hn hag hl (xm_hs_push trivial (xm_hs_cons (xm_hs_cons hs).2).2) hm)
set_option maxHeartbeats 2000000 in
theorem xm_snd_ishl (F : xm_fx own cc nL Ts ex xt C0 S0 p R s m args c D cl A) (O : xm_yok own cc Ts cl Y) (hini : Y.2.2.2.2.2 0 = 9 → meth.name = "<init>") (hRf : 1 ≤ R.frames) (hRl : 100 ≤ R.locals)
    (hoi : (Cond.instanceMethod objectInit).before args s = true ∧ (Cond.code objectInit ⟨#[0xb1]⟩ 1 none).before args s = true)
    (har : (Cond.arrayClass .int).before args s = true ∧ (Cond.arrayClass .long).before args s = true ∧ (Cond.arrayClass .boolean).before args s = true)
    (hcy : (Cond.native arraycopyName).before args s = true ∧ (Cond.static arraycopyName).before args s = true ∧ (Cond.initialized "java/lang/System").before args s = true)
    (hmn : (Cond.static Lib.Math.min.name).before args s = true ∧ (Cond.initialized "java/lang/Math").before args s = true ∧ (Cond.code Lib.Math.min.name Lib.Math.min.code 2 (some .int)).before args s = true)
    (hst : ∀ ix q, Y.2.2.2.2.1 ix = some q → ∃ (C n d : String), va_Z C n d (.ref (ex q)) A s s.heap ∧ (Cond.fieldLink own ix C n d).before args s = true)
    (hr : ∀ a1 a2 a3 a4 a5 a6, K a1 a2 a3 a4 a5 a6 → a5 ≤ C0 ∧ a6 ≤ S0)
    (kk : ∀ a1 a2 a3 a4 a5 a6, K a1 a2 a3 a4 a5 a6 → xm_W1 p l e R s m args below meth c Q D cl ex A nL n0 ad0 ca0 a1 a2 a3 a4 a5 a6) (h : (∃ (x : Int32) (y : Int32) (r : List xm_V) (pn : Nat), Y.1 pc = some (.ishl, pn) ∧ st = xv_i y :: xv_i x :: r ∧ K pn loc (xv_i (x <<< (y &&& 31)) :: r) M nc ns)) : xm_W1 p l e R s m args below meth c Q D cl ex A nL n0 ad0 ca0 pc loc st M nc ns := by
  obtain ⟨hx, hb, hml, hown, hts, hK, hA, ⟨hRc, hRs⟩, hT⟩ := F
  obtain ⟨hdec, hkc, hkl, hfo, hno, hob, hcp, hmi⟩ := O
  intro ad ca ls H locs hn hag hl hs hm
  obtain ⟨x, y, r, pn, hi, rfl, h⟩ := h
  obtain ⟨ln, hd, hpn, hln⟩ := hdec pc _ hi
  dsimp only at hd hpn hln
  obtain rfl := xm_ln 0 hln rfl
  subst hpn
  exact lv_ishl hx hb hd (kk _ _ _ _ _ _ h ad ca ls H locs hn hag hl (xm_hs_push trivial (xm_hs_cons (xm_hs_cons hs).2).2) hm)
set_option maxHeartbeats 2000000 in
theorem xm_snd_ishr (F : xm_fx own cc nL Ts ex xt C0 S0 p R s m args c D cl A) (O : xm_yok own cc Ts cl Y) (hini : Y.2.2.2.2.2 0 = 9 → meth.name = "<init>") (hRf : 1 ≤ R.frames) (hRl : 100 ≤ R.locals)
    (hoi : (Cond.instanceMethod objectInit).before args s = true ∧ (Cond.code objectInit ⟨#[0xb1]⟩ 1 none).before args s = true)
    (har : (Cond.arrayClass .int).before args s = true ∧ (Cond.arrayClass .long).before args s = true ∧ (Cond.arrayClass .boolean).before args s = true)
    (hcy : (Cond.native arraycopyName).before args s = true ∧ (Cond.static arraycopyName).before args s = true ∧ (Cond.initialized "java/lang/System").before args s = true)
    (hmn : (Cond.static Lib.Math.min.name).before args s = true ∧ (Cond.initialized "java/lang/Math").before args s = true ∧ (Cond.code Lib.Math.min.name Lib.Math.min.code 2 (some .int)).before args s = true)
    (hst : ∀ ix q, Y.2.2.2.2.1 ix = some q → ∃ (C n d : String), va_Z C n d (.ref (ex q)) A s s.heap ∧ (Cond.fieldLink own ix C n d).before args s = true)
    (hr : ∀ a1 a2 a3 a4 a5 a6, K a1 a2 a3 a4 a5 a6 → a5 ≤ C0 ∧ a6 ≤ S0)
    (kk : ∀ a1 a2 a3 a4 a5 a6, K a1 a2 a3 a4 a5 a6 → xm_W1 p l e R s m args below meth c Q D cl ex A nL n0 ad0 ca0 a1 a2 a3 a4 a5 a6) (h : (∃ (x : Int32) (y : Int32) (r : List xm_V) (pn : Nat), Y.1 pc = some (.ishr, pn) ∧ st = xv_i y :: xv_i x :: r ∧ K pn loc (xv_i (x >>> (y &&& 31)) :: r) M nc ns)) : xm_W1 p l e R s m args below meth c Q D cl ex A nL n0 ad0 ca0 pc loc st M nc ns := by
  obtain ⟨hx, hb, hml, hown, hts, hK, hA, ⟨hRc, hRs⟩, hT⟩ := F
  obtain ⟨hdec, hkc, hkl, hfo, hno, hob, hcp, hmi⟩ := O
  intro ad ca ls H locs hn hag hl hs hm
  obtain ⟨x, y, r, pn, hi, rfl, h⟩ := h
  obtain ⟨ln, hd, hpn, hln⟩ := hdec pc _ hi
  dsimp only at hd hpn hln
  obtain rfl := xm_ln 0 hln rfl
  subst hpn
  exact lv_ishr hx hb hd (kk _ _ _ _ _ _ h ad ca ls H locs hn hag hl (xm_hs_push trivial (xm_hs_cons (xm_hs_cons hs).2).2) hm)
set_option maxHeartbeats 2000000 in
theorem xm_snd_idiv (F : xm_fx own cc nL Ts ex xt C0 S0 p R s m args c D cl A) (O : xm_yok own cc Ts cl Y) (hini : Y.2.2.2.2.2 0 = 9 → meth.name = "<init>") (hRf : 1 ≤ R.frames) (hRl : 100 ≤ R.locals)
    (hoi : (Cond.instanceMethod objectInit).before args s = true ∧ (Cond.code objectInit ⟨#[0xb1]⟩ 1 none).before args s = true)
    (har : (Cond.arrayClass .int).before args s = true ∧ (Cond.arrayClass .long).before args s = true ∧ (Cond.arrayClass .boolean).before args s = true)
    (hcy : (Cond.native arraycopyName).before args s = true ∧ (Cond.static arraycopyName).before args s = true ∧ (Cond.initialized "java/lang/System").before args s = true)
    (hmn : (Cond.static Lib.Math.min.name).before args s = true ∧ (Cond.initialized "java/lang/Math").before args s = true ∧ (Cond.code Lib.Math.min.name Lib.Math.min.code 2 (some .int)).before args s = true)
    (hst : ∀ ix q, Y.2.2.2.2.1 ix = some q → ∃ (C n d : String), va_Z C n d (.ref (ex q)) A s s.heap ∧ (Cond.fieldLink own ix C n d).before args s = true)
    (hr : ∀ a1 a2 a3 a4 a5 a6, K a1 a2 a3 a4 a5 a6 → a5 ≤ C0 ∧ a6 ≤ S0)
    (kk : ∀ a1 a2 a3 a4 a5 a6, K a1 a2 a3 a4 a5 a6 → xm_W1 p l e R s m args below meth c Q D cl ex A nL n0 ad0 ca0 a1 a2 a3 a4 a5 a6) (h : (∃ (x : Int32) (y : Int32) (r : List xm_V) (pn : Nat), Y.1 pc = some (.idiv, pn) ∧ st = xv_i y :: xv_i x :: r ∧ ¬ y = 0 ∧ K pn loc (xv_i (x / y) :: r) M nc ns)) : xm_W1 p l e R s m args below meth c Q D cl ex A nL n0 ad0 ca0 pc loc st M nc ns := by
  obtain ⟨hx, hb, hml, hown, hts, hK, hA, ⟨hRc, hRs⟩, hT⟩ := F
  obtain ⟨hdec, hkc, hkl, hfo, hno, hob, hcp, hmi⟩ := O
  intro ad ca ls H locs hn hag hl hs hm
  obtain ⟨x, y, r, pn, hi, rfl, h0, h⟩ := h
  obtain ⟨ln, hd, hpn, hln⟩ := hdec pc _ hi
  dsimp only at hd hpn hln
  obtain rfl := xm_ln 0 hln rfl
  subst hpn
  exact lv_idiv hx hb hd h0 (kk _ _ _ _ _ _ h ad ca ls H locs hn hag hl (xm_hs_push trivial (xm_hs_cons (xm_hs_cons hs).2).2) hm)
set_option maxHeartbeats 2000000 in
theorem xm_snd_ladd (F : xm_fx own cc nL Ts ex xt C0 S0 p R s m args c D cl A) (O : xm_yok own cc Ts cl Y) (hini : Y.2.2.2.2.2 0 = 9 → meth.name = "<init>") (hRf : 1 ≤ R.frames) (hRl : 100 ≤ R.locals)
    (hoi : (Cond.instanceMethod objectInit).before args s = true ∧ (Cond.code objectInit ⟨#[0xb1]⟩ 1 none).before args s = true)
    (har : (Cond.arrayClass .int).before args s = true ∧ (Cond.arrayClass .long).before args s = true ∧ (Cond.arrayClass .boolean).before args s = true)
    (hcy : (Cond.native arraycopyName).before args s = true ∧ (Cond.static arraycopyName).before args s = true ∧ (Cond.initialized "java/lang/System").before args s = true)
    (hmn : (Cond.static Lib.Math.min.name).before args s = true ∧ (Cond.initialized "java/lang/Math").before args s = true ∧ (Cond.code Lib.Math.min.name Lib.Math.min.code 2 (some .int)).before args s = true)
    (hst : ∀ ix q, Y.2.2.2.2.1 ix = some q → ∃ (C n d : String), va_Z C n d (.ref (ex q)) A s s.heap ∧ (Cond.fieldLink own ix C n d).before args s = true)
    (hr : ∀ a1 a2 a3 a4 a5 a6, K a1 a2 a3 a4 a5 a6 → a5 ≤ C0 ∧ a6 ≤ S0)
    (kk : ∀ a1 a2 a3 a4 a5 a6, K a1 a2 a3 a4 a5 a6 → xm_W1 p l e R s m args below meth c Q D cl ex A nL n0 ad0 ca0 a1 a2 a3 a4 a5 a6) (h : (∃ (x : Int64) (y : Int64) (r : List xm_V) (pn : Nat), Y.1 pc = some (.ladd, pn) ∧ st = xv_l y :: xv_l x :: r ∧ K pn loc (xv_l (x + y) :: r) M nc ns)) : xm_W1 p l e R s m args below meth c Q D cl ex A nL n0 ad0 ca0 pc loc st M nc ns := by
  obtain ⟨hx, hb, hml, hown, hts, hK, hA, ⟨hRc, hRs⟩, hT⟩ := F
  obtain ⟨hdec, hkc, hkl, hfo, hno, hob, hcp, hmi⟩ := O
  intro ad ca ls H locs hn hag hl hs hm
  obtain ⟨x, y, r, pn, hi, rfl, h⟩ := h
  obtain ⟨ln, hd, hpn, hln⟩ := hdec pc _ hi
  dsimp only at hd hpn hln
  obtain rfl := xm_ln 0 hln rfl
  subst hpn
  exact lv_ladd hx hb hd (kk _ _ _ _ _ _ h ad ca ls H locs hn hag hl (xm_hs_push trivial (xm_hs_cons (xm_hs_cons hs).2).2) hm)
set_option maxHeartbeats 2000000 in
theorem xm_snd_lsub (F : xm_fx own cc nL Ts ex xt C0 S0 p R s m args c D cl A) (O : xm_yok own cc Ts cl Y) (hini : Y.2.2.2.2.2 0 = 9 → meth.name = "<init>") (hRf : 1 ≤ R.frames) (hRl : 100 ≤ R.locals)
    (hoi : (Cond.instanceMethod objectInit).before args s = true ∧ (Cond.code objectInit ⟨#[0xb1]⟩ 1 none).before args s = true)
    (har : (Cond.arrayClass .int).before args s = true ∧ (Cond.arrayClass .long).before args s = true ∧ (Cond.arrayClass .boolean).before args s = true)
    (hcy : (Cond.native arraycopyName).before args s = true ∧ (Cond.static arraycopyName).before args s = true ∧ (Cond.initialized "java/lang/System").before args s = true)
    (hmn : (Cond.static Lib.Math.min.name).before args s = true ∧ (Cond.initialized "java/lang/Math").before args s = true ∧ (Cond.code Lib.Math.min.name Lib.Math.min.code 2 (some .int)).before args s = true)
    (hst : ∀ ix q, Y.2.2.2.2.1 ix = some q → ∃ (C n d : String), va_Z C n d (.ref (ex q)) A s s.heap ∧ (Cond.fieldLink own ix C n d).before args s = true)
    (hr : ∀ a1 a2 a3 a4 a5 a6, K a1 a2 a3 a4 a5 a6 → a5 ≤ C0 ∧ a6 ≤ S0)
    (kk : ∀ a1 a2 a3 a4 a5 a6, K a1 a2 a3 a4 a5 a6 → xm_W1 p l e R s m args below meth c Q D cl ex A nL n0 ad0 ca0 a1 a2 a3 a4 a5 a6) (h : (∃ (x : Int64) (y : Int64) (r : List xm_V) (pn : Nat), Y.1 pc = some (.lsub, pn) ∧ st = xv_l y :: xv_l x :: r ∧ K pn loc (xv_l (x - y) :: r) M nc ns)) : xm_W1 p l e R s m args below meth c Q D cl ex A nL n0 ad0 ca0 pc loc st M nc ns := by
  obtain ⟨hx, hb, hml, hown, hts, hK, hA, ⟨hRc, hRs⟩, hT⟩ := F
  obtain ⟨hdec, hkc, hkl, hfo, hno, hob, hcp, hmi⟩ := O
  intro ad ca ls H locs hn hag hl hs hm
  obtain ⟨x, y, r, pn, hi, rfl, h⟩ := h
  obtain ⟨ln, hd, hpn, hln⟩ := hdec pc _ hi
  dsimp only at hd hpn hln
  obtain rfl := xm_ln 0 hln rfl
  subst hpn
  exact lv_lsub hx hb hd (kk _ _ _ _ _ _ h ad ca ls H locs hn hag hl (xm_hs_push trivial (xm_hs_cons (xm_hs_cons hs).2).2) hm)
set_option maxHeartbeats 2000000 in
theorem xm_snd_land (F : xm_fx own cc nL Ts ex xt C0 S0 p R s m args c D cl A) (O : xm_yok own cc Ts cl Y) (hini : Y.2.2.2.2.2 0 = 9 → meth.name = "<init>") (hRf : 1 ≤ R.frames) (hRl : 100 ≤ R.locals)
    (hoi : (Cond.instanceMethod objectInit).before args s = true ∧ (Cond.code objectInit ⟨#[0xb1]⟩ 1 none).before args s = true)
    (har : (Cond.arrayClass .int).before args s = true ∧ (Cond.arrayClass .long).before args s = true ∧ (Cond.arrayClass .boolean).before args s = true)
    (hcy : (Cond.native arraycopyName).before args s = true ∧ (Cond.static arraycopyName).before args s = true ∧ (Cond.initialized "java/lang/System").before args s = true)
    (hmn : (Cond.static Lib.Math.min.name).before args s = true ∧ (Cond.initialized "java/lang/Math").before args s = true ∧ (Cond.code Lib.Math.min.name Lib.Math.min.code 2 (some .int)).before args s = true)
    (hst : ∀ ix q, Y.2.2.2.2.1 ix = some q → ∃ (C n d : String), va_Z C n d (.ref (ex q)) A s s.heap ∧ (Cond.fieldLink own ix C n d).before args s = true)
    (hr : ∀ a1 a2 a3 a4 a5 a6, K a1 a2 a3 a4 a5 a6 → a5 ≤ C0 ∧ a6 ≤ S0)
    (kk : ∀ a1 a2 a3 a4 a5 a6, K a1 a2 a3 a4 a5 a6 → xm_W1 p l e R s m args below meth c Q D cl ex A nL n0 ad0 ca0 a1 a2 a3 a4 a5 a6) (h : (∃ (x : Int64) (y : Int64) (r : List xm_V) (pn : Nat), Y.1 pc = some (.land, pn) ∧ st = xv_l y :: xv_l x :: r ∧ K pn loc (xv_l (x &&& y) :: r) M nc ns)) : xm_W1 p l e R s m args below meth c Q D cl ex A nL n0 ad0 ca0 pc loc st M nc ns := by
  obtain ⟨hx, hb, hml, hown, hts, hK, hA, ⟨hRc, hRs⟩, hT⟩ := F
  obtain ⟨hdec, hkc, hkl, hfo, hno, hob, hcp, hmi⟩ := O
  intro ad ca ls H locs hn hag hl hs hm
  obtain ⟨x, y, r, pn, hi, rfl, h⟩ := h
  obtain ⟨ln, hd, hpn, hln⟩ := hdec pc _ hi
  dsimp only at hd hpn hln
  obtain rfl := xm_ln 0 hln rfl
  subst hpn
  exact lv_land hx hb hd (kk _ _ _ _ _ _ h ad ca ls H locs hn hag hl (xm_hs_push trivial (xm_hs_cons (xm_hs_cons hs).2).2) hm)
set_option maxHeartbeats 2000000 in
theorem xm_snd_lor (F : xm_fx own cc nL Ts ex xt C0 S0 p R s m args c D cl A) (O : xm_yok own cc Ts cl Y) (hini : Y.2.2.2.2.2 0 = 9 → meth.name = "<init>") (hRf : 1 ≤ R.frames) (hRl : 100 ≤ R.locals)
    (hoi : (Cond.instanceMethod objectInit).before args s = true ∧ (Cond.code objectInit ⟨#[0xb1]⟩ 1 none).before args s = true)
    (har : (Cond.arrayClass .int).before args s = true ∧ (Cond.arrayClass .long).before args s = true ∧ (Cond.arrayClass .boolean).before args s = true)
    (hcy : (Cond.native arraycopyName).before args s = true ∧ (Cond.static arraycopyName).before args s = true ∧ (Cond.initialized "java/lang/System").before args s = true)
    (hmn : (Cond.static Lib.Math.min.name).before args s = true ∧ (Cond.initialized "java/lang/Math").before args s = true ∧ (Cond.code Lib.Math.min.name Lib.Math.min.code 2 (some .int)).before args s = true)
    (hst : ∀ ix q, Y.2.2.2.2.1 ix = some q → ∃ (C n d : String), va_Z C n d (.ref (ex q)) A s s.heap ∧ (Cond.fieldLink own ix C n d).before args s = true)
    (hr : ∀ a1 a2 a3 a4 a5 a6, K a1 a2 a3 a4 a5 a6 → a5 ≤ C0 ∧ a6 ≤ S0)
    (kk : ∀ a1 a2 a3 a4 a5 a6, K a1 a2 a3 a4 a5 a6 → xm_W1 p l e R s m args below meth c Q D cl ex A nL n0 ad0 ca0 a1 a2 a3 a4 a5 a6) (h : (∃ (x : Int64) (y : Int64) (r : List xm_V) (pn : Nat), Y.1 pc = some (.lor, pn) ∧ st = xv_l y :: xv_l x :: r ∧ K pn loc (xv_l (x ||| y) :: r) M nc ns)) : xm_W1 p l e R s m args below meth c Q D cl ex A nL n0 ad0 ca0 pc loc st M nc ns := by
  obtain ⟨hx, hb, hml, hown, hts, hK, hA, ⟨hRc, hRs⟩, hT⟩ := F
  obtain ⟨hdec, hkc, hkl, hfo, hno, hob, hcp, hmi⟩ := O
  intro ad ca ls H locs hn hag hl hs hm
  obtain ⟨x, y, r, pn, hi, rfl, h⟩ := h
  obtain ⟨ln, hd, hpn, hln⟩ := hdec pc _ hi
  dsimp only at hd hpn hln
  obtain rfl := xm_ln 0 hln rfl
  subst hpn
  exact lv_lor hx hb hd (kk _ _ _ _ _ _ h ad ca ls H locs hn hag hl (xm_hs_push trivial (xm_hs_cons (xm_hs_cons hs).2).2) hm)
set_option maxHeartbeats 2000000 in
theorem xm_snd_lcmp (F : xm_fx own cc nL Ts ex xt C0 S0 p R s m args c D cl A) (O : xm_yok own cc Ts cl Y) (hini : Y.2.2.2.2.2 0 = 9 → meth.name = "<init>") (hRf : 1 ≤ R.frames) (hRl : 100 ≤ R.locals)
    (hoi : (Cond.instanceMethod objectInit).before args s = true ∧ (Cond.code objectInit ⟨#[0xb1]⟩ 1 none).before args s = true)
    (har : (Cond.arrayClass .int).before args s = true ∧ (Cond.arrayClass .long).before args s = true ∧ (Cond.arrayClass .boolean).before args s = true)
    (hcy : (Cond.native arraycopyName).before args s = true ∧ (Cond.static arraycopyName).before args s = true ∧ (Cond.initialized "java/lang/System").before args s = true)
    (hmn : (Cond.static Lib.Math.min.name).before args s = true ∧ (Cond.initialized "java/lang/Math").before args s = true ∧ (Cond.code Lib.Math.min.name Lib.Math.min.code 2 (some .int)).before args s = true)
    (hst : ∀ ix q, Y.2.2.2.2.1 ix = some q → ∃ (C n d : String), va_Z C n d (.ref (ex q)) A s s.heap ∧ (Cond.fieldLink own ix C n d).before args s = true)
    (hr : ∀ a1 a2 a3 a4 a5 a6, K a1 a2 a3 a4 a5 a6 → a5 ≤ C0 ∧ a6 ≤ S0)
    (kk : ∀ a1 a2 a3 a4 a5 a6, K a1 a2 a3 a4 a5 a6 → xm_W1 p l e R s m args below meth c Q D cl ex A nL n0 ad0 ca0 a1 a2 a3 a4 a5 a6) (h : (∃ (x : Int64) (y : Int64) (r : List xm_V) (pn : Nat), Y.1 pc = some (.lcmp, pn) ∧ st = xv_l y :: xv_l x :: r ∧ K pn loc (xv_i (lg_cmp x y) :: r) M nc ns)) : xm_W1 p l e R s m args below meth c Q D cl ex A nL n0 ad0 ca0 pc loc st M nc ns := by
  obtain ⟨hx, hb, hml, hown, hts, hK, hA, ⟨hRc, hRs⟩, hT⟩ := F
  obtain ⟨hdec, hkc, hkl, hfo, hno, hob, hcp, hmi⟩ := O
  intro ad ca ls H locs hn hag hl hs hm
  obtain ⟨x, y, r, pn, hi, rfl, h⟩ := h
  obtain ⟨ln, hd, hpn, hln⟩ := hdec pc _ hi
  dsimp only at hd hpn hln
  obtain rfl := xm_ln 0 hln rfl
  subst hpn
  exact W.lcmp hx hb hd (kk _ _ _ _ _ _ h ad ca ls H locs hn hag hl (xm_hs_push trivial (xm_hs_cons (xm_hs_cons hs).2).2) hm)
set_option maxHeartbeats 2000000 in
theorem xm_snd_lshl (F : xm_fx own cc nL Ts ex xt C0 S0 p R s m args c D cl A) (O : xm_yok own cc Ts cl Y) (hini : Y.2.2.2.2.2 0 = 9 → meth.name = "<init>") (hRf : 1 ≤ R.frames) (hRl : 100 ≤ R.locals)
    (hoi : (Cond.instanceMethod objectInit).before args s = true ∧ (Cond.code objectInit ⟨#[0xb1]⟩ 1 none).before args s = true)
    (har : (Cond.arrayClass .int).before args s = true ∧ (Cond.arrayClass .long).before args s = true ∧ (Cond.arrayClass .boolean).before args s = true)
    (hcy : (Cond.native arraycopyName).before args s = true ∧ (Cond.static arraycopyName).before args s = true ∧ (Cond.initialized "java/lang/System").before args s = true)
    (hmn : (Cond.static Lib.Math.min.name).before args s = true ∧ (Cond.initialized "java/lang/Math").before args s = true ∧ (Cond.code Lib.Math.min.name Lib.Math.min.code 2 (some .int)).before args s = true)
    (hst : ∀ ix q, Y.2.2.2.2.1 ix = some q → ∃ (C n d : String), va_Z C n d (.ref (ex q)) A s s.heap ∧ (Cond.fieldLink own ix C n d).before args s = true)
    (hr : ∀ a1 a2 a3 a4 a5 a6, K a1 a2 a3 a4 a5 a6 → a5 ≤ C0 ∧ a6 ≤ S0)
    (kk : ∀ a1 a2 a3 a4 a5 a6, K a1 a2 a3 a4 a5 a6 → xm_W1 p l e R s m args below meth c Q D cl ex A nL n0 ad0 ca0 a1 a2 a3 a4 a5 a6) (h : (∃ (x : Int64) (y : Int32) (r : List xm_V) (pn : Nat), Y.1 pc = some (.lshl, pn) ∧ st = xv_i y :: xv_l x :: r ∧ K pn loc (xv_l (x <<< (y.toInt64 &&& 63)) :: r) M nc ns)) : xm_W1 p l e R s m args below meth c Q D cl ex A nL n0 ad0 ca0 pc loc st M nc ns := by
  obtain ⟨hx, hb, hml, hown, hts, hK, hA, ⟨hRc, hRs⟩, hT⟩ := F
  obtain ⟨hdec, hkc, hkl, hfo, hno, hob, hcp, hmi⟩ := O
  intro ad ca ls H locs hn hag hl hs hm
  obtain ⟨x, y, r, pn, hi, rfl, h⟩ := h
  obtain ⟨ln, hd, hpn, hln⟩ := hdec pc _ hi
  dsimp only at hd hpn hln
  obtain rfl := xm_ln 0 hln rfl
  subst hpn
  exact lv_lshl hx hb hd rfl (kk _ _ _ _ _ _ h ad ca ls H locs hn hag hl (xm_hs_push trivial (xm_hs_cons (xm_hs_cons hs).2).2) hm)
set_option maxHeartbeats 2000000 in
theorem xm_snd_lshr (F : xm_fx own cc nL Ts ex xt C0 S0 p R s m args c D cl A) (O : xm_yok own cc Ts cl Y) (hini : Y.2.2.2.2.2 0 = 9 → meth.name = "<init>") (hRf : 1 ≤ R.frames) (hRl : 100 ≤ R.locals)
    (hoi : (Cond.instanceMethod objectInit).before args s = true ∧ (Cond.code objectInit ⟨#[0xb1]⟩ 1 none).before args s = true)
    (har : (Cond.arrayClass .int).before args s = true ∧ (Cond.arrayClass .long).before args s = true ∧ (Cond.arrayClass .boolean).before args s = true)
    (hcy : (Cond.native arraycopyName).before args s = true ∧ (Cond.static arraycopyName).before args s = true ∧ (Cond.initialized "java/lang/System").before args s = true)
    (hmn : (Cond.static Lib.Math.min.name).before args s = true ∧ (Cond.initialized "java/lang/Math").before args s = true ∧ (Cond.code Lib.Math.min.name Lib.Math.min.code 2 (some .int)).before args s = true)
    (hst : ∀ ix q, Y.2.2.2.2.1 ix = some q → ∃ (C n d : String), va_Z C n d (.ref (ex q)) A s s.heap ∧ (Cond.fieldLink own ix C n d).before args s = true)
    (hr : ∀ a1 a2 a3 a4 a5 a6, K a1 a2 a3 a4 a5 a6 → a5 ≤ C0 ∧ a6 ≤ S0)
    (kk : ∀ a1 a2 a3 a4 a5 a6, K a1 a2 a3 a4 a5 a6 → xm_W1 p l e R s m args below meth c Q D cl ex A nL n0 ad0 ca0 a1 a2 a3 a4 a5 a6) (h : (∃ (x : Int64) (y : Int32) (r : List xm_V) (pn : Nat), Y.1 pc = some (.lshr, pn) ∧ st = xv_i y :: xv_l x :: r ∧ K pn loc (xv_l (x >>> (y.toInt64 &&& 63)) :: r) M nc ns)) : xm_W1 p l e R s m args below meth c Q D cl ex A nL n0 ad0 ca0 pc loc st M nc ns := by
  obtain ⟨hx, hb, hml, hown, hts, hK, hA, ⟨hRc, hRs⟩, hT⟩ := F
  obtain ⟨hdec, hkc, hkl, hfo, hno, hob, hcp, hmi⟩ := O
  intro ad ca ls H locs hn hag hl hs hm
  obtain ⟨x, y, r, pn, hi, rfl, h⟩ := h
  obtain ⟨ln, hd, hpn, hln⟩ := hdec pc _ hi
  dsimp only at hd hpn hln
  obtain rfl := xm_ln 0 hln rfl
  subst hpn
  exact lv_lshr hx hb hd rfl (kk _ _ _ _ _ _ h ad ca ls H locs hn hag hl (xm_hs_push trivial (xm_hs_cons (xm_hs_cons hs).2).2) hm)
set_option maxHeartbeats 2000000 in
theorem xm_snd_i2l (F : xm_fx own cc nL Ts ex xt C0 S0 p R s m args c D cl A) (O : xm_yok own cc Ts cl Y) (hini : Y.2.2.2.2.2 0 = 9 → meth.name = "<init>") (hRf : 1 ≤ R.frames) (hRl : 100 ≤ R.locals)
    (hoi : (Cond.instanceMethod objectInit).before args s = true ∧ (Cond.code objectInit ⟨#[0xb1]⟩ 1 none).before args s = true)
    (har : (Cond.arrayClass .int).before args s = true ∧ (Cond.arrayClass .long).before args s = true ∧ (Cond.arrayClass .boolean).before args s = true)
    (hcy : (Cond.native arraycopyName).before args s = true ∧ (Cond.static arraycopyName).before args s = true ∧ (Cond.initialized "java/lang/System").before args s = true)
    (hmn : (Cond.static Lib.Math.min.name).before args s = true ∧ (Cond.initialized "java/lang/Math").before args s = true ∧ (Cond.code Lib.Math.min.name Lib.Math.min.code 2 (some .int)).before args s = true)
    (hst : ∀ ix q, Y.2.2.2.2.1 ix = some q → ∃ (C n d : String), va_Z C n d (.ref (ex q)) A s s.heap ∧ (Cond.fieldLink own ix C n d).before args s = true)
    (hr : ∀ a1 a2 a3 a4 a5 a6, K a1 a2 a3 a4 a5 a6 → a5 ≤ C0 ∧ a6 ≤ S0)
    (kk : ∀ a1 a2 a3 a4 a5 a6, K a1 a2 a3 a4 a5 a6 → xm_W1 p l e R s m args below meth c Q D cl ex A nL n0 ad0 ca0 a1 a2 a3 a4 a5 a6) (h : (∃ (x : Int32) (r : List xm_V) (pn : Nat), Y.1 pc = some (.i2l, pn) ∧ st = xv_i x :: r ∧ K pn loc (xv_l x.toInt64 :: r) M nc ns)) : xm_W1 p l e R s m args below meth c Q D cl ex A nL n0 ad0 ca0 pc loc st M nc ns := by
  obtain ⟨hx, hb, hml, hown, hts, hK, hA, ⟨hRc, hRs⟩, hT⟩ := F
  obtain ⟨hdec, hkc, hkl, hfo, hno, hob, hcp, hmi⟩ := O
  intro ad ca ls H locs hn hag hl hs hm
  obtain ⟨x, r, pn, hi, rfl, h⟩ := h
  obtain ⟨ln, hd, hpn, hln⟩ := hdec pc _ hi
  dsimp only at hd hpn hln
  obtain rfl := xm_ln 0 hln rfl
  subst hpn
  exact lv_i2l hx hb hd rfl (kk _ _ _ _ _ _ h ad ca ls H locs hn hag hl (xm_hs_push trivial (xm_hs_cons hs).2) hm)
set_option maxHeartbeats 2000000 in
theorem xm_snd_l2i (F : xm_fx own cc nL Ts ex xt C0 S0 p R s m args c D cl A) (O : xm_yok own cc Ts cl Y) (hini : Y.2.2.2.2.2 0 = 9 → meth.name = "<init>") (hRf : 1 ≤ R.frames) (hRl : 100 ≤ R.locals)
    (hoi : (Cond.instanceMethod objectInit).before args s = true ∧ (Cond.code objectInit ⟨#[0xb1]⟩ 1 none).before args s = true)
    (har : (Cond.arrayClass .int).before args s = true ∧ (Cond.arrayClass .long).before args s = true ∧ (Cond.arrayClass .boolean).before args s = true)
    (hcy : (Cond.native arraycopyName).before args s = true ∧ (Cond.static arraycopyName).before args s = true ∧ (Cond.initialized "java/lang/System").before args s = true)
    (hmn : (Cond.static Lib.Math.min.name).before args s = true ∧ (Cond.initialized "java/lang/Math").before args s = true ∧ (Cond.code Lib.Math.min.name Lib.Math.min.code 2 (some .int)).before args s = true)
    (hst : ∀ ix q, Y.2.2.2.2.1 ix = some q → ∃ (C n d : String), va_Z C n d (.ref (ex q)) A s s.heap ∧ (Cond.fieldLink own ix C n d).before args s = true)
    (hr : ∀ a1 a2 a3 a4 a5 a6, K a1 a2 a3 a4 a5 a6 → a5 ≤ C0 ∧ a6 ≤ S0)
    (kk : ∀ a1 a2 a3 a4 a5 a6, K a1 a2 a3 a4 a5 a6 → xm_W1 p l e R s m args below meth c Q D cl ex A nL n0 ad0 ca0 a1 a2 a3 a4 a5 a6) (h : (∃ (x : Int64) (r : List xm_V) (pn : Nat), Y.1 pc = some (.l2i, pn) ∧ st = xv_l x :: r ∧ K pn loc (xv_i x.toInt32 :: r) M nc ns)) : xm_W1 p l e R s m args below meth c Q D cl ex A nL n0 ad0 ca0 pc loc st M nc ns := by
  obtain ⟨hx, hb, hml, hown, hts, hK, hA, ⟨hRc, hRs⟩, hT⟩ := F
  obtain ⟨hdec, hkc, hkl, hfo, hno, hob, hcp, hmi⟩ := O
  intro ad ca ls H locs hn hag hl hs hm
  obtain ⟨x, r, pn, hi, rfl, h⟩ := h
  obtain ⟨ln, hd, hpn, hln⟩ := hdec pc _ hi
  dsimp only at hd hpn hln
  obtain rfl := xm_ln 0 hln rfl
  subst hpn
  exact lv_l2i hx hb hd rfl (kk _ _ _ _ _ _ h ad ca ls H locs hn hag hl (xm_hs_push trivial (xm_hs_cons hs).2) hm)
theorem xm_sndC (F : xm_fx own cc nL Ts ex xt C0 S0 p R s m args c D cl A) (O : xm_yok own cc Ts cl Y) (hini : Y.2.2.2.2.2 0 = 9 → meth.name = "<init>") (hRf : 1 ≤ R.frames) (hRl : 100 ≤ R.locals)
    (hoi : (Cond.instanceMethod objectInit).before args s = true ∧ (Cond.code objectInit ⟨#[0xb1]⟩ 1 none).before args s = true)
    (har : (Cond.arrayClass .int).before args s = true ∧ (Cond.arrayClass .long).before args s = true ∧ (Cond.arrayClass .boolean).before args s = true)
    (hcy : (Cond.native arraycopyName).before args s = true ∧ (Cond.static arraycopyName).before args s = true ∧ (Cond.initialized "java/lang/System").before args s = true)
    (hmn : (Cond.static Lib.Math.min.name).before args s = true ∧ (Cond.initialized "java/lang/Math").before args s = true ∧ (Cond.code Lib.Math.min.name Lib.Math.min.code 2 (some .int)).before args s = true)
    (hst : ∀ ix q, Y.2.2.2.2.1 ix = some q → ∃ (C n d : String), va_Z C n d (.ref (ex q)) A s s.heap ∧ (Cond.fieldLink own ix C n d).before args s = true)
    (hr : ∀ a1 a2 a3 a4 a5 a6, K a1 a2 a3 a4 a5 a6 → a5 ≤ C0 ∧ a6 ≤ S0)
    (kk : ∀ a1 a2 a3 a4 a5 a6, K a1 a2 a3 a4 a5 a6 → xm_W1 p l e R s m args below meth c Q D cl ex A nL n0 ad0 ca0 a1 a2 a3 a4 a5 a6) (h : xm_sC Y xt nL pc loc st M nc ns K) : xm_W1 p l e R s m args below meth c Q D cl ex A nL n0 ad0 ca0 pc loc st M nc ns := by
  unfold xm_sC at h
  rcases h with h | h | h | h | h | h | h | h | h | h | h | h | h | h | h | h | h | h
  · exact xm_snd_iadd F O hini hRf hRl hoi har hcy hmn hst hr kk h
  · exact xm_snd_isub F O hini hRf hRl hoi har hcy hmn hst hr kk h
  · exact xm_snd_imul F O hini hRf hRl hoi har hcy hmn hst hr kk h
  · exact xm_snd_iand F O hini hRf hRl hoi har hcy hmn hst hr kk h
  · exact xm_snd_ior F O hini hRf hRl hoi har hcy hmn hst hr kk h
  · exact xm_snd_ixor F O hini hRf hRl hoi har hcy hmn hst hr kk h
  · exact xm_snd_ishl F O hini hRf hRl hoi har hcy hmn hst hr kk h
  · exact xm_snd_ishr F O hini hRf hRl hoi har hcy hmn hst hr kk h
  · exact xm_snd_idiv F O hini hRf hRl hoi har hcy hmn hst hr kk h
  · exact xm_snd_ladd F O hini hRf hRl hoi har hcy hmn hst hr kk h
  · exact xm_snd_lsub F O hini hRf hRl hoi har hcy hmn hst hr kk h
  · exact xm_snd_land F O hini hRf hRl hoi har hcy hmn hst hr kk h
  · exact xm_snd_lor F O hini hRf hRl hoi har hcy hmn hst hr kk h
  · exact xm_snd_lcmp F O hini hRf hRl hoi har hcy hmn hst hr kk h
  · exact xm_snd_lshl F O hini hRf hRl hoi har hcy hmn hst hr kk h
  · exact xm_snd_lshr F O hini hRf hRl hoi har hcy hmn hst hr kk h
  · exact xm_snd_i2l F O hini hRf hRl hoi har hcy hmn hst hr kk h
  · exact xm_snd_l2i F O hini hRf hRl hoi har hcy hmn hst hr kk h
theorem xm_exC (h : xm_sC Y xt nL pc loc st M nc ns K) : ∃ a1 a2 a3 a4 a5 a6, K a1 a2 a3 a4 a5 a6 ∧ nc ≤ a5 ∧ ns ≤ a6 := by
  unfold xm_sC at h
  rcases h with h | h | h | h | h | h | h | h | h | h | h | h | h | h | h | h | h | h
  · obtain ⟨_, _, _, _, _, _, h⟩ := h
    exact ⟨_, _, _, _, _, _, h, Nat.le_refl _, Nat.le_refl _⟩
  · obtain ⟨_, _, _, _, _, _, h⟩ := h
    exact ⟨_, _, _, _, _, _, h, Nat.le_refl _, Nat.le_refl _⟩
  · obtain ⟨_, _, _, _, _, _, h⟩ := h
    exact ⟨_, _, _, _, _, _, h, Nat.le_refl _, Nat.le_refl _⟩
  · obtain ⟨_, _, _, _, _, _, h⟩ := h
    exact ⟨_, _, _, _, _, _, h, Nat.le_refl _, Nat.le_refl _⟩
  · obtain ⟨_, _, _, _, _, _, h⟩ := h
    exact ⟨_, _, _, _, _, _, h, Nat.le_refl _, Nat.le_refl _⟩
  · obtain ⟨_, _, _, _, _, _, h⟩ := h
    exact ⟨_, _, _, _, _, _, h, Nat.le_refl _, Nat.le_refl _⟩
  · obtain ⟨_, _, _, _, _, _, h⟩ := h
    exact ⟨_, _, _, _, _, _, h, Nat.le_refl _, Nat.le_refl _⟩
  · obtain ⟨_, _, _, _, _, _, h⟩ := h
    exact ⟨_, _, _, _, _, _, h, Nat.le_refl _, Nat.le_refl _⟩
  · obtain ⟨_, _, _, _, _, _, _, h⟩ := h
    exact ⟨_, _, _, _, _, _, h, Nat.le_refl _, Nat.le_refl _⟩
  · obtain ⟨_, _, _, _, _, _, h⟩ := h
    exact ⟨_, _, _, _, _, _, h, Nat.le_refl _, Nat.le_refl _⟩
  · obtain ⟨_, _, _, _, _, _, h⟩ := h
    exact ⟨_, _, _, _, _, _, h, Nat.le_refl _, Nat.le_refl _⟩
  · obtain ⟨_, _, _, _, _, _, h⟩ := h
    exact ⟨_, _, _, _, _, _, h, Nat.le_refl _, Nat.le_refl _⟩
  · obtain ⟨_, _, _, _, _, _, h⟩ := h
    exact ⟨_, _, _, _, _, _, h, Nat.le_refl _, Nat.le_refl _⟩
  · obtain ⟨_, _, _, _, _, _, h⟩ := h
    exact ⟨_, _, _, _, _, _, h, Nat.le_refl _, Nat.le_refl _⟩
  · obtain ⟨_, _, _, _, _, _, h⟩ := h
    exact ⟨_, _, _, _, _, _, h, Nat.le_refl _, Nat.le_refl _⟩
  · obtain ⟨_, _, _, _, _, _, h⟩ := h
    exact ⟨_, _, _, _, _, _, h, Nat.le_refl _, Nat.le_refl _⟩
  · obtain ⟨_, _, _, _, _, h⟩ := h
    exact ⟨_, _, _, _, _, _, h, Nat.le_refl _, Nat.le_refl _⟩
  · obtain ⟨_, _, _, _, _, h⟩ := h
    exact ⟨_, _, _, _, _, _, h, Nat.le_refl _, Nat.le_refl _⟩
end XSTEP
