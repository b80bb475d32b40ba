/-! Steps of the group D are true of the machine. -/
section XSTEP
variable {p : Program} {l : Launch} {e : Env} {R : Room} {s : State} {m : MethodId} {args : Array Value} {below : List Frame} {meth : Method} {c : Code} {Q : State → Prop} {D : va_G} {cl : List vw_C} {ex : Nat → Nat} {A : Nat → Prop} {nL n0 : Nat} {ad0 : Nat → Nat} {ca0 : Nat → ClassId}
variable {own : String} {cc : ByteArray} {Ts : List Cond} {xt : Nat → Nat × (Nat → Int32)} {C0 S0 : Nat} {Y : xm_Y} {K : xm_K} {pc : Nat} {loc : xm_L} {st : List xm_V} {M : xm_M} {nc ns : Nat}
set_option maxHeartbeats 2000000 in
theorem xm_snd_dup (F : xm_fx own cc nL Ts ex xt C0 S0 p R s m args c D cl A) (O : xm_yok own cc Ts cl Y) (hini : Y.2.2.2.2.2 0 = 9 → meth.name = "<init>") (hRf : 1 ≤ R.frames) (hRl : 100 ≤ R.locals)
    (hoi : (Cond.instanceMethod objectInit).before args s = true ∧ (Cond.code objectInit ⟨#[0xb1]⟩ 1 none).before args s = true)
    (har : (Cond.arrayClass .int).before args s = true ∧ (Cond.arrayClass .long).before args s = true ∧ (Cond.arrayClass .boolean).before args s = true)
    (hcy : (Cond.native arraycopyName).before args s = true ∧ (Cond.static arraycopyName).before args s = true ∧ (Cond.initialized "java/lang/System").before args s = true)
    (hmn : (Cond.static Lib.Math.min.name).before args s = true ∧ (Cond.initialized "java/lang/Math").before args s = true ∧ (Cond.code Lib.Math.min.name Lib.Math.min.code 2 (some .int)).before args s = true)
    (hst : ∀ ix q, Y.2.2.2.2.1 ix = some q → ∃ (C n d : String), va_Z C n d (.ref (ex q)) A s s.heap ∧ (Cond.fieldLink own ix C n d).before args s = true)
    (hr : ∀ a1 a2 a3 a4 a5 a6, K a1 a2 a3 a4 a5 a6 → a5 ≤ C0 ∧ a6 ≤ S0)
    (kk : ∀ a1 a2 a3 a4 a5 a6, K a1 a2 a3 a4 a5 a6 → xm_W1 p l e R s m args below meth c Q D cl ex A nL n0 ad0 ca0 a1 a2 a3 a4 a5 a6) (h : (∃ (v : xm_V) (r : List xm_V) (pn : Nat), Y.1 pc = some (.dup, pn) ∧ st = v :: r ∧ xm_cat v = 1 ∧ K pn loc (v :: v :: r) M nc ns)) : xm_W1 p l e R s m args below meth c Q D cl ex A nL n0 ad0 ca0 pc loc st M nc ns := by
  obtain ⟨hx, hb, hml, hown, hts, hK, hA, ⟨hRc, hRs⟩, hT⟩ := F
  obtain ⟨hdec, hkc, hkl, hfo, hno, hob, hcp, hmi⟩ := O
  intro ad ca ls H locs hn hag hl hs hm
  obtain ⟨v, r, pn, hi, rfl, hc, h⟩ := h
  obtain ⟨ln, hd, hpn, hln⟩ := hdec pc _ hi
  dsimp only at hd hpn hln
  obtain rfl := xm_ln 0 hln rfl
  subst hpn
  exact lv_dup hx hb hd (by rw [xm_cat_v]; exact hc) (kk _ _ _ _ _ _ h ad ca ls H locs hn hag hl (xm_hs_push (xm_hs_cons hs).1 hs) hm)
set_option maxHeartbeats 2000000 in
theorem xm_snd_pop (F : xm_fx own cc nL Ts ex xt C0 S0 p R s m args c D cl A) (O : xm_yok own cc Ts cl Y) (hini : Y.2.2.2.2.2 0 = 9 → meth.name = "<init>") (hRf : 1 ≤ R.frames) (hRl : 100 ≤ R.locals)
    (hoi : (Cond.instanceMethod objectInit).before args s = true ∧ (Cond.code objectInit ⟨#[0xb1]⟩ 1 none).before args s = true)
    (har : (Cond.arrayClass .int).before args s = true ∧ (Cond.arrayClass .long).before args s = true ∧ (Cond.arrayClass .boolean).before args s = true)
    (hcy : (Cond.native arraycopyName).before args s = true ∧ (Cond.static arraycopyName).before args s = true ∧ (Cond.initialized "java/lang/System").before args s = true)
    (hmn : (Cond.static Lib.Math.min.name).before args s = true ∧ (Cond.initialized "java/lang/Math").before args s = true ∧ (Cond.code Lib.Math.min.name Lib.Math.min.code 2 (some .int)).before args s = true)
    (hst : ∀ ix q, Y.2.2.2.2.1 ix = some q → ∃ (C n d : String), va_Z C n d (.ref (ex q)) A s s.heap ∧ (Cond.fieldLink own ix C n d).before args s = true)
    (hr : ∀ a1 a2 a3 a4 a5 a6, K a1 a2 a3 a4 a5 a6 → a5 ≤ C0 ∧ a6 ≤ S0)
    (kk : ∀ a1 a2 a3 a4 a5 a6, K a1 a2 a3 a4 a5 a6 → xm_W1 p l e R s m args below meth c Q D cl ex A nL n0 ad0 ca0 a1 a2 a3 a4 a5 a6) (h : (∃ (v : xm_V) (r : List xm_V) (pn : Nat), Y.1 pc = some (.pop, pn) ∧ st = v :: r ∧ xm_cat v = 1 ∧ K pn loc r M nc ns)) : xm_W1 p l e R s m args below meth c Q D cl ex A nL n0 ad0 ca0 pc loc st M nc ns := by
  obtain ⟨hx, hb, hml, hown, hts, hK, hA, ⟨hRc, hRs⟩, hT⟩ := F
  obtain ⟨hdec, hkc, hkl, hfo, hno, hob, hcp, hmi⟩ := O
  intro ad ca ls H locs hn hag hl hs hm
  obtain ⟨v, r, pn, hi, rfl, hc, h⟩ := h
  obtain ⟨ln, hd, hpn, hln⟩ := hdec pc _ hi
  dsimp only at hd hpn hln
  obtain rfl := xm_ln 0 hln rfl
  subst hpn
  exact lv_pop hx hb hd (by rw [xm_cat_v]; exact hc) (kk _ _ _ _ _ _ h ad ca ls H locs hn hag hl (xm_hs_cons hs).2 hm)
set_option maxHeartbeats 2000000 in
theorem xm_snd_dup2 (F : xm_fx own cc nL Ts ex xt C0 S0 p R s m args c D cl A) (O : xm_yok own cc Ts cl Y) (hini : Y.2.2.2.2.2 0 = 9 → meth.name = "<init>") (hRf : 1 ≤ R.frames) (hRl : 100 ≤ R.locals)
    (hoi : (Cond.instanceMethod objectInit).before args s = true ∧ (Cond.code objectInit ⟨#[0xb1]⟩ 1 none).before args s = true)
    (har : (Cond.arrayClass .int).before args s = true ∧ (Cond.arrayClass .long).before args s = true ∧ (Cond.arrayClass .boolean).before args s = true)
    (hcy : (Cond.native arraycopyName).before args s = true ∧ (Cond.static arraycopyName).before args s = true ∧ (Cond.initialized "java/lang/System").before args s = true)
    (hmn : (Cond.static Lib.Math.min.name).before args s = true ∧ (Cond.initialized "java/lang/Math").before args s = true ∧ (Cond.code Lib.Math.min.name Lib.Math.min.code 2 (some .int)).before args s = true)
    (hst : ∀ ix q, Y.2.2.2.2.1 ix = some q → ∃ (C n d : String), va_Z C n d (.ref (ex q)) A s s.heap ∧ (Cond.fieldLink own ix C n d).before args s = true)
    (hr : ∀ a1 a2 a3 a4 a5 a6, K a1 a2 a3 a4 a5 a6 → a5 ≤ C0 ∧ a6 ≤ S0)
    (kk : ∀ a1 a2 a3 a4 a5 a6, K a1 a2 a3 a4 a5 a6 → xm_W1 p l e R s m args below meth c Q D cl ex A nL n0 ad0 ca0 a1 a2 a3 a4 a5 a6) (h : (∃ (v : xm_V) (w : xm_V) (r : List xm_V) (pn : Nat), Y.1 pc = some (.dup2, pn) ∧ st = v :: w :: r ∧ xm_cat v = 1 ∧ xm_cat w = 1 ∧ K pn loc (v :: w :: v :: w :: r) M nc ns)) : xm_W1 p l e R s m args below meth c Q D cl ex A nL n0 ad0 ca0 pc loc st M nc ns := by
  obtain ⟨hx, hb, hml, hown, hts, hK, hA, ⟨hRc, hRs⟩, hT⟩ := F
  obtain ⟨hdec, hkc, hkl, hfo, hno, hob, hcp, hmi⟩ := O
  intro ad ca ls H locs hn hag hl hs hm
  obtain ⟨v, w, r, pn, hi, rfl, hc, hc2, h⟩ := h
  obtain ⟨ln, hd, hpn, hln⟩ := hdec pc _ hi
  dsimp only at hd hpn hln
  obtain rfl := xm_ln 0 hln rfl
  subst hpn
  exact lv_dup2_11 hx hb hd (by rw [xm_cat_v]; exact hc) (by rw [xm_cat_v]; exact hc2) (kk _ _ _ _ _ _ h ad ca ls H locs hn hag hl (xm_hs_push (xm_hs_cons hs).1 (xm_hs_push (xm_hs_cons (xm_hs_cons hs).2).1 hs)) hm)
set_option maxHeartbeats 2000000 in
theorem xm_snd_goto (F : xm_fx own cc nL Ts ex xt C0 S0 p R s m args c D cl A) (O : xm_yok own cc Ts cl Y) (hini : Y.2.2.2.2.2 0 = 9 → meth.name = "<init>") (hRf : 1 ≤ R.frames) (hRl : 100 ≤ R.locals)
    (hoi : (Cond.instanceMethod objectInit).before args s = true ∧ (Cond.code objectInit ⟨#[0xb1]⟩ 1 none).before args s = true)
    (har : (Cond.arrayClass .int).before args s = true ∧ (Cond.arrayClass .long).before args s = true ∧ (Cond.arrayClass .boolean).before args s = true)
    (hcy : (Cond.native arraycopyName).before args s = true ∧ (Cond.static arraycopyName).before args s = true ∧ (Cond.initialized "java/lang/System").before args s = true)
    (hmn : (Cond.static Lib.Math.min.name).before args s = true ∧ (Cond.initialized "java/lang/Math").before args s = true ∧ (Cond.code Lib.Math.min.name Lib.Math.min.code 2 (some .int)).before args s = true)
    (hst : ∀ ix q, Y.2.2.2.2.1 ix = some q → ∃ (C n d : String), va_Z C n d (.ref (ex q)) A s s.heap ∧ (Cond.fieldLink own ix C n d).before args s = true)
    (hr : ∀ a1 a2 a3 a4 a5 a6, K a1 a2 a3 a4 a5 a6 → a5 ≤ C0 ∧ a6 ≤ S0)
    (kk : ∀ a1 a2 a3 a4 a5 a6, K a1 a2 a3 a4 a5 a6 → xm_W1 p l e R s m args below meth c Q D cl ex A nL n0 ad0 ca0 a1 a2 a3 a4 a5 a6) (h : (∃ (off : Int) (t : Nat) (pn : Nat), Y.1 pc = some (.goto off, pn) ∧ (pc : Int) + off = (t : Int) ∧ K t loc st M nc ns)) : xm_W1 p l e R s m args below meth c Q D cl ex A nL n0 ad0 ca0 pc loc st M nc ns := by
  obtain ⟨hx, hb, hml, hown, hts, hK, hA, ⟨hRc, hRs⟩, hT⟩ := F
  obtain ⟨hdec, hkc, hkl, hfo, hno, hob, hcp, hmi⟩ := O
  intro ad ca ls H locs hn hag hl hs hm
  obtain ⟨off, t, pn, hi, ht, h⟩ := h
  obtain ⟨ln, hd, hpn, hln⟩ := hdec pc _ hi
  dsimp only at hd hpn hln
  obtain rfl := xm_ln 2 hln rfl
  subst hpn
  exact lv_goto hx hb hd ht (kk _ _ _ _ _ _ h ad ca ls H locs hn hag hl hs hm)
set_option maxHeartbeats 2000000 in
theorem xm_snd_if (F : xm_fx own cc nL Ts ex xt C0 S0 p R s m args c D cl A) (O : xm_yok own cc Ts cl Y) (hini : Y.2.2.2.2.2 0 = 9 → meth.name = "<init>") (hRf : 1 ≤ R.frames) (hRl : 100 ≤ R.locals)
    (hoi : (Cond.instanceMethod objectInit).before args s = true ∧ (Cond.code objectInit ⟨#[0xb1]⟩ 1 none).before args s = true)
    (har : (Cond.arrayClass .int).before args s = true ∧ (Cond.arrayClass .long).before args s = true ∧ (Cond.arrayClass .boolean).before args s = true)
    (hcy : (Cond.native arraycopyName).before args s = true ∧ (Cond.static arraycopyName).before args s = true ∧ (Cond.initialized "java/lang/System").before args s = true)
    (hmn : (Cond.static Lib.Math.min.name).before args s = true ∧ (Cond.initialized "java/lang/Math").before args s = true ∧ (Cond.code Lib.Math.min.name Lib.Math.min.code 2 (some .int)).before args s = true)
    (hst : ∀ ix q, Y.2.2.2.2.1 ix = some q → ∃ (C n d : String), va_Z C n d (.ref (ex q)) A s s.heap ∧ (Cond.fieldLink own ix C n d).before args s = true)
    (hr : ∀ a1 a2 a3 a4 a5 a6, K a1 a2 a3 a4 a5 a6 → a5 ≤ C0 ∧ a6 ≤ S0)
    (kk : ∀ a1 a2 a3 a4 a5 a6, K a1 a2 a3 a4 a5 a6 → xm_W1 p l e R s m args below meth c Q D cl ex A nL n0 ad0 ca0 a1 a2 a3 a4 a5 a6) (h : (∃ (c : Jvm.ClassFile.Cond) (off : Int) (x : Int32) (r : List xm_V) (t : Nat) (pn : Nat), Y.1 pc = some (.ifCond c off, pn) ∧ st = xv_i x :: r ∧ (pc : Int) + off = (t : Int) ∧ (xm_c1 c x → K t loc r M nc ns) ∧ (¬ xm_c1 c x → K pn loc r M nc ns))) : xm_W1 p l e R s m args below meth c Q D cl ex A nL n0 ad0 ca0 pc loc st M nc ns := by
  obtain ⟨hx, hb, hml, hown, hts, hK, hA, ⟨hRc, hRs⟩, hT⟩ := F
  obtain ⟨hdec, hkc, hkl, hfo, hno, hob, hcp, hmi⟩ := O
  intro ad ca ls H locs hn hag hl hs hm
  obtain ⟨co, off, x, r, t, pn, hi, rfl, ht, h1, h2⟩ := h
  obtain ⟨ln, hd, hpn, hln⟩ := hdec pc _ hi
  dsimp only at hd hpn hln
  obtain rfl := xm_ln 2 hln rfl
  subst hpn
  cases co
  case eq => exact lv_if_eq hx hb hd ht (fun b => kk _ _ _ _ _ _ (h1 b) ad ca ls H locs hn hag hl (xm_hs_cons hs).2 hm) (fun b => kk _ _ _ _ _ _ (h2 b) ad ca ls H locs hn hag hl (xm_hs_cons hs).2 hm)
  case ne => exact lv_if_ne hx hb hd ht (fun b => kk _ _ _ _ _ _ (h1 b) ad ca ls H locs hn hag hl (xm_hs_cons hs).2 hm) (fun b => kk _ _ _ _ _ _ (h2 fun nb => nb b) ad ca ls H locs hn hag hl (xm_hs_cons hs).2 hm)
  case lt => exact lv_if_lt hx hb hd ht (fun b => kk _ _ _ _ _ _ (h1 b) ad ca ls H locs hn hag hl (xm_hs_cons hs).2 hm) (fun b => kk _ _ _ _ _ _ (h2 b) ad ca ls H locs hn hag hl (xm_hs_cons hs).2 hm)
  case ge => exact lv_if_ge hx hb hd ht (fun b => kk _ _ _ _ _ _ (h1 b) ad ca ls H locs hn hag hl (xm_hs_cons hs).2 hm) (fun b => kk _ _ _ _ _ _ (h2 b) ad ca ls H locs hn hag hl (xm_hs_cons hs).2 hm)
  case gt => exact lv_if_gt hx hb hd ht (fun b => kk _ _ _ _ _ _ (h1 b) ad ca ls H locs hn hag hl (xm_hs_cons hs).2 hm) (fun b => kk _ _ _ _ _ _ (h2 b) ad ca ls H locs hn hag hl (xm_hs_cons hs).2 hm)
  case le => exact lv_if_le hx hb hd ht (fun b => kk _ _ _ _ _ _ (h1 b) ad ca ls H locs hn hag hl (xm_hs_cons hs).2 hm) (fun b => kk _ _ _ _ _ _ (h2 b) ad ca ls H locs hn hag hl (xm_hs_cons hs).2 hm)
set_option maxHeartbeats 2000000 in
theorem xm_snd_ic (F : xm_fx own cc nL Ts ex xt C0 S0 p R s m args c D cl A) (O : xm_yok own cc Ts cl Y) (hini : Y.2.2.2.2.2 0 = 9 → meth.name = "<init>") (hRf : 1 ≤ R.frames) (hRl : 100 ≤ R.locals)
    (hoi : (Cond.instanceMethod objectInit).before args s = true ∧ (Cond.code objectInit ⟨#[0xb1]⟩ 1 none).before args s = true)
    (har : (Cond.arrayClass .int).before args s = true ∧ (Cond.arrayClass .long).before args s = true ∧ (Cond.arrayClass .boolean).before args s = true)
    (hcy : (Cond.native arraycopyName).before args s = true ∧ (Cond.static arraycopyName).before args s = true ∧ (Cond.initialized "java/lang/System").before args s = true)
    (hmn : (Cond.static Lib.Math.min.name).before args s = true ∧ (Cond.initialized "java/lang/Math").before args s = true ∧ (Cond.code Lib.Math.min.name Lib.Math.min.code 2 (some .int)).before args s = true)
    (hst : ∀ ix q, Y.2.2.2.2.1 ix = some q → ∃ (C n d : String), va_Z C n d (.ref (ex q)) A s s.heap ∧ (Cond.fieldLink own ix C n d).before args s = true)
    (hr : ∀ a1 a2 a3 a4 a5 a6, K a1 a2 a3 a4 a5 a6 → a5 ≤ C0 ∧ a6 ≤ S0)
    (kk : ∀ a1 a2 a3 a4 a5 a6, K a1 a2 a3 a4 a5 a6 → xm_W1 p l e R s m args below meth c Q D cl ex A nL n0 ad0 ca0 a1 a2 a3 a4 a5 a6) (h : (∃ (c : Jvm.ClassFile.Cond) (off : Int) (x : Int32) (y : Int32) (r : List xm_V) (t : Nat) (pn : Nat), Y.1 pc = some (.if_icmp c off, pn) ∧ st = xv_i y :: xv_i x :: r ∧ (pc : Int) + off = (t : Int) ∧ (xm_c2 c x y → K t loc r M nc ns) ∧ (¬ xm_c2 c x y → K pn loc r M nc ns))) : xm_W1 p l e R s m args below meth c Q D cl ex A nL n0 ad0 ca0 pc loc st M nc ns := by
  obtain ⟨hx, hb, hml, hown, hts, hK, hA, ⟨hRc, hRs⟩, hT⟩ := F
  obtain ⟨hdec, hkc, hkl, hfo, hno, hob, hcp, hmi⟩ := O
  intro ad ca ls H locs hn hag hl hs hm
  obtain ⟨co, off, x, y, r, t, pn, hi, rfl, ht, h1, h2⟩ := h
  obtain ⟨ln, hd, hpn, hln⟩ := hdec pc _ hi
  dsimp only at hd hpn hln
  obtain rfl := xm_ln 2 hln rfl
  subst hpn
  cases co
  case eq => exact lv_icmp_eq hx hb hd ht (fun b => kk _ _ _ _ _ _ (h1 b) ad ca ls H locs hn hag hl (xm_hs_cons (xm_hs_cons hs).2).2 hm) (fun b => kk _ _ _ _ _ _ (h2 b) ad ca ls H locs hn hag hl (xm_hs_cons (xm_hs_cons hs).2).2 hm)
  case ne => exact lv_icmp_ne hx hb hd ht (fun b => kk _ _ _ _ _ _ (h1 b) ad ca ls H locs hn hag hl (xm_hs_cons (xm_hs_cons hs).2).2 hm) (fun b => kk _ _ _ _ _ _ (h2 fun nb => nb b) ad ca ls H locs hn hag hl (xm_hs_cons (xm_hs_cons hs).2).2 hm)
  case lt => exact lv_icmp_lt hx hb hd ht (fun b => kk _ _ _ _ _ _ (h1 b) ad ca ls H locs hn hag hl (xm_hs_cons (xm_hs_cons hs).2).2 hm) (fun b => kk _ _ _ _ _ _ (h2 b) ad ca ls H locs hn hag hl (xm_hs_cons (xm_hs_cons hs).2).2 hm)
  case ge => exact lv_icmp_ge hx hb hd ht (fun b => kk _ _ _ _ _ _ (h1 b) ad ca ls H locs hn hag hl (xm_hs_cons (xm_hs_cons hs).2).2 hm) (fun b => kk _ _ _ _ _ _ (h2 b) ad ca ls H locs hn hag hl (xm_hs_cons (xm_hs_cons hs).2).2 hm)
  case gt => exact lv_icmp_gt hx hb hd ht (fun b => kk _ _ _ _ _ _ (h1 b) ad ca ls H locs hn hag hl (xm_hs_cons (xm_hs_cons hs).2).2 hm) (fun b => kk _ _ _ _ _ _ (h2 b) ad ca ls H locs hn hag hl (xm_hs_cons (xm_hs_cons hs).2).2 hm)
  case le => exact lv_icmp_le hx hb hd ht (fun b => kk _ _ _ _ _ _ (h1 b) ad ca ls H locs hn hag hl (xm_hs_cons (xm_hs_cons hs).2).2 hm) (fun b => kk _ _ _ _ _ _ (h2 b) ad ca ls H locs hn hag hl (xm_hs_cons (xm_hs_cons hs).2).2 hm)
set_option maxHeartbeats 2000000 in
theorem xm_snd_swo (F : xm_fx own cc nL Ts ex xt C0 S0 p R s m args c D cl A) (O : xm_yok own cc Ts cl Y) (hini : Y.2.2.2.2.2 0 = 9 → meth.name = "<init>") (hRf : 1 ≤ R.frames) (hRl : 100 ≤ R.locals)
    (hoi : (Cond.instanceMethod objectInit).before args s = true ∧ (Cond.code objectInit ⟨#[0xb1]⟩ 1 none).before args s = true)
    (har : (Cond.arrayClass .int).before args s = true ∧ (Cond.arrayClass .long).before args s = true ∧ (Cond.arrayClass .boolean).before args s = true)
    (hcy : (Cond.native arraycopyName).before args s = true ∧ (Cond.static arraycopyName).before args s = true ∧ (Cond.initialized "java/lang/System").before args s = true)
    (hmn : (Cond.static Lib.Math.min.name).before args s = true ∧ (Cond.initialized "java/lang/Math").before args s = true ∧ (Cond.code Lib.Math.min.name Lib.Math.min.code 2 (some .int)).before args s = true)
    (hst : ∀ ix q, Y.2.2.2.2.1 ix = some q → ∃ (C n d : String), va_Z C n d (.ref (ex q)) A s s.heap ∧ (Cond.fieldLink own ix C n d).before args s = true)
    (hr : ∀ a1 a2 a3 a4 a5 a6, K a1 a2 a3 a4 a5 a6 → a5 ≤ C0 ∧ a6 ≤ S0)
    (kk : ∀ a1 a2 a3 a4 a5 a6, K a1 a2 a3 a4 a5 a6 → xm_W1 p l e R s m args below meth c Q D cl ex A nL n0 ad0 ca0 a1 a2 a3 a4 a5 a6) (h : (∃ (df : Int) (lo : Int) (up : Int) (os : Array Int) (x : Int32) (r : List xm_V) (t : Nat) (pn : Nat), Y.1 pc = some (.tableswitch df lo up os, pn) ∧ st = xv_i x :: r ∧ (x.toInt < lo ∨ up < x.toInt) ∧ (pc : Int) + df = (t : Int) ∧ K t loc r M nc ns)) : xm_W1 p l e R s m args below meth c Q D cl ex A nL n0 ad0 ca0 pc loc st M nc ns := by
  obtain ⟨hx, hb, hml, hown, hts, hK, hA, ⟨hRc, hRs⟩, hT⟩ := F
  obtain ⟨hdec, hkc, hkl, hfo, hno, hob, hcp, hmi⟩ := O
  intro ad ca ls H locs hn hag hl hs hm
  obtain ⟨df, lo, up, os, x, r, t, pn, hi, rfl, b, ht, h⟩ := h
  obtain ⟨ln, hd, hpn, hln⟩ := hdec pc _ hi
  dsimp only at hd hpn hln
  exact lv_tableOut hx hb hd b ht (kk _ _ _ _ _ _ h ad ca ls H locs hn hag hl (xm_hs_cons hs).2 hm)
set_option maxHeartbeats 2000000 in
theorem xm_snd_swi (F : xm_fx own cc nL Ts ex xt C0 S0 p R s m args c D cl A) (O : xm_yok own cc Ts cl Y) (hini : Y.2.2.2.2.2 0 = 9 → meth.name = "<init>") (hRf : 1 ≤ R.frames) (hRl : 100 ≤ R.locals)
    (hoi : (Cond.instanceMethod objectInit).before args s = true ∧ (Cond.code objectInit ⟨#[0xb1]⟩ 1 none).before args s = true)
    (har : (Cond.arrayClass .int).before args s = true ∧ (Cond.arrayClass .long).before args s = true ∧ (Cond.arrayClass .boolean).before args s = true)
    (hcy : (Cond.native arraycopyName).before args s = true ∧ (Cond.static arraycopyName).before args s = true ∧ (Cond.initialized "java/lang/System").before args s = true)
    (hmn : (Cond.static Lib.Math.min.name).before args s = true ∧ (Cond.initialized "java/lang/Math").before args s = true ∧ (Cond.code Lib.Math.min.name Lib.Math.min.code 2 (some .int)).before args s = true)
    (hst : ∀ ix q, Y.2.2.2.2.1 ix = some q → ∃ (C n d : String), va_Z C n d (.ref (ex q)) A s s.heap ∧ (Cond.fieldLink own ix C n d).before args s = true)
    (hr : ∀ a1 a2 a3 a4 a5 a6, K a1 a2 a3 a4 a5 a6 → a5 ≤ C0 ∧ a6 ≤ S0)
    (kk : ∀ a1 a2 a3 a4 a5 a6, K a1 a2 a3 a4 a5 a6 → xm_W1 p l e R s m args below meth c Q D cl ex A nL n0 ad0 ca0 a1 a2 a3 a4 a5 a6) (h : (∃ (df : Int) (lo : Int) (up : Int) (os : Array Int) (x : Int32) (r : List xm_V) (off : Int) (t : Nat) (pn : Nat), Y.1 pc = some (.tableswitch df lo up os, pn) ∧ st = xv_i x :: r ∧ ¬ x.toInt < lo ∧ ¬ up < x.toInt ∧ os[(x.toInt - lo).toNat]? = some off ∧ (pc : Int) + off = (t : Int) ∧ K t loc r M nc ns)) : xm_W1 p l e R s m args below meth c Q D cl ex A nL n0 ad0 ca0 pc loc st M nc ns := by
  obtain ⟨hx, hb, hml, hown, hts, hK, hA, ⟨hRc, hRs⟩, hT⟩ := F
  obtain ⟨hdec, hkc, hkl, hfo, hno, hob, hcp, hmi⟩ := O
  intro ad ca ls H locs hn hag hl hs hm
  obtain ⟨df, lo, up, os, x, r, off, t, pn, hi, rfl, b1, b2, ho, ht, h⟩ := h
  obtain ⟨ln, hd, hpn, hln⟩ := hdec pc _ hi
  dsimp only at hd hpn hln
  exact lv_tableIn hx hb hd b1 b2 ho ht (kk _ _ _ _ _ _ h ad ca ls H locs hn hag hl (xm_hs_cons hs).2 hm)
theorem xm_sndD (F : xm_fx own cc nL Ts ex xt C0 S0 p R s m args c D cl A) (O : xm_yok own cc Ts cl Y) (hini : Y.2.2.2.2.2 0 = 9 → meth.name = "<init>") (hRf : 1 ≤ R.frames) (hRl : 100 ≤ R.locals)
    (hoi : (Cond.instanceMethod objectInit).before args s = true ∧ (Cond.code objectInit ⟨#[0xb1]⟩ 1 none).before args s = true)
    (har : (Cond.arrayClass .int).before args s = true ∧ (Cond.arrayClass .long).before args s = true ∧ (Cond.arrayClass .boolean).before args s = true)
    (hcy : (Cond.native arraycopyName).before args s = true ∧ (Cond.static arraycopyName).before args s = true ∧ (Cond.initialized "java/lang/System").before args s = true)
    (hmn : (Cond.static Lib.Math.min.name).before args s = true ∧ (Cond.initialized "java/lang/Math").before args s = true ∧ (Cond.code Lib.Math.min.name Lib.Math.min.code 2 (some .int)).before args s = true)
    (hst : ∀ ix q, Y.2.2.2.2.1 ix = some q → ∃ (C n d : String), va_Z C n d (.ref (ex q)) A s s.heap ∧ (Cond.fieldLink own ix C n d).before args s = true)
    (hr : ∀ a1 a2 a3 a4 a5 a6, K a1 a2 a3 a4 a5 a6 → a5 ≤ C0 ∧ a6 ≤ S0)
    (kk : ∀ a1 a2 a3 a4 a5 a6, K a1 a2 a3 a4 a5 a6 → xm_W1 p l e R s m args below meth c Q D cl ex A nL n0 ad0 ca0 a1 a2 a3 a4 a5 a6) (h : xm_sD Y xt nL pc loc st M nc ns K) : xm_W1 p l e R s m args below meth c Q D cl ex A nL n0 ad0 ca0 pc loc st M nc ns := by
  unfold xm_sD at h
  rcases h with h | h | h | h | h | h | h | h
  · exact xm_snd_dup F O hini hRf hRl hoi har hcy hmn hst hr kk h
  · exact xm_snd_pop F O hini hRf hRl hoi har hcy hmn hst hr kk h
  · exact xm_snd_dup2 F O hini hRf hRl hoi har hcy hmn hst hr kk h
  · exact xm_snd_goto F O hini hRf hRl hoi har hcy hmn hst hr kk h
  · exact xm_snd_if F O hini hRf hRl hoi har hcy hmn hst hr kk h
  · exact xm_snd_ic F O hini hRf hRl hoi har hcy hmn hst hr kk h
  · exact xm_snd_swo F O hini hRf hRl hoi har hcy hmn hst hr kk h
  · exact xm_snd_swi F O hini hRf hRl hoi har hcy hmn hst hr kk h
theorem xm_exD (h : xm_sD Y xt nL pc loc st M nc ns K) : ∃ a1 a2 a3 a4 a5 a6, K a1 a2 a3 a4 a5 a6 ∧ nc ≤ a5 ∧ ns ≤ a6 := by
  unfold xm_sD at h
  rcases h with h | h | h | h | h | h | h | h
  · obtain ⟨_, _, _, _, _, _, h⟩ := h
    exact ⟨_, _, _, _, _, _, h, Nat.le_refl _, Nat.le_refl _⟩
  · obtain ⟨_, _, _, _, _, _, h⟩ := h
    exact ⟨_, _, _, _, _, _, h, Nat.le_refl _, Nat.le_refl _⟩
  · obtain ⟨_, _, _, _, _, _, _, _, h⟩ := h
    exact ⟨_, _, _, _, _, _, h, Nat.le_refl _, Nat.le_refl _⟩
  · obtain ⟨_, _, _, _, _, h⟩ := h
    exact ⟨_, _, _, _, _, _, h, Nat.le_refl _, Nat.le_refl _⟩
  · obtain ⟨co, _, x, _, _, _, _, _, _, h1, h2⟩ := h
    by_cases b : xm_c1 co x
    · exact ⟨_, _, _, _, _, _, h1 b, Nat.le_refl _, Nat.le_refl _⟩
    · exact ⟨_, _, _, _, _, _, h2 b, Nat.le_refl _, Nat.le_refl _⟩
  · obtain ⟨co, _, x, y, _, _, _, _, _, _, h1, h2⟩ := h
    by_cases b : xm_c2 co x y
    · exact ⟨_, _, _, _, _, _, h1 b, Nat.le_refl _, Nat.le_refl _⟩
    · exact ⟨_, _, _, _, _, _, h2 b, Nat.le_refl _, Nat.le_refl _⟩
  · obtain ⟨_, _, _, _, _, _, _, _, _, _, _, _, h⟩ := h
    exact ⟨_, _, _, _, _, _, h, Nat.le_refl _, Nat.le_refl _⟩
  · obtain ⟨_, _, _, _, _, _, _, _, _, _, _, _, _, _, _, h⟩ := h
    exact ⟨_, _, _, _, _, _, h, Nat.le_refl _, Nat.le_refl _⟩
end XSTEP
