/-! Steps of the group F are true of the machine. -/
section XSTEP
variable {p : Program} {l : Launch} {e : Env} {R : Room} {s : State} {m : MethodId} {args : Array Value} {below : List Frame} {meth : Method} {c : Code} {Q : State → Prop} {D : va_G} {cl : List vw_C} {ex : Nat → Nat} {A : Nat → Prop} {nL n0 : Nat} {ad0 : Nat → Nat} {ca0 : Nat → ClassId}
variable {own : String} {cc : ByteArray} {Ts : List Cond} {xt : Nat → Nat × (Nat → Int32)} {C0 S0 : Nat} {Y : xm_Y} {K : xm_K} {pc : Nat} {loc : xm_L} {st : List xm_V} {M : xm_M} {nc ns : Nat}
set_option maxHeartbeats 2000000 in
theorem xm_snd_iast (F : xm_fx own cc nL Ts ex xt C0 S0 p R s m args c D cl A) (O : xm_yok own cc Ts cl Y) (hini : Y.2.2.2.2.2 0 = 9 → meth.name = "<init>") (hRf : 1 ≤ R.frames) (hRl : 100 ≤ R.locals)
    (hoi : (Cond.instanceMethod objectInit).before args s = true ∧ (Cond.code objectInit ⟨#[0xb1]⟩ 1 none).before args s = true)
    (har : (Cond.arrayClass .int).before args s = true ∧ (Cond.arrayClass .long).before args s = true ∧ (Cond.arrayClass .boolean).before args s = true)
    (hcy : (Cond.native arraycopyName).before args s = true ∧ (Cond.static arraycopyName).before args s = true ∧ (Cond.initialized "java/lang/System").before args s = true)
    (hmn : (Cond.static Lib.Math.min.name).before args s = true ∧ (Cond.initialized "java/lang/Math").before args s = true ∧ (Cond.code Lib.Math.min.name Lib.Math.min.code 2 (some .int)).before args s = true)
    (hst : ∀ ix q, Y.2.2.2.2.1 ix = some q → ∃ (C n d : String), va_Z C n d (.ref (ex q)) A s s.heap ∧ (Cond.fieldLink own ix C n d).before args s = true)
    (hr : ∀ a1 a2 a3 a4 a5 a6, K a1 a2 a3 a4 a5 a6 → a5 ≤ C0 ∧ a6 ≤ S0)
    (kk : ∀ a1 a2 a3 a4 a5 a6, K a1 a2 a3 a4 a5 a6 → xm_W1 p l e R s m args below meth c Q D cl ex A nL n0 ad0 ca0 a1 a2 a3 a4 a5 a6) (h : (∃ (i : Int32) (x : Int32) (k : Nat) (n : Nat) (r : List xm_V) (pn : Nat), Y.1 pc = some (.iastore, pn) ∧ st = xv_i x :: xv_i i :: xv_r k :: r ∧ M.1[k]? = some (xt_r 0 n) ∧ vp_in i n ∧ K pn loc r (M.1, xu_2 M.2.1 k i.toNatClampNeg x, M.2.2) nc ns)) : xm_W1 p l e R s m args below meth c Q D cl ex A nL n0 ad0 ca0 pc loc st M nc ns := by
  obtain ⟨hx, hb, hml, hown, hts, hK, hA, ⟨hRc, hRs⟩, hT⟩ := F
  obtain ⟨hdec, hkc, hkl, hfo, hno, hob, hcp, hmi⟩ := O
  intro ad ca ls H locs hn hag hl hs hm
  obtain ⟨i, x, k, n, r, pn, hi, rfl, hM, hin, h⟩ := h
  obtain ⟨ln, hd, hpn, hln⟩ := hdec pc _ hi
  dsimp only at hd hpn hln
  obtain rfl := xm_ln 0 hln rfl
  subst hpn
  refine va_iast hx hb (xm_K1 hK (hm.2.2.2.2 k _ .int hM rfl)) hm.2.1 hm.2.2.1 hm.2.2.2.1 k 0 (xm_w_at hM) rfl hin hd (fun H1 locs1 hP hD hS => ?_)
  have he : (Sum.inl (ca k, n, Sum.inl (upd (M.2.1 k) i.toNatClampNeg x)) : va_E) = Sum.inl (ca k, n, Sum.inl (xu_2 M.2.1 k i.toNatClampNeg x k)) := by rw [xm_eu]; rfl
  exact kk _ _ _ _ _ _ h ad ca ls H1 locs1 hn hag hl (xm_hs_cons (xm_hs_cons (xm_hs_cons hs).2).2).2 (hm.store hM xm_xu_k (fun _ _ => rfl) he hP hD hS)
set_option maxHeartbeats 2000000 in
theorem xm_snd_bast (F : xm_fx own cc nL Ts ex xt C0 S0 p R s m args c D cl A) (O : xm_yok own cc Ts cl Y) (hini : Y.2.2.2.2.2 0 = 9 → meth.name = "<init>") (hRf : 1 ≤ R.frames) (hRl : 100 ≤ R.locals)
    (hoi : (Cond.instanceMethod objectInit).before args s = true ∧ (Cond.code objectInit ⟨#[0xb1]⟩ 1 none).before args s = true)
    (har : (Cond.arrayClass .int).before args s = true ∧ (Cond.arrayClass .long).before args s = true ∧ (Cond.arrayClass .boolean).before args s = true)
    (hcy : (Cond.native arraycopyName).before args s = true ∧ (Cond.static arraycopyName).before args s = true ∧ (Cond.initialized "java/lang/System").before args s = true)
    (hmn : (Cond.static Lib.Math.min.name).before args s = true ∧ (Cond.initialized "java/lang/Math").before args s = true ∧ (Cond.code Lib.Math.min.name Lib.Math.min.code 2 (some .int)).before args s = true)
    (hst : ∀ ix q, Y.2.2.2.2.1 ix = some q → ∃ (C n d : String), va_Z C n d (.ref (ex q)) A s s.heap ∧ (Cond.fieldLink own ix C n d).before args s = true)
    (hr : ∀ a1 a2 a3 a4 a5 a6, K a1 a2 a3 a4 a5 a6 → a5 ≤ C0 ∧ a6 ≤ S0)
    (kk : ∀ a1 a2 a3 a4 a5 a6, K a1 a2 a3 a4 a5 a6 → xm_W1 p l e R s m args below meth c Q D cl ex A nL n0 ad0 ca0 a1 a2 a3 a4 a5 a6) (h : (∃ (i : Int32) (x : Int32) (k : Nat) (n : Nat) (r : List xm_V) (pn : Nat), Y.1 pc = some (.bastore, pn) ∧ st = xv_i x :: xv_i i :: xv_r k :: r ∧ M.1[k]? = some (xt_r 2 n) ∧ vp_in i n ∧ (x = 0 ∨ x = 1) ∧ K pn loc r (M.1, xu_2 M.2.1 k i.toNatClampNeg x, M.2.2) nc ns)) : xm_W1 p l e R s m args below meth c Q D cl ex A nL n0 ad0 ca0 pc loc st M nc ns := by
  obtain ⟨hx, hb, hml, hown, hts, hK, hA, ⟨hRc, hRs⟩, hT⟩ := F
  obtain ⟨hdec, hkc, hkl, hfo, hno, hob, hcp, hmi⟩ := O
  intro ad ca ls H locs hn hag hl hs hm
  obtain ⟨i, x, k, n, r, pn, hi, rfl, hM, hin, h01, h⟩ := h
  obtain ⟨ln, hd, hpn, hln⟩ := hdec pc _ hi
  dsimp only at hd hpn hln
  obtain rfl := xm_ln 0 hln rfl
  subst hpn
  refine va_zast hx hb (xm_K1 hK (hm.2.2.2.2 k _ .boolean hM rfl)) hm.2.1 hm.2.2.1 hm.2.2.2.1 k 0 (xm_w_at hM) rfl hin hd (fun H1 locs1 hP hD hS => ?_)
  rw [show vp_nar .boolean x = x by rcases h01 with rfl | rfl <;> rfl] at hP hD
  have he : (Sum.inl (ca k, n, Sum.inl (upd (M.2.1 k) i.toNatClampNeg x)) : va_E) = Sum.inl (ca k, n, Sum.inl (xu_2 M.2.1 k i.toNatClampNeg x k)) := by rw [xm_eu]; rfl
  exact kk _ _ _ _ _ _ h ad ca ls H1 locs1 hn hag hl (xm_hs_cons (xm_hs_cons (xm_hs_cons hs).2).2).2 (hm.store hM xm_xu_k (fun _ _ => rfl) he hP hD hS)
set_option maxHeartbeats 2000000 in
theorem xm_snd_last (F : xm_fx own cc nL Ts ex xt C0 S0 p R s m args c D cl A) (O : xm_yok own cc Ts cl Y) (hini : Y.2.2.2.2.2 0 = 9 → meth.name = "<init>") (hRf : 1 ≤ R.frames) (hRl : 100 ≤ R.locals)
    (hoi : (Cond.instanceMethod objectInit).before args s = true ∧ (Cond.code objectInit ⟨#[0xb1]⟩ 1 none).before args s = true)
    (har : (Cond.arrayClass .int).before args s = true ∧ (Cond.arrayClass .long).before args s = true ∧ (Cond.arrayClass .boolean).before args s = true)
    (hcy : (Cond.native arraycopyName).before args s = true ∧ (Cond.static arraycopyName).before args s = true ∧ (Cond.initialized "java/lang/System").before args s = true)
    (hmn : (Cond.static Lib.Math.min.name).before args s = true ∧ (Cond.initialized "java/lang/Math").before args s = true ∧ (Cond.code Lib.Math.min.name Lib.Math.min.code 2 (some .int)).before args s = true)
    (hst : ∀ ix q, Y.2.2.2.2.1 ix = some q → ∃ (C n d : String), va_Z C n d (.ref (ex q)) A s s.heap ∧ (Cond.fieldLink own ix C n d).before args s = true)
    (hr : ∀ a1 a2 a3 a4 a5 a6, K a1 a2 a3 a4 a5 a6 → a5 ≤ C0 ∧ a6 ≤ S0)
    (kk : ∀ a1 a2 a3 a4 a5 a6, K a1 a2 a3 a4 a5 a6 → xm_W1 p l e R s m args below meth c Q D cl ex A nL n0 ad0 ca0 a1 a2 a3 a4 a5 a6) (h : (∃ (i : Int32) (x : Int64) (k : Nat) (n : Nat) (r : List xm_V) (pn : Nat), Y.1 pc = some (.lastore, pn) ∧ st = xv_l x :: xv_i i :: xv_r k :: r ∧ M.1[k]? = some (xt_r 1 n) ∧ vp_in i n ∧ K pn loc r (M.1, M.2.1, xu_2 M.2.2 k i.toNatClampNeg x) nc ns)) : xm_W1 p l e R s m args below meth c Q D cl ex A nL n0 ad0 ca0 pc loc st M nc ns := by
  obtain ⟨hx, hb, hml, hown, hts, hK, hA, ⟨hRc, hRs⟩, hT⟩ := F
  obtain ⟨hdec, hkc, hkl, hfo, hno, hob, hcp, hmi⟩ := O
  intro ad ca ls H locs hn hag hl hs hm
  obtain ⟨i, x, k, n, r, pn, hi, rfl, hM, hin, h⟩ := h
  obtain ⟨ln, hd, hpn, hln⟩ := hdec pc _ hi
  dsimp only at hd hpn hln
  obtain rfl := xm_ln 0 hln rfl
  subst hpn
  refine va_last hx hb (xm_K1 hK (hm.2.2.2.2 k _ .long hM rfl)) hm.2.1 hm.2.2.1 hm.2.2.2.1 k 0 (xm_w_at hM) rfl hin hd (fun H1 locs1 hP hD hS => ?_)
  have he : (Sum.inl (ca k, n, Sum.inr (Sum.inl (vp_updL (M.2.2 k) i.toNatClampNeg x))) : va_E) = Sum.inl (ca k, n, Sum.inr (Sum.inl (xu_2 M.2.2 k i.toNatClampNeg x k))) := by rw [xm_eu]; rfl
  exact kk _ _ _ _ _ _ h ad ca ls H1 locs1 hn hag hl (xm_hs_cons (xm_hs_cons (xm_hs_cons hs).2).2).2 (hm.store hM (fun _ _ => rfl) xm_xu_k he hP hD hS)
set_option maxHeartbeats 2000000 in
theorem xm_snd_put (F : xm_fx own cc nL Ts ex xt C0 S0 p R s m args c D cl A) (O : xm_yok own cc Ts cl Y) (hini : Y.2.2.2.2.2 0 = 9 → meth.name = "<init>") (hRf : 1 ≤ R.frames) (hRl : 100 ≤ R.locals)
    (hoi : (Cond.instanceMethod objectInit).before args s = true ∧ (Cond.code objectInit ⟨#[0xb1]⟩ 1 none).before args s = true)
    (har : (Cond.arrayClass .int).before args s = true ∧ (Cond.arrayClass .long).before args s = true ∧ (Cond.arrayClass .boolean).before args s = true)
    (hcy : (Cond.native arraycopyName).before args s = true ∧ (Cond.static arraycopyName).before args s = true ∧ (Cond.initialized "java/lang/System").before args s = true)
    (hmn : (Cond.static Lib.Math.min.name).before args s = true ∧ (Cond.initialized "java/lang/Math").before args s = true ∧ (Cond.code Lib.Math.min.name Lib.Math.min.code 2 (some .int)).before args s = true)
    (hst : ∀ ix q, Y.2.2.2.2.1 ix = some q → ∃ (C n d : String), va_Z C n d (.ref (ex q)) A s s.heap ∧ (Cond.fieldLink own ix C n d).before args s = true)
    (hr : ∀ a1 a2 a3 a4 a5 a6, K a1 a2 a3 a4 a5 a6 → a5 ≤ C0 ∧ a6 ≤ S0)
    (kk : ∀ a1 a2 a3 a4 a5 a6, K a1 a2 a3 a4 a5 a6 → xm_W1 p l e R s m args below meth c Q D cl ex A nL n0 ad0 ca0 a1 a2 a3 a4 a5 a6) (h : (∃ (ix : Nat) (ci : Nat) (j : Nat) (ty : Nat) (k : Nat) (fs : List xm_F) (x : Int32) (r : List xm_V) (pn : Nat), Y.1 pc = some (.putfield ix, pn) ∧ Y.2.2.1 ix = some (ci, j, ty) ∧ st = xv_i x :: xv_r k :: r ∧ M.1[k]? = some (xt_o ci fs) ∧ fs[j]? = some none ∧ (ty = 0 ∨ (ty = 3 ∧ (x = 0 ∨ x = 1))) ∧ K pn loc r (M.1, xu_2 M.2.1 k j x, M.2.2) nc ns)) : xm_W1 p l e R s m args below meth c Q D cl ex A nL n0 ad0 ca0 pc loc st M nc ns := by
  obtain ⟨hx, hb, hml, hown, hts, hK, hA, ⟨hRc, hRs⟩, hT⟩ := F
  obtain ⟨hdec, hkc, hkl, hfo, hno, hob, hcp, hmi⟩ := O
  intro ad ca ls H locs hn hag hl hs hm
  obtain ⟨ix, ci, j, t, k, fs, x, r, pn, hi, hY, rfl, hM, hf, htx, h⟩ := h
  obtain ⟨ln, hd, hpn, hln⟩ := hdec pc _ hi
  dsimp only at hd hpn hln
  obtain rfl := xm_ln 2 hln rfl
  subst hpn
  have go : ∀ (ci j t k : Nat) (fs : List xm_F) (f : xm_F) (v : xm_V) (r : List xm_V), Y.2.2.1 ix = some (ci, j, t) → M.1[k]? = some (xt_o ci fs) → fs[j]? = some f →
      ((t = 0 ∧ ∃ x, v = xv_i x) ∨ (t = 3 ∧ ∃ x, v = xv_i x ∧ (x = 0 ∨ x = 1)) ∨ (t = 2 ∧ ∃ q, v = xv_r q) ∨ (t = 12 ∧ Y.2.2.2.2.2 0 = 9 ∧ ∃ q, v = xv_r q)) →
      (∀ (H1 : Heap) (locs1 : List Loc), va_P D cl ((xm_w ad ca M).set k (ad k, .inr (ci, (fs.mapIdx fun b f => xm_fw ad M.2.1 k b f).set j (xm_v ad ex v)))) H1 → va_D A ((xm_w ad ca M).set k (ad k, .inr (ci, (fs.mapIdx fun b f => xm_fw ad M.2.1 k b f).set j (xm_v ad ex v)))) → va_S A s.heap H1 locs1 → W p l e R s m args below meth c H1 locs1 nc ns Q (F0 m (pc + 3) ls (r.map (xm_v ad ex)))) →
      W p l e R s m args below meth c H locs nc ns Q (F0 m pc ls ((v :: xv_r k :: r).map (xm_v ad ex))) := by
    intro ci j t k fs f v r hY hM hf hv fin
    obtain ⟨C, T, N, ty, hc, hjN, hin, hty, hnm, hlk, htt⟩ := hfo ix _ j t hY
    have hjl : j < (fs.mapIdx fun b f => xm_fw ad M.2.1 k b f).length := by rw [List.length_mapIdx]; exact (List.getElem?_eq_some_iff.mp hf).1
    have put : narrow (ty j) (xm_v ad ex v) = xm_v ad ex v → fits (ty j) (xm_v ad ex v) = true → (T j).2.2.2 = false → W p l e R s m args below meth c H locs nc ns Q (F0 m pc ls ((v :: xv_r k :: r).map (xm_v ad ex))) := by
      intro hn1 hf1 hb2
      rcases hlk with hlk | ⟨host, hlk⟩
      · exact va_put hx hb hts hin ty hty hnm hown hK hm.2.1 hm.2.2.1 hm.2.2.2.1 k (xm_w_at hM) hc j hjN (hts _ hlk) (fun _ q => q) hb2 (hty j hjN) hn1 hf1 hjl hd fin
      · exact va_putN hx hb hts hin ty hty hnm hown hK hm.2.1 hm.2.2.1 hm.2.2.2.1 k (xm_w_at hM) hc j hjN (hts _ hlk) (fun _ q => q) hb2 (hty j hjN) hn1 hf1 hjl hd fin
    rcases hv with ⟨rfl, x, rfl⟩ | ⟨rfl, x, rfl, h01⟩ | ⟨rfl, q, rfl⟩ | ⟨rfl, h9, q, rfl⟩
    · rcases htt with ⟨-, e1, e2⟩ | ⟨ctr, -⟩ | ⟨ctr, -⟩ | ⟨ctr, -⟩ | ctr <;> try exact absurd ctr (by decide)
      exact put (by rw [e1]; rfl) (by rw [e1]; rfl) e2
    · rcases htt with ⟨ctr, -⟩ | ⟨-, e1, e2⟩ | ⟨ctr, -⟩ | ⟨ctr, -⟩ | ctr <;> try exact absurd ctr (by decide)
      exact put (by rw [e1]; rcases h01 with rfl | rfl <;> rfl) (by rw [e1]; rcases h01 with rfl | rfl <;> rfl) e2
    · rcases htt with ⟨ctr, -⟩ | ⟨ctr, -⟩ | ⟨-, ⟨n, e1⟩ | ⟨n, e1⟩, e2⟩ | ⟨ctr, -⟩ | ctr <;> try exact absurd ctr (by decide)
      · exact put (by rw [e1]; rfl) (by rw [e1]; rfl) e2
      · exact put (by rw [e1]; rfl) (by rw [e1]; rfl) e2
    · rcases htt with ⟨ctr, -⟩ | ⟨ctr, -⟩ | ⟨ctr, -⟩ | ⟨-, e1, hb2, h2, h3⟩ | ctr <;> try exact absurd ctr (by decide)
      have nf : narrow (ty j) (xm_v ad ex (xv_r q)) = xm_v ad ex (xv_r q) ∧ fits (ty j) (xm_v ad ex (xv_r q)) = true := by
        rcases e1 with ⟨n, e1⟩ | ⟨n, e1⟩ <;> rw [e1] <;> exact ⟨rfl, rfl⟩
      exact va_putF hx hb hts hin ty hty hnm hown hK hm.2.1 hm.2.2.1 hm.2.2.2.1 k (xm_w_at hM) hc j hjN (hts _ h3) (fun _ q => q) hb2 (hini h9) h2 (hty j hjN) nf.1 nf.2 hjl hd fin
  refine go ci j t k fs none (xv_i x) r hY hM hf (htx.elim (fun q => Or.inl ⟨q, x, rfl⟩) (fun q => Or.inr (Or.inl ⟨q.1, x, rfl, q.2⟩))) ?_
  intro H1 locs1 hP hD hS
  have he : (Sum.inr (ci, (fs.mapIdx fun b f => xm_fw ad M.2.1 k b f).set j (.int x)) : va_E) = Sum.inr (ci, fs.mapIdx fun b f => xm_fw ad (xu_2 M.2.1 k j x) k b f) := by rw [xm_put_e hf]
  exact kk _ _ _ _ _ _ h ad ca ls H1 locs1 hn hag hl (xm_hs_cons (xm_hs_cons hs).2).2 (hm.store hM xm_xu_k (fun _ _ => rfl) he hP hD hS)
set_option maxHeartbeats 2000000 in
theorem xm_snd_putr (F : xm_fx own cc nL Ts ex xt C0 S0 p R s m args c D cl A) (O : xm_yok own cc Ts cl Y) (hini : Y.2.2.2.2.2 0 = 9 → meth.name = "<init>") (hRf : 1 ≤ R.frames) (hRl : 100 ≤ R.locals)
    (hoi : (Cond.instanceMethod objectInit).before args s = true ∧ (Cond.code objectInit ⟨#[0xb1]⟩ 1 none).before args s = true)
    (har : (Cond.arrayClass .int).before args s = true ∧ (Cond.arrayClass .long).before args s = true ∧ (Cond.arrayClass .boolean).before args s = true)
    (hcy : (Cond.native arraycopyName).before args s = true ∧ (Cond.static arraycopyName).before args s = true ∧ (Cond.initialized "java/lang/System").before args s = true)
    (hmn : (Cond.static Lib.Math.min.name).before args s = true ∧ (Cond.initialized "java/lang/Math").before args s = true ∧ (Cond.code Lib.Math.min.name Lib.Math.min.code 2 (some .int)).before args s = true)
    (hst : ∀ ix q, Y.2.2.2.2.1 ix = some q → ∃ (C n d : String), va_Z C n d (.ref (ex q)) A s s.heap ∧ (Cond.fieldLink own ix C n d).before args s = true)
    (hr : ∀ a1 a2 a3 a4 a5 a6, K a1 a2 a3 a4 a5 a6 → a5 ≤ C0 ∧ a6 ≤ S0)
    (kk : ∀ a1 a2 a3 a4 a5 a6, K a1 a2 a3 a4 a5 a6 → xm_W1 p l e R s m args below meth c Q D cl ex A nL n0 ad0 ca0 a1 a2 a3 a4 a5 a6) (h : (∃ (ix : Nat) (ci : Nat) (j : Nat) (t : Nat) (k : Nat) (fs : List xm_F) (q : Nat) (o : Option Nat) (r : List xm_V) (pn : Nat), Y.1 pc = some (.putfield ix, pn) ∧ Y.2.2.1 ix = some (ci, j, t) ∧ (t = 2 ∨ (t = 12 ∧ Y.2.2.2.2.2 0 = 9)) ∧ st = xv_r q :: xv_r k :: r ∧ M.1[k]? = some (xt_o ci fs) ∧ fs[j]? = some (some o) ∧ K pn loc r (M.1.set k (xt_o ci (fs.set j (some (some q)))), M.2.1, M.2.2) nc ns)) : xm_W1 p l e R s m args below meth c Q D cl ex A nL n0 ad0 ca0 pc loc st M nc ns := by
  obtain ⟨hx, hb, hml, hown, hts, hK, hA, ⟨hRc, hRs⟩, hT⟩ := F
  obtain ⟨hdec, hkc, hkl, hfo, hno, hob, hcp, hmi⟩ := O
  intro ad ca ls H locs hn hag hl hs hm
  obtain ⟨ix, ci, j, t, k, fs, q, w, r, pn, hi, hY, htt, rfl, hM, hf, h⟩ := h
  obtain ⟨ln, hd, hpn, hln⟩ := hdec pc _ hi
  dsimp only at hd hpn hln
  obtain rfl := xm_ln 2 hln rfl
  subst hpn
  have go : ∀ (ci j t k : Nat) (fs : List xm_F) (f : xm_F) (v : xm_V) (r : List xm_V), Y.2.2.1 ix = some (ci, j, t) → M.1[k]? = some (xt_o ci fs) → fs[j]? = some f →
      ((t = 0 ∧ ∃ x, v = xv_i x) ∨ (t = 3 ∧ ∃ x, v = xv_i x ∧ (x = 0 ∨ x = 1)) ∨ (t = 2 ∧ ∃ q, v = xv_r q) ∨ (t = 12 ∧ Y.2.2.2.2.2 0 = 9 ∧ ∃ q, v = xv_r q)) →
      (∀ (H1 : Heap) (locs1 : List Loc), va_P D cl ((xm_w ad ca M).set k (ad k, .inr (ci, (fs.mapIdx fun b f => xm_fw ad M.2.1 k b f).set j (xm_v ad ex v)))) H1 → va_D A ((xm_w ad ca M).set k (ad k, .inr (ci, (fs.mapIdx fun b f => xm_fw ad M.2.1 k b f).set j (xm_v ad ex v)))) → va_S A s.heap H1 locs1 → W p l e R s m args below meth c H1 locs1 nc ns Q (F0 m (pc + 3) ls (r.map (xm_v ad ex)))) →
      W p l e R s m args below meth c H locs nc ns Q (F0 m pc ls ((v :: xv_r k :: r).map (xm_v ad ex))) := by
    intro ci j t k fs f v r hY hM hf hv fin
    obtain ⟨C, T, N, ty, hc, hjN, hin, hty, hnm, hlk, htt⟩ := hfo ix _ j t hY
    have hjl : j < (fs.mapIdx fun b f => xm_fw ad M.2.1 k b f).length := by rw [List.length_mapIdx]; exact (List.getElem?_eq_some_iff.mp hf).1
    have put : narrow (ty j) (xm_v ad ex v) = xm_v ad ex v → fits (ty j) (xm_v ad ex v) = true → (T j).2.2.2 = false → W p l e R s m args below meth c H locs nc ns Q (F0 m pc ls ((v :: xv_r k :: r).map (xm_v ad ex))) := by
      intro hn1 hf1 hb2
      rcases hlk with hlk | ⟨host, hlk⟩
      · exact va_put hx hb hts hin ty hty hnm hown hK hm.2.1 hm.2.2.1 hm.2.2.2.1 k (xm_w_at hM) hc j hjN (hts _ hlk) (fun _ q => q) hb2 (hty j hjN) hn1 hf1 hjl hd fin
      · exact va_putN hx hb hts hin ty hty hnm hown hK hm.2.1 hm.2.2.1 hm.2.2.2.1 k (xm_w_at hM) hc j hjN (hts _ hlk) (fun _ q => q) hb2 (hty j hjN) hn1 hf1 hjl hd fin
    rcases hv with ⟨rfl, x, rfl⟩ | ⟨rfl, x, rfl, h01⟩ | ⟨rfl, q, rfl⟩ | ⟨rfl, h9, q, rfl⟩
    · rcases htt with ⟨-, e1, e2⟩ | ⟨ctr, -⟩ | ⟨ctr, -⟩ | ⟨ctr, -⟩ | ctr <;> try exact absurd ctr (by decide)
      exact put (by rw [e1]; rfl) (by rw [e1]; rfl) e2
    · rcases htt with ⟨ctr, -⟩ | ⟨-, e1, e2⟩ | ⟨ctr, -⟩ | ⟨ctr, -⟩ | ctr <;> try exact absurd ctr (by decide)
      exact put (by rw [e1]; rcases h01 with rfl | rfl <;> rfl) (by rw [e1]; rcases h01 with rfl | rfl <;> rfl) e2
    · rcases htt with ⟨ctr, -⟩ | ⟨ctr, -⟩ | ⟨-, ⟨n, e1⟩ | ⟨n, e1⟩, e2⟩ | ⟨ctr, -⟩ | ctr <;> try exact absurd ctr (by decide)
      · exact put (by rw [e1]; rfl) (by rw [e1]; rfl) e2
      · exact put (by rw [e1]; rfl) (by rw [e1]; rfl) e2
    · rcases htt with ⟨ctr, -⟩ | ⟨ctr, -⟩ | ⟨ctr, -⟩ | ⟨-, e1, hb2, h2, h3⟩ | ctr <;> try exact absurd ctr (by decide)
      have nf : narrow (ty j) (xm_v ad ex (xv_r q)) = xm_v ad ex (xv_r q) ∧ fits (ty j) (xm_v ad ex (xv_r q)) = true := by
        rcases e1 with ⟨n, e1⟩ | ⟨n, e1⟩ <;> rw [e1] <;> exact ⟨rfl, rfl⟩
      exact va_putF hx hb hts hin ty hty hnm hown hK hm.2.1 hm.2.2.1 hm.2.2.2.1 k (xm_w_at hM) hc j hjN (hts _ h3) (fun _ q => q) hb2 (hini h9) h2 (hty j hjN) nf.1 nf.2 hjl hd fin
  refine go ci j t k fs (some w) (xv_r q) r hY hM hf (htt.elim (fun e => Or.inr (Or.inr (Or.inl ⟨e, q, rfl⟩))) (fun e => Or.inr (Or.inr (Or.inr ⟨e.1, e.2, q, rfl⟩)))) ?_
  · intro H1 locs1 hP hD hS
    have hlt : k < M.1.length := (List.getElem?_eq_some_iff.mp hM).1
    have hq : q < M.1.length := (xm_hs_cons hs).1
    have eM : (M.1.set k (xt_o ci (fs.set j (some (some q)))))[k]? = some (xt_o ci (fs.set j (some (some q)))) := by rw [List.getElem?_set]; simp [hlt]
    have e9 := xm_w_set (ad := ad) (ca := ca) (M := M) (k := k) (T' := M.1.set k (xt_o ci (fs.set j (some (some q))))) (I' := M.2.1) (J' := M.2.2) eM (fun a ha => List.getElem?_set_ne (fun q => ha q.symm)) (List.length_set ..) (fun _ _ => rfl) (fun _ _ => rfl)
    have e8 : (Sum.inr (ci, (fs.mapIdx fun b f => xm_fw ad M.2.1 k b f).set j (.ref (ad q))) : va_E) = xm_e ad ca M.2.1 M.2.2 k (xt_o ci (fs.set j (some (some q)))) := by rw [xm_putr_e]; rfl
    have hP : va_P D cl ((xm_w ad ca M).set k (ad k, .inr (ci, (fs.mapIdx fun b f => xm_fw ad M.2.1 k b f).set j (.ref (ad q))))) H1 := hP
    have hD : va_D A ((xm_w ad ca M).set k (ad k, .inr (ci, (fs.mapIdx fun b f => xm_fw ad M.2.1 k b f).set j (.ref (ad q))))) := hD
    rw [e8, e9] at hP hD
    refine kk _ _ _ _ _ _ h ad ca ls H1 locs1 (by rw [List.length_set]; exact hn) hag (by rw [List.length_set]; exact hl) (by rw [List.length_set]; exact (xm_hs_cons (xm_hs_cons hs).2).2) ⟨?_, hP, hD, hS, ?_⟩
    · intro k' ci' fs' hk' z hz
      have hk' : (M.1.set k (xt_o ci (fs.set j (some (some q)))))[k']? = some (xt_o ci' fs') := hk'
      show z < (M.1.set k (xt_o ci (fs.set j (some (some q))))).length
      rw [List.length_set]
      by_cases hkk : k = k'
      · subst hkk
        rw [eM] at hk'
        have e7 := Option.some.inj hk'
        injection e7 with e7
        obtain ⟨-, rfl⟩ := Prod.mk.inj e7
        rcases List.mem_or_eq_of_mem_set hz with hz | hz
        · exact hm.1 k ci fs hM z hz
        · injection hz with hz
          injection hz with hz
          rw [hz]; exact hq
      · rw [List.getElem?_set_ne hkk] at hk'
        exact hm.1 k' ci' fs' hk' z hz
    · intro k' e' ty' hk' hty'
      have hk' : (M.1.set k (xt_o ci (fs.set j (some (some q)))))[k']? = some e' := hk'
      by_cases hkk : k = k'
      · subst hkk
        rw [eM] at hk'
        obtain rfl := Option.some.inj hk'
        cases hty'
      · rw [List.getElem?_set_ne hkk] at hk'
        exact hm.2.2.2.2 k' e' ty' hk' hty'
theorem xm_sndF (F : xm_fx own cc nL Ts ex xt C0 S0 p R s m args c D cl A) (O : xm_yok own cc Ts cl Y) (hini : Y.2.2.2.2.2 0 = 9 → meth.name = "<init>") (hRf : 1 ≤ R.frames) (hRl : 100 ≤ R.locals)
    (hoi : (Cond.instanceMethod objectInit).before args s = true ∧ (Cond.code objectInit ⟨#[0xb1]⟩ 1 none).before args s = true)
    (har : (Cond.arrayClass .int).before args s = true ∧ (Cond.arrayClass .long).before args s = true ∧ (Cond.arrayClass .boolean).before args s = true)
    (hcy : (Cond.native arraycopyName).before args s = true ∧ (Cond.static arraycopyName).before args s = true ∧ (Cond.initialized "java/lang/System").before args s = true)
    (hmn : (Cond.static Lib.Math.min.name).before args s = true ∧ (Cond.initialized "java/lang/Math").before args s = true ∧ (Cond.code Lib.Math.min.name Lib.Math.min.code 2 (some .int)).before args s = true)
    (hst : ∀ ix q, Y.2.2.2.2.1 ix = some q → ∃ (C n d : String), va_Z C n d (.ref (ex q)) A s s.heap ∧ (Cond.fieldLink own ix C n d).before args s = true)
    (hr : ∀ a1 a2 a3 a4 a5 a6, K a1 a2 a3 a4 a5 a6 → a5 ≤ C0 ∧ a6 ≤ S0)
    (kk : ∀ a1 a2 a3 a4 a5 a6, K a1 a2 a3 a4 a5 a6 → xm_W1 p l e R s m args below meth c Q D cl ex A nL n0 ad0 ca0 a1 a2 a3 a4 a5 a6) (h : xm_sF Y xt nL pc loc st M nc ns K) : xm_W1 p l e R s m args below meth c Q D cl ex A nL n0 ad0 ca0 pc loc st M nc ns := by
  unfold xm_sF at h
  rcases h with h | h | h | h | h
  · exact xm_snd_iast F O hini hRf hRl hoi har hcy hmn hst hr kk h
  · exact xm_snd_bast F O hini hRf hRl hoi har hcy hmn hst hr kk h
  · exact xm_snd_last F O hini hRf hRl hoi har hcy hmn hst hr kk h
  · exact xm_snd_put F O hini hRf hRl hoi har hcy hmn hst hr kk h
  · exact xm_snd_putr F O hini hRf hRl hoi har hcy hmn hst hr kk h
theorem xm_exF (h : xm_sF Y xt nL pc loc st M nc ns K) : ∃ a1 a2 a3 a4 a5 a6, K a1 a2 a3 a4 a5 a6 ∧ nc ≤ a5 ∧ ns ≤ a6 := by
  unfold xm_sF at h
  rcases h with h | h | h | h | h
  · obtain ⟨_, _, _, _, _, _, _, _, _, _, h⟩ := h
    exact ⟨_, _, _, _, _, _, h, Nat.le_refl _, Nat.le_refl _⟩
  · obtain ⟨_, _, _, _, _, _, _, _, _, _, _, h⟩ := h
    exact ⟨_, _, _, _, _, _, h, Nat.le_refl _, Nat.le_refl _⟩
  · obtain ⟨_, _, _, _, _, _, _, _, _, _, h⟩ := h
    exact ⟨_, _, _, _, _, _, h, Nat.le_refl _, Nat.le_refl _⟩
  · obtain ⟨_, _, _, _, _, _, _, _, _, _, _, _, _, _, _, h⟩ := h
    exact ⟨_, _, _, _, _, _, h, Nat.le_refl _, Nat.le_refl _⟩
  · obtain ⟨_, _, _, _, _, _, _, _, _, _, _, _, _, _, _, _, h⟩ := h
    exact ⟨_, _, _, _, _, _, h, Nat.le_refl _, Nat.le_refl _⟩
end XSTEP
