/-! The claim out of the pure goal. -/
def xm_dk (j : Nat) : Int32 := match j with
  | 0 => 1
  | 1 => 0
  | 2 => 3
  | 3 => 2
  | 4 => 5
  | 5 => 4
  | 6 => 6
  | 7 => 8
  | _ => 7
-- what stands outside: 1 the kinds of duals, all else the script
def xm_xt (L : Nat) (xs : Nat → Int32) : Nat → Nat × (Nat → Int32) := fun k => if k = 1 then (9, xm_dk) else (L, xs)
def xm_m0 : xm_S := (fun _ _ => 0, fun _ _ => 0)
-- THE PURE GOAL: law, as a function, answers 1 on every script
def xm_pure : Prop := ∀ (L : Nat) (xs : Nat → Int32), L ≤ 4096 → ∃ (F : Nat) (m1 m' : xm_S) (n' : Nat), la_pre F xm_m0 = some m1 ∧ la_law F (xm_xt L xs) 0 m1 = some (1, n', m') ∧ n' ≤ 10
theorem ws_elem {args : Array Value} {s : State} (hs : ∀ c ∈ flatC (Jvm.Cond.and given_1 narrow_1), c.before args s = true) (j : Nat) (hj : j < 9) : (Term.elem (.static "MachineMaker$Book" "DUAL_KINDS" "[I") (.int (Int32.ofNat j))).eval args s none [] s = some (.int (xm_dk j)) := by
  match j, hj with
  | 0, _ => exact va_eqt (hs (Cond.eq (Term.elem (.static "MachineMaker$Book" "DUAL_KINDS" "[I") (.int (0 : Int32))) (.int (1 : Int32))) (by decide +kernel))
  | 1, _ => exact va_eqt (hs (Cond.eq (Term.elem (.static "MachineMaker$Book" "DUAL_KINDS" "[I") (.int (1 : Int32))) (.int (0 : Int32))) (by decide +kernel))
  | 2, _ => exact va_eqt (hs (Cond.eq (Term.elem (.static "MachineMaker$Book" "DUAL_KINDS" "[I") (.int (2 : Int32))) (.int (3 : Int32))) (by decide +kernel))
  | 3, _ => exact va_eqt (hs (Cond.eq (Term.elem (.static "MachineMaker$Book" "DUAL_KINDS" "[I") (.int (3 : Int32))) (.int (2 : Int32))) (by decide +kernel))
  | 4, _ => exact va_eqt (hs (Cond.eq (Term.elem (.static "MachineMaker$Book" "DUAL_KINDS" "[I") (.int (4 : Int32))) (.int (5 : Int32))) (by decide +kernel))
  | 5, _ => exact va_eqt (hs (Cond.eq (Term.elem (.static "MachineMaker$Book" "DUAL_KINDS" "[I") (.int (5 : Int32))) (.int (4 : Int32))) (by decide +kernel))
  | 6, _ => exact va_eqt (hs (Cond.eq (Term.elem (.static "MachineMaker$Book" "DUAL_KINDS" "[I") (.int (6 : Int32))) (.int (6 : Int32))) (by decide +kernel))
  | 7, _ => exact va_eqt (hs (Cond.eq (Term.elem (.static "MachineMaker$Book" "DUAL_KINDS" "[I") (.int (7 : Int32))) (.int (8 : Int32))) (by decide +kernel))
  | 8, _ => exact va_eqt (hs (Cond.eq (Term.elem (.static "MachineMaker$Book" "DUAL_KINDS" "[I") (.int (8 : Int32))) (.int (7 : Int32))) (by decide +kernel))
  | j + 9, h => exact absurd h (by omega)
set_option maxRecDepth 20000 in
theorem ws_of (hp : xm_pure) {p : Program} {e : Env} {s : State} {m : MethodId} {below : List Frame} {meth : Method} {c : Code} (l : Launch) {b L : Nat} {xs : Nat → Int32} (hL : L ≤ 4096) (C0 : lw_At p s m meth c b L xs) : W p l e room_1 s m #[Value.ref b] below meth c s.heap [] 0 0 (lw_Z below #[Value.ref b] s) (entryFrame m ([Value.ref b] : List Value).toArray 4) := by
  obtain ⟨hx, hb, hr, hml, hown, hts, hX, hbl, hlocks, hgv⟩ := C0
  have hs := flat_of_before _ hgv
  have hA : ∀ a : Nat, a < s.heap.size → ¬ xm_A s.heap.size a := fun a h q => Nat.not_le.mpr h q
  obtain ⟨t, ht, hT1⟩ := va_Tof (tm := .static "MachineMaker$Book" "DUAL_KINDS" "[I") (ty := .int) (N := 9) (f := fun j => .int (xm_dk j)) (A := xm_A s.heap.size) (by decide) (hs _ (by decide +kernel)) (va_eqt (z := Int32.ofNat 9) (hs (Cond.eq (Term.length (.static "MachineMaker$Book" "DUAL_KINDS" "[I")) (.int (9 : Int32))) (by decide +kernel))) (ws_elem hs) hA
  have htg : ∀ w ∈ xm_tg, w.before #[Value.ref b] s = true := fun w hw => hts w (List.mem_filter.mp hw).1
  have hZ : va_Z "MachineMaker$Book" "DUAL_KINDS" "[I" (.ref t) (xm_A s.heap.size) s s.heap := va_Zref (hts _ (List.mem_of_getElem? (i := 348) rfl)) (hts _ (List.mem_of_getElem? (i := 51) rfl)) ht hA
  have hT0 : va_T .int b L (fun j => .int (xs j)) (xm_A s.heap.size) s s.heap := by
    obtain ⟨scr, h1, h2, h3, h4, h5⟩ := hX
    exact ⟨scr, h1, h2, h3, Nat.le_of_eq h4.symm, congrArg Nat.toInt32 h4, h5, hA b hbl⟩
  obtain ⟨c0, i0, k0⟩ := u_known htg vW_0 (htg _ (mt_at 63 rfl))
  obtain ⟨c1, i1, k1⟩ := u_known htg vW_1 (htg _ (mt_at 71 rfl))
  obtain ⟨c2, i2, k2⟩ := u_known htg vW_2 (htg _ (mt_at 108 rfl))
  obtain ⟨c3, i3, k3⟩ := u_known htg vW_3 (htg _ (mt_at 130 rfl))
  obtain ⟨c4, i4, k4⟩ := u_known htg vW_4 (htg _ (mt_at 136 rfl))
  obtain ⟨c5, i5, k5⟩ := u_known htg vW_5 (htg _ (mt_at 185 rfl))
  obtain ⟨c6, i6, k6⟩ := u_known htg vW_6 (htg _ (mt_at 223 rfl))
  obtain ⟨c7, i7, k7⟩ := u_known htg vW_7 (htg _ (mt_at 251 rfl))
  obtain ⟨c8, i8, k8⟩ := u_known htg vW_8 (htg _ (mt_at 597 rfl))
  have hK : va_K (fun k => match k with | 0 => c0 | 1 => c1 | 2 => c2 | 3 => c3 | 4 => c4 | 5 => c5 | 6 => c6 | 7 => c7 | _ => c8, fun k => match k with | 0 => i0 | 1 => i1 | 2 => i2 | 3 => i3 | 4 => i4 | 5 => i5 | 6 => i6 | 7 => i7 | _ => i8) xm_vc [] s := by
    refine ⟨fun c q hq => ?_, fun k q h => by cases h⟩
    match c, hq with
    | 0, hq => cases hq; exact k0
    | 1, hq => cases hq; exact k1
    | 2, hq => cases hq; exact k2
    | 3, hq => cases hq; exact k3
    | 4, hq => cases hq; exact k4
    | 5, hq => cases hq; exact k5
    | 6, hq => cases hq; exact k6
    | 7, hq => cases hq; exact k7
    | 8, hq => cases hq; exact k8
    | c + 9, hq => cases hq
  generalize hD : ((fun k => match k with | 0 => c0 | 1 => c1 | 2 => c2 | 3 => c3 | 4 => c4 | 5 => c5 | 6 => c6 | 7 => c7 | _ => c8, fun k => match k with | 0 => i0 | 1 => i1 | 2 => i2 | 3 => i3 | 4 => i4 | 5 => i5 | 6 => i6 | 7 => i7 | _ => i8) : va_G) = D at hK
  obtain ⟨F, m1, m', n', h1, h2, h3⟩ := hp L xs hL
  have hk1 : xk_s n' ≤ xk_s 10 := xk_mono h3
  have hk2 : xk_s 10 ≤ 1100000 := by decide
  have run : xm_Run pg (xm_xt L xs) 34 0 (58 + n') (10671 + xk_s n') (xQ_i (sh n') 1 m') 0 [some (xv_x 0), none, none, none] [] (xq_2 ct_0 xm_m0) 0 0 := la_pre_ok 31 h1 (la_law_ok 0 0 (by omega) (by show 10671 + xk_s n' ≤ _ + 0; omega) h2)
  have G := run (xm_G pg ng (xm_xt L xs) l D xm_vc (fun k => if k = 1 then t else b) s.heap.size ("MachineMaker$Book", "DUAL_KINDS", "[I")) (xm_clo_all xm_pok_g)
  have cx : xm_cx pg ng D xm_vc (fun k => if k = 1 then t else b) (xm_xt L xs) s.heap.size ("MachineMaker$Book", "DUAL_KINDS", "[I") 0 p s m #[Value.ref b] meth c := by
    refine ⟨hx, hb, hml, hown, htg, hr, hlocks, fun q => absurd q (by decide), hK, Nat.le_refl _, fun k => ?_, hZ⟩
    by_cases hk : k = 1
    · subst hk; exact hT1
    · show va_T .int (if k = 1 then t else b) (xm_xt L xs k).1 (fun j => .int ((xm_xt L xs k).2 j)) _ s s.heap
      unfold xm_xt
      rw [if_neg hk, if_neg hk]
      exact hT0
  have rtn : xm_rtn pg D xm_vc (fun k => if k = 1 then t else b) s.heap.size 0 (58 + n') (10671 + xk_s n') (xQ_i (sh n') 1 m') p l e room_1 s m #[Value.ref b] below meth c 0 (fun _ => 0) (fun _ => c0) (lw_Z below #[Value.ref b] s) := by
    intro pc r M ad ca ls H locs nc ns hret hnc hns hq hn0 hag hsc hm
    obtain ⟨rfl, rfl⟩ := hq
    obtain ⟨pn, hi, -⟩ := hret
    obtain ⟨ln, hd, -, hln⟩ := (xm_pr_all 0).1.1.1 pc _ hi
    obtain rfl : ln = 1 := xm_ln 0 hln rfl
    refine va_forget (fun q hq => hm.2.2.2.1.2.2 q hq) ?_
    refine W.widen (k := 600000) (n := 7302250) (by omega) (by omega) ?_
    exact lw_ret hx hb hr hlocks hd
  have w := G.2 p e room_1 s m #[Value.ref b] below meth c 0 (fun _ => 0) (fun _ => c0) (lw_Z below #[Value.ref b] s) ⟨by decide, by show 58 + n' ≤ 600000; omega, by show 10671 + xk_s n' ≤ 7302250; omega, by decide⟩ cx rtn (fun _ => 0) (fun _ => c0) _ s.heap [] (Nat.zero_le _) (fun k hk => absurd hk (Nat.not_lt_zero k)) (xm_entry (av := [xv_x 0]) (nL := 4) (n := 0) (by decide) (fun v hv => by simp at hv; subst hv; trivial)) (fun v hv => by cases hv) ⟨fun k ci fs h => (by cases h), fun k q h => (by cases h), ⟨fun i j p q h => (by cases h), fun k q h => (by cases h)⟩, va_S.rf, fun k e ty h => (by cases h)⟩
  rw [lg_entry_eq]
  exact w
