/-! Three methods of the JDK: fill, min, copyOf. -/
def ja_fill_l5 (k N : Nat) (x : Int32) : Nat → Int32 → xm_S → Option xm_S
  | 0, _, _ => none
  | fu + 1, i, m => if nI N ≤ i then some m else xg_n i N (xs_m (xw_i m k i.toNatClampNeg x) fun m2 => ja_fill_l5 k N x fu (i + (1 : Int32)) m2)
def ja_fill (F k N : Nat) (x : Int32) (m : xm_S) : Option xm_S := ja_fill_l5 k N x F (0 : Int32) m
theorem ja_fill_l5_ok {xt : Nat → Nat × (Nat → Int32)} (d : Nat) {T : List xm_T} {k N : Nat} {x : Int32} {m' : xm_S} (hT : T[k]? = some (xt_r 0 N)) : ∀ (fu : Nat) (i : Int32) (m : xm_S), ja_fill_l5 k N x fu i m = some m' → xm_Run pg xt d 3 0 0 (xQ_v T m') 5 [some (xv_r k), some (xv_i x), some (xv_i i), some (xv_i (nI N))] [] (xq_2 T m) 0 0 := by
  intro fu
  induction fu with
  | zero => intro i m h; cases h
  | succ fu ih =>
    intro i m h
    rw [ja_fill_l5] at h
    refine xr_iload_n (in_3 rfl) rfl ?_
    refine xr_iload_n (in_3 rfl) rfl ?_
    by_cases c : nI N ≤ i
    · replace h := (if_pos c).symm.trans h
      refine xr_ict 20 (in_3 rfl) rfl c ?_
      obtain rfl := Option.some.inj h
      exact xr_vret kd_3 (in_3 rfl) (Nat.le_refl _) (Nat.le_refl _) ⟨rfl, rfl⟩
    · replace h := (if_neg c).symm.trans h
      refine xr_icf 20 (in_3 rfl) rfl c ?_
      refine xr_aload_n (in_3 rfl) rfl ?_
      refine xr_iload_n (in_3 rfl) rfl ?_
      refine xr_iload_n (in_3 rfl) rfl ?_
      obtain ⟨o1, h⟩ := xg_e h
      refine xq_iast (in_3 rfl) hT o1 ?_
      obtain ⟨m2, e2, h⟩ := xs_e h
      rw [← e2]
      clear e2
      refine xr_iinc (i + (1 : Int32)) [some (xv_r k), some (xv_i x), some (xv_i (i + (1 : Int32))), some (xv_i (nI N))] (in_3 rfl) rfl (xi_1 _) (nl_3 rfl) rfl ?_
      refine xr_goto 5 (in_3 rfl) rfl ?_
      exact ih _ _ h
theorem ja_fill_ok {xt : Nat → Nat × (Nat → Int32)} (_n d : Nat) {F : Nat} {T : List xm_T} {k N : Nat} {x : Int32} {m m' : xm_S} (hT : T[k]? = some (xt_r 0 N)) (h : ja_fill F k N x m = some m') : xm_Run pg xt d 3 0 0 (xQ_v T m') 0 [some (xv_r k), some (xv_i x), none, none] [] (xq_2 T m) 0 0 := by
  refine xr_iconst_ _ (in_3 rfl) (show _ = (0 : Int32) by decide) ?_
  refine xr_istore_n [some (xv_r k), some (xv_i x), some (xv_i (0 : Int32)), none] (in_3 rfl) (nl_3 rfl) rfl ?_
  refine xr_aload_n (in_3 rfl) rfl ?_
  refine xq_alen (in_3 rfl) hT (by decide) ?_
  refine xr_istore_n [some (xv_r k), some (xv_i x), some (xv_i (0 : Int32)), some (xv_i (nI N))] (in_3 rfl) (nl_3 rfl) rfl ?_
  exact ja_fill_l5_ok d hT F _ m h
theorem xk_l_s (n : Nat) : xk_l (n + 1) = 2 * xk_l n := by unfold xk_l; rw [Nat.pow_succ]; omega
theorem xk_l_0 (n : Nat) : 512 ≤ xk_l n := by
  unfold xk_l
  have := Nat.one_le_two_pow (n := n)
  omega
theorem xk_l_b {n : Nat} (h : n ≤ 10) : xk_l n ≤ 524288 := by
  have h2 : 2 ^ n ≤ 2 ^ 10 := Nat.pow_le_pow_right (by decide) h
  unfold xk_l
  omega
theorem xw_g_e {m : xm_S} {n : Nat} : xw_c (xw_a m (58 + n)) (58 + n) (xk_c n) 0 0 (xk_l n) = xw_g m n := by
  have hne : xk_c n ≠ 58 + n := by
    cases n with
    | zero => decide
    | succ n => show 58 + n ≠ 58 + (n + 1); omega
  unfold xw_c xw_a xw_g
  have e1 : xz_2 m.2 (58 + n) 0 (xk_c n) = m.2 (xk_c n) := by funext b; simp [xz_2, hne]
  have e2 : xz_2 m.2 (58 + n) (0 : Int64) (58 + n) = fun _ => 0 := by funext b; simp [xz_2]
  show (_, _) = (_, _)
  dsimp only
  rw [e1, e2]
theorem ja_copyOf_ok {xt : Nat → Nat × (Nat → Int32)} (n d : Nat) {x : Int32} {m : xm_S} (h : x = nI (xk_l (n + 1)) ∧ n ≤ 10) : xm_Run pg xt (d + 1) 42 1 (xk_l (n + 1)) (fun r' M1 => r' = some (xv_r (58 + n)) ∧ M1 = xq_2 (sh n ++ [xt_r 1 (xk_l (n + 1))]) (xw_g m n)) 0 [some (xv_r (xk_c n)), some (xv_i x), none] [] (xq_2 (sh n) m) 0 0 := by
  obtain ⟨rfl, hn⟩ := h
  have b1 := xk_l_b hn
  have b2 := xk_l_s n
  have b3 := xk_l_0 n
  have hk : (sh n ++ [xt_r 1 (xk_l (n + 1))])[xk_c n]? = some (xt_r 1 (xk_l n)) := by
    rw [List.getElem?_append_left (List.getElem?_eq_some_iff.mp (sh_k n)).1]
    exact sh_k n
  have hq : (sh n ++ [xt_r 1 (xk_l (n + 1))])[58 + n]? = some (xt_r 1 (xk_l (n + 1))) := by
    rw [List.getElem?_append_right (by rw [sh_len]; exact Nat.le_refl _), sh_len, Nat.sub_self]
    rfl
  have hc : xk_c n ≠ 58 + n := by
    cases n with
    | zero => decide
    | succ n => show 58 + n ≠ 58 + (n + 1); omega
  have hne : ¬ nI (xk_l (n + 1)) = nI (xk_l n) := fun q => by
    have q2 := (nI_eq (by omega) (by omega)).mp q
    omega
  refine xr_iload_n (in_42 rfl) rfl ?_
  refine xr_aload_n (in_42 rfl) rfl ?_
  refine xq_alen (in_42 rfl) (sh_k n) (by decide) ?_
  refine xr_ict 14 (in_42 rfl) rfl hne ?_
  refine xr_iload_n (in_42 rfl) rfl ?_
  refine xq_newa 1 (xk_l (n + 1)) (58 + n) (sh n ++ [xt_r 1 (xk_l (n + 1))]) (in_42 rfl) (nI_pos (by omega)) (nI_clamp (by omega)) (by omega) (Or.inr (Or.inl ⟨rfl, rfl⟩)) (sh_len n) rfl ?_
  refine xr_astore_n [some (xv_r (xk_c n)), some (xv_i (nI (xk_l (n + 1)))), some (xv_r (58 + n))] (in_42 rfl) (nl_42 rfl) rfl ?_
  refine xr_aload_n (in_42 rfl) rfl ?_
  refine xr_iconst_ _ (in_42 rfl) (show _ = (0 : Int32) by decide) ?_
  refine xr_aload_n (in_42 rfl) rfl ?_
  refine xr_iconst_ _ (in_42 rfl) (show _ = (0 : Int32) by decide) ?_
  refine xr_aload_n (in_42 rfl) rfl ?_
  refine xq_alen (in_42 rfl) hk (by decide) ?_
  refine xr_iload_n (in_42 rfl) rfl ?_
  refine xr_min (in_42 rfl) (xo_42 rfl) rfl ?_
  have hmin : (if nI (xk_l (n + 1)) < nI (xk_l n) then nI (xk_l (n + 1)) else nI (xk_l n)) = nI (xk_l n) := if_neg (nI_nlt (by omega) (by omega))
  rw [hmin]
  have h0 : (0 : Int32).toNatClampNeg = 0 := by decide
  have hl : (nI (xk_l n)).toNatClampNeg = xk_l n := nI_clamp (by omega)
  refine xq_copy (in_42 rfl) (xo_42 rfl) rfl hk hq (by decide) (by decide) (nI_pos (by omega)) (by rw [h0, hl]; omega) (by rw [h0, hl]; omega) hc ?_
  rw [h0, hl, xw_g_e]
  refine xr_aload_n (in_42 rfl) rfl ?_
  exact xr_aret kd_42 (in_42 rfl) (Nat.le_refl _) (by omega) ⟨rfl, rfl⟩
