/-! A grown book leaves the ways of its formulas; the game once, with the safe positions. -/
theorem wp_R_x {T T' : bo_T} {l : Nat} (hX : bt_X T T') : ∀ k, k ≤ T.1 → wp_R T' l k = wp_R T l k := by
  intro k
  induction k with
  | zero => intro _; rfl
  | succ k ih =>
    intro hk
    obtain ⟨x1, x2, x3⟩ := hX.2 k (by omega)
    funext j x
    rw [wp_R, wp_R, ih (by omega)]
    unfold wp_s
    rw [x1, x2, x3]
theorem wp_f_x {T T' : bo_T} {l k : Nat} (hX : bt_X T T') (hk : k < T.1) : wp_f T' l k = wp_f T l k := by
  unfold wp_f
  rw [wp_R_x hX (k + 1) (by omega)]
theorem kt_I_X {T T' : bo_T} {N : Nat} {m : xm_S} (hX : bt_X T T') (h : kt_I T N m) : kt_I T' N m := by
  obtain ⟨i1, used, i2, i3, i4, i5⟩ := h
  refine ⟨i1, used, i2, i3, i4, fun k l hk hl => ?_⟩
  rcases i5 k l hk hl with y | ⟨y1, y2⟩
  · exact Or.inl y
  · refine Or.inr ⟨Nat.lt_of_lt_of_le y1 hX.1, ?_⟩
    rw [wp_f_x hX y1]
    exact y2
def cb_P (T : bo_T) (PS : Nat → Nat) (N : Nat) (m : xm_S) : Prop := bt_C T m ∧ bt_P T PS m ∧ bd_I T m ∧ kt_I T N m
theorem cb_x {T : bo_T} {PS : Nat → Nat} {N : Nat} {m m' : xm_S} {L : List Nat} (hW : bt_W T) (h : cb_P T PS N m) (g : xf_r L m m') (h1 : xf_in L 1 = false) (h2 : xf_in L 2 = false) (h3 : xf_in L 3 = false) (h4 : xf_in L 4 = false) (h5 : xf_in L 5 = false) (h6 : xf_in L 6 = false) (h10 : xf_in L 10 = false) (h11 : xf_in L 11 = false) (h12 : xf_in L 12 = false) (h13 : L.elem 13 = false) (h58 : L.elem 58 = false) : cb_P T PS N m' :=
  ⟨bt_C_f h.1 g h1 h2 h3 h4, bt_P_f h.2.1 g h5, bd_I_X hW hW bt_X_r (fun j => by rw [(g 6 h6).1]) h.2.2.1, kt_I_x h.2.2.2 g h10 h11 h12 h13 h58⟩
theorem xc_as {α β : Type} {n n' : Nat} {a : α} {m : xm_S} {f : α → Nat → xm_S → Option β} (h : n ≤ n') : xc_a n (some (a, n', m)) f = f a n' m := by
  simp only [xc_a, Nat.ble_eq_true_of_le h, cond_true]
theorem xc_vs {β : Type} {m : xm_S} {f : xm_S → Option β} : xc_v (some m) f = f m := rfl
theorem sv_game {F b f n n' : Nat} {pl : Bool} {T : bo_T} {PS : Nat → Nat} {q q' : Nat → Nat × Nat} {mc mm : xm_S} (hF : 1000 < F) (hb : b ≤ 3) (hc : au_C T PS f q n mc) (hm : au_M T PS f q' n' mm) :
    (∃ mc' mm' : xm_S, gm_explore F (nI b) mc = some (0, mc') ∧ mm_game F (nI b) mm = some (0, mm') ∧ gk_18 mm mm') ∨
    ∃ (cnt : Nat) (E : Nat → Option Nat) (S : Nat → Bool) (y : Nat) (mc1 mm1 mc2 mm2 : xm_S), gm_explore F (nI b) mc = some (1, mc1) ∧ mm_game F (nI b) mm = some (1, mm1) ∧ gm_isWonBy F (if pl = true then (1 : Int32) else 2) mc1 = some (bI (S 0), mc2) ∧ mm_findSafe F (bI pl) mm1 = some mm2 ∧ gr_P cnt E ∧ (∀ p, p < cnt → S p = true → sf_s E pl S p = true) ∧ sf_C cnt E S mc2 ∧ sf_M cnt E S mm2 ∧ mc2.1 26 5 = nI y ∧ mm2.1 35 22 = nI y ∧ (∀ j, j ≠ 18 → j ≠ 22 → mm2.1 35 j = mm.1 35 j) := by
  have en := au_n hc hm
  rw [← en] at hm
  obtain ⟨sg, A, G, A', G', hD⟩ := ga_link hb hc hm
  rcases ge_all hF hD with ⟨mc', mm', t1, t2, t3⟩ | ⟨cnt, E, mc', mm', t1, t2, hP, hC, hM, t3⟩
  · exact Or.inl ⟨mc', mm', t1, t2, t3⟩
  · obtain ⟨R, mc2, a1, a2, a3, a4⟩ := sc_all (F := F) (pl := pl) hF hP hC
    obtain ⟨R', mm2, b1, b2, b3, b4, b5⟩ := sm_all (F := F) (pl := pl) hF hP hM
    obtain rfl := sf_L_u a2 b2
    exact Or.inr ⟨cnt, E, sf_r E pl cnt R, sf_c (sf_r E pl cnt R) cnt, mc', mm', mc2, mm2, t1, t2, a1, b1, hP, sf_fix a2, a3, b3, a4, b4, fun j h1 h2 => by rw [b5 j h2, t3 j h1]⟩
