/-! Frames: which cells a method leaves as they were (written by program). -/
def xf_in (l : List Nat) (c : Nat) : Bool := l.elem (bif Nat.ble 58 c then 58 else c)
def xf_r (l : List Nat) (m m' : xm_S) : Prop := ∀ c, xf_in l c = false → m'.1 c = m.1 c ∧ m'.2 c = m.2 c
theorem xf_0 {l : List Nat} {m : xm_S} : xf_r l m m := fun _ _ => ⟨rfl, rfl⟩
theorem xf_t {l : List Nat} {a b c : xm_S} (h : xf_r l a b) (k : xf_r l b c) : xf_r l a c := fun x hx => ⟨(k x hx).1.trans (h x hx).1, (k x hx).2.trans (h x hx).2⟩
theorem xf_s {l l' : List Nat} {a b : xm_S} (hs : l.all (fun x => l'.elem x) = true) (h : xf_r l a b) : xf_r l' a b := fun c hc => h c (by
  cases hb : xf_in l c with
  | false => rfl
  | true =>
    unfold xf_in at hb hc
    have h1 := List.all_eq_true.mp hs _ (List.elem_iff.mp hb)
    rw [h1] at hc
    cases hc)
theorem xf_ne {l : List Nat} {k c : Nat} (hk : xf_in l k = true) (hc : xf_in l c = false) : c ≠ k := fun e => by rw [e, hk] at hc; cases hc
theorem xf_i {l : List Nat} {m : xm_S} {k j : Nat} {x : Int32} (hk : xf_in l k = true) : xf_r l m (xw_i m k j x) := fun c hc => ⟨xm_xu_k c (xf_ne hk hc), rfl⟩
theorem xf_l {l : List Nat} {m : xm_S} {k j : Nat} {x : Int64} (hk : xf_in l k = true) : xf_r l m (xw_l m k j x) := fun c hc => ⟨rfl, xm_xu_k c (xf_ne hk hc)⟩
theorem xf_c {l : List Nat} {m : xm_S} {kd ks sp dp n : Nat} (hk : xf_in l kd = true) : xf_r l m (xw_c m kd ks sp dp n) := fun c hc => ⟨rfl, xm_xc_k c (xf_ne hk hc)⟩
theorem xf_58 {l : List Nat} {n : Nat} (h : l.elem 58 = true) : xf_in l (58 + n) = true := by
  unfold xf_in
  rw [Nat.ble_eq_true_of_le (Nat.le_add_right 58 n)]
  exact h
theorem xf_k {l : List Nat} (n : Nat) (h : l.elem 13 = true) (h2 : l.elem 58 = true) : xf_in l (xk_c n) = true := by
  cases n with
  | zero => exact h
  | succ n => exact xf_58 h2
theorem xf_g {l : List Nat} {m : xm_S} {n : Nat} (h : l.elem 58 = true) : xf_r l m (xw_g m n) := fun c hc => by
  have hn : c ≠ 58 + n := xf_ne (xf_58 h) hc
  refine ⟨?_, ?_⟩
  · show xz_2 m.1 (58 + n) 0 c = m.1 c
    funext b; simp [xz_2, hn]
  · show xc_y (xz_2 m.2 (58 + n) 0) (58 + n) _ c = m.2 c
    funext b; simp [xc_y, xz_2, hn]
theorem xf_w {l : List Nat} {w : Nat} (hw : xw_ok w) (h : (l.elem 14 && (l.elem 16 && l.elem 18)) = true) : xf_in l w = true := by
  simp only [Bool.and_eq_true] at h
  rcases hw with rfl | rfl | rfl
  · exact h.1
  · exact h.2.1
  · exact h.2.2
theorem xf_wr {l : List Nat} {w : Nat} (hw : xw_ok w) (h : (l.elem 15 && (l.elem 17 && l.elem 19)) = true) : xf_in l (w + 1) = true := by
  simp only [Bool.and_eq_true] at h
  rcases hw with rfl | rfl | rfl
  · exact h.1
  · exact h.2.1
  · exact h.2.2
theorem ja_fill_l5_fr {k N : Nat} {x : Int32} {m' : xm_S} {l : List Nat} {m0 : xm_S} (hk : xf_in l k = true) : ∀ (fu : Nat) (i : Int32) (m : xm_S), xf_r l m0 m → ja_fill_l5 k N x fu i m = some m' → xf_r l m0 m' := by
  intro fu
  induction fu with
  | zero => intro i m g h; cases h
  | succ fu ih =>
    intro i m g h
    rw [ja_fill_l5] at h
    by_cases c : nI N ≤ i
    · replace h := (if_pos c).symm.trans h
      obtain rfl := Option.some.inj h
      exact g
    · replace h := (if_neg c).symm.trans h
      obtain ⟨-, h⟩ := xg_e h
      obtain ⟨m2, e2, h⟩ := xs_e h
      exact ih _ _ (xf_t g (by rw [e2]; exact xf_i hk)) h
theorem ja_fill_fr {F k N : Nat} {x : Int32} {m m' : xm_S} (h : ja_fill F k N x m = some m') : xf_r [bif Nat.ble 58 k then 58 else k] m m' := ja_fill_l5_fr (by unfold xf_in; simp [List.elem]) F _ m xf_0 h
def fl_bk_build : List Nat := [1, 2, 3, 4, 5]
theorem bk_build_l3_fr {F : Nat} {a29 : Int32} {a30 : Int32} {a31 : Int32} {k : xm_S → Option (Int32 × xm_S)} {r : Int32} {m0 m' : xm_S} 
    (hk : ∀ (m : xm_S), xf_r fl_bk_build m0 m → k m = some (r, m') → xf_r fl_bk_build m0 m') : ∀ (fu : Nat) (a32 : Int32) (m28 : xm_S), xf_r fl_bk_build m0 m28 → bk_build_l3 F a29 a30 a31 k fu a32 m28 = some (r, m') → xf_r fl_bk_build m0 m' := by
  intro fu
  induction fu with
  | zero => intro a32 m28 gg h; cases h
  | succ fu ih =>
    intro a32 m28 gg h
    rw [bk_build_l3] at h
    by_cases c33 : (m28.1 1 5) ≤ a32
    · replace h := (if_pos c33).symm.trans h
      exact hk m28 gg h
    · replace h := (if_neg c33).symm.trans h
      obtain ⟨-, h⟩ := xg_e h
      by_cases c35 : (m28.1 2 a32.toNatClampNeg) = a29
      · replace h := (if_pos c35).symm.trans h
        obtain ⟨-, h⟩ := xg_e h
        by_cases c37 : (m28.1 3 a32.toNatClampNeg) = a30
        · replace h := (if_pos c37).symm.trans h
          obtain ⟨-, h⟩ := xg_e h
          by_cases c39 : (m28.1 4 a32.toNatClampNeg) = a31
          · replace h := (if_pos c39).symm.trans h
            obtain ⟨rfl, rfl⟩ := Prod.mk.inj (Option.some.inj h)
            exact gg
          · replace h := (if_neg c39).symm.trans h
            exact ih (a32 + (1 : Int32)) m28 gg h
        · replace h := (if_neg c37).symm.trans h
          exact ih (a32 + (1 : Int32)) m28 gg h
      · replace h := (if_neg c35).symm.trans h
        exact ih (a32 + (1 : Int32)) m28 gg h
theorem bk_build_fr {F : Nat} {a1 : Int32} {a2 : Int32} {a3 : Int32} {r : Int32} {m0 m' : xm_S} (h : bk_build F a1 a2 a3 m0 = some (r, m')) : xf_r fl_bk_build m0 m' := by
  unfold bk_build at h
  have gg : xf_r fl_bk_build m0 m0 := xf_0
  refine bk_build_l3_fr (fun m40 g2454 h => ?_) F (0 : Int32) m0 gg h
  by_cases c41 : (m40.1 1 5) < (28 : Int32)
  · replace h := (if_pos c41).symm.trans h
    obtain ⟨-, h⟩ := xg_e h
    obtain ⟨m43, e44, h⟩ := xs_e h
    have g2455 : xf_r fl_bk_build m0 m43 := xf_t g2454 (by rw [e44]; exact xf_i rfl)
    clear e44
    obtain ⟨-, h⟩ := xg_e h
    obtain ⟨m46, e47, h⟩ := xs_e h
    have g2456 : xf_r fl_bk_build m0 m46 := xf_t g2455 (by rw [e47]; exact xf_i rfl)
    clear e47
    obtain ⟨-, h⟩ := xg_e h
    obtain ⟨m49, e50, h⟩ := xs_e h
    have g2457 : xf_r fl_bk_build m0 m49 := xf_t g2456 (by rw [e50]; exact xf_i rfl)
    clear e50
    obtain ⟨-, h⟩ := xg_e h
    obtain ⟨m52, e53, h⟩ := xs_e h
    have g2458 : xf_r fl_bk_build m0 m52 := xf_t g2457 (by rw [e53]; exact xf_i rfl)
    clear e53
    obtain ⟨j64, e65, h⟩ := xj_e h
    have q66 : ∀ (m63 : xm_S), xf_r fl_bk_build m0 m63 → j64 m63 = some (r, m') → xf_r fl_bk_build m0 m' := by
      intro m63 g2459 h
      rw [e65] at h
      obtain ⟨j75, e76, h⟩ := xj_e h
      have q77 : ∀ (m74 : xm_S), xf_r fl_bk_build m0 m74 → j75 m74 = some (r, m') → xf_r fl_bk_build m0 m' := by
        intro m74 g2460 h
        rw [e76] at h
        obtain ⟨m78, e79, h⟩ := xs_e h
        have g2461 : xf_r fl_bk_build m0 m78 := xf_t g2460 (by rw [e79]; exact xf_i rfl)
        clear e79
        obtain ⟨rfl, rfl⟩ := Prod.mk.inj (Option.some.inj h)
        exact g2461
      clear e76
      by_cases c80 : (bk_hasTwoParts a1) = 0
      · replace h := (if_pos c80).symm.trans h
        exact q77 m63 g2459 h
      · replace h := (if_neg c80).symm.trans h
        obtain ⟨-, h⟩ := xg_e h
        obtain ⟨-, h⟩ := xg_e h
        obtain ⟨-, h⟩ := xg_e h
        obtain ⟨m84, e85, h⟩ := xs_e h
        have g2462 : xf_r fl_bk_build m0 m84 := xf_t g2459 (by rw [e85]; exact xf_i rfl)
        clear e85
        exact q77 m84 g2462 h
    clear e65
    by_cases c86 : (bk_hasParts a1) = 0
    · replace h := (if_pos c86).symm.trans h
      exact q66 m52 g2458 h
    · replace h := (if_neg c86).symm.trans h
      obtain ⟨-, h⟩ := xg_e h
      obtain ⟨-, h⟩ := xg_e h
      obtain ⟨-, h⟩ := xg_e h
      obtain ⟨m90, e91, h⟩ := xs_e h
      have g2463 : xf_r fl_bk_build m0 m90 := xf_t g2458 (by rw [e91]; exact xf_i rfl)
      clear e91
      exact q66 m90 g2463 h
  · replace h := (if_neg c41).symm.trans h
    obtain ⟨rfl, rfl⟩ := Prod.mk.inj (Option.some.inj h)
    exact g2454
def fl_mk_formula : List Nat := [1, 2, 3, 4, 5]
theorem mk_formula_fr {F : Nat} {a1 : Int32} {a2 : Int32} {a3 : Int32} {r : Int32} {m0 m' : xm_S} (h : mk_formula F a1 a2 a3 m0 = some (r, m')) : xf_r fl_mk_formula m0 m' := by
  unfold mk_formula at h
  have gg : xf_r fl_mk_formula m0 m0 := xf_0
  by_cases c96 : (bk_canBuild a1 a2 a3 m0) = 0
  · replace h := (if_pos c96).symm.trans h
    obtain ⟨rfl, rfl⟩ := Prod.mk.inj (Option.some.inj h)
    exact gg
  · replace h := (if_neg c96).symm.trans h
    obtain ⟨v99, m100, e101, h⟩ := xc_m_e h
    have g2464 : xf_r fl_mk_formula m0 m100 := xf_t gg (xf_s rfl (bk_build_fr e101))
    obtain ⟨rfl, rfl⟩ := Prod.mk.inj (Option.some.inj h)
    exact g2464
def fl_bk_buildDual : List Nat := [1, 2, 3, 4, 5, 6]
theorem bk_buildDual_fr {xt : Nat → Nat × (Nat → Int32)} {F : Nat} (fu : Nat) : ∀ {a1 : Int32} {a2 : Int32} {m0 m' : xm_S} {r : Int32}, bk_buildDual F xt fu a1 a2 m0 = some (r, m') → xf_r fl_bk_buildDual m0 m' := by
  induction fu with
  | zero => intro a1 a2 m0 m' r h; cases h
  | succ fu ih =>
    intro a1 a2 m0 m' r h
    rw [bk_buildDual] at h
    have gg : xf_r fl_bk_buildDual m0 m0 := xf_0
    by_cases c106 : a2 < (28 : Int32)
    · replace h := (if_pos c106).symm.trans h
      obtain ⟨-, h⟩ := xg_e h
      by_cases c108 : (m0.1 6 a1.toNatClampNeg) = (-1 : Int32)
      · replace h := (if_pos c108).symm.trans h
        obtain ⟨-, h⟩ := xg_e h
        obtain ⟨-, h⟩ := xg_e h
        obtain ⟨-, h⟩ := xg_e h
        obtain ⟨j120, e121, h⟩ := xj_e h
        have q122 : ∀ (x118 : Int32) (m119 : xm_S), xf_r fl_bk_buildDual m0 m119 → j120 x118 m119 = some (r, m') → xf_r fl_bk_buildDual m0 m' := by
          intro x118 m119 g2465 h
          rw [e121] at h
          obtain ⟨j133, e134, h⟩ := xj_e h
          have q135 : ∀ (x131 : Int32) (m132 : xm_S), xf_r fl_bk_buildDual m0 m132 → j133 x131 m132 = some (r, m') → xf_r fl_bk_buildDual m0 m' := by
            intro x131 m132 g2466 h
            rw [e134] at h
            by_cases c136 : x118 = (-2 : Int32)
            · replace h := (if_pos c136).symm.trans h
              obtain ⟨rfl, rfl⟩ := Prod.mk.inj (Option.some.inj h)
              exact g2466
            · replace h := (if_neg c136).symm.trans h
              by_cases c137 : x131 = (-2 : Int32)
              · replace h := (if_pos c137).symm.trans h
                obtain ⟨rfl, rfl⟩ := Prod.mk.inj (Option.some.inj h)
                exact g2466
              · replace h := (if_neg c137).symm.trans h
                obtain ⟨-, h⟩ := xg_e h
                obtain ⟨v139, m140, e141, h⟩ := xc_m_e h
                have g2467 : xf_r fl_bk_buildDual m0 m140 := xf_t g2466 (xf_s rfl (bk_build_fr e141))
                by_cases c143 : v139 = (-2 : Int32)
                · replace h := (if_pos c143).symm.trans h
                  obtain ⟨rfl, rfl⟩ := Prod.mk.inj (Option.some.inj h)
                  exact g2467
                · replace h := (if_neg c143).symm.trans h
                  obtain ⟨-, h⟩ := xg_e h
                  obtain ⟨m145, e146, h⟩ := xs_e h
                  have g2468 : xf_r fl_bk_buildDual m0 m145 := xf_t g2467 (by rw [e146]; exact xf_i rfl)
                  clear e146
                  obtain ⟨rfl, rfl⟩ := Prod.mk.inj (Option.some.inj h)
                  exact g2468
          clear e134
          by_cases c147 : (bk_hasTwoParts (m0.1 2 a1.toNatClampNeg)) = 0
          · replace h := (if_pos c147).symm.trans h
            exact q135 (m0.1 4 a1.toNatClampNeg) m119 g2465 h
          · replace h := (if_neg c147).symm.trans h
            by_cases c148 : x118 = (-2 : Int32)
            · replace h := (if_pos c148).symm.trans h
              exact q135 (m0.1 4 a1.toNatClampNeg) m119 g2465 h
            · replace h := (if_neg c148).symm.trans h
              obtain ⟨v149, m150, e151, h⟩ := xc_m_e h
              have g2469 : xf_r fl_bk_buildDual m0 m150 := xf_t g2465 (ih e151)
              exact q135 v149 m150 g2469 h
        clear e121
        by_cases c153 : (bk_hasParts (m0.1 2 a1.toNatClampNeg)) = 0
        · replace h := (if_pos c153).symm.trans h
          exact q122 (m0.1 3 a1.toNatClampNeg) m0 gg h
        · replace h := (if_neg c153).symm.trans h
          obtain ⟨v154, m155, e156, h⟩ := xc_m_e h
          have g2470 : xf_r fl_bk_buildDual m0 m155 := xf_t gg (ih e156)
          exact q122 v154 m155 g2470 h
      · replace h := (if_neg c108).symm.trans h
        obtain ⟨-, h⟩ := xg_e h
        obtain ⟨rfl, rfl⟩ := Prod.mk.inj (Option.some.inj h)
        exact gg
    · replace h := (if_neg c106).symm.trans h
      obtain ⟨rfl, rfl⟩ := Prod.mk.inj (Option.some.inj h)
      exact gg
def fl_mk_dual : List Nat := [1, 2, 3, 4, 5, 6]
theorem mk_dual_fr {xt : Nat → Nat × (Nat → Int32)} {F : Nat} {a1 : Int32} {r : Int32} {m0 m' : xm_S} (h : mk_dual F xt a1 m0 = some (r, m')) : xf_r fl_mk_dual m0 m' := by
  unfold mk_dual at h
  have gg : xf_r fl_mk_dual m0 m0 := xf_0
  by_cases c159 : (bk_knows a1 m0) = 0
  · replace h := (if_pos c159).symm.trans h
    obtain ⟨rfl, rfl⟩ := Prod.mk.inj (Option.some.inj h)
    exact gg
  · replace h := (if_neg c159).symm.trans h
    obtain ⟨v160, m161, e162, h⟩ := xc_m_e h
    have g2471 : xf_r fl_mk_dual m0 m161 := xf_t gg (xf_s rfl (bk_buildDual_fr 29 e162))
    obtain ⟨rfl, rfl⟩ := Prod.mk.inj (Option.some.inj h)
    exact g2471
def fl_wd_write : List Nat := [7, 8]
theorem wd_write_l3_fr {F : Nat} {a170 : Int64} {a171 : Int32} {a172 : Int64} {a173 : Int32} {k : xm_S → Option (xm_S)} {m0 m' : xm_S} 
    (hk : ∀ (m : xm_S), xf_r fl_wd_write m0 m → k m = some m' → xf_r fl_wd_write m0 m') : ∀ (fu : Nat) (a174 : Int32) (m169 : xm_S), xf_r fl_wd_write m0 m169 → wd_write_l3 F a170 a171 a172 a173 k fu a174 m169 = some m' → xf_r fl_wd_write m0 m' := by
  intro fu
  induction fu with
  | zero => intro a174 m169 gg h; cases h
  | succ fu ih =>
    intro a174 m169 gg h
    rw [wd_write_l3] at h
    by_cases c175 : a171 ≤ a174
    · replace h := (if_pos c175).symm.trans h
      exact hk m169 gg h
    · replace h := (if_neg c175).symm.trans h
      obtain ⟨-, h⟩ := xg_e h
      obtain ⟨m177, e178, h⟩ := xs_e h
      have g2472 : xf_r fl_wd_write m0 m177 := xf_t gg (by rw [e178]; exact xf_i rfl)
      clear e178
      exact ih (a174 + (1 : Int32)) m177 g2472 h
theorem wd_write_l35_fr {F : Nat} {a181 : Int32} {a182 : Int64} {a183 : Int32} {k : xm_S → Option (xm_S)} {m0 m' : xm_S} 
    (hk : ∀ (m : xm_S), xf_r fl_wd_write m0 m → k m = some m' → xf_r fl_wd_write m0 m') : ∀ (fu : Nat) (a184 : Int32) (m180 : xm_S), xf_r fl_wd_write m0 m180 → wd_write_l35 F a181 a182 a183 k fu a184 m180 = some m' → xf_r fl_wd_write m0 m' := by
  intro fu
  induction fu with
  | zero => intro a184 m180 gg h; cases h
  | succ fu ih =>
    intro a184 m180 gg h
    rw [wd_write_l35] at h
    by_cases c185 : a183 ≤ a184
    · replace h := (if_pos c185).symm.trans h
      exact hk m180 gg h
    · replace h := (if_neg c185).symm.trans h
      obtain ⟨-, h⟩ := xg_e h
      obtain ⟨m187, e188, h⟩ := xs_e h
      have g2473 : xf_r fl_wd_write m0 m187 := xf_t gg (by rw [e188]; exact xf_i rfl)
      clear e188
      exact ih (a184 + (1 : Int32)) m187 g2473 h
theorem wd_write_fr {F : Nat} {a1 : Int64} {a2 : Int32} {a3 : Int64} {a4 : Int32} {m0 m' : xm_S} (h : wd_write F a1 a2 a3 a4 m0 = some m') : xf_r fl_wd_write m0 m' := by
  unfold wd_write at h
  have gg : xf_r fl_wd_write m0 m0 := xf_0
  refine wd_write_l3_fr (fun m179 g2474 h => ?_) F (0 : Int32) m0 gg h
  refine wd_write_l35_fr (fun m189 g2475 h => ?_) F (0 : Int32) m179 g2474 h
  obtain ⟨m190, e191, h⟩ := xs_e h
  have g2476 : xf_r fl_wd_write m0 m190 := xf_t g2475 (by rw [e191]; exact xf_i rfl)
  clear e191
  obtain ⟨m192, e193, h⟩ := xs_e h
  have g2477 : xf_r fl_wd_write m0 m192 := xf_t g2476 (by rw [e193]; exact xf_i rfl)
  clear e193
  obtain rfl := Option.some.inj h
  exact g2477
def fl_bk_isPart : List Nat := []
theorem bk_isPart_fr {F : Nat} {a1 : Int32} {a2 : Int32} {r : Int32} {m0 m' : xm_S} (h : bk_isPart F a1 a2 m0 = some (r, m')) : xf_r fl_bk_isPart m0 m' := by
  unfold bk_isPart at h
  have gg : xf_r fl_bk_isPart m0 m0 := xf_0
  obtain ⟨-, h⟩ := xg_e h
  by_cases c208 : (((m0.1 5 a2.toNatClampNeg) >>> (a1 &&& 31)) &&& (1 : Int32)) = 0
  · replace h := (if_pos c208).symm.trans h
    obtain ⟨rfl, rfl⟩ := Prod.mk.inj (Option.some.inj h)
    exact gg
  · replace h := (if_neg c208).symm.trans h
    obtain ⟨rfl, rfl⟩ := Prod.mk.inj (Option.some.inj h)
    exact gg
def fl_wd_placesWithBit : List Nat := []
theorem wd_placesWithBit_l4_fr {F : Nat} {a220 : Int32} {k : Int32 → xm_S → Option (Int32 × xm_S)} {r : Int32} {m0 m' : xm_S} 
    (hk : ∀ (z2 : Int32) (m : xm_S), xf_r fl_wd_placesWithBit m0 m → k z2 m = some (r, m') → xf_r fl_wd_placesWithBit m0 m') : ∀ (fu : Nat) (a221 : Int32) (a222 : Int32) (m219 : xm_S), xf_r fl_wd_placesWithBit m0 m219 → wd_placesWithBit_l4 F a220 k fu a221 a222 m219 = some (r, m') → xf_r fl_wd_placesWithBit m0 m' := by
  intro fu
  induction fu with
  | zero => intro a221 a222 m219 gg h; cases h
  | succ fu ih =>
    intro a221 a222 m219 gg h
    rw [wd_placesWithBit_l4] at h
    by_cases c223 : (m219.1 7 3) ≤ a222
    · replace h := (if_pos c223).symm.trans h
      exact hk a221 m219 gg h
    · replace h := (if_neg c223).symm.trans h
      obtain ⟨-, h⟩ := xg_e h
      exact ih (a221 ||| ((((m219.1 8 a222.toNatClampNeg) >>> (a220 &&& 31)) &&& (1 : Int32)) <<< (a222 &&& 31))) (a222 + (1 : Int32)) m219 gg h
theorem wd_placesWithBit_fr {F : Nat} {a1 : Int32} {r : Int32} {m0 m' : xm_S} (h : wd_placesWithBit F a1 m0 = some (r, m')) : xf_r fl_wd_placesWithBit m0 m' := by
  unfold wd_placesWithBit at h
  have gg : xf_r fl_wd_placesWithBit m0 m0 := xf_0
  refine wd_placesWithBit_l4_fr (fun x225 m226 g2478 h => ?_) F (0 : Int32) (0 : Int32) m0 gg h
  obtain ⟨rfl, rfl⟩ := Prod.mk.inj (Option.some.inj h)
  exact g2478
def fl_wd_placesOfUntil : List Nat := []
theorem wd_placesOfUntil_l5_fr {F : Nat} {a248 : Int32} {a249 : Int32} {k : Int32 → xm_S → Option (Int32 × xm_S)} {r : Int32} {m0 m' : xm_S} 
    (hk : ∀ (z3 : Int32) (m : xm_S), xf_r fl_wd_placesOfUntil m0 m → k z3 m = some (r, m') → xf_r fl_wd_placesOfUntil m0 m') : ∀ (fu : Nat) (a250 : Int32) (a251 : Int32) (m247 : xm_S), xf_r fl_wd_placesOfUntil m0 m247 → wd_placesOfUntil_l5 F a248 a249 k fu a250 a251 m247 = some (r, m') → xf_r fl_wd_placesOfUntil m0 m' := by
  intro fu
  induction fu with
  | zero => intro a250 a251 m247 gg h; cases h
  | succ fu ih =>
    intro a250 a251 m247 gg h
    rw [wd_placesOfUntil_l5] at h
    by_cases c252 : (m247.1 7 3) ≤ a251
    · replace h := (if_pos c252).symm.trans h
      exact hk a250 m247 gg h
    · replace h := (if_neg c252).symm.trans h
      exact ih (a249 ||| (a248 &&& (wd_placesAhead a250 m247))) (a251 + (1 : Int32)) m247 gg h
theorem wd_placesOfUntil_fr {F : Nat} {a1 : Int32} {a2 : Int32} {r : Int32} {m0 m' : xm_S} (h : wd_placesOfUntil F a1 a2 m0 = some (r, m')) : xf_r fl_wd_placesOfUntil m0 m' := by
  unfold wd_placesOfUntil at h
  have gg : xf_r fl_wd_placesOfUntil m0 m0 := xf_0
  refine wd_placesOfUntil_l5_fr (fun x253 m254 g2479 h => ?_) F a2 (0 : Int32) m0 gg h
  obtain ⟨rfl, rfl⟩ := Prod.mk.inj (Option.some.inj h)
  exact g2479
def fl_wd_placesOfRelease : List Nat := []
theorem wd_placesOfRelease_l5_fr {F : Nat} {a263 : Int32} {a264 : Int32} {k : Int32 → xm_S → Option (Int32 × xm_S)} {r : Int32} {m0 m' : xm_S} 
    (hk : ∀ (z3 : Int32) (m : xm_S), xf_r fl_wd_placesOfRelease m0 m → k z3 m = some (r, m') → xf_r fl_wd_placesOfRelease m0 m') : ∀ (fu : Nat) (a265 : Int32) (a266 : Int32) (m262 : xm_S), xf_r fl_wd_placesOfRelease m0 m262 → wd_placesOfRelease_l5 F a263 a264 k fu a265 a266 m262 = some (r, m') → xf_r fl_wd_placesOfRelease m0 m' := by
  intro fu
  induction fu with
  | zero => intro a265 a266 m262 gg h; cases h
  | succ fu ih =>
    intro a265 a266 m262 gg h
    rw [wd_placesOfRelease_l5] at h
    by_cases c267 : (m262.1 7 3) ≤ a266
    · replace h := (if_pos c267).symm.trans h
      exact hk a265 m262 gg h
    · replace h := (if_neg c267).symm.trans h
      exact ih (a264 &&& (a263 ||| (wd_placesAhead a265 m262))) (a266 + (1 : Int32)) m262 gg h
theorem wd_placesOfRelease_fr {F : Nat} {a1 : Int32} {a2 : Int32} {r : Int32} {m0 m' : xm_S} (h : wd_placesOfRelease F a1 a2 m0 = some (r, m')) : xf_r fl_wd_placesOfRelease m0 m' := by
  unfold wd_placesOfRelease at h
  have gg : xf_r fl_wd_placesOfRelease m0 m0 := xf_0
  refine wd_placesOfRelease_l5_fr (fun x268 m269 g2480 h => ?_) F a2 (0 : Int32) m0 gg h
  obtain ⟨rfl, rfl⟩ := Prod.mk.inj (Option.some.inj h)
  exact g2480
def fl_wd_placesOf : List Nat := []
theorem wd_placesOf_fr {F : Nat} {a1 : Int32} {r : Int32} {m0 m' : xm_S} (h : wd_placesOf F a1 m0 = some (r, m')) : xf_r fl_wd_placesOf m0 m' := by
  unfold wd_placesOf at h
  have gg : xf_r fl_wd_placesOf m0 m0 := xf_0
  obtain ⟨-, h⟩ := xg_e h
  obtain ⟨-, h⟩ := xg_e h
  obtain ⟨-, h⟩ := xg_e h
  by_cases c217 : (m0.1 2 a1.toNatClampNeg) = (0 : Int32)
  · replace h := (if_pos c217).symm.trans h
    obtain ⟨rfl, rfl⟩ := Prod.mk.inj (Option.some.inj h)
    exact gg
  replace h := (if_neg c217).symm.trans h
  by_cases c218 : (m0.1 2 a1.toNatClampNeg) = (2 : Int32)
  · replace h := (if_pos c218).symm.trans h
    obtain ⟨v227, m228, e229, h⟩ := xc_m_e h
    have g2481 : xf_r fl_wd_placesOf m0 m228 := xf_t gg (xf_s rfl (wd_placesWithBit_fr e229))
    obtain ⟨rfl, rfl⟩ := Prod.mk.inj (Option.some.inj h)
    exact g2481
  replace h := (if_neg c218).symm.trans h
  by_cases c231 : (m0.1 2 a1.toNatClampNeg) = (3 : Int32)
  · replace h := (if_pos c231).symm.trans h
    obtain ⟨v232, m233, e234, h⟩ := xc_m_e h
    have g2482 : xf_r fl_wd_placesOf m0 m233 := xf_t gg (xf_s rfl (wd_placesWithBit_fr e234))
    obtain ⟨rfl, rfl⟩ := Prod.mk.inj (Option.some.inj h)
    exact g2482
  replace h := (if_neg c231).symm.trans h
  by_cases c236 : (m0.1 2 a1.toNatClampNeg) = (4 : Int32)
  · replace h := (if_pos c236).symm.trans h
    obtain ⟨-, h⟩ := xg_e h
    obtain ⟨-, h⟩ := xg_e h
    obtain ⟨rfl, rfl⟩ := Prod.mk.inj (Option.some.inj h)
    exact gg
  replace h := (if_neg c236).symm.trans h
  by_cases c239 : (m0.1 2 a1.toNatClampNeg) = (5 : Int32)
  · replace h := (if_pos c239).symm.trans h
    obtain ⟨-, h⟩ := xg_e h
    obtain ⟨-, h⟩ := xg_e h
    obtain ⟨rfl, rfl⟩ := Prod.mk.inj (Option.some.inj h)
    exact gg
  replace h := (if_neg c239).symm.trans h
  by_cases c242 : (m0.1 2 a1.toNatClampNeg) = (6 : Int32)
  · replace h := (if_pos c242).symm.trans h
    obtain ⟨-, h⟩ := xg_e h
    obtain ⟨rfl, rfl⟩ := Prod.mk.inj (Option.some.inj h)
    exact gg
  replace h := (if_neg c242).symm.trans h
  by_cases c244 : (m0.1 2 a1.toNatClampNeg) = (7 : Int32)
  · replace h := (if_pos c244).symm.trans h
    obtain ⟨-, h⟩ := xg_e h
    obtain ⟨-, h⟩ := xg_e h
    obtain ⟨v255, m256, e257, h⟩ := xc_m_e h
    have g2483 : xf_r fl_wd_placesOf m0 m256 := xf_t gg (xf_s rfl (wd_placesOfUntil_fr e257))
    obtain ⟨rfl, rfl⟩ := Prod.mk.inj (Option.some.inj h)
    exact g2483
  replace h := (if_neg c244).symm.trans h
  by_cases c259 : (m0.1 2 a1.toNatClampNeg) = (8 : Int32)
  · replace h := (if_pos c259).symm.trans h
    obtain ⟨-, h⟩ := xg_e h
    obtain ⟨-, h⟩ := xg_e h
    obtain ⟨v270, m271, e272, h⟩ := xc_m_e h
    have g2484 : xf_r fl_wd_placesOf m0 m271 := xf_t gg (xf_s rfl (wd_placesOfRelease_fr e272))
    obtain ⟨rfl, rfl⟩ := Prod.mk.inj (Option.some.inj h)
    exact g2484
  replace h := (if_neg c259).symm.trans h
  have c217z : (m0.1 2 a1.toNatClampNeg).toInt ≠ 0 := fun q => c217 (Int32.toInt_inj.mp (q.trans (by decide)))
  have c218z : (m0.1 2 a1.toNatClampNeg).toInt ≠ 2 := fun q => c218 (Int32.toInt_inj.mp (q.trans (by decide)))
  have c231z : (m0.1 2 a1.toNatClampNeg).toInt ≠ 3 := fun q => c231 (Int32.toInt_inj.mp (q.trans (by decide)))
  have c236z : (m0.1 2 a1.toNatClampNeg).toInt ≠ 4 := fun q => c236 (Int32.toInt_inj.mp (q.trans (by decide)))
  have c239z : (m0.1 2 a1.toNatClampNeg).toInt ≠ 5 := fun q => c239 (Int32.toInt_inj.mp (q.trans (by decide)))
  have c242z : (m0.1 2 a1.toNatClampNeg).toInt ≠ 6 := fun q => c242 (Int32.toInt_inj.mp (q.trans (by decide)))
  have c244z : (m0.1 2 a1.toNatClampNeg).toInt ≠ 7 := fun q => c244 (Int32.toInt_inj.mp (q.trans (by decide)))
  have c259z : (m0.1 2 a1.toNatClampNeg).toInt ≠ 8 := fun q => c259 (Int32.toInt_inj.mp (q.trans (by decide)))
  by_cases c274 : (m0.1 2 a1.toNatClampNeg) = (1 : Int32)
  · obtain ⟨rfl, rfl⟩ := Prod.mk.inj (Option.some.inj h)
    exact gg
  have c274z : (m0.1 2 a1.toNatClampNeg).toInt ≠ 1 := fun q => c274 (Int32.toInt_inj.mp (q.trans (by decide)))
  obtain ⟨rfl, rfl⟩ := Prod.mk.inj (Option.some.inj h)
  exact gg
def fl_wd_beginsWith : List Nat := [9]
theorem wd_beginsWith_l2_fr {F : Nat} {a204 : Int32} {k : xm_S → Option (Int32 × xm_S)} {r : Int32} {m0 m' : xm_S} 
    (hk : ∀ (m : xm_S), xf_r fl_wd_beginsWith m0 m → k m = some (r, m') → xf_r fl_wd_beginsWith m0 m') : ∀ (fu : Nat) (a205 : Int32) (m203 : xm_S), xf_r fl_wd_beginsWith m0 m203 → wd_beginsWith_l2 F a204 k fu a205 m203 = some (r, m') → xf_r fl_wd_beginsWith m0 m' := by
  intro fu
  induction fu with
  | zero => intro a205 m203 gg h; cases h
  | succ fu ih =>
    intro a205 m203 gg h
    rw [wd_beginsWith_l2] at h
    by_cases c206 : a204 < a205
    · replace h := (if_pos c206).symm.trans h
      exact hk m203 gg h
    · replace h := (if_neg c206).symm.trans h
      obtain ⟨v209, m210, e211, h⟩ := xc_m_e h
      have g2485 : xf_r fl_wd_beginsWith m0 m210 := xf_t gg (xf_s rfl (bk_isPart_fr e211))
      by_cases c213 : v209 = 0
      · replace h := (if_pos c213).symm.trans h
        exact ih (a205 + (1 : Int32)) m210 g2485 h
      · replace h := (if_neg c213).symm.trans h
        obtain ⟨v275, m276, e277, h⟩ := xc_m_e h
        have g2486 : xf_r fl_wd_beginsWith m0 m276 := xf_t g2485 (xf_s rfl (wd_placesOf_fr e277))
        obtain ⟨-, h⟩ := xg_e h
        obtain ⟨m280, e281, h⟩ := xs_e h
        have g2487 : xf_r fl_wd_beginsWith m0 m280 := xf_t g2486 (by rw [e281]; exact xf_i rfl)
        clear e281
        exact ih (a205 + (1 : Int32)) m280 g2487 h
theorem wd_beginsWith_fr {F : Nat} {a1 : Int32} {r : Int32} {m0 m' : xm_S} (h : wd_beginsWith F a1 m0 = some (r, m')) : xf_r fl_wd_beginsWith m0 m' := by
  unfold wd_beginsWith at h
  have gg : xf_r fl_wd_beginsWith m0 m0 := xf_0
  refine wd_beginsWith_l2_fr (fun m282 g2488 h => ?_) F (0 : Int32) m0 gg h
  obtain ⟨-, h⟩ := xg_e h
  by_cases c284 : ((m282.1 9 a1.toNatClampNeg) &&& (1 : Int32)) = 0
  · replace h := (if_pos c284).symm.trans h
    obtain ⟨rfl, rfl⟩ := Prod.mk.inj (Option.some.inj h)
    exact g2488
  · replace h := (if_neg c284).symm.trans h
    obtain ⟨rfl, rfl⟩ := Prod.mk.inj (Option.some.inj h)
    exact g2488
def fl_mk_has : List Nat := [7, 8, 9]
theorem mk_has_fr {F : Nat} {a1 : Int32} {a2 : Int64} {a3 : Int32} {a4 : Int64} {a5 : Int32} {r : Int32} {m0 m' : xm_S} (h : mk_has F a1 a2 a3 a4 a5 m0 = some (r, m')) : xf_r fl_mk_has m0 m' := by
  unfold mk_has at h
  have gg : xf_r fl_mk_has m0 m0 := xf_0
  by_cases c194 : (bk_knows a1 m0) = 0
  · replace h := (if_pos c194).symm.trans h
    obtain ⟨rfl, rfl⟩ := Prod.mk.inj (Option.some.inj h)
    exact gg
  · replace h := (if_neg c194).symm.trans h
    by_cases c195 : a3 < 0
    · replace h := (if_pos c195).symm.trans h
      obtain ⟨rfl, rfl⟩ := Prod.mk.inj (Option.some.inj h)
      exact gg
    · replace h := (if_neg c195).symm.trans h
      by_cases c196 : (8 : Int32) < a3
      · replace h := (if_pos c196).symm.trans h
        obtain ⟨rfl, rfl⟩ := Prod.mk.inj (Option.some.inj h)
        exact gg
      · replace h := (if_neg c196).symm.trans h
        by_cases c197 : a5 < (1 : Int32)
        · replace h := (if_pos c197).symm.trans h
          obtain ⟨rfl, rfl⟩ := Prod.mk.inj (Option.some.inj h)
          exact gg
        · replace h := (if_neg c197).symm.trans h
          by_cases c198 : a5 ≤ (8 : Int32)
          · replace h := (if_pos c198).symm.trans h
            obtain ⟨m200, e201, h⟩ := xc_v_e h
            have g2489 : xf_r fl_mk_has m0 m200 := xf_t gg (xf_s rfl (wd_write_fr e201))
            obtain ⟨v285, m286, e287, h⟩ := xc_m_e h
            have g2490 : xf_r fl_mk_has m0 m286 := xf_t g2489 (xf_s rfl (wd_beginsWith_fr e287))
            by_cases c289 : v285 = 0
            · replace h := (if_pos c289).symm.trans h
              obtain ⟨rfl, rfl⟩ := Prod.mk.inj (Option.some.inj h)
              exact g2490
            · replace h := (if_neg c289).symm.trans h
              obtain ⟨rfl, rfl⟩ := Prod.mk.inj (Option.some.inj h)
              exact g2490
          · replace h := (if_neg c198).symm.trans h
            obtain ⟨rfl, rfl⟩ := Prod.mk.inj (Option.some.inj h)
            exact gg
def fl_wy_clear : List Nat := [14, 15, 16, 17, 18, 19]
theorem wy_clear_fr {F : Nat} {a0 : Nat} {m0 m' : xm_S} (hw0 : xw_ok a0) (h : wy_clear F a0 m0 = some m') : xf_r fl_wy_clear m0 m' := by
  unfold wy_clear at h
  have gg : xf_r fl_wy_clear m0 m0 := xf_0
  obtain ⟨m309, e310, h⟩ := xs_e h
  have g2491 : xf_r fl_wy_clear m0 m309 := xf_t gg (by rw [e310]; exact xf_i (xf_w hw0 rfl))
  clear e310
  obtain ⟨m311, e312, h⟩ := xs_e h
  have g2492 : xf_r fl_wy_clear m0 m311 := xf_t g2491 (by rw [e312]; exact xf_i (xf_w hw0 rfl))
  clear e312
  obtain rfl := Option.some.inj h
  exact g2492
def fl_wy_add : List Nat := [14, 15, 16, 17, 18, 19]
theorem wy_add_l8_fr {F : Nat} {a319 : Nat} {a321 : Int64} {k : Int32 → xm_S → Option (xm_S)} {m0 m' : xm_S} (w320 : xw_ok a319) 
    (hk : ∀ (z3 : Int32) (m : xm_S), xf_r fl_wy_add m0 m → k z3 m = some m' → xf_r fl_wy_add m0 m') : ∀ (fu : Nat) (a322 : Int32) (a323 : Int32) (m318 : xm_S), xf_r fl_wy_add m0 m318 → wy_add_l8 F a319 a321 k fu a322 a323 m318 = some m' → xf_r fl_wy_add m0 m' := by
  intro fu
  induction fu with
  | zero => intro a322 a323 m318 gg h; cases h
  | succ fu ih =>
    intro a322 a323 m318 gg h
    rw [wy_add_l8] at h
    by_cases c324 : a323 ≤ a322
    · replace h := (if_pos c324).symm.trans h
      exact hk a322 m318 gg h
    · replace h := (if_neg c324).symm.trans h
      obtain ⟨-, h⟩ := xg_e h
      by_cases c326 : 0 ≤ (lg_cmp (m318.2 (a319 + 1) ((a322 + a323) / (2 : Int32)).toNatClampNeg) a321)
      · replace h := (if_pos c326).symm.trans h
        exact ih a322 ((a322 + a323) / (2 : Int32)) m318 gg h
      · replace h := (if_neg c326).symm.trans h
        exact ih (((a322 + a323) / (2 : Int32)) + (1 : Int32)) a323 m318 gg h
theorem wy_add_l90_fr {F : Nat} {a339 : Nat} {a341 : Int64} {a342 : Int32} {k : xm_S → Option (xm_S)} {m0 m' : xm_S} (w340 : xw_ok a339) 
    (hk : ∀ (m : xm_S), xf_r fl_wy_add m0 m → k m = some m' → xf_r fl_wy_add m0 m') : ∀ (fu : Nat) (a343 : Int32) (m338 : xm_S), xf_r fl_wy_add m0 m338 → wy_add_l90 F a339 a341 a342 k fu a343 m338 = some m' → xf_r fl_wy_add m0 m' := by
  intro fu
  induction fu with
  | zero => intro a343 m338 gg h; cases h
  | succ fu ih =>
    intro a343 m338 gg h
    rw [wy_add_l90] at h
    by_cases c344 : a343 ≤ a342
    · replace h := (if_pos c344).symm.trans h
      exact hk m338 gg h
    · replace h := (if_neg c344).symm.trans h
      obtain ⟨-, h⟩ := xg_e h
      obtain ⟨-, h⟩ := xg_e h
      obtain ⟨m347, e348, h⟩ := xs_e h
      have g2493 : xf_r fl_wy_add m0 m347 := xf_t gg (by rw [e348]; exact xf_l (xf_wr w340 rfl))
      clear e348
      exact ih (a343 + (-1 : Int32)) m347 g2493 h
theorem wy_add_fr {F : Nat} {a0 : Nat} {a1 : Int64} {m0 m' : xm_S} (hw0 : xw_ok a0) (h : wy_add F a0 a1 m0 = some m') : xf_r fl_wy_add m0 m' := by
  unfold wy_add at h
  have gg : xf_r fl_wy_add m0 m0 := xf_0
  refine wy_add_l8_fr hw0 (fun x327 m328 g2494 h => ?_) F (0 : Int32) (m0.1 a0 1) m0 gg h
  obtain ⟨j334, e335, h⟩ := xj_e h
  have q336 : ∀ (u333 : Unit), j334 u333 = some m' → xf_r fl_wy_add m0 m' := by
    intro u333 h
    rw [e335] at h
    by_cases c337 : (m328.1 a0 1) < (60 : Int32)
    · replace h := (if_pos c337).symm.trans h
      refine wy_add_l90_fr hw0 (fun m349 g2495 h => ?_) F (m328.1 a0 1) m328 g2494 h
      obtain ⟨-, h⟩ := xg_e h
      obtain ⟨m351, e352, h⟩ := xs_e h
      have g2496 : xf_r fl_wy_add m0 m351 := xf_t g2495 (by rw [e352]; exact xf_l (xf_wr hw0 rfl))
      clear e352
      obtain ⟨m353, e354, h⟩ := xs_e h
      have g2497 : xf_r fl_wy_add m0 m353 := xf_t g2496 (by rw [e354]; exact xf_i (xf_w hw0 rfl))
      clear e354
      obtain rfl := Option.some.inj h
      exact g2497
    · replace h := (if_neg c337).symm.trans h
      obtain ⟨m355, e356, h⟩ := xs_e h
      have g2498 : xf_r fl_wy_add m0 m355 := xf_t g2494 (by rw [e356]; exact xf_i (xf_w hw0 rfl))
      clear e356
      obtain rfl := Option.some.inj h
      exact g2498
  clear e335
  by_cases c357 : (m328.1 a0 1) ≤ x327
  · replace h := (if_pos c357).symm.trans h
    exact q336 () h
  · replace h := (if_neg c357).symm.trans h
    obtain ⟨-, h⟩ := xg_e h
    by_cases c359 : (lg_cmp (m328.2 (a0 + 1) x327.toNatClampNeg) a1) = 0
    · replace h := (if_pos c359).symm.trans h
      obtain rfl := Option.some.inj h
      exact g2494
    · replace h := (if_neg c359).symm.trans h
      exact q336 () h
def fl_wt_addEach : List Nat := [14, 15, 16, 17, 18, 19]
theorem wt_addEach_l10_fr {n : Nat} {F : Nat} {a392 : Nat} {a394 : Int64} {a395 : Int32} {k : xm_S → Option (xm_S)} {m0 m' : xm_S} (w393 : xw_ok a392) 
    (hk : ∀ (m : xm_S), xf_r fl_wt_addEach m0 m → k m = some m' → xf_r fl_wt_addEach m0 m') : ∀ (fu : Nat) (a396 : Int32) (m391 : xm_S), xf_r fl_wt_addEach m0 m391 → wt_addEach_l10 F n a392 a394 a395 k fu a396 m391 = some m' → xf_r fl_wt_addEach m0 m' := by
  intro fu
  induction fu with
  | zero => intro a396 m391 gg h; cases h
  | succ fu ih =>
    intro a396 m391 gg h
    rw [wt_addEach_l10] at h
    obtain ⟨-, h⟩ := xg_e h
    by_cases c398 : (m391.1 12 a395.toNatClampNeg) ≤ a396
    · replace h := (if_pos c398).symm.trans h
      exact hk m391 gg h
    · replace h := (if_neg c398).symm.trans h
      by_cases c399 : (m391.1 a392 2) = 0
      · replace h := (if_pos c399).symm.trans h
        obtain ⟨-, h⟩ := xg_e h
        obtain ⟨-, h⟩ := xg_e h
        obtain ⟨m403, e404, h⟩ := xc_v_e h
        have g2499 : xf_r fl_wt_addEach m0 m403 := xf_t gg (xf_s rfl (wy_add_fr w393 e404))
        exact ih (a396 + (1 : Int32)) m403 g2499 h
      · replace h := (if_neg c399).symm.trans h
        exact hk m391 gg h
theorem wt_addEach_fr {n : Nat} {F : Nat} {a1 : Nat} {a2 : Int32} {a3 : Int32} {a4 : Int64} {m0 m' : xm_S} (hw1 : xw_ok a1) (h : wt_addEach F n a1 a2 a3 a4 m0 = some m') : xf_r fl_wt_addEach m0 m' := by
  unfold wt_addEach at h
  have gg : xf_r fl_wt_addEach m0 m0 := xf_0
  refine wt_addEach_l10_fr hw1 (fun m406 g2500 h => ?_) F (0 : Int32) m0 gg h
  obtain rfl := Option.some.inj h
  exact g2500
def fl_wt_findJoined : List Nat := [14, 15, 16, 17, 18, 19]
theorem wt_findJoined_l10_fr {n : Nat} {F : Nat} {a382 : Int32} {a383 : Int32} {a384 : Int32} {k : xm_S → Option (xm_S)} {m0 m' : xm_S} 
    (hk : ∀ (m : xm_S), xf_r fl_wt_findJoined m0 m → k m = some m' → xf_r fl_wt_findJoined m0 m') : ∀ (fu : Nat) (a385 : Int32) (m381 : xm_S), xf_r fl_wt_findJoined m0 m381 → wt_findJoined_l10 F n a382 a383 a384 k fu a385 m381 = some m' → xf_r fl_wt_findJoined m0 m' := by
  intro fu
  induction fu with
  | zero => intro a385 m381 gg h; cases h
  | succ fu ih =>
    intro a385 m381 gg h
    rw [wt_findJoined_l10] at h
    obtain ⟨-, h⟩ := xg_e h
    by_cases c387 : (m381.1 12 a384.toNatClampNeg) ≤ a385
    · replace h := (if_pos c387).symm.trans h
      exact hk m381 gg h
    · replace h := (if_neg c387).symm.trans h
      by_cases c388 : (m381.1 14 2) = 0
      · replace h := (if_pos c388).symm.trans h
        obtain ⟨-, h⟩ := xg_e h
        obtain ⟨-, h⟩ := xg_e h
        obtain ⟨m408, e409, h⟩ := xc_v_e h
        have g2501 : xf_r fl_wt_findJoined m0 m408 := xf_t gg (xf_s rfl (wt_addEach_fr xw_F e409))
        exact ih (a385 + (1 : Int32)) m408 g2501 h
      · replace h := (if_neg c388).symm.trans h
        exact hk m381 gg h
theorem wt_findJoined_fr {n : Nat} {F : Nat} {a1 : Int32} {a2 : Int32} {a3 : Int32} {m0 m' : xm_S} (h : wt_findJoined F n a1 a2 a3 m0 = some m') : xf_r fl_wt_findJoined m0 m' := by
  unfold wt_findJoined at h
  have gg : xf_r fl_wt_findJoined m0 m0 := xf_0
  refine wt_findJoined_l10_fr (fun m411 g2502 h => ?_) F (0 : Int32) m0 gg h
  obtain rfl := Option.some.inj h
  exact g2502
def fl_wt_find : List Nat := [14, 15, 16, 17, 18, 19]
theorem wt_find_fr {n : Nat} {F : Nat} {a1 : Int32} {a2 : Int32} {m0 m' : xm_S} (h : wt_find F n a1 a2 m0 = some m') : xf_r fl_wt_find m0 m' := by
  unfold wt_find at h
  have gg : xf_r fl_wt_find m0 m0 := xf_0
  obtain ⟨-, h⟩ := xg_e h
  obtain ⟨-, h⟩ := xg_e h
  obtain ⟨-, h⟩ := xg_e h
  obtain ⟨m314, e315, h⟩ := xc_v_e h
  have g2503 : xf_r fl_wt_find m0 m314 := xf_t gg (xf_s rfl (wy_clear_fr xw_F e315))
  by_cases c317 : (m0.1 2 a1.toNatClampNeg) = (0 : Int32)
  · replace h := (if_pos c317).symm.trans h
    obtain ⟨m361, e362, h⟩ := xc_v_e h
    have g2504 : xf_r fl_wt_find m0 m361 := xf_t g2503 (xf_s rfl (wy_add_fr xw_F e362))
    obtain rfl := Option.some.inj h
    exact g2504
  replace h := (if_neg c317).symm.trans h
  by_cases c364 : (m0.1 2 a1.toNatClampNeg) = (2 : Int32)
  · replace h := (if_pos c364).symm.trans h
    by_cases c366 : ((a2 >>> ((m0.1 3 a1.toNatClampNeg) &&& 31)) &&& (1 : Int32)) = (if (m0.1 2 a1.toNatClampNeg) = (2 : Int32) then (1 : Int32) else (0 : Int32))
    · replace h := (if_pos c366).symm.trans h
      obtain ⟨m368, e369, h⟩ := xc_v_e h
      have g2505 : xf_r fl_wt_find m0 m368 := xf_t g2503 (xf_s rfl (wy_add_fr xw_F e369))
      obtain rfl := Option.some.inj h
      exact g2505
    · replace h := (if_neg c366).symm.trans h
      obtain rfl := Option.some.inj h
      exact g2503
  replace h := (if_neg c364).symm.trans h
  by_cases c372 : (m0.1 2 a1.toNatClampNeg) = (3 : Int32)
  · replace h := (if_pos c372).symm.trans h
    by_cases c374 : ((a2 >>> ((m0.1 3 a1.toNatClampNeg) &&& 31)) &&& (1 : Int32)) = (if (m0.1 2 a1.toNatClampNeg) = (2 : Int32) then (1 : Int32) else (0 : Int32))
    · replace h := (if_pos c374).symm.trans h
      obtain ⟨m376, e377, h⟩ := xc_v_e h
      have g2506 : xf_r fl_wt_find m0 m376 := xf_t g2503 (xf_s rfl (wy_add_fr xw_F e377))
      obtain rfl := Option.some.inj h
      exact g2506
    · replace h := (if_neg c374).symm.trans h
      obtain rfl := Option.some.inj h
      exact g2503
  replace h := (if_neg c372).symm.trans h
  by_cases c380 : (m0.1 2 a1.toNatClampNeg) = (4 : Int32)
  · replace h := (if_pos c380).symm.trans h
    obtain ⟨m413, e414, h⟩ := xc_v_e h
    have g2507 : xf_r fl_wt_find m0 m413 := xf_t g2503 (xf_s rfl (wt_findJoined_fr e414))
    obtain rfl := Option.some.inj h
    exact g2507
  replace h := (if_neg c380).symm.trans h
  by_cases c416 : (m0.1 2 a1.toNatClampNeg) = (5 : Int32)
  · replace h := (if_pos c416).symm.trans h
    obtain ⟨m418, e419, h⟩ := xc_v_e h
    have g2508 : xf_r fl_wt_find m0 m418 := xf_t g2503 (xf_s rfl (wt_addEach_fr xw_F e419))
    obtain ⟨m422, e423, h⟩ := xc_v_e h
    have g2509 : xf_r fl_wt_find m0 m422 := xf_t g2508 (xf_s rfl (wt_addEach_fr xw_F e423))
    obtain rfl := Option.some.inj h
    exact g2509
  replace h := (if_neg c416).symm.trans h
  by_cases c425 : (m0.1 2 a1.toNatClampNeg) = (6 : Int32)
  · replace h := (if_pos c425).symm.trans h
    obtain ⟨m427, e428, h⟩ := xc_v_e h
    have g2510 : xf_r fl_wt_find m0 m427 := xf_t g2503 (xf_s rfl (wy_add_fr xw_F e428))
    obtain rfl := Option.some.inj h
    exact g2510
  replace h := (if_neg c425).symm.trans h
  by_cases c430 : (m0.1 2 a1.toNatClampNeg) = (7 : Int32)
  · replace h := (if_pos c430).symm.trans h
    obtain ⟨m432, e433, h⟩ := xc_v_e h
    have g2511 : xf_r fl_wt_find m0 m432 := xf_t g2503 (xf_s rfl (wt_addEach_fr xw_F e433))
    obtain ⟨m436, e437, h⟩ := xc_v_e h
    have g2512 : xf_r fl_wt_find m0 m436 := xf_t g2511 (xf_s rfl (wt_addEach_fr xw_F e437))
    obtain rfl := Option.some.inj h
    exact g2512
  replace h := (if_neg c430).symm.trans h
  by_cases c439 : (m0.1 2 a1.toNatClampNeg) = (8 : Int32)
  · replace h := (if_pos c439).symm.trans h
    obtain ⟨m441, e442, h⟩ := xc_v_e h
    have g2513 : xf_r fl_wt_find m0 m441 := xf_t g2503 (xf_s rfl (wt_findJoined_fr e442))
    obtain ⟨m445, e446, h⟩ := xc_v_e h
    have g2514 : xf_r fl_wt_find m0 m445 := xf_t g2513 (xf_s rfl (wt_addEach_fr xw_F e446))
    obtain rfl := Option.some.inj h
    exact g2514
  replace h := (if_neg c439).symm.trans h
  have c317z : (m0.1 2 a1.toNatClampNeg).toInt ≠ 0 := fun q => c317 (Int32.toInt_inj.mp (q.trans (by decide)))
  have c364z : (m0.1 2 a1.toNatClampNeg).toInt ≠ 2 := fun q => c364 (Int32.toInt_inj.mp (q.trans (by decide)))
  have c372z : (m0.1 2 a1.toNatClampNeg).toInt ≠ 3 := fun q => c372 (Int32.toInt_inj.mp (q.trans (by decide)))
  have c380z : (m0.1 2 a1.toNatClampNeg).toInt ≠ 4 := fun q => c380 (Int32.toInt_inj.mp (q.trans (by decide)))
  have c416z : (m0.1 2 a1.toNatClampNeg).toInt ≠ 5 := fun q => c416 (Int32.toInt_inj.mp (q.trans (by decide)))
  have c425z : (m0.1 2 a1.toNatClampNeg).toInt ≠ 6 := fun q => c425 (Int32.toInt_inj.mp (q.trans (by decide)))
  have c430z : (m0.1 2 a1.toNatClampNeg).toInt ≠ 7 := fun q => c430 (Int32.toInt_inj.mp (q.trans (by decide)))
  have c439z : (m0.1 2 a1.toNatClampNeg).toInt ≠ 8 := fun q => c439 (Int32.toInt_inj.mp (q.trans (by decide)))
  by_cases c448 : (m0.1 2 a1.toNatClampNeg) = (1 : Int32)
  · obtain rfl := Option.some.inj h
    exact g2503
  have c448z : (m0.1 2 a1.toNatClampNeg).toInt ≠ 1 := fun q => c448 (Int32.toInt_inj.mp (q.trans (by decide)))
  obtain rfl := Option.some.inj h
  exact g2503
def fl_wt_keepFound : List Nat := [10, 11, 12, 13, 58]
theorem wt_keepFound_fr {n : Nat} {F : Nat} {a1 : Int32} {m0 m' : xm_S} {n' : Nat} (h : wt_keepFound F n a1 m0 = some (n', m')) : xf_r fl_wt_keepFound m0 m' := by
  unfold wt_keepFound at h
  have gg : xf_r fl_wt_keepFound m0 m0 := xf_0
  by_cases c454 : (m0.1 14 2) = 0
  · replace h := (if_pos c454).symm.trans h
    obtain ⟨j463, e464, h⟩ := xj_e h
    have q465 : ∀ (n461 : Nat) (m462 : xm_S), xf_r fl_wt_keepFound m0 m462 → j463 n461 m462 = some (n', m') → xf_r fl_wt_keepFound m0 m' := by
      intro n461 m462 g2515 h
      rw [e464] at h
      obtain ⟨-, h⟩ := xg_c_e h
      obtain ⟨m467, e468, h⟩ := xs_e h
      have g2516 : xf_r fl_wt_keepFound m0 m467 := xf_t g2515 (by rw [e468]; exact xf_c (xf_k _ rfl rfl))
      clear e468
      obtain ⟨-, h⟩ := xg_e h
      obtain ⟨m470, e471, h⟩ := xs_e h
      have g2517 : xf_r fl_wt_keepFound m0 m470 := xf_t g2516 (by rw [e471]; exact xf_i rfl)
      clear e471
      obtain ⟨-, h⟩ := xg_e h
      obtain ⟨m473, e474, h⟩ := xs_e h
      have g2518 : xf_r fl_wt_keepFound m0 m473 := xf_t g2517 (by rw [e474]; exact xf_i rfl)
      clear e474
      obtain ⟨m475, e476, h⟩ := xs_e h
      have g2519 : xf_r fl_wt_keepFound m0 m475 := xf_t g2518 (by rw [e476]; exact xf_i rfl)
      clear e476
      obtain ⟨rfl, rfl⟩ := Prod.mk.inj (Option.some.inj h)
      exact g2519
    clear e464
    by_cases c477 : ((m0.1 10 4) + (m0.1 14 1)) ≤ (nI (xk_l n))
    · replace h := (if_pos c477).symm.trans h
      exact q465 n m0 gg h
    · replace h := (if_neg c477).symm.trans h
      obtain ⟨-, h⟩ := xg_y_e h
      obtain ⟨m479, e480, h⟩ := xs_e h
      have g2520 : xf_r fl_wt_keepFound m0 m479 := xf_t gg (by rw [e480]; exact xf_g rfl)
      clear e480
      exact q465 (n + 1) m479 g2520 h
  · replace h := (if_neg c454).symm.trans h
    obtain ⟨-, h⟩ := xg_e h
    obtain ⟨m483, e484, h⟩ := xs_e h
    have g2521 : xf_r fl_wt_keepFound m0 m483 := xf_t gg (by rw [e484]; exact xf_i rfl)
    clear e484
    obtain ⟨rfl, rfl⟩ := Prod.mk.inj (Option.some.inj h)
    exact g2521
def fl_wt_learn : List Nat := [10, 11, 12, 13, 14, 15, 16, 17, 18, 19, 58]
theorem wt_learn_l2_fr {F : Nat} {a295 : Int32} {a296 : Int32} {k : Nat → xm_S → Option (Int32 × Nat × xm_S)} {r : Int32} {m0 m' : xm_S} {n' : Nat} 
    (hk : ∀ (n1 : Nat) (m : xm_S), xf_r fl_wt_learn m0 m → k n1 m = some (r, n', m') → xf_r fl_wt_learn m0 m') : ∀ (fu : Nat) (a297 : Int32) (n294 : Nat) (m293 : xm_S), xf_r fl_wt_learn m0 m293 → wt_learn_l2 F a295 a296 k fu a297 n294 m293 = some (r, n', m') → xf_r fl_wt_learn m0 m' := by
  intro fu
  induction fu with
  | zero => intro a297 n294 m293 gg h; cases h
  | succ fu ih =>
    intro a297 n294 m293 gg h
    rw [wt_learn_l2] at h
    by_cases c298 : a295 < a297
    · replace h := (if_pos c298).symm.trans h
      exact hk n294 m293 gg h
    · replace h := (if_neg c298).symm.trans h
      obtain ⟨v299, m300, e301, h⟩ := xc_m_e h
      have g2522 : xf_r fl_wt_learn m0 m300 := xf_t gg (xf_s rfl (bk_isPart_fr e301))
      by_cases c303 : v299 = 0
      · replace h := (if_pos c303).symm.trans h
        exact ih (a297 + (1 : Int32)) n294 m300 g2522 h
      · replace h := (if_neg c303).symm.trans h
        obtain ⟨-, h⟩ := xg_e h
        obtain ⟨j492, e493, h⟩ := xj_e h
        have q494 : ∀ (n490 : Nat) (m491 : xm_S), xf_r fl_wt_learn m0 m491 → j492 n490 m491 = some (r, n', m') → xf_r fl_wt_learn m0 m' := by
          intro n490 m491 g2523 h
          rw [e493] at h
          obtain ⟨-, h⟩ := xg_e h
          by_cases c496 : (m491.1 12 (wt_cell a297 a296).toNatClampNeg) = (-2 : Int32)
          · replace h := (if_pos c496).symm.trans h
            obtain ⟨rfl, h9⟩ := Prod.mk.inj (Option.some.inj h)
            obtain ⟨rfl, rfl⟩ := Prod.mk.inj h9
            exact g2523
          · replace h := (if_neg c496).symm.trans h
            exact ih (a297 + (1 : Int32)) n490 m491 g2523 h
        clear e493
        by_cases c497 : (m300.1 12 (wt_cell a297 a296).toNatClampNeg) = (-1 : Int32)
        · replace h := (if_pos c497).symm.trans h
          obtain ⟨m499, e500, h⟩ := xc_v_e h
          have g2524 : xf_r fl_wt_learn m0 m499 := xf_t g2522 (xf_s rfl (wt_find_fr e500))
          obtain ⟨n505, m503, e504, l506, h⟩ := xc_av_e h
          have g2525 : xf_r fl_wt_learn m0 m503 := xf_t g2524 (xf_s rfl (wt_keepFound_fr e504))
          exact q494 n505 m503 g2525 h
        · replace h := (if_neg c497).symm.trans h
          exact q494 n294 m300 g2522 h
theorem wt_learn_fr {n : Nat} {F : Nat} {a1 : Int32} {a2 : Int32} {r : Int32} {m0 m' : xm_S} {n' : Nat} (h : wt_learn F n a1 a2 m0 = some (r, n', m')) : xf_r fl_wt_learn m0 m' := by
  unfold wt_learn at h
  have gg : xf_r fl_wt_learn m0 m0 := xf_0
  refine wt_learn_l2_fr (fun n508 m507 g2526 h => ?_) F (0 : Int32) n m0 gg h
  obtain ⟨rfl, h9⟩ := Prod.mk.inj (Option.some.inj h)
  obtain ⟨rfl, rfl⟩ := Prod.mk.inj h9
  exact g2526
def fl_wt_count : List Nat := []
theorem wt_count_fr {F : Nat} {a1 : Int32} {a2 : Int32} {r : Int32} {m0 m' : xm_S} (h : wt_count F a1 a2 m0 = some (r, m')) : xf_r fl_wt_count m0 m' := by
  unfold wt_count at h
  have gg : xf_r fl_wt_count m0 m0 := xf_0
  obtain ⟨-, h⟩ := xg_e h
  obtain ⟨rfl, rfl⟩ := Prod.mk.inj (Option.some.inj h)
  exact gg
def fl_mk_ways : List Nat := [10, 11, 12, 13, 14, 15, 16, 17, 18, 19, 58]
theorem mk_ways_fr {n : Nat} {F : Nat} {a1 : Int32} {a2 : Int32} {r : Int32} {m0 m' : xm_S} {n' : Nat} (h : mk_ways F n a1 a2 m0 = some (r, n', m')) : xf_r fl_mk_ways m0 m' := by
  unfold mk_ways at h
  have gg : xf_r fl_mk_ways m0 m0 := xf_0
  by_cases c290 : (bk_knows a1 m0) = 0
  · replace h := (if_pos c290).symm.trans h
    obtain ⟨rfl, h9⟩ := Prod.mk.inj (Option.some.inj h)
    obtain ⟨rfl, rfl⟩ := Prod.mk.inj h9
    exact gg
  · replace h := (if_neg c290).symm.trans h
    by_cases c291 : a2 < 0
    · replace h := (if_pos c291).symm.trans h
      obtain ⟨rfl, h9⟩ := Prod.mk.inj (Option.some.inj h)
      obtain ⟨rfl, rfl⟩ := Prod.mk.inj h9
      exact gg
    · replace h := (if_neg c291).symm.trans h
      by_cases c292 : a2 < (16 : Int32)
      · replace h := (if_pos c292).symm.trans h
        obtain ⟨v509, n512, m510, e511, l513, h⟩ := xc_a_e h
        have g2527 : xf_r fl_mk_ways m0 m510 := xf_t gg (xf_s rfl (wt_learn_fr e511))
        by_cases c514 : v509 = 0
        · replace h := (if_pos c514).symm.trans h
          obtain ⟨rfl, h9⟩ := Prod.mk.inj (Option.some.inj h)
          obtain ⟨rfl, rfl⟩ := Prod.mk.inj h9
          exact g2527
        · replace h := (if_neg c514).symm.trans h
          obtain ⟨v516, m517, e518, h⟩ := xc_m_e h
          have g2528 : xf_r fl_mk_ways m0 m517 := xf_t g2527 (xf_s rfl (wt_count_fr e518))
          obtain ⟨rfl, h9⟩ := Prod.mk.inj (Option.some.inj h)
          obtain ⟨rfl, rfl⟩ := Prod.mk.inj h9
          exact g2528
      · replace h := (if_neg c292).symm.trans h
        obtain ⟨rfl, h9⟩ := Prod.mk.inj (Option.some.inj h)
        obtain ⟨rfl, rfl⟩ := Prod.mk.inj h9
        exact gg
def fl_au_listUntils : List Nat := [20, 21]
theorem au_listUntils_l7_fr {F : Nat} {a537 : Int32} {k : xm_S → Option (xm_S)} {m0 m' : xm_S} 
    (hk : ∀ (m : xm_S), xf_r fl_au_listUntils m0 m → k m = some m' → xf_r fl_au_listUntils m0 m') : ∀ (fu : Nat) (a538 : Int32) (m536 : xm_S), xf_r fl_au_listUntils m0 m536 → au_listUntils_l7 F a537 k fu a538 m536 = some m' → xf_r fl_au_listUntils m0 m' := by
  intro fu
  induction fu with
  | zero => intro a538 m536 gg h; cases h
  | succ fu ih =>
    intro a538 m536 gg h
    rw [au_listUntils_l7] at h
    by_cases c539 : a537 < a538
    · replace h := (if_pos c539).symm.trans h
      exact hk m536 gg h
    · replace h := (if_neg c539).symm.trans h
      obtain ⟨v540, m541, e542, h⟩ := xc_m_e h
      have g2529 : xf_r fl_au_listUntils m0 m541 := xf_t gg (xf_s rfl (bk_isPart_fr e542))
      by_cases c544 : v540 = 0
      · replace h := (if_pos c544).symm.trans h
        exact ih (a538 + (1 : Int32)) m541 g2529 h
      · replace h := (if_neg c544).symm.trans h
        obtain ⟨-, h⟩ := xg_e h
        by_cases c546 : (m541.1 2 a538.toNatClampNeg) = (7 : Int32)
        · replace h := (if_pos c546).symm.trans h
          obtain ⟨-, h⟩ := xg_e h
          obtain ⟨m548, e549, h⟩ := xs_e h
          have g2530 : xf_r fl_au_listUntils m0 m548 := xf_t g2529 (by rw [e549]; exact xf_i rfl)
          clear e549
          obtain ⟨m550, e551, h⟩ := xs_e h
          have g2531 : xf_r fl_au_listUntils m0 m550 := xf_t g2530 (by rw [e551]; exact xf_i rfl)
          clear e551
          exact ih (a538 + (1 : Int32)) m550 g2531 h
        · replace h := (if_neg c546).symm.trans h
          exact ih (a538 + (1 : Int32)) m541 g2529 h
theorem au_listUntils_fr {F : Nat} {a1 : Int32} {m0 m' : xm_S} (h : au_listUntils F a1 m0 = some m') : xf_r fl_au_listUntils m0 m' := by
  unfold au_listUntils at h
  have gg : xf_r fl_au_listUntils m0 m0 := xf_0
  obtain ⟨m534, e535, h⟩ := xs_e h
  have g2532 : xf_r fl_au_listUntils m0 m534 := xf_t gg (by rw [e535]; exact xf_i rfl)
  clear e535
  refine au_listUntils_l7_fr (fun m552 g2533 h => ?_) F (0 : Int32) m534 g2532 h
  obtain rfl := Option.some.inj h
  exact g2533
def fl_wt_waysOfSet : List Nat := [14, 15, 16, 17, 18, 19]
theorem wt_waysOfSet_l64_fr {n : Nat} {F : Nat} {a601 : Int32} {a602 : Int32} {a603 : Nat} {a605 : Nat} {a607 : Int32} {k : xm_S → Option (Nat × xm_S)} {r : Nat} {m0 m' : xm_S} (w604 : xw_ok a603) (w606 : xw_ok a605) 
    (hk : ∀ (m : xm_S), xf_r fl_wt_waysOfSet m0 m → k m = some (r, m') → xf_r fl_wt_waysOfSet m0 m') : ∀ (fu : Nat) (a608 : Int32) (m600 : xm_S), xf_r fl_wt_waysOfSet m0 m600 → wt_waysOfSet_l64 F n a601 a602 a603 a605 a607 k fu a608 m600 = some (r, m') → xf_r fl_wt_waysOfSet m0 m' := by
  intro fu
  induction fu with
  | zero => intro a608 m600 gg h; cases h
  | succ fu ih =>
    intro a608 m600 gg h
    rw [wt_waysOfSet_l64] at h
    by_cases c609 : (m600.1 a603 1) ≤ a608
    · replace h := (if_pos c609).symm.trans h
      exact hk m600 gg h
    · replace h := (if_neg c609).symm.trans h
      by_cases c610 : (m600.1 a605 2) = 0
      · replace h := (if_pos c610).symm.trans h
        obtain ⟨-, h⟩ := xg_e h
        obtain ⟨m613, e614, h⟩ := xc_v_e h
        have g2534 : xf_r fl_wt_waysOfSet m0 m613 := xf_t gg (xf_s rfl (wt_addEach_fr w606 e614))
        exact ih (a608 + (1 : Int32)) m613 g2534 h
      · replace h := (if_neg c610).symm.trans h
        exact hk m600 gg h
theorem wt_waysOfSet_l23_fr {n : Nat} {F : Nat} {a585 : Int32} {a586 : Int32} {k : Nat → xm_S → Option (Nat × xm_S)} {r : Nat} {m0 m' : xm_S} 
    (hk : ∀ (z3 : Nat) (m : xm_S), xw_ok z3 → xf_r fl_wt_waysOfSet m0 m → k z3 m = some (r, m') → xf_r fl_wt_waysOfSet m0 m') : ∀ (fu : Nat) (a587 : Nat) (a589 : Nat) (a591 : Int32) (m584 : xm_S), xw_ok a587 → xw_ok a589 → xf_r fl_wt_waysOfSet m0 m584 → wt_waysOfSet_l23 F n a585 a586 k fu a587 a589 a591 m584 = some (r, m') → xf_r fl_wt_waysOfSet m0 m' := by
  intro fu
  induction fu with
  | zero => intro a587 a589 a591 m584 w588 w590 gg h; cases h
  | succ fu ih =>
    intro a587 a589 a591 m584 w588 w590 gg h
    rw [wt_waysOfSet_l23] at h
    by_cases c592 : (28 : Int32) ≤ a591
    · replace h := (if_pos c592).symm.trans h
      exact hk a587 m584 w588 gg h
    · replace h := (if_neg c592).symm.trans h
      by_cases c593 : (a585 >>> (a591 &&& 31)) = 0
      · replace h := (if_pos c593).symm.trans h
        exact hk a587 m584 w588 gg h
      · replace h := (if_neg c593).symm.trans h
        by_cases c594 : (m584.1 a587 2) = 0
        · replace h := (if_pos c594).symm.trans h
          by_cases c595 : ((a585 >>> (a591 &&& 31)) &&& (1 : Int32)) = 0
          · replace h := (if_pos c595).symm.trans h
            exact ih a587 a589 (a591 + (1 : Int32)) m584 w588 w590 gg h
          · replace h := (if_neg c595).symm.trans h
            obtain ⟨m597, e598, h⟩ := xc_v_e h
            have g2535 : xf_r fl_wt_waysOfSet m0 m597 := xf_t gg (xf_s rfl (wy_clear_fr w590 e598))
            refine wt_waysOfSet_l64_fr w588 w590 (fun m616 g2536 h => ?_) F (0 : Int32) m597 g2535 h
            exact ih a589 a587 (a591 + (1 : Int32)) m616 w590 w588 g2536 h
        · replace h := (if_neg c594).symm.trans h
          exact hk a587 m584 w588 gg h
theorem wt_waysOfSet_fr {n : Nat} {F : Nat} {a1 : Int32} {a2 : Int32} {r : Nat} {m0 m' : xm_S} (h : wt_waysOfSet F n a1 a2 m0 = some (r, m')) : xf_r fl_wt_waysOfSet m0 m' := by
  unfold wt_waysOfSet at h
  have gg : xf_r fl_wt_waysOfSet m0 m0 := xf_0
  obtain ⟨m577, e578, h⟩ := xc_v_e h
  have g2537 : xf_r fl_wt_waysOfSet m0 m577 := xf_t gg (xf_s rfl (wy_clear_fr xw_A e578))
  obtain ⟨m581, e582, h⟩ := xc_v_e h
  have g2538 : xf_r fl_wt_waysOfSet m0 m581 := xf_t g2537 (xf_s rfl (wy_add_fr xw_A e582))
  refine wt_waysOfSet_l23_fr (fun x617 m619 w618 g2539 h => ?_) F 16 18 (0 : Int32) m581 xw_A xw_B g2538 h
  obtain ⟨rfl, rfl⟩ := Prod.mk.inj (Option.some.inj h)
  exact g2539
def fl_au_firstPutOff : List Nat := []
theorem au_firstPutOff_l2_fr {F : Nat} {a642 : Int32} {k : xm_S → Option (Int32 × xm_S)} {r : Int32} {m0 m' : xm_S} 
    (hk : ∀ (m : xm_S), xf_r fl_au_firstPutOff m0 m → k m = some (r, m') → xf_r fl_au_firstPutOff m0 m') : ∀ (fu : Nat) (a643 : Int32) (m641 : xm_S), xf_r fl_au_firstPutOff m0 m641 → au_firstPutOff_l2 F a642 k fu a643 m641 = some (r, m') → xf_r fl_au_firstPutOff m0 m' := by
  intro fu
  induction fu with
  | zero => intro a643 m641 gg h; cases h
  | succ fu ih =>
    intro a643 m641 gg h
    rw [au_firstPutOff_l2] at h
    by_cases c644 : (m641.1 20 3) ≤ a643
    · replace h := (if_pos c644).symm.trans h
      exact hk m641 gg h
    · replace h := (if_neg c644).symm.trans h
      obtain ⟨-, h⟩ := xg_e h
      by_cases c646 : ((a642 >>> ((m641.1 21 a643.toNatClampNeg) &&& 31)) &&& (1 : Int32)) = 0
      · replace h := (if_pos c646).symm.trans h
        exact ih (a643 + (1 : Int32)) m641 gg h
      · replace h := (if_neg c646).symm.trans h
        obtain ⟨rfl, rfl⟩ := Prod.mk.inj (Option.some.inj h)
        exact gg
theorem au_firstPutOff_fr {F : Nat} {a1 : Int32} {a2 : Int32} {r : Int32} {m0 m' : xm_S} (h : au_firstPutOff F a1 a2 m0 = some (r, m')) : xf_r fl_au_firstPutOff m0 m' := by
  unfold au_firstPutOff at h
  have gg : xf_r fl_au_firstPutOff m0 m0 := xf_0
  refine au_firstPutOff_l2_fr (fun m647 g2540 h => ?_) F a1 m0 gg h
  obtain ⟨rfl, rfl⟩ := Prod.mk.inj (Option.some.inj h)
  exact g2540
def fl_au_stateOf : List Nat := [20, 22, 23]
theorem au_stateOf_l2_fr {F : Nat} {a654 : Int32} {a655 : Int32} {k : xm_S → Option (Int32 × xm_S)} {r : Int32} {m0 m' : xm_S} 
    (hk : ∀ (m : xm_S), xf_r fl_au_stateOf m0 m → k m = some (r, m') → xf_r fl_au_stateOf m0 m') : ∀ (fu : Nat) (a656 : Int32) (m653 : xm_S), xf_r fl_au_stateOf m0 m653 → au_stateOf_l2 F a654 a655 k fu a656 m653 = some (r, m') → xf_r fl_au_stateOf m0 m' := by
  intro fu
  induction fu with
  | zero => intro a656 m653 gg h; cases h
  | succ fu ih =>
    intro a656 m653 gg h
    rw [au_stateOf_l2] at h
    by_cases c657 : (m653.1 20 6) ≤ a656
    · replace h := (if_pos c657).symm.trans h
      exact hk m653 gg h
    · replace h := (if_neg c657).symm.trans h
      obtain ⟨-, h⟩ := xg_e h
      by_cases c659 : (m653.1 22 a656.toNatClampNeg) = a654
      · replace h := (if_pos c659).symm.trans h
        obtain ⟨-, h⟩ := xg_e h
        by_cases c661 : (m653.1 23 a656.toNatClampNeg) = a655
        · replace h := (if_pos c661).symm.trans h
          obtain ⟨rfl, rfl⟩ := Prod.mk.inj (Option.some.inj h)
          exact gg
        · replace h := (if_neg c661).symm.trans h
          exact ih (a656 + (1 : Int32)) m653 gg h
      · replace h := (if_neg c659).symm.trans h
        exact ih (a656 + (1 : Int32)) m653 gg h
theorem au_stateOf_fr {F : Nat} {a1 : Int32} {a2 : Int32} {r : Int32} {m0 m' : xm_S} (h : au_stateOf F a1 a2 m0 = some (r, m')) : xf_r fl_au_stateOf m0 m' := by
  unfold au_stateOf at h
  have gg : xf_r fl_au_stateOf m0 m0 := xf_0
  refine au_stateOf_l2_fr (fun m662 g2541 h => ?_) F (0 : Int32) m0 gg h
  by_cases c663 : (m662.1 20 6) < (16 : Int32)
  · replace h := (if_pos c663).symm.trans h
    obtain ⟨-, h⟩ := xg_e h
    obtain ⟨m665, e666, h⟩ := xs_e h
    have g2542 : xf_r fl_au_stateOf m0 m665 := xf_t g2541 (by rw [e666]; exact xf_i rfl)
    clear e666
    obtain ⟨-, h⟩ := xg_e h
    obtain ⟨m668, e669, h⟩ := xs_e h
    have g2543 : xf_r fl_au_stateOf m0 m668 := xf_t g2542 (by rw [e669]; exact xf_i rfl)
    clear e669
    obtain ⟨m670, e671, h⟩ := xs_e h
    have g2544 : xf_r fl_au_stateOf m0 m670 := xf_t g2543 (by rw [e671]; exact xf_i rfl)
    clear e671
    obtain ⟨rfl, rfl⟩ := Prod.mk.inj (Option.some.inj h)
    exact g2544
  · replace h := (if_neg c663).symm.trans h
    obtain ⟨rfl, rfl⟩ := Prod.mk.inj (Option.some.inj h)
    exact g2541
def fl_au_addSteps : List Nat := [14, 15, 16, 17, 18, 19, 20, 22, 23, 24, 25]
theorem au_addSteps_l51_fr {n : Nat} {F : Nat} {a633 : Int32} {a634 : Nat} {a636 : Int32} {k : xm_S → Option (Int32 × xm_S)} {r : Int32} {m0 m' : xm_S} (w635 : xw_ok a634) 
    (hk : ∀ (m : xm_S), xf_r fl_au_addSteps m0 m → k m = some (r, m') → xf_r fl_au_addSteps m0 m') : ∀ (fu : Nat) (a637 : Int32) (m632 : xm_S), xf_r fl_au_addSteps m0 m632 → au_addSteps_l51 F n a633 a634 a636 k fu a637 m632 = some (r, m') → xf_r fl_au_addSteps m0 m' := by
  intro fu
  induction fu with
  | zero => intro a637 m632 gg h; cases h
  | succ fu ih =>
    intro a637 m632 gg h
    rw [au_addSteps_l51] at h
    by_cases c638 : (m632.1 a634 1) ≤ a637
    · replace h := (if_pos c638).symm.trans h
      exact hk m632 gg h
    · replace h := (if_neg c638).symm.trans h
      obtain ⟨-, h⟩ := xg_e h
      obtain ⟨-, h⟩ := xg_e h
      obtain ⟨v648, m649, e650, h⟩ := xc_m_e h
      have g2545 : xf_r fl_au_addSteps m0 m649 := xf_t gg (xf_s rfl (au_firstPutOff_fr e650))
      obtain ⟨v672, m673, e674, h⟩ := xc_m_e h
      have g2546 : xf_r fl_au_addSteps m0 m673 := xf_t g2545 (xf_s rfl (au_stateOf_fr e674))
      by_cases c676 : v672 = (-1 : Int32)
      · replace h := (if_pos c676).symm.trans h
        obtain ⟨rfl, rfl⟩ := Prod.mk.inj (Option.some.inj h)
        exact g2546
      · replace h := (if_neg c676).symm.trans h
        obtain ⟨-, h⟩ := xg_e h
        obtain ⟨-, h⟩ := xg_e h
        obtain ⟨m679, e680, h⟩ := xs_e h
        have g2547 : xf_r fl_au_addSteps m0 m679 := xf_t g2546 (by rw [e680]; exact xf_i rfl)
        clear e680
        by_cases c681 : v648 = (-1 : Int32)
        · replace h := (if_pos c681).symm.trans h
          obtain ⟨-, h⟩ := xg_e h
          obtain ⟨-, h⟩ := xg_e h
          obtain ⟨m684, e685, h⟩ := xs_e h
          have g2548 : xf_r fl_au_addSteps m0 m684 := xf_t g2547 (by rw [e685]; exact xf_i rfl)
          clear e685
          exact ih (a637 + (1 : Int32)) m684 g2548 h
        · replace h := (if_neg c681).symm.trans h
          exact ih (a637 + (1 : Int32)) m679 g2547 h
theorem au_addSteps_fr {n : Nat} {F : Nat} {a1 : Int32} {a2 : Int32} {r : Int32} {m0 m' : xm_S} (h : au_addSteps F n a1 a2 m0 = some (r, m')) : xf_r fl_au_addSteps m0 m' := by
  unfold au_addSteps at h
  have gg : xf_r fl_au_addSteps m0 m0 := xf_0
  obtain ⟨-, h⟩ := xg_e h
  obtain ⟨v620, m621, e622, h⟩ := xc_m_e h
  have g2549 : xf_r fl_au_addSteps m0 m621 := xf_t gg (xf_s rfl (wt_waysOfSet_fr e622))
  obtain ⟨w624, h⟩ := xw_k_e h
  by_cases c625 : (m621.1 v620 2) = 0
  · replace h := (if_pos c625).symm.trans h
    obtain ⟨-, h⟩ := xg_e h
    obtain ⟨m627, e628, h⟩ := xs_e h
    have g2550 : xf_r fl_au_addSteps m0 m627 := xf_t g2549 (by rw [e628]; exact xf_i rfl)
    clear e628
    obtain ⟨-, h⟩ := xg_e h
    obtain ⟨m630, e631, h⟩ := xs_e h
    have g2551 : xf_r fl_au_addSteps m0 m630 := xf_t g2550 (by rw [e631]; exact xf_i rfl)
    clear e631
    refine au_addSteps_l51_fr w624 (fun m687 g2552 h => ?_) F (0 : Int32) m630 g2551 h
    obtain ⟨rfl, rfl⟩ := Prod.mk.inj (Option.some.inj h)
    exact g2552
  · replace h := (if_neg c625).symm.trans h
    obtain ⟨rfl, rfl⟩ := Prod.mk.inj (Option.some.inj h)
    exact g2549
def fl_au_build : List Nat := [10, 11, 12, 13, 14, 15, 16, 17, 18, 19, 20, 21, 22, 23, 24, 25, 58]
theorem au_build_l2_fr {F : Nat} {a523 : Int32} {k : Nat → xm_S → Option (Int32 × Nat × xm_S)} {r : Int32} {m0 m' : xm_S} {n' : Nat} 
    (hk : ∀ (n1 : Nat) (m : xm_S), xf_r fl_au_build m0 m → k n1 m = some (r, n', m') → xf_r fl_au_build m0 m') : ∀ (fu : Nat) (a524 : Int32) (n522 : Nat) (m521 : xm_S), xf_r fl_au_build m0 m521 → au_build_l2 F a523 k fu a524 n522 m521 = some (r, n', m') → xf_r fl_au_build m0 m' := by
  intro fu
  induction fu with
  | zero => intro a524 n522 m521 gg h; cases h
  | succ fu ih =>
    intro a524 n522 m521 gg h
    rw [au_build_l2] at h
    by_cases c525 : (16 : Int32) ≤ a524
    · replace h := (if_pos c525).symm.trans h
      exact hk n522 m521 gg h
    · replace h := (if_neg c525).symm.trans h
      obtain ⟨v526, n529, m527, e528, l530, h⟩ := xc_a_e h
      have g2553 : xf_r fl_au_build m0 m527 := xf_t gg (xf_s rfl (wt_learn_fr e528))
      by_cases c531 : v526 = 0
      · replace h := (if_pos c531).symm.trans h
        obtain ⟨rfl, h9⟩ := Prod.mk.inj (Option.some.inj h)
        obtain ⟨rfl, rfl⟩ := Prod.mk.inj h9
        exact g2553
      · replace h := (if_neg c531).symm.trans h
        exact ih (a524 + (1 : Int32)) n529 m527 g2553 h
theorem au_build_l72_fr {F : Nat} {a572 : Int32} {k : Nat → xm_S → Option (Int32 × Nat × xm_S)} {r : Int32} {m0 m' : xm_S} {n' : Nat} 
    (hk : ∀ (n1 : Nat) (m : xm_S), xf_r fl_au_build m0 m → k n1 m = some (r, n', m') → xf_r fl_au_build m0 m') : ∀ (fu : Nat) (a573 : Int32) (n571 : Nat) (m570 : xm_S), xf_r fl_au_build m0 m570 → au_build_l72 F a572 k fu a573 n571 m570 = some (r, n', m') → xf_r fl_au_build m0 m' := by
  intro fu
  induction fu with
  | zero => intro a573 n571 m570 gg h; cases h
  | succ fu ih =>
    intro a573 n571 m570 gg h
    rw [au_build_l72] at h
    by_cases c574 : (16 : Int32) ≤ a573
    · replace h := (if_pos c574).symm.trans h
      exact hk n571 m570 gg h
    · replace h := (if_neg c574).symm.trans h
      obtain ⟨v688, m689, e690, h⟩ := xc_m_e h
      have g2554 : xf_r fl_au_build m0 m689 := xf_t gg (xf_s rfl (au_addSteps_fr e690))
      by_cases c692 : v688 = 0
      · replace h := (if_pos c692).symm.trans h
        obtain ⟨rfl, h9⟩ := Prod.mk.inj (Option.some.inj h)
        obtain ⟨rfl, rfl⟩ := Prod.mk.inj h9
        exact g2554
      · replace h := (if_neg c692).symm.trans h
        exact ih (a573 + (1 : Int32)) n571 m689 g2554 h
theorem au_build_l56_fr {F : Nat} {k : Nat → xm_S → Option (Int32 × Nat × xm_S)} {r : Int32} {m0 m' : xm_S} {n' : Nat} 
    (hk : ∀ (n1 : Nat) (m : xm_S), xf_r fl_au_build m0 m → k n1 m = some (r, n', m') → xf_r fl_au_build m0 m') : ∀ (fu : Nat) (a567 : Int32) (n566 : Nat) (m565 : xm_S), xf_r fl_au_build m0 m565 → au_build_l56 F k fu a567 n566 m565 = some (r, n', m') → xf_r fl_au_build m0 m' := by
  intro fu
  induction fu with
  | zero => intro a567 n566 m565 gg h; cases h
  | succ fu ih =>
    intro a567 n566 m565 gg h
    rw [au_build_l56] at h
    by_cases c568 : (m565.1 20 6) ≤ a567
    · replace h := (if_pos c568).symm.trans h
      exact hk n566 m565 gg h
    · replace h := (if_neg c568).symm.trans h
      by_cases c569 : (16 : Int32) ≤ a567
      · replace h := (if_pos c569).symm.trans h
        exact hk n566 m565 gg h
      · replace h := (if_neg c569).symm.trans h
        refine au_build_l72_fr (fun n694 m693 g2555 h => ?_) F (0 : Int32) n566 m565 gg h
        exact ih (a567 + (1 : Int32)) n694 m693 g2555 h
theorem au_build_fr {n : Nat} {F : Nat} {a1 : Int32} {r : Int32} {m0 m' : xm_S} {n' : Nat} (h : au_build F n a1 m0 = some (r, n', m')) : xf_r fl_au_build m0 m' := by
  unfold au_build at h
  have gg : xf_r fl_au_build m0 m0 := xf_0
  refine au_build_l2_fr (fun n533 m532 g2556 h => ?_) F (0 : Int32) n m0 gg h
  obtain ⟨m554, e555, h⟩ := xc_v_e h
  have g2557 : xf_r fl_au_build m0 m554 := xf_t g2556 (xf_s rfl (au_listUntils_fr e555))
  obtain ⟨-, h⟩ := xg_e h
  obtain ⟨m558, e559, h⟩ := xs_e h
  have g2558 : xf_r fl_au_build m0 m558 := xf_t g2557 (by rw [e559]; exact xf_i rfl)
  clear e559
  obtain ⟨-, h⟩ := xg_e h
  obtain ⟨m561, e562, h⟩ := xs_e h
  have g2559 : xf_r fl_au_build m0 m561 := xf_t g2558 (by rw [e562]; exact xf_i rfl)
  clear e562
  obtain ⟨m563, e564, h⟩ := xs_e h
  have g2560 : xf_r fl_au_build m0 m563 := xf_t g2559 (by rw [e564]; exact xf_i rfl)
  clear e564
  refine au_build_l56_fr (fun n696 m695 g2561 h => ?_) F (0 : Int32) n533 m563 g2560 h
  obtain ⟨rfl, h9⟩ := Prod.mk.inj (Option.some.inj h)
  obtain ⟨rfl, rfl⟩ := Prod.mk.inj h9
  exact g2561
def fl_mk_states : List Nat := [10, 11, 12, 13, 14, 15, 16, 17, 18, 19, 20, 21, 22, 23, 24, 25, 58]
theorem mk_states_fr {n : Nat} {F : Nat} {a1 : Int32} {r : Int32} {m0 m' : xm_S} {n' : Nat} (h : mk_states F n a1 m0 = some (r, n', m')) : xf_r fl_mk_states m0 m' := by
  unfold mk_states at h
  have gg : xf_r fl_mk_states m0 m0 := xf_0
  by_cases c520 : (bk_knows a1 m0) = 0
  · replace h := (if_pos c520).symm.trans h
    obtain ⟨rfl, h9⟩ := Prod.mk.inj (Option.some.inj h)
    obtain ⟨rfl, rfl⟩ := Prod.mk.inj h9
    exact gg
  · replace h := (if_neg c520).symm.trans h
    obtain ⟨v697, n700, m698, e699, l701, h⟩ := xc_a_e h
    have g2562 : xf_r fl_mk_states m0 m698 := xf_t gg (xf_s rfl (au_build_fr e699))
    by_cases c702 : v697 = 0
    · replace h := (if_pos c702).symm.trans h
      obtain ⟨rfl, h9⟩ := Prod.mk.inj (Option.some.inj h)
      obtain ⟨rfl, rfl⟩ := Prod.mk.inj h9
      exact g2562
    · replace h := (if_neg c702).symm.trans h
      obtain ⟨rfl, h9⟩ := Prod.mk.inj (Option.some.inj h)
      obtain ⟨rfl, rfl⟩ := Prod.mk.inj h9
      exact g2562
def fl_wi_forget : List Nat := [30]
theorem wi_forget_fr {F : Nat} {m0 m' : xm_S} (h : wi_forget F m0 = some m') : xf_r fl_wi_forget m0 m' := by
  unfold wi_forget at h
  have gg : xf_r fl_wi_forget m0 m0 := xf_0
  obtain ⟨m706, e707, h⟩ := xs_e h
  have g2563 : xf_r fl_wi_forget m0 m706 := xf_t gg (by rw [e707]; exact xf_i rfl)
  clear e707
  obtain ⟨m708, e709, h⟩ := xs_e h
  have g2564 : xf_r fl_wi_forget m0 m708 := xf_t g2563 (by rw [e709]; exact xf_i rfl)
  clear e709
  obtain ⟨m710, e711, h⟩ := xs_e h
  have g2565 : xf_r fl_wi_forget m0 m710 := xf_t g2564 (by rw [e711]; exact xf_i rfl)
  clear e711
  obtain ⟨m712, e713, h⟩ := xs_e h
  have g2566 : xf_r fl_wi_forget m0 m712 := xf_t g2565 (by rw [e713]; exact xf_i rfl)
  clear e713
  obtain rfl := Option.some.inj h
  exact g2566
def fl_gm_allRaised : List Nat := []
theorem gm_allRaised_l6_fr {F : Nat} {a765 : Int32} {a766 : Int32} {k : Int64 → xm_S → Option (Int64 × xm_S)} {r : Int64} {m0 m' : xm_S} 
    (hk : ∀ (z4 : Int64) (m : xm_S), xf_r fl_gm_allRaised m0 m → k z4 m = some (r, m') → xf_r fl_gm_allRaised m0 m') : ∀ (fu : Nat) (a767 : Int64) (a768 : Int32) (m764 : xm_S), xf_r fl_gm_allRaised m0 m764 → gm_allRaised_l6 F a765 a766 k fu a767 a768 m764 = some (r, m') → xf_r fl_gm_allRaised m0 m' := by
  intro fu
  induction fu with
  | zero => intro a767 a768 m764 gg h; cases h
  | succ fu ih =>
    intro a767 a768 m764 gg h
    rw [gm_allRaised_l6] at h
    by_cases c769 : (16 : Int32) ≤ a768
    · replace h := (if_pos c769).symm.trans h
      exact hk a767 m764 gg h
    · replace h := (if_neg c769).symm.trans h
      by_cases c770 : (a765 >>> (a768 &&& 31)) = 0
      · replace h := (if_pos c770).symm.trans h
        exact hk a767 m764 gg h
      · replace h := (if_neg c770).symm.trans h
        by_cases c771 : ((a765 >>> (a768 &&& 31)) &&& (1 : Int32)) = 0
        · replace h := (if_pos c771).symm.trans h
          exact ih a767 (a768 + (1 : Int32)) m764 gg h
        · replace h := (if_neg c771).symm.trans h
          exact ih (gm_raised a767 a768 a766) (a768 + (1 : Int32)) m764 gg h
theorem gm_allRaised_fr {F : Nat} {a0 : Int64} {a1 : Int32} {a2 : Int32} {r : Int64} {m0 m' : xm_S} (h : gm_allRaised F a0 a1 a2 m0 = some (r, m')) : xf_r fl_gm_allRaised m0 m' := by
  unfold gm_allRaised at h
  have gg : xf_r fl_gm_allRaised m0 m0 := xf_0
  refine gm_allRaised_l6_fr (fun x772 m773 g2567 h => ?_) F a0 (0 : Int32) m0 gg h
  obtain ⟨rfl, rfl⟩ := Prod.mk.inj (Option.some.inj h)
  exact g2567
def fl_gm_rowAfter : List Nat := []
theorem gm_rowAfter_l6_fr {F : Nat} {a747 : Int64} {a748 : Int32} {a749 : Int32} {k : Int64 → xm_S → Option (Int64 × xm_S)} {r : Int64} {m0 m' : xm_S} 
    (hk : ∀ (z5 : Int64) (m : xm_S), xf_r fl_gm_rowAfter m0 m → k z5 m = some (r, m') → xf_r fl_gm_rowAfter m0 m') : ∀ (fu : Nat) (a750 : Int64) (a751 : Int32) (m746 : xm_S), xf_r fl_gm_rowAfter m0 m746 → gm_rowAfter_l6 F a747 a748 a749 k fu a750 a751 m746 = some (r, m') → xf_r fl_gm_rowAfter m0 m' := by
  intro fu
  induction fu with
  | zero => intro a750 a751 m746 gg h; cases h
  | succ fu ih =>
    intro a750 a751 m746 gg h
    rw [gm_rowAfter_l6] at h
    by_cases c752 : (m746.1 20 6) ≤ a751
    · replace h := (if_pos c752).symm.trans h
      exact hk a750 m746 gg h
    · replace h := (if_neg c752).symm.trans h
      by_cases c753 : 0 ≤ (gm_counterOf a747 a751)
      · replace h := (if_pos c753).symm.trans h
        obtain ⟨-, h⟩ := xg_e h
        obtain ⟨j760, e761, h⟩ := xj_e h
        have q762 : ∀ (u759 : Unit), j760 u759 = some (r, m') → xf_r fl_gm_rowAfter m0 m' := by
          intro u759 h
          rw [e761] at h
          obtain ⟨-, h⟩ := xg_e h
          obtain ⟨v774, m775, e776, h⟩ := xc_m_e h
          have g2568 : xf_r fl_gm_rowAfter m0 m775 := xf_t gg (xf_s rfl (gm_allRaised_fr e776))
          obtain ⟨-, h⟩ := xg_e h
          obtain ⟨v779, m780, e781, h⟩ := xc_m_e h
          have g2569 : xf_r fl_gm_rowAfter m0 m780 := xf_t g2568 (xf_s rfl (gm_allRaised_fr e781))
          exact ih v779 (a751 + (1 : Int32)) m780 g2569 h
        clear e761
        by_cases c783 : (m746.1 25 ((a751 * (16 : Int32)) + a748).toNatClampNeg) = 0
        · replace h := (if_pos c783).symm.trans h
          exact q762 () h
        · replace h := (if_neg c783).symm.trans h
          by_cases c784 : (gm_counterOf a747 a751) < a749
          · replace h := (if_pos c784).symm.trans h
            exact q762 () h
          · replace h := (if_neg c784).symm.trans h
            obtain ⟨rfl, rfl⟩ := Prod.mk.inj (Option.some.inj h)
            exact gg
      · replace h := (if_neg c753).symm.trans h
        exact ih a750 (a751 + (1 : Int32)) m746 gg h
theorem gm_rowAfter_fr {F : Nat} {a1 : Int64} {a2 : Int32} {a3 : Int32} {r : Int64} {m0 m' : xm_S} (h : gm_rowAfter F a1 a2 a3 m0 = some (r, m')) : xf_r fl_gm_rowAfter m0 m' := by
  unfold gm_rowAfter at h
  have gg : xf_r fl_gm_rowAfter m0 m0 := xf_0
  refine gm_rowAfter_l6_fr (fun x785 m786 g2570 h => ?_) F (0 : Int64) (0 : Int32) m0 gg h
  obtain ⟨rfl, rfl⟩ := Prod.mk.inj (Option.some.inj h)
  exact g2570
def fl_gm_positionOf : List Nat := [26, 27]
theorem gm_positionOf_l2_fr {F : Nat} {a793 : Int64} {k : xm_S → Option (Int32 × xm_S)} {r : Int32} {m0 m' : xm_S} 
    (hk : ∀ (m : xm_S), xf_r fl_gm_positionOf m0 m → k m = some (r, m') → xf_r fl_gm_positionOf m0 m') : ∀ (fu : Nat) (a794 : Int32) (m792 : xm_S), xf_r fl_gm_positionOf m0 m792 → gm_positionOf_l2 F a793 k fu a794 m792 = some (r, m') → xf_r fl_gm_positionOf m0 m' := by
  intro fu
  induction fu with
  | zero => intro a794 m792 gg h; cases h
  | succ fu ih =>
    intro a794 m792 gg h
    rw [gm_positionOf_l2] at h
    by_cases c795 : (m792.1 26 2) ≤ a794
    · replace h := (if_pos c795).symm.trans h
      exact hk m792 gg h
    · replace h := (if_neg c795).symm.trans h
      obtain ⟨-, h⟩ := xg_e h
      by_cases c797 : (lg_cmp (m792.2 27 a794.toNatClampNeg) a793) = 0
      · replace h := (if_pos c797).symm.trans h
        obtain ⟨rfl, rfl⟩ := Prod.mk.inj (Option.some.inj h)
        exact gg
      · replace h := (if_neg c797).symm.trans h
        exact ih (a794 + (1 : Int32)) m792 gg h
theorem gm_positionOf_fr {F : Nat} {a1 : Int64} {r : Int32} {m0 m' : xm_S} (h : gm_positionOf F a1 m0 = some (r, m')) : xf_r fl_gm_positionOf m0 m' := by
  unfold gm_positionOf at h
  have gg : xf_r fl_gm_positionOf m0 m0 := xf_0
  refine gm_positionOf_l2_fr (fun m798 g2571 h => ?_) F (0 : Int32) m0 gg h
  by_cases c799 : (m798.1 26 2) < (100 : Int32)
  · replace h := (if_pos c799).symm.trans h
    obtain ⟨-, h⟩ := xg_e h
    obtain ⟨m801, e802, h⟩ := xs_e h
    have g2572 : xf_r fl_gm_positionOf m0 m801 := xf_t g2571 (by rw [e802]; exact xf_l rfl)
    clear e802
    obtain ⟨m803, e804, h⟩ := xs_e h
    have g2573 : xf_r fl_gm_positionOf m0 m803 := xf_t g2572 (by rw [e804]; exact xf_i rfl)
    clear e804
    obtain ⟨rfl, rfl⟩ := Prod.mk.inj (Option.some.inj h)
    exact g2573
  · replace h := (if_neg c799).symm.trans h
    obtain ⟨rfl, rfl⟩ := Prod.mk.inj (Option.some.inj h)
    exact g2571
def fl_gm_explore : List Nat := [26, 27, 28]
theorem gm_explore_l35_fr {F : Nat} {a741 : Int32} {a742 : Int32} {k : xm_S → Option (Int32 × xm_S)} {r : Int32} {m0 m' : xm_S} 
    (hk : ∀ (m : xm_S), xf_r fl_gm_explore m0 m → k m = some (r, m') → xf_r fl_gm_explore m0 m') : ∀ (fu : Nat) (a743 : Int32) (m740 : xm_S), xf_r fl_gm_explore m0 m740 → gm_explore_l35 F a741 a742 k fu a743 m740 = some (r, m') → xf_r fl_gm_explore m0 m' := by
  intro fu
  induction fu with
  | zero => intro a743 m740 gg h; cases h
  | succ fu ih =>
    intro a743 m740 gg h
    rw [gm_explore_l35] at h
    by_cases c744 : (16 : Int32) ≤ a743
    · replace h := (if_pos c744).symm.trans h
      exact hk m740 gg h
    · replace h := (if_neg c744).symm.trans h
      obtain ⟨-, h⟩ := xg_e h
      obtain ⟨v787, m788, e789, h⟩ := xc_m_e h
      have g2574 : xf_r fl_gm_explore m0 m788 := xf_t gg (xf_s rfl (gm_rowAfter_fr e789))
      obtain ⟨j812, e813, h⟩ := xj_e h
      have q814 : ∀ (x810 : Int32) (m811 : xm_S), xf_r fl_gm_explore m0 m811 → j812 x810 m811 = some (r, m') → xf_r fl_gm_explore m0 m' := by
        intro x810 m811 g2575 h
        rw [e813] at h
        by_cases c815 : x810 = (-2 : Int32)
        · replace h := (if_pos c815).symm.trans h
          obtain ⟨rfl, rfl⟩ := Prod.mk.inj (Option.some.inj h)
          exact g2575
        · replace h := (if_neg c815).symm.trans h
          obtain ⟨-, h⟩ := xg_e h
          obtain ⟨m817, e818, h⟩ := xs_e h
          have g2576 : xf_r fl_gm_explore m0 m817 := xf_t g2575 (by rw [e818]; exact xf_i rfl)
          clear e818
          exact ih (a743 + (1 : Int32)) m817 g2576 h
      clear e813
      by_cases c819 : (lg_cmp v787 (-1 : Int64)) = 0
      · replace h := (if_pos c819).symm.trans h
        exact q814 (-1 : Int32) m788 g2574 h
      · replace h := (if_neg c819).symm.trans h
        obtain ⟨v820, m821, e822, h⟩ := xc_m_e h
        have g2577 : xf_r fl_gm_explore m0 m821 := xf_t g2574 (xf_s rfl (gm_positionOf_fr e822))
        exact q814 v820 m821 g2577 h
theorem gm_explore_l19_fr {F : Nat} {a736 : Int32} {k : xm_S → Option (Int32 × xm_S)} {r : Int32} {m0 m' : xm_S} 
    (hk : ∀ (m : xm_S), xf_r fl_gm_explore m0 m → k m = some (r, m') → xf_r fl_gm_explore m0 m') : ∀ (fu : Nat) (a737 : Int32) (m735 : xm_S), xf_r fl_gm_explore m0 m735 → gm_explore_l19 F a736 k fu a737 m735 = some (r, m') → xf_r fl_gm_explore m0 m' := by
  intro fu
  induction fu with
  | zero => intro a737 m735 gg h; cases h
  | succ fu ih =>
    intro a737 m735 gg h
    rw [gm_explore_l19] at h
    by_cases c738 : (m735.1 26 2) ≤ a737
    · replace h := (if_pos c738).symm.trans h
      exact hk m735 gg h
    · replace h := (if_neg c738).symm.trans h
      by_cases c739 : (100 : Int32) ≤ a737
      · replace h := (if_pos c739).symm.trans h
        exact hk m735 gg h
      · replace h := (if_neg c739).symm.trans h
        refine gm_explore_l35_fr (fun m824 g2578 h => ?_) F (0 : Int32) m735 gg h
        exact ih (a737 + (1 : Int32)) m824 g2578 h
theorem gm_explore_fr {F : Nat} {a1 : Int32} {r : Int32} {m0 m' : xm_S} (h : gm_explore F a1 m0 = some (r, m')) : xf_r fl_gm_explore m0 m' := by
  unfold gm_explore at h
  have gg : xf_r fl_gm_explore m0 m0 := xf_0
  obtain ⟨-, h⟩ := xg_e h
  obtain ⟨m731, e732, h⟩ := xs_e h
  have g2579 : xf_r fl_gm_explore m0 m731 := xf_t gg (by rw [e732]; exact xf_l rfl)
  clear e732
  obtain ⟨m733, e734, h⟩ := xs_e h
  have g2580 : xf_r fl_gm_explore m0 m733 := xf_t g2579 (by rw [e734]; exact xf_i rfl)
  clear e734
  refine gm_explore_l19_fr (fun m825 g2581 h => ?_) F (0 : Int32) m733 g2580 h
  obtain ⟨rfl, rfl⟩ := Prod.mk.inj (Option.some.inj h)
  exact g2581
def fl_gm_follower : List Nat := []
theorem gm_follower_fr {F : Nat} {a1 : Int32} {a2 : Int32} {a3 : Int32} {r : Int32} {m0 m' : xm_S} (h : gm_follower F a1 a2 a3 m0 = some (r, m')) : xf_r fl_gm_follower m0 m' := by
  unfold gm_follower at h
  have gg : xf_r fl_gm_follower m0 m0 := xf_0
  obtain ⟨-, h⟩ := xg_e h
  obtain ⟨rfl, rfl⟩ := Prod.mk.inj (Option.some.inj h)
  exact gg
def fl_gm_isSafeBy : List Nat := []
theorem gm_isSafeBy_fr {F : Nat} {a1 : Int32} {a2 : Int32} {a3 : Int32} {r : Int32} {m0 m' : xm_S} (h : gm_isSafeBy F a1 a2 a3 m0 = some (r, m')) : xf_r fl_gm_isSafeBy m0 m' := by
  unfold gm_isSafeBy at h
  have gg : xf_r fl_gm_isSafeBy m0 m0 := xf_0
  obtain ⟨v865, m866, e867, h⟩ := xc_m_e h
  have g2582 : xf_r fl_gm_isSafeBy m0 m866 := xf_t gg (xf_s rfl (gm_follower_fr e867))
  by_cases c869 : v865 = (-1 : Int32)
  · replace h := (if_pos c869).symm.trans h
    obtain ⟨rfl, rfl⟩ := Prod.mk.inj (Option.some.inj h)
    exact g2582
  · replace h := (if_neg c869).symm.trans h
    obtain ⟨-, h⟩ := xg_e h
    by_cases c871 : (m866.1 29 v865.toNatClampNeg) = 0
    · replace h := (if_pos c871).symm.trans h
      obtain ⟨rfl, rfl⟩ := Prod.mk.inj (Option.some.inj h)
      exact g2582
    · replace h := (if_neg c871).symm.trans h
      obtain ⟨rfl, rfl⟩ := Prod.mk.inj (Option.some.inj h)
      exact g2582
def fl_gm_safeOutput : List Nat := []
theorem gm_safeOutput_l2_fr {F : Nat} {a860 : Int32} {a861 : Int32} {k : xm_S → Option (Int32 × xm_S)} {r : Int32} {m0 m' : xm_S} 
    (hk : ∀ (m : xm_S), xf_r fl_gm_safeOutput m0 m → k m = some (r, m') → xf_r fl_gm_safeOutput m0 m') : ∀ (fu : Nat) (a862 : Int32) (m859 : xm_S), xf_r fl_gm_safeOutput m0 m859 → gm_safeOutput_l2 F a860 a861 k fu a862 m859 = some (r, m') → xf_r fl_gm_safeOutput m0 m' := by
  intro fu
  induction fu with
  | zero => intro a862 m859 gg h; cases h
  | succ fu ih =>
    intro a862 m859 gg h
    rw [gm_safeOutput_l2] at h
    by_cases c863 : (4 : Int32) ≤ a862
    · replace h := (if_pos c863).symm.trans h
      exact hk m859 gg h
    · replace h := (if_neg c863).symm.trans h
      obtain ⟨v872, m873, e874, h⟩ := xc_m_e h
      have g2583 : xf_r fl_gm_safeOutput m0 m873 := xf_t gg (xf_s rfl (gm_isSafeBy_fr e874))
      by_cases c876 : v872 = 0
      · replace h := (if_pos c876).symm.trans h
        exact ih (a862 + (1 : Int32)) m873 g2583 h
      · replace h := (if_neg c876).symm.trans h
        obtain ⟨rfl, rfl⟩ := Prod.mk.inj (Option.some.inj h)
        exact g2583
theorem gm_safeOutput_fr {F : Nat} {a1 : Int32} {a2 : Int32} {r : Int32} {m0 m' : xm_S} (h : gm_safeOutput F a1 a2 m0 = some (r, m')) : xf_r fl_gm_safeOutput m0 m' := by
  unfold gm_safeOutput at h
  have gg : xf_r fl_gm_safeOutput m0 m0 := xf_0
  refine gm_safeOutput_l2_fr (fun m877 g2584 h => ?_) F (0 : Int32) m0 gg h
  obtain ⟨rfl, rfl⟩ := Prod.mk.inj (Option.some.inj h)
  exact g2584
def fl_gm_safeInput : List Nat := []
theorem gm_safeInput_l12_fr {F : Nat} {a889 : Int32} {a890 : Int32} {k : Int32 → xm_S → Option (Int32 × xm_S)} {r : Int32} {m0 m' : xm_S} 
    (hk : ∀ (z3 : Int32) (m : xm_S), xf_r fl_gm_safeInput m0 m → k z3 m = some (r, m') → xf_r fl_gm_safeInput m0 m') : ∀ (fu : Nat) (a891 : Int32) (a892 : Int32) (m888 : xm_S), xf_r fl_gm_safeInput m0 m888 → gm_safeInput_l12 F a889 a890 k fu a891 a892 m888 = some (r, m') → xf_r fl_gm_safeInput m0 m' := by
  intro fu
  induction fu with
  | zero => intro a891 a892 m888 gg h; cases h
  | succ fu ih =>
    intro a891 a892 m888 gg h
    rw [gm_safeInput_l12] at h
    by_cases c893 : (4 : Int32) ≤ a892
    · replace h := (if_pos c893).symm.trans h
      exact hk a891 m888 gg h
    · replace h := (if_neg c893).symm.trans h
      by_cases c894 : a891 = 0
      · replace h := (if_pos c894).symm.trans h
        exact hk a891 m888 gg h
      · replace h := (if_neg c894).symm.trans h
        obtain ⟨v895, m896, e897, h⟩ := xc_m_e h
        have g2585 : xf_r fl_gm_safeInput m0 m896 := xf_t gg (xf_s rfl (gm_isSafeBy_fr e897))
        exact ih v895 (a892 + (1 : Int32)) m896 g2585 h
theorem gm_safeInput_l2_fr {F : Nat} {a885 : Int32} {k : xm_S → Option (Int32 × xm_S)} {r : Int32} {m0 m' : xm_S} 
    (hk : ∀ (m : xm_S), xf_r fl_gm_safeInput m0 m → k m = some (r, m') → xf_r fl_gm_safeInput m0 m') : ∀ (fu : Nat) (a886 : Int32) (m884 : xm_S), xf_r fl_gm_safeInput m0 m884 → gm_safeInput_l2 F a885 k fu a886 m884 = some (r, m') → xf_r fl_gm_safeInput m0 m' := by
  intro fu
  induction fu with
  | zero => intro a886 m884 gg h; cases h
  | succ fu ih =>
    intro a886 m884 gg h
    rw [gm_safeInput_l2] at h
    by_cases c887 : (4 : Int32) ≤ a886
    · replace h := (if_pos c887).symm.trans h
      exact hk m884 gg h
    · replace h := (if_neg c887).symm.trans h
      refine gm_safeInput_l12_fr (fun x899 m900 g2586 h => ?_) F (1 : Int32) (0 : Int32) m884 gg h
      by_cases c901 : x899 = 0
      · replace h := (if_pos c901).symm.trans h
        exact ih (a886 + (1 : Int32)) m900 g2586 h
      · replace h := (if_neg c901).symm.trans h
        obtain ⟨rfl, rfl⟩ := Prod.mk.inj (Option.some.inj h)
        exact g2586
theorem gm_safeInput_fr {F : Nat} {a1 : Int32} {r : Int32} {m0 m' : xm_S} (h : gm_safeInput F a1 m0 = some (r, m')) : xf_r fl_gm_safeInput m0 m' := by
  unfold gm_safeInput at h
  have gg : xf_r fl_gm_safeInput m0 m0 := xf_0
  refine gm_safeInput_l2_fr (fun m902 g2587 h => ?_) F (0 : Int32) m0 gg h
  obtain ⟨rfl, rfl⟩ := Prod.mk.inj (Option.some.inj h)
  exact g2587
