/-! The reference: the automaton, the whole; states. -/
def au_M (T : bo_T) (PS : Nat → Nat) (f : Nat) (q : Nat → Nat × Nat) (n : Nat) (m : xm_S) : Prop := al_M T (ut_w T (PS f) (f + 1)) f q n m ∧ 0 < n ∧ n ≤ 16 ∧ q 0 = (2 ^ f, 0) ∧ ∀ s l, s < n → l < 16 → rw_M T (ut_w T (PS f) (f + 1)) q n m s l
theorem bm_all {F f : Nat} {T : bo_T} {PS : Nat → Nat} {m mP : xm_S} (hF : 100 < F) (hW : bt_W T) (hM : bt_M T m) (hP : bt_P T PS mP) (hf : f < T.1) :
    ∃ (v : Int32) (m' : xm_S), mm_automaton F (nI f) m = some (v, m') ∧ (∀ j, j ≠ 9 → j ≠ 11 → j ≠ 17 → m'.1 35 j = m.1 35 j) ∧ ((v = 1 ∧ au_K T PS f ∧ ∃ q n, au_M T PS f q n m') ∨ (v = 0 ∧ ¬ au_K T PS f)) := by
  have h28 := hW.1
  have hU := ut_w_le (T := T) (S := PS f) (f + 1)
  have hr := fun s hs => au_r_b (U := ut_w T (PS f) (f + 1)) hW hP hf s hs
  have hb : ∀ t, au_r T (ut_w T (PS f) (f + 1)) f t → sq_b t ∧ t.2 ≤ (ut_w T (PS f) (f + 1)).1 := fun t ht => by
    obtain ⟨⟨a, b⟩, c⟩ := hr t ht
    refine ⟨⟨Nat.lt_of_lt_of_le a (Nat.pow_le_pow_right (by decide) (by omega)), ?_⟩, c⟩
    have := hU.1
    omega
  unfold mm_automaton
  obtain ⟨m1, a1, a2⟩ := bm_2 (F := F) (kk := fun (m1698 : xm_S) => xc_v (mm_findUntils F (nI f) m1698) fun m1740 => xs_m (xw_i m1740 35 11 (0 : Int32)) fun m1743 => xc_m (mm_stateOf F ((1 : Int32) <<< ((nI f) &&& 31)) (0 : Int32) m1743) fun v1763 m1764 => mm_automaton_l54 F (fun (m1918 : xm_S) => some ((1 : Int32), m1918)) F v1763 m1764) hF hW hP hf 16 0 F m (by omega) (by omega) hM (fun l' h => by omega)
  rcases a2 with ⟨b1, b2⟩ | ⟨b1, b2⟩
  · have b1' : mm_automaton_l2 F (nI f) _ F (0 : Int32) m = _ := b1
    rw [b1']
    have hM1 := bt_M_f hM a1 rfl rfl rfl rfl
    obtain ⟨m2, c1, c2, c3⟩ := um_all (F := F) hF hW hP hf hM1
    have g2 := mm_findUntils_fr c1
    rw [c1]
    simp only [xc_v, xs_m]
    rw [nb_one (by omega)]
    rcases so_m (F := F) (n := 0) (q := fun _ => (2 ^ f, 0)) (t := (2 ^ f, 0)) (m := xw_i m2 35 11 0) hF ⟨xi_s, by decide, fun i hi => by omega⟩ (by decide) (hb _ au_r_z).1 with ⟨j, j1, -⟩ | ⟨-, m3, j3, j4, j5, j6⟩
    · omega
    · have j3' : mm_stateOf F (nI (2 ^ f)) (0 : Int32) (xw_i m2 35 11 0) = some (nI 0, m3) := j3
      rw [j3']
      simp only [xc_s]
      have k35 : ∀ j, j ≠ 11 → j ≠ 17 → m3.1 35 j = m1.1 35 j := fun j h1 h2 => by rw [j6 j h1, xi_j h1, c3 j h2]
      have kx : ∀ c, xf_in [35, 45, 46] c = false → xf_in fl_mm_findUntils c = false → c ≠ 35 → m3.1 c = m1.1 c := fun c h1 h2 h3 => by rw [(j5 c h1).1, xi_k h3, (g2 c h2).1]
      obtain ⟨m4, d1, d2⟩ := bm_54 (F := F) (f := f) (T := T) (PS := PS) (U := ut_w T (PS f) (f + 1)) (kk := fun (m1918 : xm_S) => some ((1 : Int32), m1918)) hF hW hP hf b2 (by have := hU.1; omega) (fun i hi => by have := hU.2 i hi; omega) hb (fun t ht => (hr t ht).1) 16 0 F 1 _ m3 (by omega) (by omega) (bt_M_g hM1 (k35 0 (by decide) (by decide)) (kx 36 rfl rfl (by decide)) (kx 37 rfl rfl (by decide)) (kx 38 rfl rfl (by decide))) ⟨j4, fun i j hi hj _ => by omega, fun i hi => by
        obtain rfl : i = 0 := by omega
        rw [sq_n]; exact au_r_z, by rw [j6 17 (by decide), xi_j (by decide)]; exact c2.1, fun i hi => by rw [(j5 49 rfl).1, xi_k (by decide)]; exact c2.2 i hi⟩ (by decide) (by omega) (fun s' l' h => by omega)
      have k4 : ∀ j, j ≠ 9 → j ≠ 11 → j ≠ 17 → m4.1 35 j = m.1 35 j := fun j h1 h2 h3 => by rw [d1.2 j h1 h2, k35 j h2 h3, (a1 35 rfl).1]
      rcases d2 with ⟨q, n, y1, y0, y2, y3, y4⟩ | ⟨y1, y2⟩
      · have hz : q 0 = (2 ^ f, 0) := by rw [y2.2 0 (by decide), sq_n]
        have hn := y2.1
        have hall := af_all (T := T) (U := ut_w T (PS f) (f + 1)) (f := f) (n := n) (q := q) (by omega) hz (fun i hi l hl x hx => by
          obtain ⟨-, A, G, -, -, hS⟩ := y4 i l hi hl
          exact hS.2.2.2 x hx)
        refine ⟨1, m4, y1, k4, Or.inl ⟨rfl, ⟨b2, ⟨n, q, y0, hall⟩, fun s hs l hl => ?_⟩, q, n, y3, by omega, y0, hz, y4⟩⟩
        obtain ⟨i, hi, e⟩ := hall s hs
        rw [← e]
        exact (y4 i l hi hl).1
      · exact ⟨0, m4, y1, k4, Or.inr ⟨rfl, fun z => y2 z.2⟩⟩
  · exact ⟨0, m1, b1, fun j _ _ _ => by rw [(a1 35 rfl).1], Or.inr ⟨rfl, fun z => b2 z.1⟩⟩
