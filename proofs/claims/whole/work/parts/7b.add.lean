/-! The class: steps from one state by one letter, the whole. -/
def st_g (p : Nat) (m m' : xm_S) : Prop := xf_r [14, 15, 16, 17, 18, 19, 20, 22, 23, 24, 25] m m' ∧ (∀ j, j ≠ 6 → m'.1 20 j = m.1 20 j) ∧ (∀ j, j ≠ p → m'.1 24 j = m.1 24 j ∧ m'.1 25 j = m.1 25 j)
theorem st_gt {p : Nat} {a b c : xm_S} (h : st_g p a b) (k : st_g p b c) : st_g p a c := ⟨xf_t h.1 k.1, fun j hj => (k.2.1 j hj).trans (h.2.1 j hj), fun j hj => ⟨(k.2.2 j hj).1.trans (h.2.2 j hj).1, (k.2.2 j hj).2.trans (h.2.2 j hj).2⟩⟩
theorem al_C_f {T : bo_T} {U : Nat × (Nat → Nat)} {f n : Nat} {q : Nat → Nat × Nat} {m m' : xm_S} (h : al_C T U f q n m) (h20 : m'.1 20 = m.1 20) (h21 : m'.1 21 = m.1 21) (h22 : m'.1 22 = m.1 22) (h23 : m'.1 23 = m.1 23) : al_C T U f q n m' := by
  unfold al_C as_C at *
  rw [h20, h21, h22, h23]
  exact h
theorem st_add {F N s l f n : Nat} {T : bo_T} {U : Nat × (Nat → Nat)} {q : Nat → Nat × Nat} {m : xm_S} (hF : 100 < F) (hN : N ≤ 6) (hU : U.1 ≤ 28) (hU2 : ∀ i, i < U.1 → U.2 i < 28) (hb : ∀ t, au_r T U f t → sq_b t ∧ t.2 ≤ U.1) (hl : l < 16) (hL : al_C T U f q n m) (hs : s < n) (hrow : ∀ j, (q s).1.testBit j = true → ∃ c e, kt_G N j l (wp_f T l j) c e m) :
    ∃ (v : Int32) (m' : xm_S), au_addSteps F N (nI s) (nI l) m = some (v, m') ∧ st_g (16 * s + l) m m' ∧ ((v = 1 ∧ jo_w T l (q s).1 28 ∧ ∃ (q' : Nat → Nat × Nat) (n' A G : Nat), sq_x q n q' n' ∧ al_C T U f q' n' m' ∧ m'.1 24 (16 * s + l) = nI A ∧ m'.1 25 (16 * s + l) = nI G ∧ sp_W U q' n' (q' s) (jp_w T l (q s).1 28) A G) ∨ (v = 0 ∧ ¬ af_K T U f)) := by
  have hn := hL.1.2.1
  obtain ⟨⟨b1, b2⟩, b3⟩ := hb (q s) (hL.2.2.1 s hs)
  have hp : 16 * s + l < 256 := by omega
  have hcl : (nI (16 * s + l)).toNatClampNeg = 16 * s + l := nI_clamp (by omega)
  have hg : ∀ {β : Type} {o : Option β}, xg_n (nI (16 * s + l)) 256 o = o := fun {β o} => xg_nI hp (by decide)
  have ei : (nI s * (16 : Int32)) + nI l = nI (16 * s + l) := wc_n
  unfold au_addSteps
  rw [xg_nI (show s < 16 by omega) (by decide), nI_clamp (show s < 2 ^ 31 by omega), (hL.1.2.2 s hs).2.1, ei]
  obtain ⟨c, m1, c1, c2, c3⟩ := jc_all (F := F) (N := N) (T := T) (l := l) (S := (q s).1) (m := m) hF hN hl b1 hrow
  have g1 := wt_waysOfSet_fr c2
  have f1 : st_g (16 * s + l) m m1 := ⟨xf_s rfl g1, fun j hj => by rw [(g1 20 rfl).1], fun j hj => ⟨by rw [(g1 24 rfl).1], by rw [(g1 25 rfl).1]⟩⟩
  rw [c2]
  simp only [xc_s, hg, hcl]
  unfold xw_k
  rw [if_pos (show c = 14 ∨ c = 16 ∨ c = 18 from by omega)]
  rcases c3 with ⟨d1, cnt, d2⟩ | ⟨d1, d2⟩
  · obtain ⟨e1, e2, e3, e4, e5⟩ := d2
    rw [if_pos e1]
    simp only [xs_m]
    have hL1 : al_C T U f q n m1 := al_C_f hL (g1 20 rfl).1 (g1 21 rfl).1 (g1 22 rfl).1 (g1 23 rfl).1
    have kc : ∀ (x y : Int32), (xw_i (xw_i m1 24 (16 * s + l) x) 25 (16 * s + l) y).1 c = m1.1 c := fun x y => by
      rw [xi_k (by omega), xi_k (by omega)]
    have f2 : st_g (16 * s + l) m1 (xw_i (xw_i m1 24 (16 * s + l) 0) 25 (16 * s + l) 0) := ⟨xf_t (xf_i rfl) (xf_i rfl), fun j _ => by rw [xi_k (by decide), xi_k (by decide)], fun j hj => ⟨by rw [xi_k (by decide), xi_j hj], by rw [xi_j hj, xi_k (by decide)]⟩⟩
    obtain ⟨m2, k1, k2⟩ := st_51 (F := F) (N := N) (c := c) (s := s) (l := l) (cnt := cnt) (f := f) (T := T) (U := U) (w := m1.2 (c + 1)) (kk := fun (m687 : xm_S) => some ((1 : Int32), m687)) hF c1 hU hU2 hb e3 hl cnt 0 F n 0 0 q (xw_i (xw_i m1 24 (16 * s + l) 0) 25 (16 * s + l) 0) (by omega) (by omega) (by rw [kc, e2]) (fun j hj => rfl) (al_C_f hL1 (by rw [xi_k (by decide), xi_k (by decide)]) (by rw [xi_k (by decide), xi_k (by decide)]) (by rw [xi_k (by decide), xi_k (by decide)]) (by rw [xi_k (by decide), xi_k (by decide)])) hs (fun j hj => (e5 _).mpr ⟨j, hj, rfl⟩) (by rw [xi_k (by decide), xi_s]; rfl) xi_s (sp_iff (fun x => ⟨fun h => h.elim, fun ⟨j, h, _⟩ => by omega⟩) sp_0)
    have f3 : st_g (16 * s + l) m m2 := st_gt f1 (st_gt f2 ⟨xf_s rfl k1.1, k1.2.1, k1.2.2⟩)
    rcases k2 with ⟨q', n', A, G, y1, y2, y3, y4, y5, y6⟩ | ⟨y1, y2⟩
    · refine ⟨1, m2, y1, f3, Or.inl ⟨rfl, d1, q', n', A, G, y2, y3, y4, y5, sp_iff (fun x => ?_) y6⟩⟩
      rw [e5 x]
      exact ⟨fun ⟨j, h, e⟩ => ⟨j, h, e.symm⟩, fun ⟨j, h, e⟩ => ⟨j, h, e.symm⟩⟩
    · exact ⟨0, m2, y1, f3, Or.inr ⟨rfl, fun z => y2 z.1⟩⟩
  · rw [if_neg (by rw [d2]; decide)]
    exact ⟨0, m1, rfl, f1, Or.inr ⟨rfl, fun z => d1 (z.2 (q s) (hL.2.2.1 s hs) l hl)⟩⟩
