/-! The winner: the beginning, and the whole. -/
theorem ja_f5 {c n : Nat} {x : Int32} (hn : n < 2 ^ 31) : ∀ (r i fu : Nat) (m : xm_S), i + r = n → r < fu → (∀ p, p < i → m.1 c p = x) → ∃ m' : xm_S, ja_fill_l5 c n x fu (nI i) m = some m' ∧ (∀ p, p < n → m'.1 c p = x) ∧ ∀ k, k ≠ c → m'.1 k = m.1 k := by
  intro r
  induction r with
  | zero =>
    intro i fu m hi hfu h
    obtain ⟨fu, rfl⟩ : ∃ g, fu = g + 1 := ⟨fu - 1, by omega⟩
    obtain rfl : i = n := by omega
    exact ⟨m, by rw [ja_fill_l5, if_pos (nI_le (Nat.le_refl _) hn)], h, fun _ _ => rfl⟩
  | succ r ih =>
    intro i fu m hi hfu h
    obtain ⟨fu, rfl⟩ : ∃ g, fu = g + 1 := ⟨fu - 1, by omega⟩
    rw [ja_fill_l5, if_neg (nI_ge (by omega) hn), xg_nI (by omega) hn, nI_clamp (by omega), nI_1]
    simp only [xs_m]
    obtain ⟨m', t1, t2, t3⟩ := ih (i + 1) fu (xw_i m c i x) (by omega) (by omega) (fun p hp => by
      by_cases z : p = i
      · subst z; exact xi_s
      · rw [xi_j z]; exact h p (by omega))
    exact ⟨m', t1, t2, fun k hk => by rw [t3 k hk, xi_k hk]⟩
theorem mb_36 {F : Nat} {v : Int32} {kk : xm_S → Option xm_S} : ∀ (r i fu : Nat) (m : xm_S), i + r = 100 → r < fu → (∀ p, p < i → m.1 53 p = -1) → ∃ m' : xm_S, mm_build_l36 F v kk fu (nI i) m = kk m' ∧ (∀ p, p < 100 → m'.1 53 p = -1) ∧ ∀ k, k ≠ 53 → m'.1 k = m.1 k := by
  intro r
  induction r with
  | zero =>
    intro i fu m hi hfu h
    obtain ⟨fu, rfl⟩ : ∃ g, fu = g + 1 := ⟨fu - 1, by omega⟩
    obtain rfl : i = 100 := by omega
    exact ⟨m, by rw [mm_build_l36, if_pos (show (100 : Int32) ≤ nI 100 by decide)], h, fun _ _ => rfl⟩
  | succ r ih =>
    intro i fu m hi hfu h
    obtain ⟨fu, rfl⟩ : ∃ g, fu = g + 1 := ⟨fu - 1, by omega⟩
    rw [mm_build_l36, if_neg (show ¬ (100 : Int32) ≤ nI i from nI_ge (b := 100) (by omega) (by decide)), xg_nI (by omega) (by decide), nI_clamp (by omega), nI_1]
    simp only [xs_m]
    obtain ⟨m', t1, t2, t3⟩ := ih (i + 1) fu (xw_i m 53 i (-1)) (by omega) (by omega) (fun p hp => by
      by_cases z : p = i
      · subst z; exact xi_s
      · rw [xi_j z]; exact h p (by omega))
    exact ⟨m', t1, t2, fun k hk => by rw [t3 k hk, xi_k hk]⟩
def gk_w (m m' : xm_S) : Prop := ∀ j, j < 23 ∨ 26 < j → m'.1 35 j = m.1 35 j
theorem w_bg {F cnt y : Nat} {E : Nat → Option Nat} {S : Nat → Bool} {pl : Bool} {mc mm : xm_S} (hF : 1000 < F) (hP : gr_P cnt E) (hC : sf_C cnt E S mc) (hM : sf_M cnt E S mm) (hS : S 0 = true) (h5 : mc.1 26 5 = nI y) (h22 : mm.1 35 22 = nI y) :
    ∃ (c : Nat) (L : Nat → Nat) (N : Nat → Option Nat) (a f : Nat → Nat) (mc' mm' : xm_S), wi_begin F (if pl = true then (1 : Int32) else 2) mc = some mc' ∧ mm_build F (bI pl) mm = mm_build_l63 F (bI pl) (fun (m2277 : xm_S) => some m2277) F (nI 0) mm' ∧ w_W cnt E S pl c L N a f (4 * 0) mc' mm' ∧
      (mc'.1 30 3 = nI cnt ∧ mc'.1 30 4 = nI y ∧ mm'.1 35 23 = (if pl = true then (1 : Int32) else 2) ∧ mm'.1 35 25 = nI cnt ∧ mm'.1 35 26 = nI y) ∧ gk_w mm mm' := by
  have h100 := hP.2.1
  unfold wi_begin mm_build
  simp only [xs_m]
  -- the class's memory before the fill
  generalize e1 : xw_i (xw_i (xw_i mc 30 1 (if pl = true then (1 : Int32) else 2)) 30 3 ((xw_i mc 30 1 (if pl = true then (1 : Int32) else 2)).1 26 2)) 30 4 ((xw_i (xw_i mc 30 1 (if pl = true then (1 : Int32) else 2)) 30 3 ((xw_i mc 30 1 (if pl = true then (1 : Int32) else 2)).1 26 2)).1 26 5) = m3
  have k1 : m3.1 30 1 = (if pl = true then (1 : Int32) else 2) := by rw [← e1, xi_j (by decide), xi_j (by decide), xi_s]
  have k3 : m3.1 30 3 = nI cnt := by rw [← e1, xi_j (by decide), xi_s, xi_k (by decide), hC.1.1]
  have k4 : m3.1 30 4 = nI y := by rw [← e1, xi_s, xi_k (by decide), xi_k (by decide), h5]
  have kk : ∀ k, k ≠ 30 → m3.1 k = mc.1 k := fun k hk => by rw [← e1, xi_k hk, xi_k hk, xi_k hk]
  obtain ⟨m4, a1, a2, a3⟩ := ja_f5 (c := 32) (n := 100) (x := -1) (by decide) 100 0 F m3 (by omega) (by omega) (fun p hp => by omega)
  have a1' : ja_fill F 32 100 (-1 : Int32) m3 = some m4 := a1
  rw [a1']
  simp only [xc_v]
  -- the reference's
  generalize e2 : xw_i (xw_i (xw_i (xw_i mm 35 23 (if bI pl = 0 then (2 : Int32) else (1 : Int32))) 35 24 (0 : Int32)) 35 25 ((xw_i (xw_i mm 35 23 (if bI pl = 0 then (2 : Int32) else (1 : Int32))) 35 24 (0 : Int32)).1 35 18)) 35 26 ((xw_i (xw_i (xw_i mm 35 23 (if bI pl = 0 then (2 : Int32) else (1 : Int32))) 35 24 (0 : Int32)) 35 25 ((xw_i (xw_i mm 35 23 (if bI pl = 0 then (2 : Int32) else (1 : Int32))) 35 24 (0 : Int32)).1 35 18)).1 35 22) = n3
  have q23 : n3.1 35 23 = (if pl = true then (1 : Int32) else 2) := by
    rw [← e2, xi_j (by decide), xi_j (by decide), xi_j (by decide), xi_s]
    cases pl <;> decide
  have q24 : n3.1 35 24 = nI 0 := by rw [← e2, xi_j (by decide), xi_j (by decide), xi_s]; rfl
  have q25 : n3.1 35 25 = nI cnt := by rw [← e2, xi_j (by decide), xi_s, xi_j (by decide), xi_j (by decide), hM.1.1]
  have q26 : n3.1 35 26 = nI y := by rw [← e2, xi_s, xi_j (by decide), xi_j (by decide), xi_j (by decide), h22]
  have qk : ∀ k, k ≠ 35 → n3.1 k = mm.1 k := fun k hk => by rw [← e2, xi_k hk, xi_k hk, xi_k hk, xi_k hk]
  have qj : ∀ j, j < 23 ∨ 26 < j → n3.1 35 j = mm.1 35 j := fun j hj => by rw [← e2, xi_j (by omega), xi_j (by omega), xi_j (by omega), xi_j (by omega)]
  obtain ⟨n4, b1, b2, b3⟩ := mb_36 (F := F) (v := bI pl) (kk := fun (m2198 : xm_S) => xc_m (mm_numberOf F (0 : Int32) m2198) fun v2224 m2225 => mm_build_l63 F (bI pl) (fun (m2277 : xm_S) => some m2277) F v2224 m2225) 100 0 F n3 (by omega) (by omega) (fun p hp => by omega)
  have b1' : mm_build_l36 F (bI pl) _ F (0 : Int32) n3 = _ := b1
  rw [b1']
  have W : w_W cnt E S pl 0 (fun _ => 0) (fun _ => none) (fun _ => 0) (fun _ => 0) (4 * 0) (xw_i m4 30 2 (0 : Int32)) n4 := by
    refine ⟨⟨⟨⟨?_, fun j hj => ?_⟩, fun v hv => ?_⟩, ⟨⟨?_, fun j hj => ?_⟩, fun v hv => ?_⟩, ?_⟩, ⟨?_, ?_, by omega⟩, fun s hs => by omega, fun p hp => ⟨fun s hs => (by cases hs), ?_, ?_⟩, fun j hj => by omega⟩
    · rw [xi_k (by decide), a3 _ (by decide), kk _ (by decide)]; exact hC.1.1
    · rw [xi_k (by decide), a3 _ (by decide), kk _ (by decide)]; exact hC.1.2 j hj
    · rw [xi_k (by decide), a3 _ (by decide), kk _ (by decide)]; exact hC.2 v hv
    · rw [b3 _ (by decide), qj _ (by omega)]; exact hM.1.1
    · rw [b3 _ (by decide), qk _ (by decide)]; exact hM.1.2 j hj
    · rw [b3 _ (by decide), qk _ (by decide)]; exact hM.2 v hv
    · rw [xi_j (by decide), a3 _ (by decide), k1]
    · exact xi_s
    · rw [b3 _ (by decide), q24]
    · rw [xi_k (by decide), a2 p hp]; rfl
    · rw [b2 p hp]; rfl
  obtain ⟨c', L', N', v, mc', mm', t1, t2, t3, t4, t5, t6, t7, -⟩ := w_st (F := F) (p := 0) hP W hP.1 hS
  obtain rfl : v = 0 := t6 rfl
  have t1' : wi_stateOf F (0 : Int32) (xw_i m4 30 2 (0 : Int32)) = _ := t1
  have t2' : mm_numberOf F (0 : Int32) n4 = _ := t2
  rw [t1', t2']
  simp only [xc_s]
  refine ⟨c', L', N', fun _ => 0, fun _ => 0, mc', mm', rfl, rfl, t3, ⟨?_, ?_, ?_, ?_, ?_⟩, fun j hj => ?_⟩
  · rw [t7.1 3 (by decide), xi_j (by decide), a3 _ (by decide), k3]
  · rw [t7.1 4 (by decide), xi_j (by decide), a3 _ (by decide), k4]
  · rw [t7.2 23 (by decide), b3 _ (by decide), q23]
  · rw [t7.2 25 (by decide), b3 _ (by decide), q25]
  · rw [t7.2 26 (by decide), b3 _ (by decide), q26]
  · rw [t7.2 j (by omega), b3 _ (by decide), qj j hj]
-- the winners agree
def wn_R (mc mm : xm_S) : Prop := ∃ (kd c x y : Nat), kd ≤ 2 ∧ c ≤ 100 ∧ (kd = 0 → c = 0) ∧ (mc.1 30 1 = nI kd ∧ mc.1 30 2 = nI c ∧ mc.1 30 3 = nI x ∧ mc.1 30 4 = nI y) ∧ (mm.1 35 23 = nI kd ∧ mm.1 35 24 = nI c ∧ mm.1 35 25 = nI x ∧ mm.1 35 26 = nI y) ∧ ∀ j, j < 4 * c → mc.1 33 j = mm.1 55 j ∧ mc.1 34 j = mm.1 56 j
theorem w_fin {cnt c y : Nat} {E : Nat → Option Nat} {S : Nat → Bool} {pl : Bool} {L : Nat → Nat} {N : Nat → Option Nat} {a f : Nat → Nat} {mc mm : xm_S} (W : w_W cnt E S pl c L N a f (4 * c) mc mm) (h : mc.1 30 3 = nI cnt ∧ mc.1 30 4 = nI y ∧ mm.1 35 23 = (if pl = true then (1 : Int32) else 2) ∧ mm.1 35 25 = nI cnt ∧ mm.1 35 26 = nI y) : wn_R mc mm := by
  obtain ⟨h1, h2, h3, h4, h5⟩ := h
  obtain ⟨w1, w2, w3, w4, w5⟩ := W
  refine ⟨if pl = true then 1 else 2, c, cnt, y, by cases pl <;> decide, w2.2.2, fun z => by cases pl <;> exact absurd z (by decide), ⟨?_, w2.1, h1, h2⟩, ⟨?_, w2.2.1, h4, h5⟩, fun j hj => ?_⟩
  · rw [w1.2.2]; cases pl <;> rfl
  · rw [h3]; cases pl <;> rfl
  · obtain ⟨u1, u2, u3, u4⟩ := w5 j hj
    rw [u1, u2, u3, u4]
    exact ⟨rfl, rfl⟩
theorem w_mach {F cnt y : Nat} {E : Nat → Option Nat} {S : Nat → Bool} {mc mm : xm_S} (hF : 1000 < F) (hP : gr_P cnt E) (hfix : ∀ p, p < cnt → S p = true → sf_s E true S p = true) (hC : sf_C cnt E S mc) (hM : sf_M cnt E S mm) (hS : S 0 = true) (h5 : mc.1 26 5 = nI y) (h22 : mm.1 35 22 = nI y) :
    ∃ mc' mm' : xm_S, wi_takeMachine F mc = some mc' ∧ mm_build F (1 : Int32) mm = some mm' ∧ wn_R mc' mm' ∧ gk_w mm mm' := by
  obtain ⟨c, L, N, a, f, m1, n1, a1, a2, a3, a4, a5⟩ := w_bg (F := F) (pl := true) hF hP hC hM hS h5 h22
  obtain ⟨c', L', N', a', f', m2, n2, b1, b2, b3, b4⟩ := w_7m (F := F) (kC := fun (m1059 : xm_S) => some m1059) (kM := fun (m2277 : xm_S) => some m2277) hF hP hfix 100 0 F F c L N a f m1 n1 (by omega) (by omega) (by omega) a3 (by omega)
  refine ⟨m2, n2, ?_, ?_, w_fin (y := y) b3 ⟨?_, ?_, ?_, ?_, ?_⟩, fun j hj => ?_⟩
  · unfold wi_takeMachine
    have a1' : wi_begin F (1 : Int32) mc = some m1 := a1
    rw [a1']
    exact b1
  · have a2' : mm_build F (1 : Int32) mm = _ := a2
    rw [a2']
    exact b2
  · rw [b4.1 3 (by decide)]; exact a4.1
  · rw [b4.1 4 (by decide)]; exact a4.2.1
  · rw [b4.2 23 (by decide)]; exact a4.2.2.1
  · rw [b4.2 25 (by decide)]; exact a4.2.2.2.1
  · rw [b4.2 26 (by decide)]; exact a4.2.2.2.2
  · rw [b4.2 j (by omega), a5 j hj]
theorem w_oppo {F cnt y : Nat} {E : Nat → Option Nat} {S : Nat → Bool} {mc mm : xm_S} (hF : 1000 < F) (hP : gr_P cnt E) (hfix : ∀ p, p < cnt → S p = true → sf_s E false S p = true) (hC : sf_C cnt E S mc) (hM : sf_M cnt E S mm) (hS : S 0 = true) (h5 : mc.1 26 5 = nI y) (h22 : mm.1 35 22 = nI y) :
    ∃ mc' mm' : xm_S, wi_takeOpponent F mc = some mc' ∧ mm_build F (0 : Int32) mm = some mm' ∧ wn_R mc' mm' ∧ gk_w mm mm' := by
  obtain ⟨c, L, N, a, f, m1, n1, a1, a2, a3, a4, a5⟩ := w_bg (F := F) (pl := false) hF hP hC hM hS h5 h22
  obtain ⟨c', L', N', a', f', m2, n2, b1, b2, b3, b4⟩ := w_7o (F := F) (kC := fun (m1059 : xm_S) => some m1059) (kM := fun (m2277 : xm_S) => some m2277) hF hP hfix 100 0 F F c L N a f m1 n1 (by omega) (by omega) (by omega) a3 (by omega)
  refine ⟨m2, n2, ?_, ?_, w_fin (y := y) b3 ⟨?_, ?_, ?_, ?_, ?_⟩, fun j hj => ?_⟩
  · unfold wi_takeOpponent
    have a1' : wi_begin F (2 : Int32) mc = some m1 := a1
    rw [a1']
    exact b1
  · have a2' : mm_build F (0 : Int32) mm = _ := a2
    rw [a2']
    exact b2
  · rw [b4.1 3 (by decide)]; exact a4.1
  · rw [b4.1 4 (by decide)]; exact a4.2.1
  · rw [b4.2 23 (by decide)]; exact a4.2.2.1
  · rw [b4.2 25 (by decide)]; exact a4.2.2.2.1
  · rw [b4.2 26 (by decide)]; exact a4.2.2.2.2
  · rw [b4.2 j (by omega), a5 j hj]
