/-! The winner: the loops. -/
theorem sf_b_v {E : Nat → Option Nat} {S : Nat → Bool} {p i o : Nat} (h : sf_b E S p i o = true) : ∃ v, E (16 * p + i + 4 * o) = some v ∧ S v = true := by
  unfold sf_b at h
  cases e : E (16 * p + i + 4 * o) with
  | none => rw [e] at h; cases h
  | some v => rw [e] at h; exact ⟨v, rfl, h⟩
theorem sf_o_some {E : Nat → Option Nat} {S : Nat → Bool} {p i : Nat} (h : (sf_o E S p i).isSome = true) : ∃ o, o < 4 ∧ sf_o E S p i = some o ∧ ∃ v, E (16 * p + i + 4 * o) = some v ∧ S v = true := by
  by_cases b0 : sf_b E S p i 0 = true
  · exact ⟨0, by decide, by unfold sf_o; rw [if_pos b0], sf_b_v b0⟩
  by_cases b1 : sf_b E S p i 1 = true
  · exact ⟨1, by decide, by unfold sf_o; rw [if_neg b0, if_pos b1], sf_b_v b1⟩
  by_cases b2 : sf_b E S p i 2 = true
  · exact ⟨2, by decide, by unfold sf_o; rw [if_neg b0, if_neg b1, if_pos b2], sf_b_v b2⟩
  by_cases b3 : sf_b E S p i 3 = true
  · exact ⟨3, by decide, by unfold sf_o; rw [if_neg b0, if_neg b1, if_neg b2, if_pos b3], sf_b_v b3⟩
  · unfold sf_o at h
    rw [if_neg b0, if_neg b1, if_neg b2, if_neg b3] at h
    cases h
theorem sf_a_v {E : Nat → Option Nat} {S : Nat → Bool} {p i : Nat} (h : sf_a E S p i = true) : ∀ o, o < 4 → ∃ v, E (16 * p + i + 4 * o) = some v ∧ S v = true := by
  unfold sf_a at h
  simp only [Bool.and_eq_true] at h
  obtain ⟨⟨⟨a, b⟩, c⟩, d⟩ := h
  intro o ho
  have : o = 0 ∨ o = 1 ∨ o = 2 ∨ o = 3 := by omega
  rcases this with rfl | rfl | rfl | rfl
  · exact sf_b_v a
  · exact sf_b_v b
  · exact sf_b_v c
  · exact sf_b_v d
theorem sf_i_some {E : Nat → Option Nat} {S : Nat → Bool} {p : Nat} (h : (sf_i E S p).isSome = true) : ∃ i, i < 4 ∧ sf_i E S p = some i ∧ ∀ o, o < 4 → ∃ v, E (16 * p + i + 4 * o) = some v ∧ S v = true := by
  by_cases b0 : sf_a E S p 0 = true
  · exact ⟨0, by decide, by unfold sf_i; rw [if_pos b0], sf_a_v b0⟩
  by_cases b1 : sf_a E S p 1 = true
  · exact ⟨1, by decide, by unfold sf_i; rw [if_neg b0, if_pos b1], sf_a_v b1⟩
  by_cases b2 : sf_a E S p 2 = true
  · exact ⟨2, by decide, by unfold sf_i; rw [if_neg b0, if_neg b1, if_pos b2], sf_a_v b2⟩
  by_cases b3 : sf_a E S p 3 = true
  · exact ⟨3, by decide, by unfold sf_i; rw [if_neg b0, if_neg b1, if_neg b2, if_pos b3], sf_a_v b3⟩
  · unfold sf_i at h
    rw [if_neg b0, if_neg b1, if_neg b2, if_neg b3] at h
    cases h
theorem sf_s_m {E : Nat → Option Nat} {S : Nat → Bool} {p : Nat} (h : sf_s E true S p = true) : ∀ i, i < 4 → (sf_o E S p i).isSome = true := by
  unfold sf_s at h
  simp only [Bool.and_eq_true] at h
  obtain ⟨⟨⟨a, b⟩, c⟩, d⟩ := h
  intro o ho
  have : o = 0 ∨ o = 1 ∨ o = 2 ∨ o = 3 := by omega
  rcases this with rfl | rfl | rfl | rfl
  · exact a
  · exact b
  · exact c
  · exact d
theorem w_82 {F s p k x fu : Nat} {pl : Bool} {kM : xm_S → Option xm_S} {mm : xm_S} (hk : k < 4) (h1 : pl = true → mm_output F (nI p) (nI k) mm = some (nI x, mm)) (h2 : pl = false → mm_input F (nI p) mm = some (nI x, mm)) :
    mm_build_l82 F (bI pl) (nI s) (nI p) kM (fu + 1) (nI k) mm = (xg_n (((4 : Int32) * nI s) + nI k) 400 (xs_m (xw_i mm 55 (((4 : Int32) * nI s) + nI k).toNatClampNeg (nI x)) fun m2255 => xg_n (((16 : Int32) * nI p) + (if bI pl = 0 then nI x + ((4 : Int32) * nI k) else nI k + ((4 : Int32) * nI x))) 1600 (xc_m (mm_numberOf F (m2255.1 51 (((16 : Int32) * nI p) + (if bI pl = 0 then nI x + ((4 : Int32) * nI k) else nI k + ((4 : Int32) * nI x))).toNatClampNeg) m2255) fun v2259 m2260 => xg_n (((4 : Int32) * nI s) + nI k) 400 (xs_m (xw_i m2260 56 (((4 : Int32) * nI s) + nI k).toNatClampNeg v2259) fun m2264 => mm_build_l82 F (bI pl) (nI s) (nI p) kM fu (nI k + (1 : Int32)) m2264)))) := by
  rw [mm_build_l82, if_neg (show ¬ (4 : Int32) ≤ nI k from nI_ge (b := 4) hk (by decide))]
  simp only [xj_j]
  cases pl with
  | true => rw [if_neg (show ¬ bI true = 0 by decide), h1 rfl, xc_s]
  | false => rw [if_pos (show bI false = 0 from rfl), h2 rfl, xc_s]
section WINNER
variable {F cnt : Nat} {E : Nat → Option Nat} {S : Nat → Bool}
theorem w_30 {s p0 : Nat} {kC kM : xm_S → Option xm_S} (hF : 1000 < F) (hP : gr_P cnt E) (hfix : ∀ p, p < cnt → S p = true → sf_s E true S p = true) : ∀ (r k fu fu' c : Nat) (L : Nat → Nat) (N : Nat → Option Nat) (a f : Nat → Nat) (mc mm : xm_S), k + r = 4 → r < fu → r < fu' → w_W cnt E S true c L N a f (4 * s + k) mc mm → s < c → L s = p0 →
    ∃ (c' : Nat) (L' : Nat → Nat) (N' : Nat → Option Nat) (a' f' : Nat → Nat) (mc' mm' : xm_S), wi_takeMachine_l30 F (nI s) (nI p0) kC fu (nI k) mc = kC mc' ∧ mm_build_l82 F (bI true) (nI s) (nI p0) kM fu' (nI k) mm = kM mm' ∧ w_W cnt E S true c' L' N' a' f' (4 * s + 4) mc' mm' ∧ c ≤ c' ∧ w_f mc mc' mm mm' := by
  intro r
  induction r with
  | zero =>
    intro k fu fu' c L N a f mc mm hk hfu hfu' W hs hL
    obtain ⟨fu, rfl⟩ : ∃ g, fu = g + 1 := ⟨fu - 1, by omega⟩
    obtain ⟨fu', rfl⟩ : ∃ g, fu' = g + 1 := ⟨fu' - 1, by omega⟩
    obtain rfl : k = 4 := by omega
    refine ⟨c, L, N, a, f, mc, mm, ?_, ?_, W, Nat.le_refl _, fun _ _ => rfl, fun _ _ => rfl⟩
    · rw [wi_takeMachine_l30, if_pos (show (4 : Int32) ≤ nI 4 by decide)]
    · rw [mm_build_l82, if_pos (show (4 : Int32) ≤ nI 4 by decide)]
  | succ r ih =>
    intro k fu fu' c L N a f mc mm hk hfu hfu' W hs hL
    obtain ⟨fu, rfl⟩ : ∃ g, fu = g + 1 := ⟨fu - 1, by omega⟩
    obtain ⟨fu', rfl⟩ : ∃ g, fu' = g + 1 := ⟨fu' - 1, by omega⟩
    have hk4 : k < 4 := by omega
    obtain ⟨l1, l2, -⟩ := W.2.2.1 s hs
    rw [hL] at l1 l2
    obtain ⟨o, o1, o2, v, o3, o4⟩ := sf_o_some (sf_s_m (hfix p0 l1 l2) k hk4)
    have c1 := sc_o (F := F) (p := p0) hF hP W.1.1 l1 hk4
    have m1 := sm_o (F := F) (p := p0) hF hP W.1.2.1 l1 hk4
    rw [o2] at c1 m1
    have c1' : gm_safeOutput F (nI p0) (nI k) mc = some (nI o, mc) := c1
    have m1' : mm_output F (nI p0) (nI k) mm = some (nI o, mm) := m1
    rw [wi_takeMachine_l30, if_neg (show ¬ (4 : Int32) ≤ nI k from nI_ge (b := 4) hk4 (by decide)), c1']
    simp only [xc_s]
    rw [w_82 hk4 (fun _ => m1') (fun h => by cases h)]
    obtain ⟨c', L', N', a', f', mc', mm', t1, t2, t3, t4, t5⟩ := w_ad (F := F) (gi := k) (go := o) (x := o) (v := v) (kM := fun m2264 => mm_build_l82 F (bI true) (nI s) (nI p0) kM fu' (nI k + (1 : Int32)) m2264) hP W hs hk4 hk4 o1 (by rw [hL]; exact o3) o4 (fun _ => ⟨rfl, rfl⟩) (fun h => by cases h)
    rw [hL] at t2
    rw [t1, t2]
    simp only [xc_v]
    rw [nI_1]
    obtain ⟨c2, L2, N2, a2, f2, mc2, mm2, u1, u2, u3, u4, u5⟩ := ih (k + 1) fu fu' c' L' N' a' f' mc' mm' (by omega) (by omega) (by omega) t3 (by omega) (by rw [t4.2, hL])
    exact ⟨c2, L2, N2, a2, f2, mc2, mm2, u1, u2, u3, Nat.le_trans t4.1 u4, w_ft t5 u5⟩
theorem w_37 {s p0 gi : Nat} {kC kM : xm_S → Option xm_S} (hF : 1000 < F) (hP : gr_P cnt E) (hgi : gi < 4) (hi : sf_i E S p0 = some gi) (hv : ∀ o, o < 4 → ∃ v, E (16 * p0 + gi + 4 * o) = some v ∧ S v = true) : ∀ (r k fu fu' c : Nat) (L : Nat → Nat) (N : Nat → Option Nat) (a f : Nat → Nat) (mc mm : xm_S), k + r = 4 → r < fu → r < fu' → w_W cnt E S false c L N a f (4 * s + k) mc mm → s < c → L s = p0 →
    ∃ (c' : Nat) (L' : Nat → Nat) (N' : Nat → Option Nat) (a' f' : Nat → Nat) (mc' mm' : xm_S), wi_takeOpponent_l37 F (nI s) (nI gi) kC fu (nI k) mc = kC mc' ∧ mm_build_l82 F (bI false) (nI s) (nI p0) kM fu' (nI k) mm = kM mm' ∧ w_W cnt E S false c' L' N' a' f' (4 * s + 4) mc' mm' ∧ c ≤ c' ∧ w_f mc mc' mm mm' := by
  intro r
  induction r with
  | zero =>
    intro k fu fu' c L N a f mc mm hk hfu hfu' W hs hL
    obtain ⟨fu, rfl⟩ : ∃ g, fu = g + 1 := ⟨fu - 1, by omega⟩
    obtain ⟨fu', rfl⟩ : ∃ g, fu' = g + 1 := ⟨fu' - 1, by omega⟩
    obtain rfl : k = 4 := by omega
    refine ⟨c, L, N, a, f, mc, mm, ?_, ?_, W, Nat.le_refl _, fun _ _ => rfl, fun _ _ => rfl⟩
    · rw [wi_takeOpponent_l37, if_pos (show (4 : Int32) ≤ nI 4 by decide)]
    · rw [mm_build_l82, if_pos (show (4 : Int32) ≤ nI 4 by decide)]
  | succ r ih =>
    intro k fu fu' c L N a f mc mm hk hfu hfu' W hs hL
    obtain ⟨fu, rfl⟩ : ∃ g, fu = g + 1 := ⟨fu - 1, by omega⟩
    obtain ⟨fu', rfl⟩ : ∃ g, fu' = g + 1 := ⟨fu' - 1, by omega⟩
    have hk4 : k < 4 := by omega
    obtain ⟨l1, l2, -⟩ := W.2.2.1 s hs
    rw [hL] at l1 l2
    obtain ⟨v, o3, o4⟩ := hv k hk4
    have m1 := sm_i (F := F) (p := p0) hF hP W.1.2.1 l1
    rw [hi] at m1
    have m1' : mm_input F (nI p0) mm = some (nI gi, mm) := m1
    rw [wi_takeOpponent_l37, if_neg (show ¬ (4 : Int32) ≤ nI k from nI_ge (b := 4) hk4 (by decide)), w_82 hk4 (fun h => by cases h) (fun _ => m1')]
    obtain ⟨c', L', N', a', f', mc', mm', t1, t2, t3, t4, t5⟩ := w_ad (F := F) (gi := gi) (go := k) (x := gi) (v := v) (kM := fun m2264 => mm_build_l82 F (bI false) (nI s) (nI p0) kM fu' (nI k + (1 : Int32)) m2264) hP W hs hk4 hgi hk4 (by rw [hL]; exact o3) o4 (fun h => by cases h) (fun _ => ⟨rfl, rfl⟩)
    rw [hL] at t2
    rw [t1, t2]
    simp only [xc_v]
    rw [nI_1]
    obtain ⟨c2, L2, N2, a2, f2, mc2, mm2, u1, u2, u3, u4, u5⟩ := ih (k + 1) fu fu' c' L' N' a' f' mc' mm' (by omega) (by omega) (by omega) t3 (by omega) (by rw [t4.2, hL])
    exact ⟨c2, L2, N2, a2, f2, mc2, mm2, u1, u2, u3, Nat.le_trans t4.1 u4, w_ft t5 u5⟩
theorem w_7m {kC kM : xm_S → Option xm_S} (hF : 1000 < F) (hP : gr_P cnt E) (hfix : ∀ p, p < cnt → S p = true → sf_s E true S p = true) : ∀ (r s fu fu' c : Nat) (L : Nat → Nat) (N : Nat → Option Nat) (a f : Nat → Nat) (mc mm : xm_S), s + r = 100 → r < fu → r < fu' → w_W cnt E S true c L N a f (4 * s) mc mm → s ≤ c →
    ∃ (c' : Nat) (L' : Nat → Nat) (N' : Nat → Option Nat) (a' f' : Nat → Nat) (mc' mm' : xm_S), wi_takeMachine_l7 F kC fu (nI s) mc = kC mc' ∧ mm_build_l63 F (bI true) kM fu' (nI s) mm = kM mm' ∧ w_W cnt E S true c' L' N' a' f' (4 * c') mc' mm' ∧ w_f mc mc' mm mm' := by
  intro r
  induction r with
  | zero =>
    intro s fu fu' c L N a f mc mm hk hfu hfu' W hs
    obtain ⟨fu, rfl⟩ : ∃ g, fu = g + 1 := ⟨fu - 1, by omega⟩
    obtain ⟨fu', rfl⟩ : ∃ g, fu' = g + 1 := ⟨fu' - 1, by omega⟩
    have h2 := W.2.1
    obtain rfl : s = c := by have := h2.2.2; omega
    refine ⟨s, L, N, a, f, mc, mm, ?_, ?_, W, fun _ _ => rfl, fun _ _ => rfl⟩
    · rw [wi_takeMachine_l7, h2.1, if_pos (nI_le (Nat.le_refl _) (by omega))]
    · rw [mm_build_l63, h2.2.1, if_pos (nI_le (Nat.le_refl _) (by omega))]
  | succ r ih =>
    intro s fu fu' c L N a f mc mm hk hfu hfu' W hs
    obtain ⟨fu, rfl⟩ : ∃ g, fu = g + 1 := ⟨fu - 1, by omega⟩
    obtain ⟨fu', rfl⟩ : ∃ g, fu' = g + 1 := ⟨fu' - 1, by omega⟩
    have h2 := W.2.1
    by_cases z : s = c
    · subst z
      refine ⟨s, L, N, a, f, mc, mm, ?_, ?_, W, fun _ _ => rfl, fun _ _ => rfl⟩
      · rw [wi_takeMachine_l7, h2.1, if_pos (nI_le (Nat.le_refl _) (by omega))]
      · rw [mm_build_l63, h2.2.1, if_pos (nI_le (Nat.le_refl _) (by omega))]
    · have hsc : s < c := by omega
      obtain ⟨l1, l2, l3, l4, l5⟩ := W.2.2.1 s hsc
      obtain ⟨c', L', N', a', f', mc', mm', t1, t2, t3, t4, t5⟩ := w_30 (F := F) (s := s) (p0 := L s) (kC := fun (m1058 : xm_S) => wi_takeMachine_l7 F kC fu (nI s + (1 : Int32)) m1058) (kM := fun (m2276 : xm_S) => mm_build_l63 F (bI true) kM fu' (nI s + (1 : Int32)) m2276) hF hP hfix 4 0 F F c L N a f mc mm (by omega) (by omega) (by omega) W hsc rfl
      have t1' : wi_takeMachine_l30 F (nI s) (nI (L s)) _ F (0 : Int32) mc = _ := t1
      have t2' : mm_build_l82 F (bI true) (nI s) (nI (L s)) _ F (0 : Int32) mm = _ := t2
      rw [wi_takeMachine_l7, mm_build_l63, h2.1, h2.2.1, if_neg (nI_ge hsc (by omega)), if_neg (show ¬ (100 : Int32) ≤ nI s from nI_ge (b := 100) (by omega) (by decide)), if_neg (nI_ge hsc (by omega)), xg_nI (by omega) (by decide), xg_nI (by omega) (by decide), nI_clamp (by omega), l4, l5, t1', t2', nI_1]
      obtain ⟨c2, L2, N2, a2, f2, mc2, mm2, u1, u2, u3, u4⟩ := ih (s + 1) fu fu' c' L' N' a' f' mc' mm' (by omega) (by omega) (by omega) (by rw [show 4 * (s + 1) = 4 * s + 4 by omega]; exact t3) (by omega)
      exact ⟨c2, L2, N2, a2, f2, mc2, mm2, u1, u2, u3, w_ft t5 u4⟩
theorem w_7o {kC kM : xm_S → Option xm_S} (hF : 1000 < F) (hP : gr_P cnt E) (hfix : ∀ p, p < cnt → S p = true → sf_s E false S p = true) : ∀ (r s fu fu' c : Nat) (L : Nat → Nat) (N : Nat → Option Nat) (a f : Nat → Nat) (mc mm : xm_S), s + r = 100 → r < fu → r < fu' → w_W cnt E S false c L N a f (4 * s) mc mm → s ≤ c →
    ∃ (c' : Nat) (L' : Nat → Nat) (N' : Nat → Option Nat) (a' f' : Nat → Nat) (mc' mm' : xm_S), wi_takeOpponent_l7 F kC fu (nI s) mc = kC mc' ∧ mm_build_l63 F (bI false) kM fu' (nI s) mm = kM mm' ∧ w_W cnt E S false c' L' N' a' f' (4 * c') mc' mm' ∧ w_f mc mc' mm mm' := by
  intro r
  induction r with
  | zero =>
    intro s fu fu' c L N a f mc mm hk hfu hfu' W hs
    obtain ⟨fu, rfl⟩ : ∃ g, fu = g + 1 := ⟨fu - 1, by omega⟩
    obtain ⟨fu', rfl⟩ : ∃ g, fu' = g + 1 := ⟨fu' - 1, by omega⟩
    have h2 := W.2.1
    obtain rfl : s = c := by have := h2.2.2; omega
    refine ⟨s, L, N, a, f, mc, mm, ?_, ?_, W, fun _ _ => rfl, fun _ _ => rfl⟩
    · rw [wi_takeOpponent_l7, h2.1, if_pos (nI_le (Nat.le_refl _) (by omega))]
    · rw [mm_build_l63, h2.2.1, if_pos (nI_le (Nat.le_refl _) (by omega))]
  | succ r ih =>
    intro s fu fu' c L N a f mc mm hk hfu hfu' W hs
    obtain ⟨fu, rfl⟩ : ∃ g, fu = g + 1 := ⟨fu - 1, by omega⟩
    obtain ⟨fu', rfl⟩ : ∃ g, fu' = g + 1 := ⟨fu' - 1, by omega⟩
    have h2 := W.2.1
    by_cases z : s = c
    · subst z
      refine ⟨s, L, N, a, f, mc, mm, ?_, ?_, W, fun _ _ => rfl, fun _ _ => rfl⟩
      · rw [wi_takeOpponent_l7, h2.1, if_pos (nI_le (Nat.le_refl _) (by omega))]
      · rw [mm_build_l63, h2.2.1, if_pos (nI_le (Nat.le_refl _) (by omega))]
    · have hsc : s < c := by omega
      obtain ⟨l1, l2, l3, l4, l5⟩ := W.2.2.1 s hsc
      have hst : (sf_i E S (L s)).isSome = true := hfix (L s) l1 l2
      obtain ⟨gi, g1, g2, g3⟩ := sf_i_some hst
      have c1 := sc_i (F := F) (p := L s) hF hP W.1.1 l1
      rw [g2] at c1
      have c1' : gm_safeInput F (nI (L s)) mc = some (nI gi, mc) := c1
      obtain ⟨c', L', N', a', f', mc', mm', t1, t2, t3, t4, t5⟩ := w_37 (F := F) (s := s) (p0 := L s) (gi := gi) (kC := fun (m1030 : xm_S) => wi_takeOpponent_l7 F kC fu (nI s + (1 : Int32)) m1030) (kM := fun (m2276 : xm_S) => mm_build_l63 F (bI false) kM fu' (nI s + (1 : Int32)) m2276) hF hP g1 g2 g3 4 0 F F c L N a f mc mm (by omega) (by omega) (by omega) W hsc rfl
      have t1' : wi_takeOpponent_l37 F (nI s) (nI gi) _ F (0 : Int32) mc = _ := t1
      have t2' : mm_build_l82 F (bI false) (nI s) (nI (L s)) _ F (0 : Int32) mm = _ := t2
      rw [wi_takeOpponent_l7, mm_build_l63, h2.1, h2.2.1, if_neg (nI_ge hsc (by omega)), if_neg (show ¬ (100 : Int32) ≤ nI s from nI_ge (b := 100) (by omega) (by decide)), if_neg (nI_ge hsc (by omega)), xg_nI (by omega) (by decide), xg_nI (by omega) (by decide), nI_clamp (by omega), l4, l5, c1']
      simp only [xc_s]
      rw [t1', t2', nI_1]
      obtain ⟨c2, L2, N2, a2, f2, mc2, mm2, u1, u2, u3, u4⟩ := ih (s + 1) fu fu' c' L' N' a' f' mc' mm' (by omega) (by omega) (by omega) (by rw [show 4 * (s + 1) = 4 * s + 4 by omega]; exact t3) (by omega)
      exact ⟨c2, L2, N2, a2, f2, mc2, mm2, u1, u2, u3, w_ft t5 u4⟩
end WINNER
