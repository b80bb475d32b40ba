/-! The winner, both sides together. -/
def w_W (cnt : Nat) (E : Nat → Option Nat) (S : Nat → Bool) (pl : Bool) (c : Nat) (L : Nat → Nat) (N : Nat → Option Nat) (a f : Nat → Nat) (i : Nat) (mc mm : xm_S) : Prop :=
  (sf_C cnt E S mc ∧ sf_M cnt E S mm ∧ mc.1 30 1 = (if pl = true then (1 : Int32) else 2)) ∧
  (mc.1 30 2 = nI c ∧ mm.1 35 24 = nI c ∧ c ≤ 100) ∧
  (∀ s, s < c → L s < cnt ∧ S (L s) = true ∧ N (L s) = some s ∧ mc.1 31 s = nI (L s) ∧ mm.1 54 s = nI (L s)) ∧
  (∀ p, p < 100 → (∀ s, N p = some s → s < c) ∧ mc.1 32 p = eI (N p) ∧ mm.1 53 p = eI (N p)) ∧
  ∀ j, j < i → mc.1 33 j = nI (a j) ∧ mm.1 55 j = nI (a j) ∧ mc.1 34 j = nI (f j) ∧ mm.1 56 j = nI (f j)
def w_f (mc mc' mm mm' : xm_S) : Prop := (∀ j, j ≠ 2 → mc'.1 30 j = mc.1 30 j) ∧ (∀ j, j ≠ 24 → mm'.1 35 j = mm.1 35 j)
theorem w_ft {a b c x y z : xm_S} (h : w_f a b x y) (k : w_f b c y z) : w_f a c x z := ⟨fun j hj => (k.1 j hj).trans (h.1 j hj), fun j hj => (k.2 j hj).trans (h.2 j hj)⟩
theorem w_st {F cnt i c p : Nat} {E : Nat → Option Nat} {S : Nat → Bool} {pl : Bool} {L : Nat → Nat} {N : Nat → Option Nat} {a f : Nat → Nat} {mc mm : xm_S} (hP : gr_P cnt E) (W : w_W cnt E S pl c L N a f i mc mm) (hp : p < cnt) (hS : S p = true) :
    ∃ (c' : Nat) (L' : Nat → Nat) (N' : Nat → Option Nat) (v : Nat) (mc' mm' : xm_S), wi_stateOf F (nI p) mc = some (nI v, mc') ∧ mm_numberOf F (nI p) mm = some (nI v, mm') ∧ w_W cnt E S pl c' L' N' a f i mc' mm' ∧ (c ≤ c' ∧ ∀ s, s < c → L' s = L s) ∧ v < c' ∧ (N p = none → v = c) ∧ w_f mc mc' mm mm' ∧ (mc'.1 33 = mc.1 33 ∧ mc'.1 34 = mc.1 34 ∧ mm'.1 55 = mm.1 55 ∧ mm'.1 56 = mm.1 56) := by
  obtain ⟨w1, w2, w3, w4, w5⟩ := W
  have h100 := hP.2.1
  have hp100 : p < 100 := by omega
  obtain ⟨n1, n2, n3⟩ := w4 p hp100
  unfold wi_stateOf mm_numberOf
  simp only [xg_nI hp100 (show 100 < 2 ^ 31 by decide), nI_clamp (show p < 2 ^ 31 by omega), n2, n3, xj_j]
  cases e : N p with
  | none =>
    have hc : c < 100 := by
      have := ph_n 100 (c + 1) (fun s => if s = c then p else L s) (fun i hi => by
        show (if i = c then p else L i) < 100
        split
        · exact hp100
        · have := (w3 i (by omega)).1; omega) (fun i j hi hj h => by
        have h' : (if i = c then p else L i) = (if j = c then p else L j) := h
        by_cases y : i = c
        · by_cases z : j = c
          · omega
          · rw [if_pos y, if_neg z] at h'
            have := (w3 j (by omega)).2.2.1
            rw [← h', e] at this
            cases this
        · by_cases z : j = c
          · rw [if_neg y, if_pos z] at h'
            have := (w3 i (by omega)).2.2.1
            rw [h', e] at this
            cases this
          · rw [if_neg y, if_neg z] at h'
            have h1 := (w3 i (by omega)).2.2.1
            have h2 := (w3 j (by omega)).2.2.1
            rw [h', h2] at h1
            cases h1
            rfl)
      omega
    rw [if_pos (show eI none = -1 from rfl), if_neg (show ¬ 0 ≤ eI none by decide)]
    simp only [xs_m, xi_k (show 30 ≠ 31 by decide), xi_k (show 30 ≠ 32 by decide), xi_k (show 35 ≠ 53 by decide), xi_k (show 35 ≠ 54 by decide), w2.1, w2.2.1, nI_clamp (show c < 2 ^ 31 by omega), xg_nI hc (show 100 < 2 ^ 31 by decide), nI_1]
    refine ⟨c + 1, va_up L c p, va_up N p (some c), c, xw_i (xw_i (xw_i mc 31 c (nI p)) 32 p (nI c)) 30 2 (nI (c + 1)), xw_i (xw_i (xw_i mm 53 p (nI c)) 54 c (nI p)) 35 24 (nI (c + 1)), ?_, ?_, ?_, ⟨by omega, fun s hs => by simp [va_up, Nat.ne_of_lt hs]⟩, by omega, fun _ => rfl, ⟨fun j hj => ?_, fun j hj => ?_⟩, ?_⟩
    · rw [xi_k (by decide), xi_s]
    · rw [xi_k (by decide), xi_k (by decide), xi_s]
    · refine ⟨⟨⟨⟨?_, ?_⟩, ?_⟩, ⟨⟨?_, ?_⟩, ?_⟩, ?_⟩, ⟨xi_s, xi_s, by omega⟩, fun s hs => ?_, fun q hq => ?_, fun j hj => ?_⟩
      · rw [xi_k (by decide), xi_k (by decide), xi_k (by decide)]; exact w1.1.1.1
      · rw [xi_k (by decide), xi_k (by decide), xi_k (by decide)]; exact w1.1.1.2
      · rw [xi_k (by decide), xi_k (by decide), xi_k (by decide)]; exact w1.1.2
      · rw [xi_j (by decide), xi_k (by decide), xi_k (by decide)]; exact w1.2.1.1.1
      · rw [xi_k (by decide), xi_k (by decide), xi_k (by decide)]; exact w1.2.1.1.2
      · rw [xi_k (by decide), xi_k (by decide), xi_k (by decide)]; exact w1.2.1.2
      · rw [xi_j (by decide), xi_k (by decide), xi_k (by decide)]; exact w1.2.2
      · rw [xi_k (show 31 ≠ 30 by decide), xi_k (show 31 ≠ 32 by decide), xi_k (show 54 ≠ 35 by decide)]
        by_cases z : s = c
        · have e1 : va_up L c p s = p := by simp [va_up, z]
          rw [e1, z, xi_s, xi_s]
          exact ⟨hp, hS, by simp [va_up], rfl, rfl⟩
        · have e1 : va_up L c p s = L s := by simp [va_up, z]
          obtain ⟨u1, u2, u3, u4, u5⟩ := w3 s (by omega)
          rw [e1, xi_j z, xi_j z, xi_k (show 54 ≠ 53 by decide)]
          refine ⟨u1, u2, ?_, u4, u5⟩
          have : ¬ L s = p := fun y => by rw [y, e] at u3; cases u3
          simp [va_up, this, u3]
      · rw [xi_k (show 32 ≠ 30 by decide), xi_k (show 53 ≠ 35 by decide), xi_k (show 53 ≠ 54 by decide)]
        obtain ⟨u1, u2, u3⟩ := w4 q hq
        by_cases z : q = p
        · have e1 : va_up N p (some c) q = some c := by simp [va_up, z]
          rw [e1, z, xi_s, xi_s]
          exact ⟨fun s hs => by cases hs; omega, rfl, rfl⟩
        · have e1 : va_up N p (some c) q = N q := by simp [va_up, z]
          rw [e1, xi_j z, xi_j z, xi_k (show 32 ≠ 31 by decide)]
          exact ⟨fun s hs => by have := u1 s hs; omega, u2, u3⟩
      · rw [xi_k (show 33 ≠ 30 by decide), xi_k (show 33 ≠ 32 by decide), xi_k (show 33 ≠ 31 by decide), xi_k (show 34 ≠ 30 by decide), xi_k (show 34 ≠ 32 by decide), xi_k (show 34 ≠ 31 by decide), xi_k (show 55 ≠ 35 by decide), xi_k (show 55 ≠ 54 by decide), xi_k (show 55 ≠ 53 by decide), xi_k (show 56 ≠ 35 by decide), xi_k (show 56 ≠ 54 by decide), xi_k (show 56 ≠ 53 by decide)]
        exact w5 j hj
    · rw [xi_j hj, xi_k (by decide), xi_k (by decide)]
    · rw [xi_j hj, xi_k (by decide), xi_k (by decide)]
    · rw [xi_k (show 33 ≠ 30 by decide), xi_k (show 33 ≠ 32 by decide), xi_k (show 33 ≠ 31 by decide), xi_k (show 34 ≠ 30 by decide), xi_k (show 34 ≠ 32 by decide), xi_k (show 34 ≠ 31 by decide), xi_k (show 55 ≠ 35 by decide), xi_k (show 55 ≠ 54 by decide), xi_k (show 55 ≠ 53 by decide), xi_k (show 56 ≠ 35 by decide), xi_k (show 56 ≠ 54 by decide), xi_k (show 56 ≠ 53 by decide)]
      exact ⟨rfl, rfl, rfl, rfl⟩
  | some s =>
    have hs := n1 s e
    have hc := w2.2.2
    rw [if_neg (show ¬ eI (some s) = -1 from nI_n1 (by omega)), if_pos (show 0 ≤ eI (some s) from nI_pos' (by omega))]
    exact ⟨c, L, N, s, mc, mm, rfl, rfl, ⟨w1, w2, w3, w4, w5⟩, ⟨Nat.le_refl _, fun _ _ => rfl⟩, hs, fun h => (by cases h), ⟨fun _ _ => rfl, fun _ _ => rfl⟩, rfl, rfl, rfl, rfl⟩
theorem ix_w (s k : Nat) : nI s * (4 : Int32) + nI k = nI (4 * s + k) := by
  rw [show nI s * (4 : Int32) = nI (s * 4) from pk_mul s 4, nI_add, Nat.mul_comm]
theorem ix_v (s k : Nat) : (4 : Int32) * nI s + nI k = nI (4 * s + k) := by
  rw [show (4 : Int32) * nI s = nI (4 * s) from pk_mul 4 s, nI_add]
theorem w_ad {F cnt c s k gi go x v : Nat} {E : Nat → Option Nat} {S : Nat → Bool} {pl : Bool} {L : Nat → Nat} {N : Nat → Option Nat} {a f : Nat → Nat} {mc mm : xm_S} {kM : xm_S → Option xm_S} (hP : gr_P cnt E) (W : w_W cnt E S pl c L N a f (4 * s + k) mc mm) (hs : s < c) (hk : k < 4) (hgi : gi < 4) (hgo : go < 4) (hE : E (16 * L s + gi + 4 * go) = some v) (hv : S v = true) (h1 : pl = true → gi = k ∧ x = go) (h2 : pl = false → go = k ∧ x = gi) :
    ∃ (c' : Nat) (L' : Nat → Nat) (N' : Nat → Option Nat) (a' f' : Nat → Nat) (mc' mm' : xm_S), wi_addStep F (nI s) (nI k) (nI gi) (nI go) mc = some mc' ∧
      (xg_n (((4 : Int32) * nI s) + nI k) 400 (xs_m (xw_i mm 55 (((4 : Int32) * nI s) + nI k).toNatClampNeg (nI x)) fun m2255 => xg_n (((16 : Int32) * nI (L s)) + (if bI pl = 0 then nI x + ((4 : Int32) * nI k) else nI k + ((4 : Int32) * nI x))) 1600 (xc_m (mm_numberOf F (m2255.1 51 (((16 : Int32) * nI (L s)) + (if bI pl = 0 then nI x + ((4 : Int32) * nI k) else nI k + ((4 : Int32) * nI x))).toNatClampNeg) m2255) fun v2259 m2260 => xg_n (((4 : Int32) * nI s) + nI k) 400 (xs_m (xw_i m2260 56 (((4 : Int32) * nI s) + nI k).toNatClampNeg v2259) fun m2264 => kM m2264)))) = kM mm' ∧
      w_W cnt E S pl c' L' N' a' f' (4 * s + (k + 1)) mc' mm' ∧ (c ≤ c' ∧ L' s = L s) ∧ w_f mc mc' mm mm' := by
  have h100 := hP.2.1
  have hc := W.2.1.2.2
  have hL := W.2.2.1 s hs
  have hLc := hL.1
  have hj : 16 * L s + gi + 4 * go < 16 * cnt := by omega
  have hv' := hP.2.2 _ hj v hE
  have hi : 4 * s + k < 400 := by omega
  have hx4 : x < 4 := by
    cases pl with
    | true => have := h1 rfl; omega
    | false => have := h2 rfl; omega
  have hidx : ((16 : Int32) * nI (L s)) + (if bI pl = 0 then nI x + ((4 : Int32) * nI k) else nI k + ((4 : Int32) * nI x)) = nI (16 * L s + gi + 4 * go) := by
    cases pl with
    | true =>
      obtain ⟨z1, z2⟩ := h1 rfl
      rw [if_neg (show ¬ bI true = 0 by decide), show (4 : Int32) * nI x = nI (4 * x) from pk_mul 4 x, nI_add, ix_m, z1, z2, Nat.add_assoc]
    | false =>
      obtain ⟨z1, z2⟩ := h2 rfl
      rw [if_pos (show bI false = 0 from rfl), show (4 : Int32) * nI k = nI (4 * k) from pk_mul 4 k, nI_add, ix_m, z1, z2, Nat.add_assoc]
  have hans : (if mc.1 30 1 = (1 : Int32) then nI go else nI gi) = nI x := by
    rw [W.1.2.2]
    cases pl with
    | true => rw [if_pos rfl, if_pos rfl, (h1 rfl).2]
    | false => rw [if_neg (show ¬ false = true by decide), if_neg (show ¬ (2 : Int32) = 1 by decide), (h2 rfl).2]
  obtain ⟨w1, w2, w3, w4, w5⟩ := W
  have W0 : w_W cnt E S pl c L N a f (4 * s + k) (xw_i mc 33 (4 * s + k) (nI x)) (xw_i mm 55 (4 * s + k) (nI x)) := by
    refine ⟨⟨⟨⟨?_, ?_⟩, ?_⟩, ⟨⟨?_, ?_⟩, ?_⟩, ?_⟩, ⟨?_, ?_, hc⟩, fun s' hs' => ?_, fun q hq => ?_, fun j hj => ?_⟩
    · rw [xi_k (by decide)]; exact w1.1.1.1
    · rw [xi_k (by decide)]; exact w1.1.1.2
    · rw [xi_k (by decide)]; exact w1.1.2
    · rw [xi_k (by decide)]; exact w1.2.1.1.1
    · rw [xi_k (by decide)]; exact w1.2.1.1.2
    · rw [xi_k (by decide)]; exact w1.2.1.2
    · rw [xi_k (by decide)]; exact w1.2.2
    · rw [xi_k (by decide)]; exact w2.1
    · rw [xi_k (by decide)]; exact w2.2.1
    · rw [xi_k (by decide), xi_k (by decide)]; exact w3 s' hs'
    · rw [xi_k (by decide), xi_k (by decide)]; exact w4 q hq
    · have z : j ≠ 4 * s + k := by omega
      rw [xi_j z, xi_j z, xi_k (by decide), xi_k (by decide)]; exact w5 j hj
  obtain ⟨c', L', N', v', mc1, mm1, t1, t2, W1, t3, t4, -, t5, t6⟩ := w_st (F := F) (p := v) hP W0 hv' hv
  have hc' := W1.2.1.2.2
  have f1 : gm_follower F (nI (L s)) (nI gi) (nI go) (xw_i mc 33 (4 * s + k) (nI x)) = some (nI v, xw_i mc 33 (4 * s + k) (nI x)) := by
    unfold gm_follower
    rw [ix_3, xg_nI (by omega) (by decide), nI_clamp (by omega), W0.1.1.1.2 _ hj, hE]
    rfl
  refine ⟨c', L', N', va_up a (4 * s + k) x, va_up f (4 * s + k) v', xw_i mc1 34 (4 * s + k) (nI v'), xw_i mm1 56 (4 * s + k) (nI v'), ?_, ?_, ?_, ⟨t3.1, t3.2 s hs⟩, w_ft ?_ (w_ft t5 ?_)⟩
  · unfold wi_addStep
    rw [if_neg (nI_n1 (by omega)), if_neg (nI_n1 (by omega)), ix_w, xg_nI hi (by decide), nI_clamp (by omega), hans]
    simp only [xs_m]
    rw [xg_nI (show s < 100 by omega) (by decide), nI_clamp (by omega), xi_k (show 31 ≠ 33 by decide), hL.2.2.2.1, f1]
    simp only [xc_s]
    rw [t1]
    simp only [xc_s]
    rw [xg_nI hi (by decide)]
  · rw [hidx, ix_v, xg_nI hi (by decide), nI_clamp (by omega)]
    simp only [xs_m]
    rw [xg_nI (show 16 * L s + gi + 4 * go < 1600 by omega) (by decide), nI_clamp (show 16 * L s + gi + 4 * go < 2 ^ 31 by omega), W0.1.2.1.1.2 _ hj, hE, show eI (some v) = nI v from rfl, t2]
    simp only [xc_s]
    rw [xg_nI hi (by decide)]
  · obtain ⟨u1, u2, u3, u4, u5⟩ := W1
    refine ⟨⟨⟨⟨?_, ?_⟩, ?_⟩, ⟨⟨?_, ?_⟩, ?_⟩, ?_⟩, ⟨?_, ?_, hc'⟩, fun s' hs' => ?_, fun q hq => ?_, fun j hj => ?_⟩
    · rw [xi_k (by decide)]; exact u1.1.1.1
    · rw [xi_k (by decide)]; exact u1.1.1.2
    · rw [xi_k (by decide)]; exact u1.1.2
    · rw [xi_k (by decide)]; exact u1.2.1.1.1
    · rw [xi_k (by decide)]; exact u1.2.1.1.2
    · rw [xi_k (by decide)]; exact u1.2.1.2
    · rw [xi_k (by decide)]; exact u1.2.2
    · rw [xi_k (by decide)]; exact u2.1
    · rw [xi_k (by decide)]; exact u2.2.1
    · rw [xi_k (by decide), xi_k (by decide)]; exact u3 s' hs'
    · rw [xi_k (by decide), xi_k (by decide)]; exact u4 q hq
    · rw [xi_k (show 33 ≠ 34 by decide), xi_k (show 55 ≠ 56 by decide)]
      by_cases z : j = 4 * s + k
      · have e1 : va_up a (4 * s + k) x j = x := by simp [va_up, z]
        have e2 : va_up f (4 * s + k) v' j = v' := by simp [va_up, z]
        rw [e1, e2, z, xi_s, xi_s, t6.1, t6.2.2.1, xi_s, xi_s]
        exact ⟨rfl, rfl, rfl, rfl⟩
      · have e1 : va_up a (4 * s + k) x j = a j := by simp [va_up, z]
        have e2 : va_up f (4 * s + k) v' j = f j := by simp [va_up, z]
        rw [e1, e2, xi_j z, xi_j z]
        exact u5 j (by omega)
  · exact ⟨fun j hj => by rw [xi_k (by decide)], fun j hj => by rw [xi_k (by decide)]⟩
  · exact ⟨fun j hj => by rw [xi_k (by decide)], fun j hj => by rw [xi_k (by decide)]⟩
