/-! The positions, both sides together. -/
def eI : Option Nat → Int32
  | none => -1
  | some v => nI v
def ge_R (sg : Nat → Nat) (n b : Nat) (R : Nat → Nat → Nat) (cnt : Nat) (E : Nat → Option Nat) (i : Nat) (mc mm : xm_S) : Prop := (0 < cnt ∧ cnt ≤ 100) ∧ mc.1 26 2 = nI cnt ∧ mm.1 35 18 = nI cnt ∧ (∀ p, p < cnt → (∀ t, R p t ≤ b + 1) ∧ (∀ t, n ≤ t → R p t = 0) ∧ mc.2 27 p = lN (cd_n 16 (R p) 16) ∧ mm.2 50 p = lN (cd_n 8 (fun t => R p (sg t)) n)) ∧ ∀ j, j < i → (∀ v, E j = some v → v < cnt) ∧ mc.1 28 j = eI (E j) ∧ mm.1 51 j = eI (E j)
def gk_18 (m m' : xm_S) : Prop := ∀ j, j ≠ 18 → m'.1 35 j = m.1 35 j
theorem gk_t {a b c : xm_S} (h : gk_18 a b) (k : gk_18 b c) : gk_18 a c := fun j hj => (k j hj).trans (h j hj)
theorem nI_m2 {v : Nat} (h : v ≤ 100) : ¬ nI v = -2 := by
  have : ∀ v, v < 101 → ¬ nI v = -2 := by decide +kernel
  exact this v (by omega)
theorem nI_n1 {v : Nat} (h : v ≤ 100) : ¬ nI v = -1 := by
  have : ∀ v, v < 101 → ¬ nI v = -1 := by decide +kernel
  exact this v (by omega)
theorem lX_m1 {x : Nat} (h : x < 2 ^ 63) : ¬ lN x = -1 := fun e => by
  have h1 := lX_bv h
  rw [e] at h1
  have h2 : (-1 : Int64).toBitVec.toNat = 2 ^ 64 - 1 := by decide
  omega
theorem lX_c1 {x : Nat} (h : x < 2 ^ 63) : ¬ lg_cmp (lN x) (-1 : Int64) = 0 := fun z => lX_m1 h ((lg_cmp_eq _ _).mp z)
theorem lX_c0 {x : Nat} (h : x < 2 ^ 63) : 0 ≤ lg_cmp (lN x) (0 : Int64) := (lg_cmp_ge _ _).mpr ((pk_lLE (a := 0) (by decide) h).mpr (Nat.zero_le _))
theorem lX_d1 : lg_cmp (-1 : Int64) (-1 : Int64) = 0 := (lg_cmp_eq _ _).mpr rfl
theorem lX_d0 : ¬ 0 ≤ lg_cmp (-1 : Int64) (0 : Int64) := fun z => absurd ((lg_cmp_ge _ _).mp z) (by decide)
theorem cq_16 {P Q : Nat → Nat} {n : Nat} (hn : n ≤ 16) (h1 : ∀ t, P t < 8) (h2 : ∀ t, Q t < 8) (z1 : ∀ t, n ≤ t → P t = 0) (z2 : ∀ t, n ≤ t → Q t = 0) : lN (cd_n 16 P 16) = lN (cd_n 16 Q 16) ↔ ∀ t, t < n → P t = Q t := by
  rw [pk_lEQ (cd_63 h1) (cd_63 h2)]
  constructor
  · intro h t ht
    exact cd_inj (fun s => Nat.lt_trans (h1 s) (by decide)) (fun s => Nat.lt_trans (h2 s) (by decide)) h t (Nat.lt_of_lt_of_le ht hn)
  · intro h
    exact cd_ext (fun t _ => by
      by_cases z : t < n
      · exact h t z
      · rw [z1 t (Nat.le_of_not_lt z), z2 t (Nat.le_of_not_lt z)])
theorem cq_8 {P Q : Nat → Nat} {n : Nat} (hn : n ≤ 16) (h1 : ∀ t, P t < 8) (h2 : ∀ t, Q t < 8) : lN (cd_n 8 P n) = lN (cd_n 8 Q n) ↔ ∀ t, t < n → P t = Q t := by
  rw [pk_lEQ (cd_48 h1 hn) (cd_48 h2 hn)]
  exact ⟨fun h t ht => cd_inj h1 h2 h t ht, fun h => cd_ext h⟩
theorem gp_c {F cnt : Nat} {w : Int64} {m : xm_S} {Q : Nat → Prop} {kk : xm_S → Option (Int32 × xm_S)} (hc : cnt ≤ 100) (h26 : m.1 26 2 = nI cnt) (hE : ∀ p, p < cnt → (m.2 27 p = w ↔ Q p)) : ∀ (r i fu : Nat), i + r = cnt → r < fu → (∀ p, p < i → ¬ Q p) →
    (∃ p, p < cnt ∧ Q p ∧ (∀ p', p' < p → ¬ Q p') ∧ gm_positionOf_l2 F w kk fu (nI i) m = some (nI p, m)) ∨ ((∀ p, p < cnt → ¬ Q p) ∧ gm_positionOf_l2 F w kk fu (nI i) m = kk m) := by
  intro r
  induction r with
  | zero =>
    intro i fu hi hfu hL
    obtain ⟨fu, rfl⟩ : ∃ g, fu = g + 1 := ⟨fu - 1, by omega⟩
    obtain rfl : i = cnt := by omega
    refine Or.inr ⟨hL, ?_⟩
    rw [gm_positionOf_l2, h26, if_pos (nI_le (Nat.le_refl _) (by omega))]
  | succ r ih =>
    intro i fu hi hfu hL
    obtain ⟨fu, rfl⟩ : ∃ g, fu = g + 1 := ⟨fu - 1, by omega⟩
    rw [gm_positionOf_l2, h26, if_neg (nI_ge (by omega) (by omega)), xg_nI (by omega) (by decide), nI_clamp (by omega), nI_1]
    by_cases z : m.2 27 i = w
    · rw [if_pos ((lg_cmp_eq _ _).mpr z)]
      exact Or.inl ⟨i, by omega, (hE i (by omega)).mp z, hL, rfl⟩
    · rw [if_neg (fun q => z ((lg_cmp_eq _ _).mp q))]
      exact ih (i + 1) fu (by omega) (by omega) (fun p hp => by
        by_cases y : p = i
        · rw [y]; exact fun x => z ((hE i (by omega)).mpr x)
        · exact hL p (by omega))
theorem gp_m {F cnt : Nat} {w : Int64} {m : xm_S} {Q : Nat → Prop} {kk : xm_S → Option (Int32 × xm_S)} (hc : cnt ≤ 100) (h26 : m.1 35 18 = nI cnt) (hE : ∀ p, p < cnt → (m.2 50 p = w ↔ Q p)) : ∀ (r i fu : Nat), i + r = cnt → r < fu → (∀ p, p < i → ¬ Q p) →
    (∃ p, p < cnt ∧ Q p ∧ (∀ p', p' < p → ¬ Q p') ∧ mm_positionOf_l2 F w kk fu (nI i) m = some (nI p, m)) ∨ ((∀ p, p < cnt → ¬ Q p) ∧ mm_positionOf_l2 F w kk fu (nI i) m = kk m) := by
  intro r
  induction r with
  | zero =>
    intro i fu hi hfu hL
    obtain ⟨fu, rfl⟩ : ∃ g, fu = g + 1 := ⟨fu - 1, by omega⟩
    obtain rfl : i = cnt := by omega
    refine Or.inr ⟨hL, ?_⟩
    rw [mm_positionOf_l2, h26, if_pos (nI_le (Nat.le_refl _) (by omega))]
  | succ r ih =>
    intro i fu hi hfu hL
    obtain ⟨fu, rfl⟩ : ∃ g, fu = g + 1 := ⟨fu - 1, by omega⟩
    rw [mm_positionOf_l2, h26, if_neg (nI_ge (by omega) (by omega)), xg_nI (by omega) (by decide), nI_clamp (by omega), nI_1]
    by_cases z : m.2 50 i = w
    · rw [if_pos ((lg_cmp_eq _ _).mpr z)]
      exact Or.inl ⟨i, by omega, (hE i (by omega)).mp z, hL, rfl⟩
    · rw [if_neg (fun q => z ((lg_cmp_eq _ _).mp q))]
      exact ih (i + 1) fu (by omega) (by omega) (fun p hp => by
        by_cases y : p = i
        · rw [y]; exact fun x => z ((hE i (by omega)).mpr x)
        · exact hL p (by omega))
theorem gp_C {F cnt : Nat} {w : Int64} {m : xm_S} {Q : Nat → Prop} (hF : 1000 < F) (hc : cnt ≤ 100) (h26 : m.1 26 2 = nI cnt) (hE : ∀ p, p < cnt → (m.2 27 p = w ↔ Q p)) :
    (∃ p, p < cnt ∧ Q p ∧ (∀ p', p' < p → ¬ Q p') ∧ gm_positionOf F w m = some (nI p, m)) ∨ ((∀ p, p < cnt → ¬ Q p) ∧ ((cnt < 100 ∧ gm_positionOf F w m = some (nI cnt, xw_i (xw_l m 27 cnt w) 26 2 (nI (cnt + 1)))) ∨ (cnt = 100 ∧ gm_positionOf F w m = some (-2, m)))) := by
  rcases gp_c (F := F) (w := w) (kk := fun (m798 : xm_S) => if (m798.1 26 2) < (100 : Int32) then xg_n (m798.1 26 2) 100 (xs_m (xw_l m798 27 (m798.1 26 2).toNatClampNeg w) fun m801 => xs_m (xw_i m801 26 2 ((m801.1 26 2) + (1 : Int32))) fun m803 => some ((m803.1 26 2) - (1 : Int32), m803)) else some ((-2 : Int32), m798)) hc h26 hE cnt 0 F (by omega) (by omega) (fun p hp => by omega) with ⟨p, p1, p2, p3, p4⟩ | ⟨p1, p2⟩
  · exact Or.inl ⟨p, p1, p2, p3, p4⟩
  · have p2' : gm_positionOf F w m = _ := p2
    refine Or.inr ⟨p1, ?_⟩
    rw [p2', h26]
    by_cases z : cnt < 100
    · refine Or.inl ⟨z, ?_⟩
      rw [if_pos (show nI cnt < (100 : Int32) from nI_lt (b := 100) z (by decide)), xg_nI z (by decide), nI_clamp (by omega)]
      simp only [xs_m]
      rw [xl_1, h26, nI_1, xi_s, nI_pred]
    · obtain rfl : cnt = 100 := by omega
      exact Or.inr ⟨rfl, if_neg (by decide)⟩
theorem gp_M {F cnt : Nat} {w : Int64} {m : xm_S} {Q : Nat → Prop} (hF : 1000 < F) (hc : cnt ≤ 100) (h26 : m.1 35 18 = nI cnt) (hE : ∀ p, p < cnt → (m.2 50 p = w ↔ Q p)) :
    (∃ p, p < cnt ∧ Q p ∧ (∀ p', p' < p → ¬ Q p') ∧ mm_positionOf F w m = some (nI p, m)) ∨ ((∀ p, p < cnt → ¬ Q p) ∧ mm_positionOf F w m = some (nI cnt, xw_i (xw_l m 50 cnt w) 35 18 (nI (cnt + 1)))) := by
  rcases gp_m (F := F) (w := w) (kk := fun (m1957 : xm_S) => xg_n (m1957.1 35 18) 101 (xs_m (xw_l m1957 50 (m1957.1 35 18).toNatClampNeg w) fun m1959 => xs_m (xw_i m1959 35 18 ((m1959.1 35 18) + (1 : Int32))) fun m1961 => some ((m1961.1 35 18) - (1 : Int32), m1961))) hc h26 hE cnt 0 F (by omega) (by omega) (fun p hp => by omega) with ⟨p, p1, p2, p3, p4⟩ | ⟨p1, p2⟩
  · exact Or.inl ⟨p, p1, p2, p3, p4⟩
  · have p2' : mm_positionOf F w m = _ := p2
    refine Or.inr ⟨p1, ?_⟩
    rw [p2', h26, xg_nI (by omega) (by decide), nI_clamp (by omega)]
    simp only [xs_m]
    rw [xl_1, h26, nI_1, xi_s, nI_pred]
theorem ge_in {F n b p : Nat} {sg : Nat → Nat} {A G A' G' : Nat → Nat → Nat} {kC kM : xm_S → Option (Int32 × xm_S)} (hF : 1000 < F) : ∀ (r l fu fu' : Nat) (R : Nat → Nat → Nat) (cnt : Nat) (E : Nat → Option Nat) (mc mm : xm_S), l + r = 16 → r < fu → r < fu' → ga_D sg n b A G A' G' mc mm → ge_R sg n b R cnt E (16 * p + l) mc mm → p < cnt →
    (∃ mc' mm' : xm_S, gm_explore_l35 F (nI b) (nI p) kC fu (nI l) mc = some (0, mc') ∧ mm_game_l24 F (nI b) (nI p) kM fu' (nI l) mm = some (0, mm') ∧ gk_18 mm mm') ∨
    ∃ (R' : Nat → Nat → Nat) (cnt' : Nat) (E' : Nat → Option Nat) (mc' mm' : xm_S), gm_explore_l35 F (nI b) (nI p) kC fu (nI l) mc = kC mc' ∧ mm_game_l24 F (nI b) (nI p) kM fu' (nI l) mm = kM mm' ∧ ga_D sg n b A G A' G' mc' mm' ∧ ge_R sg n b R' cnt' E' (16 * p + 16) mc' mm' ∧ gk_18 mm mm' := by
  intro r
  induction r with
  | zero =>
    intro l fu fu' R cnt E mc mm hl hfu hfu' hD hR hp
    obtain ⟨fu, rfl⟩ : ∃ g, fu = g + 1 := ⟨fu - 1, by omega⟩
    obtain ⟨fu', rfl⟩ : ∃ g, fu' = g + 1 := ⟨fu' - 1, by omega⟩
    obtain rfl : l = 16 := by omega
    refine Or.inr ⟨R, cnt, E, mc, mm, ?_, ?_, hD, hR, fun _ _ => rfl⟩
    · rw [gm_explore_l35, if_pos (show (16 : Int32) ≤ nI 16 by decide)]
    · rw [mm_game_l24, if_pos (show (16 : Int32) ≤ nI 16 by decide)]
  | succ r ih =>
    intro l fu fu' R cnt E mc mm hl hfu hfu' hD hR hp
    obtain ⟨fu, rfl⟩ : ∃ g, fu = g + 1 := ⟨fu - 1, by omega⟩
    obtain ⟨fu', rfl⟩ : ∃ g, fu' = g + 1 := ⟨fu' - 1, by omega⟩
    have hR' := hR
    obtain ⟨r1, r2, r3, r4, r5⟩ := hR'
    obtain ⟨q1, q2, q3, q4⟩ := r4 p hp
    have hl16 : ¬ (16 : Int32) ≤ nI l := nI_ge (b := 16) (by omega) (by decide)
    have hix : 16 * p + l < 1600 := by omega
    rw [gm_explore_l35, mm_game_l24, if_neg hl16, if_neg hl16, xg_nI (by omega) (by decide), xg_nI (by omega) (by decide), nI_clamp (by omega), q3, q4, ix_c, ix_m]
    simp only [xj_j]
    -- the followers written, and on
    have go : ∀ (e : Option Nat) (R1 : Nat → Nat → Nat) (cnt1 : Nat) (mc1 mm1 : xm_S), (∀ v, e = some v → v < cnt1) → cnt ≤ cnt1 → ga_D sg n b A G A' G' mc1 mm1 → ge_R sg n b R1 cnt1 E (16 * p + l) mc1 mm1 → gk_18 mm mm1 →
        (∃ mc' mm' : xm_S, xg_n (nI (16 * p + l)) 1600 (xs_m (xw_i mc1 28 (nI (16 * p + l)).toNatClampNeg (eI e)) fun m817 => gm_explore_l35 F (nI b) (nI p) kC fu (nI l + (1 : Int32)) m817) = some (0, mc') ∧ xg_n (nI (16 * p + l)) 1600 (xs_m (xw_i mm1 51 (nI (16 * p + l)).toNatClampNeg (eI e)) fun m2041 => if (m2041.1 35 18) ≤ (100 : Int32) then mm_game_l24 F (nI b) (nI p) kM fu' (nI l + (1 : Int32)) m2041 else some ((0 : Int32), m2041)) = some (0, mm') ∧ gk_18 mm mm') ∨
        ∃ (R' : Nat → Nat → Nat) (cnt' : Nat) (E' : Nat → Option Nat) (mc' mm' : xm_S), xg_n (nI (16 * p + l)) 1600 (xs_m (xw_i mc1 28 (nI (16 * p + l)).toNatClampNeg (eI e)) fun m817 => gm_explore_l35 F (nI b) (nI p) kC fu (nI l + (1 : Int32)) m817) = kC mc' ∧ xg_n (nI (16 * p + l)) 1600 (xs_m (xw_i mm1 51 (nI (16 * p + l)).toNatClampNeg (eI e)) fun m2041 => if (m2041.1 35 18) ≤ (100 : Int32) then mm_game_l24 F (nI b) (nI p) kM fu' (nI l + (1 : Int32)) m2041 else some ((0 : Int32), m2041)) = kM mm' ∧ ga_D sg n b A G A' G' mc' mm' ∧ ge_R sg n b R' cnt' E' (16 * p + 16) mc' mm' ∧ gk_18 mm mm' := fun e R1 cnt1 mc1 mm1 he hcc hD1 hR1 hg1 => by
      obtain ⟨s1, s2, s3, s4, s5⟩ := hR1
      obtain ⟨d1, d2, d3, d4, d5, d6, d7⟩ := hD1
      rw [xg_nI hix (by decide), xg_nI hix (by decide), nI_clamp (by omega)]
      simp only [xs_m]
      rw [xi_k (show 35 ≠ 51 by decide), s3, if_pos (show nI cnt1 ≤ (100 : Int32) from nI_le (b := 100) s1.2 (by decide)), nI_1]
      have g2 : gk_18 mm (xw_i mm1 51 (16 * p + l) (eI e)) := fun j hj => by rw [xi_k (show 35 ≠ 51 by decide)]; exact hg1 j hj
      rcases ih (l + 1) fu fu' R1 cnt1 (va_up E (16 * p + l) e) (xw_i mc1 28 (16 * p + l) (eI e)) (xw_i mm1 51 (16 * p + l) (eI e)) (by omega) (by omega) (by omega) ⟨d1, d2, d3, by rw [xi_k (by decide)]; exact d4, by rw [xi_k (by decide)]; exact d5, fun s l' h1 h2 => by rw [xi_k (by decide), xi_k (by decide), xi_k (by decide), xi_k (by decide)]; exact d6 s l' h1 h2, d7⟩ ⟨s1, by rw [xi_k (by decide)]; exact s2, by rw [xi_k (by decide)]; exact s3, s4, fun j hj => by
        by_cases z : j = 16 * p + l
        · subst z
          refine ⟨fun v hv => he v (by simpa [va_up] using hv), ?_, ?_⟩
          · rw [xi_s]; simp [va_up]
          · rw [xi_s]; simp [va_up]
        · have hz : va_up E (16 * p + l) e j = E j := by simp [va_up, z]
          rw [hz, xi_j z, xi_j z]
          exact s5 j (by omega)⟩ (by omega) with ⟨mc', mm', t1, t2, t3⟩ | ⟨R', cnt', E', mc', mm', t1, t2, t3, t4, t5⟩
      · exact Or.inl ⟨mc', mm', t1, t2, gk_t g2 t3⟩
      · exact Or.inr ⟨R', cnt', E', mc', mm', t1, t2, t3, t4, gk_t g2 t5⟩
    rcases ga_two (show 100 < F by omega) hD (show l < 16 by omega) q1 with ⟨c1, c2⟩ | ⟨Q, hQ1, hQ2, c1, c2⟩
    · rw [c1, xc_s, c2, xc_s]
      rw [if_pos lX_d1, if_neg (show ¬ (-1 : Int32) = -2 by decide), if_neg lX_d0]
      exact go none R cnt mc mm (fun v hv => by cases hv) (Nat.le_refl _) hD hR (fun _ _ => rfl)
    · have hb := hD.2.2.1
      have Q8 : ∀ t, Q t < 8 := fun t => by have := hQ1 t; omega
      rw [c1, xc_s, c2, xc_s]
      rw [if_neg (lX_c1 (cd_63 Q8)), if_pos (lX_c0 (cd_48 (fun t => Q8 (sg t)) hD.1))]
      have J := hD.2.2.2.2.2.2
      have hn := hD.1
      have E1 : ∀ p', p' < cnt → (mc.2 27 p' = lN (cd_n 16 Q 16) ↔ ∀ t, t < n → R p' t = Q t) := fun p' hp' => by
        obtain ⟨u1, u2, u3, u4⟩ := r4 p' hp'
        have u8 : ∀ t, R p' t < 8 := fun t => by have := u1 t; omega
        rw [u3]
        exact cq_16 hn u8 Q8 u2 hQ2
      have E2 : ∀ p', p' < cnt → (mm.2 50 p' = lN (cd_n 8 (fun t => Q (sg t)) n) ↔ ∀ t, t < n → R p' t = Q t) := fun p' hp' => by
        obtain ⟨u1, u2, u3, u4⟩ := r4 p' hp'
        have u8 : ∀ t, R p' t < 8 := fun t => by have := u1 t; omega
        rw [u4, cq_8 hn (fun t => u8 (sg t)) (fun t => Q8 (sg t))]
        constructor
        · intro h t ht
          obtain ⟨u, hu, e⟩ := J.2.1 t ht
          rw [← e]
          exact h u hu
        · intro h t ht
          exact h (sg t) (J.1 t ht)
      rcases gp_C hF r1.2 r2 E1 with ⟨v, v1, v2, v3, v4⟩ | ⟨v1, v2⟩
      · rcases gp_M hF r1.2 r3 E2 with ⟨v', w1, w2, w3, w4⟩ | ⟨w1, w2⟩
        · obtain rfl : v' = v := by
            rcases Nat.lt_trichotomy v' v with y | y | y
            · exact absurd w2 (v3 v' y)
            · exact y
            · exact absurd v2 (w3 v y)
          rw [v4, w4]
          simp only [xc_s]
          rw [if_neg (nI_m2 (by omega))]
          exact go (some v') R cnt mc mm (fun u hu => by cases hu; exact v1) (Nat.le_refl _) hD hR (fun _ _ => rfl)
        · exact absurd v2 (w1 v v1)
      · rcases gp_M hF r1.2 r3 E2 with ⟨v', w1', w2', w3', w4'⟩ | ⟨w1, w2⟩
        · exact absurd w2' (v1 v' w1')
        · have gkN : gk_18 mm (xw_i (xw_l mm 50 cnt (lN (cd_n 8 (fun t => Q (sg t)) n))) 35 18 (nI (cnt + 1))) := fun j hj => by rw [xi_j hj]; rfl
          rcases v2 with ⟨y1, y2⟩ | ⟨y1, y2⟩
          · rw [y2, w2]
            simp only [xc_s]
            rw [if_neg (nI_m2 r1.2)]
            refine go (some cnt) (va_up R cnt Q) (cnt + 1) _ _ (fun u hu => by cases hu; omega) (by omega) ?_ ?_ gkN
            · obtain ⟨d1, d2, d3, d4, d5, d6, d7⟩ := hD
              exact ⟨d1, d2, d3, by rw [xi_k (by decide)]; exact d4, by rw [xi_j (by decide)]; exact d5, fun s l' h1 h2 => by rw [xi_k (by decide), xi_k (by decide), xi_k (by decide), xi_k (by decide)]; exact d6 s l' h1 h2, d7⟩
            · refine ⟨by omega, xi_s, xi_s, fun p' hp' => ?_, fun j hj => ?_⟩
              · by_cases z : p' = cnt
                · have e : va_up R cnt Q p' = Q := by simp [va_up, z]
                  rw [e, z, xi_2, xi_2, xl_s1, xl_s1]
                  exact ⟨hQ1, hQ2, rfl, rfl⟩
                · have e : va_up R cnt Q p' = R p' := by simp [va_up, z]
                  rw [e, xi_2, xi_2, xl_j z, xl_j z]
                  exact r4 p' (by omega)
              · obtain ⟨x1, x2, x3⟩ := r5 j hj
                exact ⟨fun v hv => by have := x1 v hv; omega, by rw [xi_k (by decide)]; exact x2, by rw [xi_k (by decide)]; exact x3⟩
          · rw [y2, w2]
            simp only [xc_s]
            rw [if_pos trivial, xg_nI hix (by decide), nI_clamp (by omega)]
            simp only [xs_m]
            rw [xi_k (show 35 ≠ 51 by decide), xi_s, if_neg (show ¬ nI (cnt + 1) ≤ (100 : Int32) by rw [y1]; decide)]
            exact Or.inl ⟨_, _, rfl, rfl, fun j hj => by rw [xi_k (show 35 ≠ 51 by decide)]; exact gkN j hj⟩
theorem ge_out {F n b : Nat} {sg : Nat → Nat} {A G A' G' : Nat → Nat → Nat} {kC kM : xm_S → Option (Int32 × xm_S)} (hF : 1000 < F) : ∀ (r p fu fu' : Nat) (R : Nat → Nat → Nat) (cnt : Nat) (E : Nat → Option Nat) (mc mm : xm_S), p + r = 100 → r < fu → r < fu' → ga_D sg n b A G A' G' mc mm → ge_R sg n b R cnt E (16 * p) mc mm →
    (∃ mc' mm' : xm_S, gm_explore_l19 F (nI b) kC fu (nI p) mc = some (0, mc') ∧ mm_game_l13 F (nI b) kM fu' (nI p) mm = some (0, mm') ∧ gk_18 mm mm') ∨
    ∃ (R' : Nat → Nat → Nat) (cnt' : Nat) (E' : Nat → Option Nat) (mc' mm' : xm_S), gm_explore_l19 F (nI b) kC fu (nI p) mc = kC mc' ∧ mm_game_l13 F (nI b) kM fu' (nI p) mm = kM mm' ∧ ge_R sg n b R' cnt' E' (16 * cnt') mc' mm' ∧ gk_18 mm mm' := by
  intro r
  induction r with
  | zero =>
    intro p fu fu' R cnt E mc mm hp hfu hfu' hD hR
    obtain ⟨fu, rfl⟩ : ∃ g, fu = g + 1 := ⟨fu - 1, by omega⟩
    obtain ⟨fu', rfl⟩ : ∃ g, fu' = g + 1 := ⟨fu' - 1, by omega⟩
    obtain rfl : p = 100 := by omega
    have h1 := hR.1
    refine Or.inr ⟨R, cnt, E, mc, mm, ?_, ?_, ⟨hR.1, hR.2.1, hR.2.2.1, hR.2.2.2.1, fun j hj => hR.2.2.2.2 j (by omega)⟩, fun _ _ => rfl⟩
    · rw [gm_explore_l19, hR.2.1, if_pos (nI_le h1.2 (by decide))]
    · rw [mm_game_l13, hR.2.2.1, if_pos (nI_le h1.2 (by decide))]
  | succ r ih =>
    intro p fu fu' R cnt E mc mm hp hfu hfu' hD hR
    obtain ⟨fu, rfl⟩ : ∃ g, fu = g + 1 := ⟨fu - 1, by omega⟩
    obtain ⟨fu', rfl⟩ : ∃ g, fu' = g + 1 := ⟨fu' - 1, by omega⟩
    have h1 := hR.1
    by_cases c : cnt ≤ p
    · refine Or.inr ⟨R, cnt, E, mc, mm, ?_, ?_, ⟨hR.1, hR.2.1, hR.2.2.1, hR.2.2.2.1, fun j hj => hR.2.2.2.2 j (by omega)⟩, fun _ _ => rfl⟩
      · rw [gm_explore_l19, hR.2.1, if_pos (nI_le c (by omega))]
      · rw [mm_game_l13, hR.2.2.1, if_pos (nI_le c (by omega))]
    · rw [gm_explore_l19, mm_game_l13, hR.2.1, hR.2.2.1, if_neg (nI_ge (by omega) (by omega)), if_neg (show ¬ (100 : Int32) ≤ nI p from nI_ge (b := 100) (by omega) (by decide)), if_neg (nI_ge (by omega) (by omega))]
      rcases ge_in (F := F) (p := p) (kC := fun (m824 : xm_S) => gm_explore_l19 F (nI b) kC fu (nI p + (1 : Int32)) m824) (kM := fun (m2049 : xm_S) => mm_game_l13 F (nI b) kM fu' (nI p + (1 : Int32)) m2049) hF 16 0 F F R cnt E mc mm (by omega) (by omega) (by omega) hD hR (by omega) with ⟨mc', mm', t1, t2, t3⟩ | ⟨R', cnt', E', mc', mm', t1, t2, t3, t4, t5⟩
      · exact Or.inl ⟨mc', mm', t1, t2, t3⟩
      · have t1' : gm_explore_l35 F (nI b) (nI p) _ F (0 : Int32) mc = _ := t1
        have t2' : mm_game_l24 F (nI b) (nI p) _ F (0 : Int32) mm = _ := t2
        rw [t1', t2', nI_1]
        rcases ih (p + 1) fu fu' R' cnt' E' mc' mm' (by omega) (by omega) (by omega) t3 t4 with ⟨a, b', u1, u2, u3⟩ | ⟨R2, c2, E2, a, b', u1, u2, u3, u4⟩
        · exact Or.inl ⟨a, b', u1, u2, gk_t t5 u3⟩
        · exact Or.inr ⟨R2, c2, E2, a, b', u1, u2, u3, gk_t t5 u4⟩
