/-! Safe positions: the rounds. -/
def sf_d (E : Nat → Option Nat) (pl : Bool) (S : Nat → Bool) : Nat → (Nat → Bool)
  | 0 => S
  | k + 1 => if sf_d E pl S k k = true ∧ sf_s E pl (sf_d E pl S k) k = false then va_up (sf_d E pl S k) k false else sf_d E pl S k
def sf_c (S : Nat → Bool) : Nat → Nat
  | 0 => 0
  | k + 1 => sf_c S k + (if S k = true then 1 else 0)
theorem sf_c_le (S : Nat → Bool) : ∀ k, sf_c S k ≤ k
  | 0 => Nat.le_refl _
  | k + 1 => by
    have := sf_c_le S k
    rw [sf_c]
    split <;> omega
theorem sf_c_ext {S V : Nat → Bool} : ∀ {k : Nat}, (∀ j, j < k → S j = V j) → sf_c S k = sf_c V k
  | 0, _ => rfl
  | k + 1, h => by rw [sf_c, sf_c, sf_c_ext (fun j hj => h j (by omega)), h k (by omega)]
theorem sf_c_up {S : Nat → Bool} {p : Nat} (h : S p = true) : ∀ {k : Nat}, p < k → sf_c (va_up S p false) k + 1 = sf_c S k
  | 0, hk => by omega
  | k + 1, hk => by
    rw [sf_c, sf_c]
    by_cases z : p = k
    · subst z
      rw [sf_c_ext (V := S) (fun j hj => by simp [va_up, Nat.ne_of_lt hj]), h]
      simp [va_up]
    · have := sf_c_up (S := S) h (k := k) (by omega)
      have e : va_up S p false k = S k := by
        have : ¬ k = p := fun y => z y.symm
        simp [va_up, this]
      rw [e]
      omega
theorem sf_c_d {E : Nat → Option Nat} {pl : Bool} {S : Nat → Bool} {cnt : Nat} : ∀ {k : Nat}, k ≤ cnt → sf_c (sf_d E pl S k) cnt ≤ sf_c S cnt
  | 0, _ => Nat.le_refl _
  | k + 1, hk => by
    have h := sf_c_d (E := E) (pl := pl) (S := S) (cnt := cnt) (k := k) (by omega)
    rw [sf_d]
    by_cases c : sf_d E pl S k k = true ∧ sf_s E pl (sf_d E pl S k) k = false
    · rw [if_pos c]
      have := sf_c_up c.1 (k := cnt) (by omega)
      omega
    · rw [if_neg c]; exact h
theorem sf_d_fix {E : Nat → Option Nat} {pl : Bool} {S : Nat → Bool} {cnt : Nat} : ∀ {k : Nat}, k ≤ cnt → sf_c (sf_d E pl S k) cnt = sf_c S cnt → sf_d E pl S k = S ∧ ∀ p, p < k → S p = true → sf_s E pl S p = true
  | 0, _, _ => ⟨rfl, fun p hp => by omega⟩
  | k + 1, hk, h => by
    have hle := sf_c_d (E := E) (pl := pl) (S := S) (cnt := cnt) (k := k) (by omega)
    rw [sf_d] at h ⊢
    by_cases c : sf_d E pl S k k = true ∧ sf_s E pl (sf_d E pl S k) k = false
    · rw [if_pos c] at h
      have := sf_c_up c.1 (k := cnt) (by omega)
      omega
    · rw [if_neg c] at h ⊢
      obtain ⟨h1, h2⟩ := sf_d_fix (by omega) h
      refine ⟨h1, fun p hp hS => ?_⟩
      by_cases z : p = k
      · subst z
        rw [h1] at c
        cases y : sf_s E pl S p with
        | true => rfl
        | false => exact absurd ⟨hS, y⟩ c
      · exact h2 p (by omega) hS
def sf_r (E : Nat → Option Nat) (pl : Bool) (cnt : Nat) : Nat → (Nat → Bool)
  | 0 => fun _ => true
  | r + 1 => sf_d E pl (sf_r E pl cnt r) cnt
def sf_L (E : Nat → Option Nat) (pl : Bool) (cnt R : Nat) : Prop := (∀ r, r < R → sf_c (sf_r E pl cnt (r + 1)) cnt < sf_c (sf_r E pl cnt r) cnt) ∧ sf_c (sf_r E pl cnt (R + 1)) cnt = sf_c (sf_r E pl cnt R) cnt
theorem sf_L_u {E : Nat → Option Nat} {pl : Bool} {cnt R R' : Nat} (h : sf_L E pl cnt R) (k : sf_L E pl cnt R') : R = R' := by
  rcases Nat.lt_trichotomy R R' with y | y | y
  · have h1 := k.1 R y
    have h2 := h.2
    omega
  · exact y
  · have h1 := h.1 R' y
    have h2 := k.2
    omega
theorem sf_L_n {E : Nat → Option Nat} {pl : Bool} {cnt : Nat} : ∀ {R : Nat}, (∀ r, r < R → sf_c (sf_r E pl cnt (r + 1)) cnt < sf_c (sf_r E pl cnt r) cnt) → sf_c (sf_r E pl cnt R) cnt + R ≤ cnt
  | 0, _ => by have := sf_c_le (sf_r E pl cnt 0) cnt; omega
  | R + 1, h => by
    have h1 := sf_L_n (R := R) (fun r hr => h r (by omega))
    have h2 := h R (by omega)
    omega
-- the class: one pass
theorem sc_7 {F cnt : Nat} {E : Nat → Option Nat} {pl : Bool} {S : Nat → Bool} {v0 : Int32} {kk : xm_S → Option (Int32 × xm_S)} (hF : 1000 < F) (hP : gr_P cnt E) : ∀ (r p fu : Nat) (m : xm_S), p + r = cnt → r < fu → sf_C cnt E (sf_d E pl S p) m → m.1 26 5 = nI (sf_c (sf_d E pl S p) cnt) →
    ∃ m' : xm_S, gm_dropUnsafe_l7 F (if pl = true then (1 : Int32) else 2) v0 kk fu (nI p) m = kk m' ∧ sf_C cnt E (sf_d E pl S cnt) m' ∧ m'.1 26 5 = nI (sf_c (sf_d E pl S cnt) cnt) := by
  have h100 := hP.2.1
  intro r
  induction r with
  | zero =>
    intro p fu m hp hfu hC h5
    obtain ⟨fu, rfl⟩ : ∃ g, fu = g + 1 := ⟨fu - 1, by omega⟩
    obtain rfl : p = cnt := by omega
    refine ⟨m, ?_, hC, h5⟩
    rw [gm_dropUnsafe_l7, hC.1.1, if_pos (nI_le (Nat.le_refl _) (by omega))]
  | succ r ih =>
    intro p fu m hp hfu hC h5
    obtain ⟨fu, rfl⟩ : ∃ g, fu = g + 1 := ⟨fu - 1, by omega⟩
    have hpc : p < cnt := by omega
    rw [gm_dropUnsafe_l7, hC.1.1, if_neg (nI_ge hpc (by omega)), xg_nI (by omega) (by decide), nI_clamp (by omega), hC.2 p hpc, nI_1]
    by_cases c1 : sf_d E pl S p p = true
    · rw [if_neg (show ¬ bI (sf_d E pl S p p) = 0 by rw [c1]; decide), sc_s hF hP hC hpc]
      simp only [xc_s]
      by_cases c2 : sf_s E pl (sf_d E pl S p) p = false
      · have e : sf_d E pl S (p + 1) = va_up (sf_d E pl S p) p false := by rw [sf_d, if_pos ⟨c1, c2⟩]
        have hcu := sf_c_up c1 (k := cnt) hpc
        rw [if_pos (show bI (sf_s E pl (sf_d E pl S p) p) = 0 by rw [c2]; rfl), xg_nI (by omega) (by decide)]
        simp only [xs_m]
        rw [xi_k (show 26 ≠ 29 by decide), h5, ← hcu, nI_pred]
        refine ih (p + 1) fu _ (by omega) (by omega) ?_ (by rw [e]; exact xi_s)
        rw [e]
        refine ⟨⟨by rw [xi_j (by decide), xi_k (by decide)]; exact hC.1.1, fun j hj => by rw [xi_k (by decide), xi_k (by decide)]; exact hC.1.2 j hj⟩, fun v hv => ?_⟩
        rw [xi_k (by decide)]
        by_cases z : v = p
        · subst z; rw [xi_s]; simp [va_up, bI]
        · rw [xi_j z]
          have : va_up (sf_d E pl S p) p false v = sf_d E pl S p v := by simp [va_up, z]
          rw [this]; exact hC.2 v hv
      · have e : sf_d E pl S (p + 1) = sf_d E pl S p := by rw [sf_d, if_neg (fun z => c2 z.2)]
        rw [if_neg (show ¬ bI (sf_s E pl (sf_d E pl S p) p) = 0 from fun z => c2 ((bI_0 _).mp z))]
        exact ih (p + 1) fu m (by omega) (by omega) (by rw [e]; exact hC) (by rw [e]; exact h5)
    · have e : sf_d E pl S (p + 1) = sf_d E pl S p := by rw [sf_d, if_neg (fun z => c1 z.1)]
      rw [if_pos (show bI (sf_d E pl S p p) = 0 by rw [(bI_0 _)]; simpa using c1)]
      exact ih (p + 1) fu m (by omega) (by omega) (by rw [e]; exact hC) (by rw [e]; exact h5)
theorem sc_d {F cnt : Nat} {E : Nat → Option Nat} {pl : Bool} {S : Nat → Bool} {m : xm_S} (hF : 1000 < F) (hP : gr_P cnt E) (hC : sf_C cnt E S m) (h5 : m.1 26 5 = nI (sf_c S cnt)) :
    ∃ m' : xm_S, gm_dropUnsafe F (if pl = true then (1 : Int32) else 2) m = some (bI (decide (sf_c (sf_d E pl S cnt) cnt < sf_c S cnt)), m') ∧ sf_C cnt E (sf_d E pl S cnt) m' ∧ m'.1 26 5 = nI (sf_c (sf_d E pl S cnt) cnt) := by
  have h100 := hP.2.1
  obtain ⟨m', e1, e2, e3⟩ := sc_7 (F := F) (pl := pl) (S := S) (v0 := m.1 26 5) (kk := fun (m918 : xm_S) => if (m918.1 26 5) = (m.1 26 5) then some ((0 : Int32), m918) else some ((1 : Int32), m918)) hF hP cnt 0 F m (by omega) (by omega) hC h5
  refine ⟨m', ?_, e2, e3⟩
  have e1' : gm_dropUnsafe F (if pl = true then (1 : Int32) else 2) m = _ := e1
  rw [e1', e3, h5]
  have h1 := sf_c_le (sf_d E pl S cnt) cnt
  have h2 := sf_c_le S cnt
  have h3 := sf_c_d (E := E) (pl := pl) (S := S) (Nat.le_refl cnt)
  by_cases z : sf_c (sf_d E pl S cnt) cnt = sf_c S cnt
  · rw [if_pos (by rw [z]), decide_eq_false (by omega)]; rfl
  · rw [if_neg (fun y => z ((nI_eq (by omega) (by omega)).mp y)), decide_eq_true (by omega)]; rfl
theorem sc_35 {F cnt : Nat} {E : Nat → Option Nat} {pl : Bool} {kk : xm_S → Option (Int32 × xm_S)} (hF : 1000 < F) (hP : gr_P cnt E) : ∀ (d r fu : Nat) (m : xm_S), sf_c (sf_r E pl cnt r) cnt = d → d + 1 < fu → (∀ r', r' < r → sf_c (sf_r E pl cnt (r' + 1)) cnt < sf_c (sf_r E pl cnt r') cnt) → sf_C cnt E (sf_r E pl cnt r) m → m.1 26 5 = nI (sf_c (sf_r E pl cnt r) cnt) →
    ∃ (R : Nat) (m' : xm_S), gm_isWonBy_l35 F (if pl = true then (1 : Int32) else 2) kk fu (1 : Int32) (nI r) m = kk m' ∧ sf_L E pl cnt R ∧ sf_C cnt E (sf_r E pl cnt R) m' ∧ m'.1 26 5 = nI (sf_c (sf_r E pl cnt R) cnt) := by
  have h100 := hP.2.1
  intro d
  induction d using Nat.strongRecOn with
  | ind d ih =>
    intro r fu m hd hfu hL hC h5
    obtain ⟨fu, rfl⟩ : ∃ g, fu = g + 1 := ⟨fu - 1, by omega⟩
    have hn := sf_L_n hL
    obtain ⟨m1, e1, e2, e3⟩ := sc_d (F := F) (pl := pl) hF hP hC h5
    rw [gm_isWonBy_l35, if_neg (show ¬ (100 : Int32) < nI r from nI_nlt (a := 100) (by omega) (by decide)), if_neg (show ¬ (1 : Int32) = 0 by decide), e1]
    simp only [xc_s]
    rw [nI_1]
    by_cases z : sf_c (sf_d E pl (sf_r E pl cnt r) cnt) cnt < sf_c (sf_r E pl cnt r) cnt
    · rw [decide_eq_true z]
      exact ih (sf_c (sf_r E pl cnt (r + 1)) cnt) (by rw [← hd]; exact z) (r + 1) fu m1 rfl (by
        have : sf_c (sf_r E pl cnt (r + 1)) cnt < sf_c (sf_r E pl cnt r) cnt := z
        omega) (fun r' hr' => by
        by_cases y : r' = r
        · rw [y]; exact z
        · exact hL r' (by omega)) e2 e3
    · rw [decide_eq_false z]
      have hle := sf_c_d (E := E) (pl := pl) (S := sf_r E pl cnt r) (Nat.le_refl cnt)
      have heq : sf_c (sf_d E pl (sf_r E pl cnt r) cnt) cnt = sf_c (sf_r E pl cnt r) cnt := by omega
      have hfix := (sf_d_fix (Nat.le_refl cnt) heq).1
      obtain ⟨fu, rfl⟩ : ∃ g, fu = g + 1 := ⟨fu - 1, by omega⟩
      refine ⟨r, m1, ?_, ⟨hL, heq⟩, by rw [hfix] at e2; exact e2, by rw [hfix] at e3; exact e3⟩
      rw [gm_isWonBy_l35]
      by_cases y : (100 : Int32) < nI (r + 1)
      · rw [if_pos y]
      · rw [if_neg y, if_pos (show bI false = 0 from rfl)]
theorem sc_2 {F cnt : Nat} {E : Nat → Option Nat} {vp : Int32} {kk : xm_S → Option (Int32 × xm_S)} (hP : gr_P cnt E) : ∀ (r p fu : Nat) (m : xm_S), p + r = cnt → r < fu → gr_C cnt E m → (∀ v, v < p → m.1 29 v = bI true) →
    ∃ m' : xm_S, gm_isWonBy_l2 F vp kk fu (nI p) m = kk m' ∧ sf_C cnt E (fun _ => true) m' := by
  have h100 := hP.2.1
  intro r
  induction r with
  | zero =>
    intro p fu m hp hfu hC h5
    obtain ⟨fu, rfl⟩ : ∃ g, fu = g + 1 := ⟨fu - 1, by omega⟩
    obtain rfl : p = cnt := by omega
    refine ⟨m, ?_, hC, h5⟩
    rw [gm_isWonBy_l2, hC.1, if_pos (nI_le (Nat.le_refl _) (by omega))]
  | succ r ih =>
    intro p fu m hp hfu hC h5
    obtain ⟨fu, rfl⟩ : ∃ g, fu = g + 1 := ⟨fu - 1, by omega⟩
    rw [gm_isWonBy_l2, hC.1, if_neg (nI_ge (by omega) (by omega)), xg_nI (by omega) (by decide), nI_clamp (by omega), nI_1]
    simp only [xs_m]
    exact ih (p + 1) fu _ (by omega) (by omega) ⟨by rw [xi_k (by decide)]; exact hC.1, fun j hj => by rw [xi_k (by decide)]; exact hC.2 j hj⟩ (fun v hv => by
      by_cases z : v = p
      · subst z; exact xi_s
      · rw [xi_j z]; exact h5 v (by omega))
theorem sc_all {F cnt : Nat} {E : Nat → Option Nat} {pl : Bool} {m : xm_S} (hF : 1000 < F) (hP : gr_P cnt E) (hC : gr_C cnt E m) :
    ∃ (R : Nat) (m' : xm_S), gm_isWonBy F (if pl = true then (1 : Int32) else 2) m = some (bI (sf_r E pl cnt R 0), m') ∧ sf_L E pl cnt R ∧ sf_C cnt E (sf_r E pl cnt R) m' ∧ m'.1 26 5 = nI (sf_c (sf_r E pl cnt R) cnt) := by
  have h100 := hP.2.1
  have call : ∀ k, sf_c (fun _ => true) k = k := fun k => by
    induction k with
    | zero => rfl
    | succ k ih => rw [sf_c, ih]; rfl
  unfold gm_isWonBy
  obtain ⟨m1, e1, e2⟩ := sc_2 (F := F) (vp := if pl = true then (1 : Int32) else 2) (kk := fun (m838 : xm_S) => xs_m (xw_i m838 26 5 (m838.1 26 2)) fun m839 => gm_isWonBy_l35 F (if pl = true then (1 : Int32) else 2) (fun (m924 : xm_S) => xg_n (0 : Int32) 100 (xg_b (m924.1 29 (0 : Int32).toNatClampNeg) (some (m924.1 29 (0 : Int32).toNatClampNeg, m924)))) F (1 : Int32) (0 : Int32) m839) hP cnt 0 F m (by omega) (by omega) hC (fun v hv => by omega)
  have e1' : gm_isWonBy_l2 F (if pl = true then (1 : Int32) else 2) _ F (0 : Int32) m = _ := e1
  rw [e1']
  simp only [xs_m]
  obtain ⟨R, m2, a1, a2, a3, a4⟩ := sc_35 (F := F) (pl := pl) (kk := fun (m924 : xm_S) => xg_n (0 : Int32) 100 (xg_b (m924.1 29 (0 : Int32).toNatClampNeg) (some (m924.1 29 (0 : Int32).toNatClampNeg, m924)))) hF hP cnt 0 F (xw_i m1 26 5 (m1.1 26 2)) (call cnt) (by omega) (fun r' h => by omega) ⟨⟨by rw [xi_j (by decide)]; exact e2.1.1, fun j hj => by rw [xi_k (by decide)]; exact e2.1.2 j hj⟩, fun v hv => by rw [xi_k (by decide)]; exact e2.2 v hv⟩ (by rw [xi_s, e2.1.1]; show nI cnt = nI (sf_c (fun _ => true) cnt); rw [call])
  have a1' : gm_isWonBy_l35 F (if pl = true then (1 : Int32) else 2) _ F (1 : Int32) (0 : Int32) _ = _ := a1
  refine ⟨R, m2, ?_, a2, a3, a4⟩
  rw [a1', xg_0 (by decide) (by decide), nz_0, a3.2 0 hP.1]
  cases sf_r E pl cnt R 0
  · exact xg_b_t (Or.inl rfl)
  · exact xg_b_t (Or.inr rfl)
-- the reference: one pass
def gk_22 (m m' : xm_S) : Prop := ∀ j, j ≠ 22 → m'.1 35 j = m.1 35 j
theorem sm_33 {F cnt : Nat} {E : Nat → Option Nat} {pl : Bool} {S : Nat → Bool} {kk : Int32 → xm_S → Option xm_S} (hF : 1000 < F) (hP : gr_P cnt E) : ∀ (r p fu : Nat) (m : xm_S), p + r = cnt → r < fu → sf_M cnt E (sf_d E pl S p) m →
    ∃ m' : xm_S, mm_findSafe_l33 F (bI pl) kk fu (bI (decide (sf_c (sf_d E pl S p) cnt < sf_c S cnt))) (nI p) m = kk (bI (decide (sf_c (sf_d E pl S cnt) cnt < sf_c S cnt))) m' ∧ sf_M cnt E (sf_d E pl S cnt) m' ∧ m'.1 35 = m.1 35 := by
  have h100 := hP.2.1
  intro r
  induction r with
  | zero =>
    intro p fu m hp hfu hM
    obtain ⟨fu, rfl⟩ : ∃ g, fu = g + 1 := ⟨fu - 1, by omega⟩
    obtain rfl : p = cnt := by omega
    refine ⟨m, ?_, hM, rfl⟩
    rw [mm_findSafe_l33, hM.1.1, if_pos (nI_le (Nat.le_refl _) (by omega))]
  | succ r ih =>
    intro p fu m hp hfu hM
    obtain ⟨fu, rfl⟩ : ∃ g, fu = g + 1 := ⟨fu - 1, by omega⟩
    have hpc : p < cnt := by omega
    rw [mm_findSafe_l33, hM.1.1, if_neg (nI_ge hpc (by omega)), xg_nI (by omega) (by decide), nI_clamp (by omega), hM.2 p hpc, nI_1]
    by_cases c1 : sf_d E pl S p p = true
    · rw [if_neg (show ¬ bI (sf_d E pl S p p) = 0 by rw [c1]; decide), sm_s hF hP hM hpc]
      simp only [xc_s]
      by_cases c2 : sf_s E pl (sf_d E pl S p) p = false
      · have e : sf_d E pl S (p + 1) = va_up (sf_d E pl S p) p false := by rw [sf_d, if_pos ⟨c1, c2⟩]
        have hcu := sf_c_up c1 (k := cnt) hpc
        have hcd := sf_c_d (E := E) (pl := pl) (S := S) (k := p) (cnt := cnt) (by omega)
        rw [if_pos (show bI (sf_s E pl (sf_d E pl S p) p) = 0 by rw [c2]; rfl), xg_nI (by omega) (by decide)]
        simp only [xs_m]
        have ef : (1 : Int32) = bI (decide (sf_c (sf_d E pl S (p + 1)) cnt < sf_c S cnt)) := by
          rw [decide_eq_true (by rw [e]; omega)]; rfl
        rw [ef]
        obtain ⟨m', t1, t2, t3⟩ := ih (p + 1) fu (xw_i m 52 p (0 : Int32)) (by omega) (by omega) (by
          rw [e]
          refine ⟨⟨by rw [xi_k (by decide)]; exact hM.1.1, fun j hj => by rw [xi_k (by decide)]; exact hM.1.2 j hj⟩, fun v hv => ?_⟩
          by_cases z : v = p
          · subst z; rw [xi_s]; simp [va_up, bI]
          · rw [xi_j z]
            have : va_up (sf_d E pl S p) p false v = sf_d E pl S p v := by simp [va_up, z]
            rw [this]; exact hM.2 v hv)
        exact ⟨m', t1, t2, by rw [t3, xi_k (by decide)]⟩
      · have e : sf_d E pl S (p + 1) = sf_d E pl S p := by rw [sf_d, if_neg (fun z => c2 z.2)]
        rw [if_neg (show ¬ bI (sf_s E pl (sf_d E pl S p) p) = 0 from fun z => c2 ((bI_0 _).mp z))]
        have := ih (p + 1) fu m (by omega) (by omega) (by rw [e]; exact hM)
        rw [e] at this
        exact this
    · have e : sf_d E pl S (p + 1) = sf_d E pl S p := by rw [sf_d, if_neg (fun z => c1 z.1)]
      rw [if_pos (show bI (sf_d E pl S p p) = 0 by rw [(bI_0 _)]; simpa using c1)]
      have := ih (p + 1) fu m (by omega) (by omega) (by rw [e]; exact hM)
      rw [e] at this
      exact this
theorem sm_25 {F cnt : Nat} {E : Nat → Option Nat} {pl : Bool} {kk : xm_S → Option xm_S} (hF : 1000 < F) (hP : gr_P cnt E) : ∀ (d r fu : Nat) (m : xm_S), sf_c (sf_r E pl cnt r) cnt = d → d + 1 < fu → (∀ r', r' < r → sf_c (sf_r E pl cnt (r' + 1)) cnt < sf_c (sf_r E pl cnt r') cnt) → sf_M cnt E (sf_r E pl cnt r) m →
    ∃ (R : Nat) (m' : xm_S), mm_findSafe_l25 F (bI pl) kk fu (1 : Int32) m = kk m' ∧ sf_L E pl cnt R ∧ sf_M cnt E (sf_r E pl cnt R) m' ∧ m'.1 35 = m.1 35 := by
  have h100 := hP.2.1
  intro d
  induction d using Nat.strongRecOn with
  | ind d ih =>
    intro r fu m hd hfu hL hM
    obtain ⟨fu, rfl⟩ : ∃ g, fu = g + 1 := ⟨fu - 1, by omega⟩
    obtain ⟨m1, e1, e2, e3⟩ := sm_33 (F := F) (pl := pl) (S := sf_r E pl cnt r) (kk := fun (x2145 : Int32) (m2146 : xm_S) => mm_findSafe_l25 F (bI pl) kk fu x2145 m2146) hF hP cnt 0 F m (by omega) (by omega) hM
    have e0 : bI (decide (sf_c (sf_d E pl (sf_r E pl cnt r) 0) cnt < sf_c (sf_r E pl cnt r) cnt)) = (0 : Int32) := by
      rw [decide_eq_false (show ¬ sf_c (sf_d E pl (sf_r E pl cnt r) 0) cnt < sf_c (sf_r E pl cnt r) cnt from Nat.lt_irrefl _)]; rfl
    rw [e0] at e1
    have e1' : mm_findSafe_l33 F (bI pl) _ F (0 : Int32) (0 : Int32) m = _ := e1
    rw [mm_findSafe_l25, if_neg (show ¬ (1 : Int32) = 0 by decide), e1']
    by_cases z : sf_c (sf_d E pl (sf_r E pl cnt r) cnt) cnt < sf_c (sf_r E pl cnt r) cnt
    · rw [decide_eq_true z]
      obtain ⟨R, m2, t1, t2, t3, t4⟩ := ih (sf_c (sf_r E pl cnt (r + 1)) cnt) (by rw [← hd]; exact z) (r + 1) fu m1 rfl (by
        have : sf_c (sf_r E pl cnt (r + 1)) cnt < sf_c (sf_r E pl cnt r) cnt := z
        omega) (fun r' hr' => by
        by_cases y : r' = r
        · rw [y]; exact z
        · exact hL r' (by omega)) e2
      exact ⟨R, m2, t1, t2, t3, by rw [t4, e3]⟩
    · rw [decide_eq_false z]
      have hle := sf_c_d (E := E) (pl := pl) (S := sf_r E pl cnt r) (Nat.le_refl cnt)
      have heq : sf_c (sf_d E pl (sf_r E pl cnt r) cnt) cnt = sf_c (sf_r E pl cnt r) cnt := by omega
      have hfix := (sf_d_fix (Nat.le_refl cnt) heq).1
      obtain ⟨fu, rfl⟩ : ∃ g, fu = g + 1 := ⟨fu - 1, by omega⟩
      refine ⟨r, m1, ?_, ⟨hL, heq⟩, by rw [hfix] at e2; exact e2, e3⟩
      rw [mm_findSafe_l25, if_pos (show bI false = 0 from rfl)]
theorem sm_2 {F cnt : Nat} {E : Nat → Option Nat} {vp : Int32} {kk : xm_S → Option xm_S} (hP : gr_P cnt E) : ∀ (r p fu : Nat) (m : xm_S), p + r = cnt → r < fu → gr_M cnt E m → (∀ v, v < p → m.1 52 v = bI true) →
    ∃ m' : xm_S, mm_findSafe_l2 F vp kk fu (nI p) m = kk m' ∧ sf_M cnt E (fun _ => true) m' ∧ m'.1 35 = m.1 35 := by
  have h100 := hP.2.1
  intro r
  induction r with
  | zero =>
    intro p fu m hp hfu hC h5
    obtain ⟨fu, rfl⟩ : ∃ g, fu = g + 1 := ⟨fu - 1, by omega⟩
    obtain rfl : p = cnt := by omega
    refine ⟨m, ?_, ⟨hC, h5⟩, rfl⟩
    rw [mm_findSafe_l2, hC.1, if_pos (nI_le (Nat.le_refl _) (by omega))]
  | succ r ih =>
    intro p fu m hp hfu hC h5
    obtain ⟨fu, rfl⟩ : ∃ g, fu = g + 1 := ⟨fu - 1, by omega⟩
    rw [mm_findSafe_l2, hC.1, if_neg (nI_ge (by omega) (by omega)), xg_nI (by omega) (by decide), nI_clamp (by omega), nI_1]
    simp only [xs_m]
    obtain ⟨m', t1, t2, t3⟩ := ih (p + 1) fu (xw_i m 52 p (1 : Int32)) (by omega) (by omega) ⟨by rw [xi_k (by decide)]; exact hC.1, fun j hj => by rw [xi_k (by decide)]; exact hC.2 j hj⟩ (fun v hv => by
      by_cases z : v = p
      · subst z; exact xi_s
      · rw [xi_j z]; exact h5 v (by omega))
    exact ⟨m', t1, t2, by rw [t3, xi_k (by decide)]⟩
theorem sm_84 {F cnt : Nat} {E : Nat → Option Nat} {S : Nat → Bool} {kk : xm_S → Option xm_S} (hP : gr_P cnt E) : ∀ (r p fu : Nat) (m : xm_S), p + r = cnt → r < fu → sf_M cnt E S m → m.1 35 22 = nI (sf_c S p) →
    ∃ m' : xm_S, mm_findSafe_l84 F kk fu (nI p) m = kk m' ∧ sf_M cnt E S m' ∧ m'.1 35 22 = nI (sf_c S cnt) ∧ gk_22 m m' := by
  have h100 := hP.2.1
  intro r
  induction r with
  | zero =>
    intro p fu m hp hfu hM h5
    obtain ⟨fu, rfl⟩ : ∃ g, fu = g + 1 := ⟨fu - 1, by omega⟩
    obtain rfl : p = cnt := by omega
    refine ⟨m, ?_, hM, h5, fun _ _ => rfl⟩
    rw [mm_findSafe_l84, hM.1.1, if_pos (nI_le (Nat.le_refl _) (by omega))]
  | succ r ih =>
    intro p fu m hp hfu hM h5
    obtain ⟨fu, rfl⟩ : ∃ g, fu = g + 1 := ⟨fu - 1, by omega⟩
    have hpc : p < cnt := by omega
    have go : ∀ x : Nat, sf_c S (p + 1) = x → ∃ m' : xm_S, mm_findSafe_l84 F kk fu (nI (p + 1)) (xw_i m 35 22 (nI x)) = kk m' ∧ sf_M cnt E S m' ∧ m'.1 35 22 = nI (sf_c S cnt) ∧ gk_22 m m' := fun x hx => by
      obtain ⟨m', t1, t2, t3, t4⟩ := ih (p + 1) fu (xw_i m 35 22 (nI x)) (by omega) (by omega) ⟨⟨by rw [xi_j (by decide)]; exact hM.1.1, fun j hj => by rw [xi_k (by decide)]; exact hM.1.2 j hj⟩, fun v hv => by rw [xi_k (by decide)]; exact hM.2 v hv⟩ (by rw [xi_s, hx])
      exact ⟨m', t1, t2, t3, fun j hj => by rw [t4 j hj, xi_j hj]⟩
    rw [mm_findSafe_l84, hM.1.1, if_neg (nI_ge hpc (by omega)), xg_nI (by omega) (by decide), nI_clamp (by omega), hM.2 p hpc, nI_1, h5]
    simp only [xs_m]
    cases c : S p with
    | false =>
      rw [if_pos (show bI false = 0 from rfl), show nI (sf_c S p) + (0 : Int32) = nI (sf_c S p + 0) from nI_add _ 0]
      exact go _ (by rw [sf_c, c]; rfl)
    | true =>
      rw [if_neg (show ¬ bI true = 0 by decide), nI_1]
      exact go _ (by rw [sf_c, c]; rfl)
theorem sm_all {F cnt : Nat} {E : Nat → Option Nat} {pl : Bool} {m : xm_S} (hF : 1000 < F) (hP : gr_P cnt E) (hM : gr_M cnt E m) :
    ∃ (R : Nat) (m' : xm_S), mm_findSafe F (bI pl) m = some m' ∧ sf_L E pl cnt R ∧ sf_M cnt E (sf_r E pl cnt R) m' ∧ m'.1 35 22 = nI (sf_c (sf_r E pl cnt R) cnt) ∧ gk_22 m m' := by
  have h100 := hP.2.1
  unfold mm_findSafe
  obtain ⟨m1, e1, e2, e3⟩ := sm_2 (F := F) (vp := bI pl) (kk := fun (m2063 : xm_S) => mm_findSafe_l25 F (bI pl) (fun (m2147 : xm_S) => xs_m (xw_i m2147 35 22 (0 : Int32)) fun m2148 => mm_findSafe_l84 F (fun (m2159 : xm_S) => some m2159) F (0 : Int32) m2148) F (1 : Int32) m2063) hP cnt 0 F m (by omega) (by omega) hM (fun v hv => by omega)
  have e1' : mm_findSafe_l2 F (bI pl) _ F (0 : Int32) m = _ := e1
  rw [e1']
  have cl := sf_c_le (sf_r E pl cnt 0) cnt
  obtain ⟨R, m2, a1, a2, a3, a4⟩ := sm_25 (F := F) (pl := pl) (kk := fun (m2147 : xm_S) => xs_m (xw_i m2147 35 22 (0 : Int32)) fun m2148 => mm_findSafe_l84 F (fun (m2159 : xm_S) => some m2159) F (0 : Int32) m2148) hF hP _ 0 F m1 rfl (by omega) (fun r' h => by omega) e2
  rw [a1]
  simp only [xs_m]
  obtain ⟨m3, b1, b2, b3, b4⟩ := sm_84 (F := F) (S := sf_r E pl cnt R) (kk := fun (m2159 : xm_S) => some m2159) hP cnt 0 F (xw_i m2 35 22 (0 : Int32)) (by omega) (by omega) ⟨⟨by rw [xi_j (by decide)]; exact a3.1.1, fun j hj => by rw [xi_k (by decide)]; exact a3.1.2 j hj⟩, fun v hv => by rw [xi_k (by decide)]; exact a3.2 v hv⟩ xi_s
  exact ⟨R, m3, b1, a2, b2, b3, fun j hj => by rw [b4 j hj, xi_j hj, a4, e3]⟩
theorem sf_fix {E : Nat → Option Nat} {pl : Bool} {cnt R : Nat} (h : sf_L E pl cnt R) : ∀ p, p < cnt → sf_r E pl cnt R p = true → sf_s E pl (sf_r E pl cnt R) p = true := (sf_d_fix (Nat.le_refl cnt) h.2).2
