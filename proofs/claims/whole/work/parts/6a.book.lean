/-! The book of formulas, both sides: search and making. -/
theorem xg_nI {β : Type} {j n : Nat} {o : Option β} (h : j < n) (hn : n < 2 ^ 31) : xg_n (nI j) n o = o := xg_t (vp_in_nI h hn)
theorem xi_s {m : xm_S} {k j : Nat} {x : Int32} : (xw_i m k j x).1 k j = x := by simp [xw_i, xu_2]
theorem xi_j {m : xm_S} {k j b : Nat} {x : Int32} (h : b ≠ j) : (xw_i m k j x).1 k b = m.1 k b := by simp [xw_i, xu_2, h]
theorem xi_k {m : xm_S} {k j a : Nat} {x : Int32} (h : a ≠ k) : (xw_i m k j x).1 a = m.1 a := xm_xu_k a h
theorem xi_2 {m : xm_S} {k j : Nat} {x : Int32} : (xw_i m k j x).2 = m.2 := rfl
theorem xl_s1 {m : xm_S} {k j : Nat} {x : Int64} : (xw_l m k j x).2 k j = x := by simp [xw_l, xu_2]
theorem xl_j {m : xm_S} {k j b : Nat} {x : Int64} (h : b ≠ j) : (xw_l m k j x).2 k b = m.2 k b := by simp [xw_l, xu_2, h]
theorem xl_k {m : xm_S} {k j a : Nat} {x : Int64} (h : a ≠ k) : (xw_l m k j x).2 a = m.2 a := xm_xu_k a h
theorem xl_1 {m : xm_S} {k j : Nat} {x : Int64} : (xw_l m k j x).1 = m.1 := rfl
-- the first place from i on, among n, that holds the three
def bo_f (K A B : Nat → Nat) (k a b : Nat) : Nat → Nat → Option Nat
  | _, 0 => none
  | i, n + 1 => if K i = k ∧ A i = a ∧ B i = b then some i else bo_f K A B k a b (i + 1) n
def bo_C (c : Nat) (K A B : Nat → Nat) (m : xm_S) : Prop := m.1 1 5 = nI c ∧ ∀ j, j < c → m.1 2 j = nI (K j) ∧ m.1 3 j = nI (A j) ∧ m.1 4 j = nI (B j)
def bo_M (c : Nat) (K A B : Nat → Nat) (m : xm_S) : Prop := m.1 35 0 = nI c ∧ ∀ j, j < c → m.1 36 j = nI (K j) ∧ m.1 37 j = nI (A j) ∧ m.1 38 j = nI (B j)
def bo_S (c : Nat) (K A B : Nat → Nat) : Prop := c ≤ 28 ∧ ∀ j, j < c → K j ≤ 8 ∧ A j < 28 ∧ B j < 28
theorem bk_l3 {F c : Nat} {K A B : Nat → Nat} {m : xm_S} {k a b : Nat} {kk : xm_S → Option (Int32 × xm_S)} (hs : bo_S c K A B) (hm : bo_C c K A B m) (hk : k < 28 ∧ a < 28 ∧ b < 28) :
    ∀ (n fu i : Nat), i + n = c → n < fu → bk_build_l3 F (nI k) (nI a) (nI b) kk fu (nI i) m = match bo_f K A B k a b i n with
      | some f => some (nI f, m)
      | none => kk m := by
  intro n
  induction n with
  | zero =>
    intro fu i hi hf
    obtain ⟨fu, rfl⟩ : ∃ g, fu = g + 1 := ⟨fu - 1, by omega⟩
    have hc := hs.1
    rw [bk_build_l3, hm.1, if_pos (nI_le (by omega) (by omega))]
    rfl
  | succ n ih =>
    intro fu i hi hf
    obtain ⟨fu, rfl⟩ : ∃ g, fu = g + 1 := ⟨fu - 1, by omega⟩
    have hc := hs.1
    obtain ⟨s1, s2, s3⟩ := hs.2 i (by omega)
    obtain ⟨m1, m2, m3⟩ := hm.2 i (by omega)
    have ihh := ih fu (i + 1) (by omega) (by omega)
    rw [nI_succ] at ihh
    rw [bk_build_l3, hm.1, if_neg (nI_ge (by omega) (by omega)), xg_nI (by omega) (by decide), xg_nI (by omega) (by decide), xg_nI (by omega) (by decide), nI_clamp (by omega), m1, m2, m3]
    rw [bo_f]
    by_cases h1 : K i = k
    · rw [if_pos ((nI_eq (by omega) (by omega)).mpr h1)]
      by_cases h2 : A i = a
      · rw [if_pos ((nI_eq (by omega) (by omega)).mpr h2)]
        by_cases h3 : B i = b
        · rw [if_pos ((nI_eq (by omega) (by omega)).mpr h3), if_pos ⟨h1, h2, h3⟩]
        · rw [if_neg (fun q => h3 ((nI_eq (by omega) (by omega)).mp q)), if_neg (fun q => h3 q.2.2)]
          exact ihh
      · rw [if_neg (fun q => h2 ((nI_eq (by omega) (by omega)).mp q)), if_neg (fun q => h2 q.2.1)]
        exact ihh
    · rw [if_neg (fun q => h1 ((nI_eq (by omega) (by omega)).mp q)), if_neg (fun q => h1 q.1)]
      exact ihh
theorem mm_l3 {F c : Nat} {K A B : Nat → Nat} {m : xm_S} {k a b : Nat} {kk : xm_S → Option (Int32 × xm_S)} (hs : bo_S c K A B) (hm : bo_M c K A B m) (hk : k < 28 ∧ a < 28 ∧ b < 28) :
    ∀ (n fu i : Nat), i + n = c → n < fu → mm_make_l3 F (nI k) (nI a) (nI b) kk fu (nI i) m = match bo_f K A B k a b i n with
      | some f => some (nI f, m)
      | none => kk m := by
  intro n
  induction n with
  | zero =>
    intro fu i hi hf
    obtain ⟨fu, rfl⟩ : ∃ g, fu = g + 1 := ⟨fu - 1, by omega⟩
    have hc := hs.1
    rw [mm_make_l3, hm.1, if_pos (nI_le (by omega) (by omega))]
    rfl
  | succ n ih =>
    intro fu i hi hf
    obtain ⟨fu, rfl⟩ : ∃ g, fu = g + 1 := ⟨fu - 1, by omega⟩
    have hc := hs.1
    obtain ⟨s1, s2, s3⟩ := hs.2 i (by omega)
    obtain ⟨m1, m2, m3⟩ := hm.2 i (by omega)
    have ihh := ih fu (i + 1) (by omega) (by omega)
    rw [nI_succ] at ihh
    rw [mm_make_l3, hm.1, if_neg (nI_ge (by omega) (by omega)), xg_nI (by omega) (by decide), xg_nI (by omega) (by decide), xg_nI (by omega) (by decide), nI_clamp (by omega), m1, m2, m3]
    rw [bo_f]
    by_cases h1 : K i = k
    · rw [if_pos ((nI_eq (by omega) (by omega)).mpr h1)]
      by_cases h2 : A i = a
      · rw [if_pos ((nI_eq (by omega) (by omega)).mpr h2)]
        by_cases h3 : B i = b
        · rw [if_pos ((nI_eq (by omega) (by omega)).mpr h3), if_pos ⟨h1, h2, h3⟩]
        · rw [if_neg (fun q => h3 ((nI_eq (by omega) (by omega)).mp q)), if_neg (fun q => h3 q.2.2)]
          exact ihh
      · rw [if_neg (fun q => h2 ((nI_eq (by omega) (by omega)).mp q)), if_neg (fun q => h2 q.2.1)]
        exact ihh
    · rw [if_neg (fun q => h1 ((nI_eq (by omega) (by omega)).mp q)), if_neg (fun q => h1 q.1)]
      exact ihh
