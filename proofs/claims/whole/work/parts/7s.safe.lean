/-! Safe positions: one position, both sides. -/
def bI : Bool → Int32
  | true => 1
  | false => 0
theorem bI_0 (c : Bool) : (bI c = 0) ↔ c = false := by cases c <;> decide
def sf_b (E : Nat → Option Nat) (S : Nat → Bool) (p i o : Nat) : Bool := match E (16 * p + i + 4 * o) with
  | none => false
  | some v => S v
def sf_o (E : Nat → Option Nat) (S : Nat → Bool) (p i : Nat) : Option Nat := if sf_b E S p i 0 = true then some 0 else if sf_b E S p i 1 = true then some 1 else if sf_b E S p i 2 = true then some 2 else if sf_b E S p i 3 = true then some 3 else none
def sf_a (E : Nat → Option Nat) (S : Nat → Bool) (p i : Nat) : Bool := ((sf_b E S p i 0 && sf_b E S p i 1) && sf_b E S p i 2) && sf_b E S p i 3
def sf_i (E : Nat → Option Nat) (S : Nat → Bool) (p : Nat) : Option Nat := if sf_a E S p 0 = true then some 0 else if sf_a E S p 1 = true then some 1 else if sf_a E S p 2 = true then some 2 else if sf_a E S p 3 = true then some 3 else none
def sf_s (E : Nat → Option Nat) (pl : Bool) (S : Nat → Bool) (p : Nat) : Bool := match pl with
  | true => (((sf_o E S p 0).isSome && (sf_o E S p 1).isSome) && (sf_o E S p 2).isSome) && (sf_o E S p 3).isSome
  | false => (sf_i E S p).isSome
def sf_C (cnt : Nat) (E : Nat → Option Nat) (S : Nat → Bool) (m : xm_S) : Prop := gr_C cnt E m ∧ ∀ v, v < cnt → m.1 29 v = bI (S v)
def sf_M (cnt : Nat) (E : Nat → Option Nat) (S : Nat → Bool) (m : xm_S) : Prop := gr_M cnt E m ∧ ∀ v, v < cnt → m.1 52 v = bI (S v)
theorem sf_o_c {E : Nat → Option Nat} {S : Nat → Bool} {p i : Nat} : (eI (sf_o E S p i) = -1 ↔ (sf_o E S p i).isSome = false) ∧ (eI (sf_o E S p i) < 0 ↔ (sf_o E S p i).isSome = false) := by
  unfold sf_o
  split
  · decide
  split
  · decide
  split
  · decide
  split <;> decide
theorem sf_i_c {E : Nat → Option Nat} {S : Nat → Bool} {p : Nat} : (eI (sf_i E S p) = -1 ↔ (sf_i E S p).isSome = false) ∧ (eI (sf_i E S p) < 0 ↔ (sf_i E S p).isSome = false) := by
  unfold sf_i
  split
  · decide
  split
  · decide
  split
  · decide
  split <;> decide
theorem ix_3 (p i o : Nat) : nI p * (16 : Int32) + nI i + (4 : Int32) * nI o = nI (16 * p + i + 4 * o) := by
  rw [ix_c, show (4 : Int32) * nI o = nI (4 * o) from pk_mul 4 o, nI_add]
theorem ix_4 (p i o : Nat) : (16 : Int32) * nI p + nI i + (4 : Int32) * nI o = nI (16 * p + i + 4 * o) := by
  rw [ix_m, show (4 : Int32) * nI o = nI (4 * o) from pk_mul 4 o, nI_add]
section SAFE
variable {F cnt p : Nat} {E : Nat → Option Nat} {S : Nat → Bool} {m : xm_S}
theorem sc_b {i o : Nat} (hP : gr_P cnt E) (hC : sf_C cnt E S m) (hp : p < cnt) (hi : i < 4) (ho : o < 4) : gm_isSafeBy F (nI p) (nI i) (nI o) m = some (bI (sf_b E S p i o), m) := by
  have h100 := hP.2.1
  have hj : 16 * p + i + 4 * o < 16 * cnt := by omega
  unfold gm_isSafeBy gm_follower sf_b
  rw [ix_3, xg_nI (by omega) (by decide), nI_clamp (by omega), hC.1.2 _ hj]
  simp only [xc_s]
  cases e : E (16 * p + i + 4 * o) with
  | none => exact if_pos (show eI none = -1 from rfl)
  | some v =>
    have hv := hP.2.2 _ hj v e
    show (if nI v = -1 then _ else _) = some (bI (S v), m)
    rw [if_neg (nI_n1 (by omega)), show eI (some v) = nI v from rfl, xg_nI (by omega) (by decide), nI_clamp (by omega), hC.2 v hv]
    cases S v
    · exact if_pos rfl
    · exact if_neg (by decide)
theorem sc_o1 {i o fu : Nat} {kk : xm_S → Option (Int32 × xm_S)} (hP : gr_P cnt E) (hC : sf_C cnt E S m) (hp : p < cnt) (hi : i < 4) (ho : o < 4) : gm_safeOutput_l2 F (nI p) (nI i) kk (fu + 1) (nI o) m = if sf_b E S p i o = true then some (nI o, m) else gm_safeOutput_l2 F (nI p) (nI i) kk fu (nI (o + 1)) m := by
  rw [gm_safeOutput_l2, if_neg (show ¬ (4 : Int32) ≤ nI o from nI_ge (b := 4) ho (by decide)), sc_b hP hC hp hi ho]
  simp only [xc_s]
  rw [nI_1]
  cases sf_b E S p i o
  · exact if_pos rfl
  · exact if_neg (by decide)
theorem sc_o {i : Nat} (hF : 1000 < F) (hP : gr_P cnt E) (hC : sf_C cnt E S m) (hp : p < cnt) (hi : i < 4) : gm_safeOutput F (nI p) (nI i) m = some (eI (sf_o E S p i), m) := by
  obtain ⟨g, rfl⟩ : ∃ g, F = g + 1 + 1 + 1 + 1 + 1 := ⟨F - 5, by omega⟩
  show gm_safeOutput_l2 _ (nI p) (nI i) _ (g + 1 + 1 + 1 + 1 + 1) (nI 0) m = _
  rw [sc_o1 hP hC hp hi (by decide), sc_o1 hP hC hp hi (by decide), sc_o1 hP hC hp hi (by decide), sc_o1 hP hC hp hi (by decide), gm_safeOutput_l2, if_pos (show (4 : Int32) ≤ nI (0 + 1 + 1 + 1 + 1) by decide)]
  unfold sf_o
  simp only [Nat.zero_add, Nat.reduceAdd]
  split
  · rfl
  split
  · rfl
  split
  · rfl
  split <;> rfl
theorem sc_a0 {i o fu : Nat} {kk : Int32 → xm_S → Option (Int32 × xm_S)} : gm_safeInput_l12 F (nI p) (nI i) kk (fu + 1) (bI false) (nI o) m = kk (bI false) m := by
  rw [gm_safeInput_l12]
  by_cases h : (4 : Int32) ≤ nI o
  · rw [if_pos h]
  · rw [if_neg h, if_pos (show bI false = 0 from rfl)]
theorem sc_a1 {i o fu : Nat} {kk : Int32 → xm_S → Option (Int32 × xm_S)} (hP : gr_P cnt E) (hC : sf_C cnt E S m) (hp : p < cnt) (hi : i < 4) (ho : o < 4) : gm_safeInput_l12 F (nI p) (nI i) kk (fu + 1) (bI true) (nI o) m = gm_safeInput_l12 F (nI p) (nI i) kk fu (bI (sf_b E S p i o)) (nI (o + 1)) m := by
  rw [gm_safeInput_l12, if_neg (show ¬ (4 : Int32) ≤ nI o from nI_ge (b := 4) ho (by decide)), if_neg (by decide), sc_b hP hC hp hi ho]
  simp only [xc_s]
  rw [nI_1]
theorem sc_a {i : Nat} {kk : Int32 → xm_S → Option (Int32 × xm_S)} (hF : 1000 < F) (hP : gr_P cnt E) (hC : sf_C cnt E S m) (hp : p < cnt) (hi : i < 4) : gm_safeInput_l12 F (nI p) (nI i) kk F (1 : Int32) (0 : Int32) m = kk (bI (sf_a E S p i)) m := by
  obtain ⟨g, rfl⟩ : ∃ g, F = g + 1 + 1 + 1 + 1 + 1 := ⟨F - 5, by omega⟩
  show gm_safeInput_l12 _ (nI p) (nI i) kk (g + 1 + 1 + 1 + 1 + 1) (bI true) (nI 0) m = _
  unfold sf_a
  rw [sc_a1 hP hC hp hi (by decide)]
  cases sf_b E S p i 0
  · rw [sc_a0]; rfl
  · rw [sc_a1 hP hC hp hi (by decide)]
    simp only [Nat.zero_add, Nat.reduceAdd, Bool.true_and]
    cases sf_b E S p i 1
    · rw [sc_a0]; rfl
    · rw [sc_a1 hP hC hp hi (by decide)]
      simp only [Nat.reduceAdd, Bool.true_and]
      cases sf_b E S p i 2
      · rw [sc_a0]; rfl
      · rw [sc_a1 hP hC hp hi (by decide)]
        simp only [Nat.reduceAdd, Bool.true_and]
        rw [gm_safeInput_l12, if_pos (show (4 : Int32) ≤ nI 4 by decide)]
theorem sc_i1 {i fu : Nat} {kk : xm_S → Option (Int32 × xm_S)} (hF : 1000 < F) (hP : gr_P cnt E) (hC : sf_C cnt E S m) (hp : p < cnt) (hi : i < 4) : gm_safeInput_l2 F (nI p) kk (fu + 1) (nI i) m = if sf_a E S p i = true then some (nI i, m) else gm_safeInput_l2 F (nI p) kk fu (nI (i + 1)) m := by
  rw [gm_safeInput_l2, if_neg (show ¬ (4 : Int32) ≤ nI i from nI_ge (b := 4) hi (by decide)), sc_a hF hP hC hp hi, nI_1]
  cases sf_a E S p i
  · exact if_pos rfl
  · exact if_neg (by decide)
theorem sc_i (hF : 1000 < F) (hP : gr_P cnt E) (hC : sf_C cnt E S m) (hp : p < cnt) : gm_safeInput F (nI p) m = some (eI (sf_i E S p), m) := by
  obtain ⟨g, e⟩ : ∃ g, F = g + 1 + 1 + 1 + 1 + 1 := ⟨F - 5, by omega⟩
  have e2 : gm_safeInput F (nI p) m = gm_safeInput_l2 F (nI p) (fun (m902 : xm_S) => some ((-1 : Int32), m902)) (g + 1 + 1 + 1 + 1 + 1) (nI 0) m := by rw [← e]; rfl
  rw [e2, sc_i1 hF hP hC hp (by decide), sc_i1 hF hP hC hp (by decide), sc_i1 hF hP hC hp (by decide), sc_i1 hF hP hC hp (by decide), gm_safeInput_l2, if_pos (show (4 : Int32) ≤ nI (0 + 1 + 1 + 1 + 1) by decide)]
  unfold sf_i
  simp only [Nat.zero_add, Nat.reduceAdd]
  split
  · rfl
  split
  · rfl
  split
  · rfl
  split <;> rfl
theorem sc_s1 {i fu : Nat} {kk : xm_S → Option (Int32 × xm_S)} (hF : 1000 < F) (hP : gr_P cnt E) (hC : sf_C cnt E S m) (hp : p < cnt) (hi : i < 4) : gm_canStaySafe_l22 F (nI p) kk (fu + 1) (nI i) m = if (sf_o E S p i).isSome = true then gm_canStaySafe_l22 F (nI p) kk fu (nI (i + 1)) m else some ((0 : Int32), m) := by
  rw [gm_canStaySafe_l22, if_neg (show ¬ (4 : Int32) ≤ nI i from nI_ge (b := 4) hi (by decide)), sc_o hF hP hC hp hi]
  simp only [xc_s]
  rw [nI_1]
  by_cases h : (sf_o E S p i).isSome = true
  · rw [if_pos h, if_neg (fun z => by rw [sf_o_c.1.mp z] at h; cases h)]
  · rw [if_neg h, if_pos (sf_o_c.1.mpr (by simpa using h))]
theorem sc_s {pl : Bool} (hF : 1000 < F) (hP : gr_P cnt E) (hC : sf_C cnt E S m) (hp : p < cnt) : gm_canStaySafe F (nI p) (if pl = true then (1 : Int32) else 2) m = some (bI (sf_s E pl S p), m) := by
  unfold gm_canStaySafe
  cases pl with
  | false =>
    rw [if_neg (show ¬ false = true by decide), if_pos rfl, sc_i hF hP hC hp]
    simp only [xc_s]
    show _ = some (bI (sf_i E S p).isSome, m)
    by_cases h : (sf_i E S p).isSome = true
    · rw [if_neg (fun z => by rw [sf_i_c.1.mp z] at h; cases h), h]; rfl
    · have h' : (sf_i E S p).isSome = false := by simpa using h
      rw [if_pos (sf_i_c.1.mpr h'), h']; rfl
  | true =>
    rw [if_pos rfl, if_neg (show ¬ (1 : Int32) = 2 by decide)]
    obtain ⟨g, e⟩ : ∃ g, F = g + 1 + 1 + 1 + 1 + 1 := ⟨F - 5, by omega⟩
    have e2 : gm_canStaySafe_l22 F (nI p) (fun (m883 : xm_S) => some ((1 : Int32), m883)) F (0 : Int32) m = gm_canStaySafe_l22 F (nI p) (fun (m883 : xm_S) => some ((1 : Int32), m883)) (g + 1 + 1 + 1 + 1 + 1) (nI 0) m := by rw [← e]; rfl
    rw [e2, sc_s1 hF hP hC hp (by decide), sc_s1 hF hP hC hp (by decide), sc_s1 hF hP hC hp (by decide), sc_s1 hF hP hC hp (by decide), gm_canStaySafe_l22, if_pos (show (4 : Int32) ≤ nI (0 + 1 + 1 + 1 + 1) by decide)]
    simp only [Nat.zero_add, Nat.reduceAdd]
    show _ = some (bI ((((sf_o E S p 0).isSome && (sf_o E S p 1).isSome) && (sf_o E S p 2).isSome) && (sf_o E S p 3).isSome), m)
    cases (sf_o E S p 0).isSome
    · rfl
    cases (sf_o E S p 1).isSome
    · rfl
    cases (sf_o E S p 2).isSome
    · rfl
    cases (sf_o E S p 3).isSome <;> rfl
-- the reference
theorem sm_b {i o : Nat} (hP : gr_P cnt E) (hM : sf_M cnt E S m) (hp : p < cnt) (hi : i < 4) (ho : o < 4) : mm_isSafe F (m.1 51 (16 * p + i + 4 * o)) m = some (bI (sf_b E S p i o), m) := by
  have h100 := hP.2.1
  have hj : 16 * p + i + 4 * o < 16 * cnt := by omega
  unfold mm_isSafe sf_b
  rw [hM.1.2 _ hj]
  cases e : E (16 * p + i + 4 * o) with
  | none => exact if_pos (by decide)
  | some v =>
    have hv := hP.2.2 _ hj v e
    show (if nI v < 0 then _ else _) = some (bI (S v), m)
    rw [if_neg (nI_pos (by omega)), show eI (some v) = nI v from rfl, xg_nI (by omega) (by decide), nI_clamp (by omega), hM.2 v hv]
    cases S v
    · exact if_pos rfl
    · exact if_neg (by decide)
theorem sm_o1 {i o fu : Nat} {v : Int32} {kk : Int32 → xm_S → Option (Int32 × xm_S)} (hP : gr_P cnt E) (hM : sf_M cnt E S m) (hp : p < cnt) (hi : i < 4) (ho : o < 4) : mm_output_l5 F (nI p) (nI i) kk (fu + 1) v (nI o) m = mm_output_l5 F (nI p) (nI i) kk fu (if sf_b E S p i o = true then nI o else v) (nI o + (-1 : Int32)) m := by
  have h100 := hP.2.1
  rw [mm_output_l5, if_neg (nI_pos (by omega)), ix_4, xg_nI (by omega) (by decide), nI_clamp (by omega), sm_b hP hM hp hi ho]
  simp only [xc_s]
  cases sf_b E S p i o
  · exact if_pos rfl
  · exact if_neg (by decide)
theorem sm_o {i : Nat} (hF : 1000 < F) (hP : gr_P cnt E) (hM : sf_M cnt E S m) (hp : p < cnt) (hi : i < 4) : mm_output F (nI p) (nI i) m = some (eI (sf_o E S p i), m) := by
  obtain ⟨g, rfl⟩ : ∃ g, F = g + 1 + 1 + 1 + 1 + 1 := ⟨F - 5, by omega⟩
  show mm_output_l5 _ (nI p) (nI i) _ (g + 1 + 1 + 1 + 1 + 1) (-1 : Int32) (nI 3) m = _
  rw [sm_o1 hP hM hp hi (by decide), pk_m1 2, sm_o1 hP hM hp hi (by decide), pk_m1 1, sm_o1 hP hM hp hi (by decide), pk_m1 0, sm_o1 hP hM hp hi (by decide), mm_output_l5, if_pos (show nI 0 + (-1 : Int32) < 0 by decide)]
  unfold sf_o
  split
  · rfl
  split
  · rfl
  split
  · rfl
  split <;> rfl
theorem sm_a1 {i o fu : Nat} {c : Bool} {v : Int32} {kk : Int32 → xm_S → Option (Int32 × xm_S)} (hP : gr_P cnt E) (hM : sf_M cnt E S m) (hp : p < cnt) (hi : i < 4) (ho : o < 4) : mm_input_l14 F (nI p) v (nI i) kk (fu + 1) (bI c) (nI o) m = mm_input_l14 F (nI p) v (nI i) kk fu (bI (c && sf_b E S p i o)) (nI (o + 1)) m := by
  have h100 := hP.2.1
  rw [mm_input_l14, if_neg (show ¬ (4 : Int32) ≤ nI o from nI_ge (b := 4) ho (by decide)), nI_1]
  cases c
  · exact if_pos rfl
  · rw [if_neg (show ¬ bI true = 0 by decide), ix_4, xg_nI (by omega) (by decide), nI_clamp (by omega), sm_b hP hM hp hi ho]
    simp only [xc_s]
    cases sf_b E S p i o
    · exact if_pos rfl
    · exact if_neg (by decide)
theorem sm_a {i : Nat} {v : Int32} {kk : Int32 → xm_S → Option (Int32 × xm_S)} (hF : 1000 < F) (hP : gr_P cnt E) (hM : sf_M cnt E S m) (hp : p < cnt) (hi : i < 4) : mm_input_l14 F (nI p) v (nI i) kk F (1 : Int32) (0 : Int32) m = kk (bI (sf_a E S p i)) m := by
  obtain ⟨g, rfl⟩ : ∃ g, F = g + 1 + 1 + 1 + 1 + 1 := ⟨F - 5, by omega⟩
  show mm_input_l14 _ (nI p) v (nI i) kk (g + 1 + 1 + 1 + 1 + 1) (bI true) (nI 0) m = _
  rw [sm_a1 hP hM hp hi (by decide), sm_a1 hP hM hp hi (by decide), sm_a1 hP hM hp hi (by decide), sm_a1 hP hM hp hi (by decide), mm_input_l14, if_pos (show (4 : Int32) ≤ nI (0 + 1 + 1 + 1 + 1) by decide)]
  simp only [Nat.zero_add, Nat.reduceAdd, Bool.true_and]
  rfl
theorem sm_i1 {i fu : Nat} {v : Int32} {kk : Int32 → xm_S → Option (Int32 × xm_S)} (hF : 1000 < F) (hP : gr_P cnt E) (hM : sf_M cnt E S m) (hp : p < cnt) (hi : i < 4) : mm_input_l4 F (nI p) kk (fu + 1) v (nI i) m = mm_input_l4 F (nI p) kk fu (if sf_a E S p i = true then nI i else v) (nI i + (-1 : Int32)) m := by
  rw [mm_input_l4, if_neg (nI_pos (by omega)), sm_a hF hP hM hp hi]
  cases sf_a E S p i
  · exact if_pos rfl
  · exact if_neg (by decide)
theorem sm_i (hF : 1000 < F) (hP : gr_P cnt E) (hM : sf_M cnt E S m) (hp : p < cnt) : mm_input F (nI p) m = some (eI (sf_i E S p), m) := by
  obtain ⟨g, e⟩ : ∃ g, F = g + 1 + 1 + 1 + 1 + 1 := ⟨F - 5, by omega⟩
  have e2 : mm_input F (nI p) m = mm_input_l4 F (nI p) (fun (x2130 : Int32) (m2131 : xm_S) => some (x2130, m2131)) (g + 1 + 1 + 1 + 1 + 1) (-1 : Int32) (nI 3) m := by rw [← e]; rfl
  rw [e2, sm_i1 hF hP hM hp (by decide), pk_m1 2, sm_i1 hF hP hM hp (by decide), pk_m1 1, sm_i1 hF hP hM hp (by decide), pk_m1 0, sm_i1 hF hP hM hp (by decide), mm_input_l4, if_pos (show nI 0 + (-1 : Int32) < 0 by decide)]
  unfold sf_i
  split
  · rfl
  split
  · rfl
  split
  · rfl
  split <;> rfl
theorem sm_s1 {i fu : Nat} {c : Bool} {kk : Int32 → xm_S → Option (Int32 × xm_S)} (hF : 1000 < F) (hP : gr_P cnt E) (hM : sf_M cnt E S m) (hp : p < cnt) (hi : i < 4) : mm_stays_l23 F (nI p) kk (fu + 1) (bI c) (nI i) m = mm_stays_l23 F (nI p) kk fu (bI (c && (sf_o E S p i).isSome)) (nI (i + 1)) m := by
  rw [mm_stays_l23, if_neg (show ¬ (4 : Int32) ≤ nI i from nI_ge (b := 4) hi (by decide)), nI_1]
  cases c
  · exact if_pos rfl
  · rw [if_neg (show ¬ bI true = 0 by decide), sm_o hF hP hM hp hi]
    simp only [xc_s]
    by_cases h : (sf_o E S p i).isSome = true
    · rw [if_neg (fun z => by rw [sf_o_c.2.mp z] at h; cases h), h]; rfl
    · have h' : (sf_o E S p i).isSome = false := by simpa using h
      rw [if_pos (sf_o_c.2.mpr h'), h']; rfl
theorem sm_s {pl : Bool} (hF : 1000 < F) (hP : gr_P cnt E) (hM : sf_M cnt E S m) (hp : p < cnt) : mm_stays F (nI p) (bI pl) m = some (bI (sf_s E pl S p), m) := by
  unfold mm_stays
  cases pl with
  | false =>
    rw [if_pos (show bI false = 0 from rfl), sm_i hF hP hM hp]
    simp only [xc_s]
    show _ = some (bI (sf_i E S p).isSome, m)
    by_cases h : (sf_i E S p).isSome = true
    · rw [if_neg (fun z => by rw [sf_i_c.2.mp z] at h; cases h), h]; rfl
    · have h' : (sf_i E S p).isSome = false := by simpa using h
      rw [if_pos (sf_i_c.2.mpr h'), h']; rfl
  | true =>
    rw [if_neg (show ¬ bI true = 0 by decide)]
    obtain ⟨g, e⟩ : ∃ g, F = g + 1 + 1 + 1 + 1 + 1 := ⟨F - 5, by omega⟩
    have e2 : ∀ kk : Int32 → xm_S → Option (Int32 × xm_S), mm_stays_l23 F (nI p) kk F (1 : Int32) (0 : Int32) m = mm_stays_l23 F (nI p) kk (g + 1 + 1 + 1 + 1 + 1) (bI true) (nI 0) m := fun kk => by rw [← e]; rfl
    rw [e2, sm_s1 hF hP hM hp (by decide), sm_s1 hF hP hM hp (by decide), sm_s1 hF hP hM hp (by decide), sm_s1 hF hP hM hp (by decide), mm_stays_l23, if_pos (show (4 : Int32) ≤ nI (0 + 1 + 1 + 1 + 1) by decide)]
    simp only [Nat.zero_add, Nat.reduceAdd, Bool.true_and]
    show xg_b (bI ((((sf_o E S p 0).isSome && (sf_o E S p 1).isSome) && (sf_o E S p 2).isSome) && (sf_o E S p 3).isSome)) (some (bI ((((sf_o E S p 0).isSome && (sf_o E S p 1).isSome) && (sf_o E S p 2).isSome) && (sf_o E S p 3).isSome), m)) = some (bI ((((sf_o E S p 0).isSome && (sf_o E S p 1).isSome) && (sf_o E S p 2).isSome) && (sf_o E S p 3).isSome), m)
    cases ((((sf_o E S p 0).isSome && (sf_o E S p 1).isSome) && (sf_o E S p 2).isSome) && (sf_o E S p 3).isSome)
    · exact xg_b_t (Or.inl rfl)
    · exact xg_b_t (Or.inr rfl)
end SAFE
