/-! Sets of ways: how many there are, however they are listed. The class's sorted set. -/
theorem ph_n : ∀ (b n : Nat) (f : Nat → Nat), (∀ i, i < n → f i < b) → (∀ i j, i < n → j < n → f i = f j → i = j) → n ≤ b := by
  intro b
  induction b with
  | zero =>
    intro n f h _
    cases n with
    | zero => exact Nat.le_refl _
    | succ n => exact absurd (h 0 (by omega)) (by omega)
  | succ b ih =>
    intro n f h hi
    cases n with
    | zero => omega
    | succ n =>
      have := ih n (fun i => if f i = b then f n else f i) (fun i hin => by
        have h1 := h i (by omega)
        have h2 := h n (by omega)
        by_cases e : f i = b
        · simp only [e, if_true]
          have : f n ≠ b := fun q => by have := hi i n (by omega) (by omega) (by omega); omega
          omega
        · simp only [e, if_false]
          omega) (fun i j hin hjn q => by
        by_cases e : f i = b
        · by_cases e2 : f j = b
          · exact hi i j (by omega) (by omega) (by omega)
          · simp only [e, e2, if_true, if_false] at q
            have := hi n j (by omega) (by omega) q
            omega
        · by_cases e2 : f j = b
          · simp only [e, e2, if_true, if_false] at q
            have := hi i n (by omega) (by omega) q
            omega
          · simp only [e, e2, if_false] at q
            exact hi i j (by omega) (by omega) q)
      omega
-- at most 60 ways
def sm_P (P : Int64 → Prop) : Prop := ∃ (n : Nat) (r : Nat → Int64), n ≤ 60 ∧ ∀ x, P x → ∃ i, i < n ∧ r i = x
-- the list r of n ways, each once
def en_P (P : Int64 → Prop) (n : Nat) (r : Nat → Int64) : Prop := (∀ i j, i < n → j < n → r i = r j → i = j) ∧ ∀ x, P x ↔ ∃ i, i < n ∧ r i = x
theorem en_le {P : Int64 → Prop} {n b : Nat} {r s : Nat → Int64} (h : en_P P n r) (hs : ∀ x, P x → ∃ i, i < b ∧ s i = x) : n ≤ b := by
  have hc : ∀ i, ∃ j, i < n → j < b ∧ s j = r i := fun i => by
    by_cases hi : i < n
    · obtain ⟨j, h1, h2⟩ := hs (r i) ((h.2 _).mpr ⟨i, hi, rfl⟩)
      exact ⟨j, fun _ => ⟨h1, h2⟩⟩
    · exact ⟨0, fun q => absurd q hi⟩
  have hf : ∃ f : Nat → Nat, ∀ i, i < n → f i < b ∧ s (f i) = r i := ⟨fun i => Classical.choose (hc i), fun i => Classical.choose_spec (hc i)⟩
  obtain ⟨f, hf⟩ := hf
  exact ph_n b n f (fun i hi => (hf i hi).1) (fun i j hi hj q => h.1 i j hi hj (by rw [← (hf i hi).2, ← (hf j hj).2, q]))
theorem en_eq {P : Int64 → Prop} {n b : Nat} {r s : Nat → Int64} (h : en_P P n r) (k : en_P P b s) : n = b :=
  Nat.le_antisymm (en_le h (fun x hx => (k.2 x).mp hx)) (en_le k (fun x hx => (h.2 x).mp hx))
theorem en_sm {P : Int64 → Prop} {n : Nat} {r : Nat → Int64} (h : en_P P n r) (hn : n ≤ 60) : sm_P P := ⟨n, r, hn, fun x hx => (h.2 x).mp hx⟩
theorem en_big {P : Int64 → Prop} {n : Nat} {r : Nat → Int64} (h : en_P P n r) (hn : 60 < n) : ¬ sm_P P := fun ⟨b, s, hb, hs⟩ => by
  have := en_le h hs
  omega
theorem sm_mono {P Q : Int64 → Prop} (h : ∀ x, P x → Q x) (hq : sm_P Q) : sm_P P := by
  obtain ⟨n, r, hn, hr⟩ := hq
  exact ⟨n, r, hn, fun x hx => hr x (h x hx)⟩
theorem en_iff {P Q : Int64 → Prop} {n : Nat} {r : Nat → Int64} (h : ∀ x, P x ↔ Q x) (k : en_P P n r) : en_P Q n r := ⟨k.1, fun x => (h x).symm.trans (k.2 x)⟩
theorem sm_iff {P Q : Int64 → Prop} (h : ∀ x, P x ↔ Q x) : sm_P P ↔ sm_P Q := ⟨sm_mono fun x => (h x).mpr, sm_mono fun x => (h x).mp⟩
theorem en_f {P : Int64 → Prop} {n : Nat} {r s : Nat → Int64} (h : ∀ i, i < n → s i = r i) (k : en_P P n r) : en_P P n s := ⟨fun i j hi hj q => k.1 i j hi hj (by rw [← h i hi, ← h j hj, q]), fun x => (k.2 x).trans ⟨fun ⟨i, hi, e⟩ => ⟨i, hi, by rw [h i hi, e]⟩, fun ⟨i, hi, e⟩ => ⟨i, hi, by rw [← h i hi, e]⟩⟩⟩
-- one more at the end
theorem en_add {P : Int64 → Prop} {n : Nat} {r s : Nat → Int64} {w : Int64} (h : en_P P n r) (hw : ¬ P w) (hs : ∀ i, i < n → s i = r i) (hn : s n = w) : en_P (fun x => P x ∨ x = w) (n + 1) s := by
  refine ⟨fun i j hi hj q => ?_, fun x => ⟨fun hx => ?_, fun ⟨i, hi, e⟩ => ?_⟩⟩
  · by_cases e1 : i = n
    · by_cases e2 : j = n
      · omega
      · exfalso
        apply hw
        rw [e1, hn, hs j (by omega)] at q
        exact (h.2 w).mpr ⟨j, by omega, q.symm⟩
    · by_cases e2 : j = n
      · exfalso
        apply hw
        rw [e2, hn, hs i (by omega)] at q
        exact (h.2 w).mpr ⟨i, by omega, q⟩
      · rw [hs i (by omega), hs j (by omega)] at q
        exact h.1 i j (by omega) (by omega) q
  · rcases hx with hx | hx
    · obtain ⟨i, hi, e⟩ := (h.2 x).mp hx
      exact ⟨i, by omega, by rw [hs i hi, e]⟩
    · exact ⟨n, by omega, by rw [hn, hx]⟩
  · by_cases e1 : i = n
    · right; rw [← e, e1, hn]
    · left; exact (h.2 x).mpr ⟨i, by omega, by rw [← hs i (by omega), e]⟩
-- the class's set
def cw_s (r : Nat → Int64) (n : Nat) : Prop := ∀ i j, i < j → j < n → r i < r j
def cw_G (c : Nat) (P : Int64 → Prop) (n : Nat) (m : xm_S) : Prop := m.1 c 2 = 0 ∧ m.1 c 1 = nI n ∧ n ≤ 60 ∧ cw_s (m.2 (c + 1)) n ∧ ∀ x, P x ↔ ∃ i, i < n ∧ m.2 (c + 1) i = x
def cw_P (c : Nat) (P : Int64 → Prop) (m : xm_S) : Prop := (∃ n, cw_G c P n m) ∨ (m.1 c 2 = 1 ∧ ¬ sm_P P)
def cw_f (c : Nat) (m m' : xm_S) : Prop := ∀ a, a ≠ c → a ≠ c + 1 → m'.1 a = m.1 a ∧ m'.2 a = m.2 a
theorem cw_f0 {c : Nat} {m : xm_S} : cw_f c m m := fun _ _ _ => ⟨rfl, rfl⟩
theorem cw_ft {c : Nat} {a b d : xm_S} (h : cw_f c a b) (k : cw_f c b d) : cw_f c a d := fun x h1 h2 => ⟨(k x h1 h2).1.trans (h x h1 h2).1, (k x h1 h2).2.trans (h x h1 h2).2⟩
theorem cw_en {r : Nat → Int64} {n : Nat} {P : Int64 → Prop} (h : cw_s r n) (k : ∀ x, P x ↔ ∃ i, i < n ∧ r i = x) : en_P P n r := by
  refine ⟨fun i j hi hj q => ?_, k⟩
  rcases Nat.lt_trichotomy i j with e | e | e
  · exact absurd q (lg_lt_ne (h i j e hj))
  · exact e
  · exact absurd q.symm (lg_lt_ne (h j i e hi))
theorem lg_trans {a b c : Int64} (h : a < b) (k : b < c) : a < c := Int64.lt_trans h k
theorem lg_ltr {a b c : Int64} (h : a < b) (k : b ≤ c) : a < c := Int64.lt_of_lt_of_le h k
theorem lg_not {a b : Int64} (h : ¬ a ≤ b) : b < a := by
  rcases lg_tri a b with q | q | q
  · exact absurd (Int64.le_of_lt q) h
  · exact absurd (by rw [q]; exact Int64.le_refl _) h
  · exact q
theorem wy_8 {F c n : Nat} {w : Int64} {kk : Int32 → xm_S → Option xm_S} {m : xm_S} (hn : n ≤ 60) (hs : cw_s (m.2 (c + 1)) n) : ∀ (r lo hi fu : Nat), hi - lo ≤ r → lo ≤ hi → hi ≤ n → r < fu → (∀ i, i < lo → m.2 (c + 1) i < w) → (∀ i, hi ≤ i → i < n → w ≤ m.2 (c + 1) i) →
    ∃ p, p ≤ n ∧ wy_add_l8 F c w kk fu (nI lo) (nI hi) m = kk (nI p) m ∧ (∀ i, i < p → m.2 (c + 1) i < w) ∧ (∀ i, p ≤ i → i < n → w ≤ m.2 (c + 1) i) := by
  intro r
  induction r with
  | zero =>
    intro lo hi fu h1 h2 h3 hf hl hh
    obtain ⟨fu, rfl⟩ : ∃ g, fu = g + 1 := ⟨fu - 1, by omega⟩
    obtain rfl : lo = hi := by omega
    refine ⟨lo, h3, ?_, hl, hh⟩
    rw [wy_add_l8, if_pos (nI_le (Nat.le_refl _) (by omega))]
  | succ r ih =>
    intro lo hi fu h1 h2 h3 hf hl hh
    obtain ⟨fu, rfl⟩ : ∃ g, fu = g + 1 := ⟨fu - 1, by omega⟩
    by_cases e : lo = hi
    · subst e
      refine ⟨lo, h3, ?_, hl, hh⟩
      rw [wy_add_l8, if_pos (nI_le (Nat.le_refl _) (by omega))]
    · have hmid : (nI lo + nI hi) / (2 : Int32) = nI ((lo + hi) / 2) := by
        rw [nI_add]; exact pk_div (d := 2) (by omega) (by decide) (by decide)
      rw [wy_add_l8, if_neg (nI_ge (by omega) (by omega)), hmid, xg_nI (by omega) (by decide), nI_clamp (by omega), nI_1]
      by_cases q : 0 ≤ lg_cmp (m.2 (c + 1) ((lo + hi) / 2)) w
      · rw [if_pos q]
        have q' := (lg_cmp_ge _ _).mp q
        exact ih lo ((lo + hi) / 2) fu (by omega) (by omega) (by omega) (by omega) hl (fun i h4 h5 => by
          by_cases e2 : i = (lo + hi) / 2
          · rw [e2]; exact q'
          · exact Int64.le_of_lt (by
              rcases lg_tri w (m.2 (c + 1) ((lo + hi) / 2)) with z | z | z
              · exact lg_trans z (hs _ _ (by omega) h5)
              · rw [z]; exact hs _ _ (by omega) h5
              · exact absurd z (lg_le_not_lt q')))
      · rw [if_neg q]
        have q' : m.2 (c + 1) ((lo + hi) / 2) < w := lg_not (fun z => q ((lg_cmp_ge _ _).mpr z))
        exact ih ((lo + hi) / 2 + 1) hi fu (by omega) (by omega) (by omega) (by omega) (fun i h4 => by
          by_cases e2 : i = (lo + hi) / 2
          · rw [e2]; exact q'
          · exact lg_trans (hs _ _ (by omega) (by omega)) q') hh
theorem wy_90 {F c n p : Nat} {w : Int64} {kk : xm_S → Option xm_S} (hn : n < 60) : ∀ (r i fu : Nat) (m : xm_S), i = p + r → i ≤ n → r < fu →
    ∃ m' : xm_S, wy_add_l90 F c w (nI p) kk fu (nI i) m = kk m' ∧ m'.1 = m.1 ∧ (∀ a, a ≠ c + 1 → m'.2 a = m.2 a) ∧ (∀ j, j ≤ p ∨ i < j → m'.2 (c + 1) j = m.2 (c + 1) j) ∧ (∀ j, p < j → j ≤ i → m'.2 (c + 1) j = m.2 (c + 1) (j - 1)) := by
  intro r
  induction r with
  | zero =>
    intro i fu m hi h2 hf
    obtain ⟨fu, rfl⟩ : ∃ g, fu = g + 1 := ⟨fu - 1, by omega⟩
    refine ⟨m, ?_, rfl, fun _ _ => rfl, fun _ _ => rfl, fun j h3 h4 => by omega⟩
    rw [wy_add_l90, if_pos (nI_le (by omega) (by omega))]
  | succ r ih =>
    intro i fu m hi h2 hf
    obtain ⟨fu, rfl⟩ : ∃ g, fu = g + 1 := ⟨fu - 1, by omega⟩
    obtain ⟨i, rfl⟩ : ∃ g, i = g + 1 := ⟨i - 1, by omega⟩
    obtain ⟨m', e1, e2, e3, e4, e5⟩ := ih i fu (xw_l m (c + 1) (i + 1) (m.2 (c + 1) i)) (by omega) (by omega) (by omega)
    refine ⟨m', ?_, e2, fun a ha => by rw [e3 a ha, xl_k ha], fun j hj => ?_, fun j h3 h4 => ?_⟩
    · rw [wy_add_l90, if_neg (nI_ge (by omega) (by omega)), nI_pred, xg_nI (by omega) (by decide), xg_nI (by omega) (by decide), nI_clamp (by omega), nI_clamp (by omega), pk_m1]
      unfold xs_m
      exact e1
    · rw [e4 j (by omega), xl_j (by omega)]
    · by_cases e : j = i + 1
      · subst e
        rw [e4 _ (by omega), xl_s1]; rfl
      · rw [e5 j h3 (by omega), xl_j (by omega)]
theorem wy_1 {F c n : Nat} {w : Int64} {P : Int64 → Prop} {m : xm_S} (hF : 100 < F) (h : cw_G c P n m) : ∃ m' : xm_S, wy_add F c w m = some m' ∧ cw_P c (fun x => P x ∨ x = w) m' ∧ cw_f c m m' := by
  obtain ⟨h1, h2, h3, h4, h5⟩ := h
  unfold wy_add
  rw [h2]
  obtain ⟨p, p1, p2, p3, p4⟩ := wy_8 (F := F) (c := c) (n := n) (w := w) (m := m) (kk := fun (x327 : Int32) (m328 : xm_S) => xj_j (fun (u333 : Unit) => if (m328.1 c 1) < (60 : Int32) then wy_add_l90 F c w x327 (fun (m349 : xm_S) => xg_n x327 60 (xs_m (xw_l m349 (c + 1) x327.toNatClampNeg w) fun m351 => xs_m (xw_i m351 c 1 ((m351.1 c 1) + (1 : Int32))) fun m353 => some m353)) F (m328.1 c 1) m328 else xs_m (xw_i m328 c 2 (1 : Int32)) fun m355 => some m355) fun j334 => if (m328.1 c 1) ≤ x327 then j334 () else xg_n x327 60 (if (lg_cmp (m328.2 (c + 1) x327.toNatClampNeg) w) = 0 then some m328 else j334 ())) h3 h4 n 0 n F (by omega) (by omega) (Nat.le_refl _) (by omega) (fun i hi => by omega) (fun i h6 h7 => by omega)
  have p2' : wy_add_l8 F c w _ F (0 : Int32) (nI n) m = _ := p2
  rw [p2']
  simp only [xj_j, h2]
  -- where it is not there yet
  have add : ¬ P w → ∃ m' : xm_S, (if nI n < (60 : Int32) then wy_add_l90 F c w (nI p) (fun (m349 : xm_S) => xg_n (nI p) 60 (xs_m (xw_l m349 (c + 1) (nI p).toNatClampNeg w) fun m351 => xs_m (xw_i m351 c 1 ((m351.1 c 1) + (1 : Int32))) fun m353 => some m353)) F (nI n) m else xs_m (xw_i m c 2 (1 : Int32)) fun m355 => some m355) = some m' ∧ cw_P c (fun x => P x ∨ x = w) m' ∧ cw_f c m m' := by
    intro hw
    by_cases hn : n < 60
    · rw [if_pos (show nI n < (60 : Int32) from nI_lt (b := 60) hn (by decide))]
      obtain ⟨m1, e1, e2, e3, e4, e5⟩ := wy_90 (F := F) (c := c) (n := n) (p := p) (w := w) (kk := fun (m349 : xm_S) => xg_n (nI p) 60 (xs_m (xw_l m349 (c + 1) (nI p).toNatClampNeg w) fun m351 => xs_m (xw_i m351 c 1 ((m351.1 c 1) + (1 : Int32))) fun m353 => some m353)) hn (n - p) n F m (by omega) (Nat.le_refl _) (by omega)
      rw [e1, xg_nI (by omega) (by decide), nI_clamp (by omega)]
      unfold xs_m
      have v1 : (xw_l m1 (c + 1) p w).1 c 1 = nI n := by rw [xl_1, e2, h2]
      have val : ∀ j, (xw_l m1 (c + 1) p w).2 (c + 1) j = if j < p then m.2 (c + 1) j else if j = p then w else if j ≤ n then m.2 (c + 1) (j - 1) else m.2 (c + 1) j := fun j => by
        by_cases z1 : j < p
        · rw [if_pos z1, xl_j (by omega), e4 j (by omega)]
        · rw [if_neg z1]
          by_cases z2 : j = p
          · rw [if_pos z2, z2, xl_s1]
          · rw [if_neg z2, xl_j z2]
            by_cases z3 : j ≤ n
            · rw [if_pos z3, e5 j (by omega) z3]
            · rw [if_neg z3, e4 j (by omega)]
      have pw : ∀ i, p ≤ i → i < n → w < m.2 (c + 1) i := fun i h6 h7 => by
        rcases lg_tri w (m.2 (c + 1) i) with z | z | z
        · exact z
        · exact absurd ((h5 w).mpr ⟨i, h7, z.symm⟩) hw
        · exact absurd z (lg_le_not_lt (p4 i h6 h7))
      refine ⟨_, rfl, Or.inl ⟨n + 1, ?_, ?_, by omega, ?_, ?_⟩, ?_⟩
      · rw [xi_j (by decide), xl_1, e2, h1]
      · rw [xi_s, v1, nI_1]
      · show cw_s ((xw_l m1 (c + 1) p w).2 (c + 1)) (n + 1)
        intro i j hij hj
        rw [val i, val j]
        by_cases z1 : j < p
        · rw [if_pos z1, if_pos (by omega)]; exact h4 _ _ hij (by omega)
        · rw [if_neg z1]
          by_cases z2 : j = p
          · rw [if_pos z2, if_pos (by omega)]; exact p3 i (by omega)
          · rw [if_neg z2, if_pos (show j ≤ n by omega)]
            by_cases z4 : i < p
            · rw [if_pos z4]; exact h4 _ _ (by omega) (by omega)
            · rw [if_neg z4]
              by_cases z5 : i = p
              · rw [if_pos z5]; exact pw _ (by omega) (by omega)
              · rw [if_neg z5, if_pos (by omega)]; exact h4 _ _ (by omega) (by omega)
      · show ∀ x, (P x ∨ x = w) ↔ ∃ i, i < n + 1 ∧ (xw_l m1 (c + 1) p w).2 (c + 1) i = x
        intro x
        constructor
        · rintro (hx | hx)
          · obtain ⟨i, hi, e⟩ := (h5 x).mp hx
            by_cases z1 : i < p
            · exact ⟨i, by omega, by rw [val, if_pos z1, e]⟩
            · exact ⟨i + 1, by omega, by rw [val, if_neg (by omega), if_neg (by omega), if_pos (by omega)]; exact e⟩
          · exact ⟨p, by omega, by rw [val, if_neg (by omega), if_pos rfl, hx]⟩
        · rintro ⟨i, hi, e⟩
          rw [val] at e
          by_cases z1 : i < p
          · rw [if_pos z1] at e; exact Or.inl ((h5 x).mpr ⟨i, by omega, e⟩)
          · rw [if_neg z1] at e
            by_cases z2 : i = p
            · rw [if_pos z2] at e; exact Or.inr e.symm
            · rw [if_neg z2, if_pos (by omega)] at e; exact Or.inl ((h5 x).mpr ⟨i - 1, by omega, e⟩)
      · intro a h6 h7
        refine ⟨?_, ?_⟩
        · rw [xi_k h6, xl_1, e2]
        · show (xw_l m1 (c + 1) p w).2 a = m.2 a
          rw [xl_k h7, e3 a h7]
    · have e60 : n = 60 := by omega
      rw [if_neg (show ¬ nI n < (60 : Int32) from nI_nlt (b := 60) (by omega) (by omega))]
      unfold xs_m
      refine ⟨_, rfl, Or.inr ⟨xi_s, ?_⟩, fun a h6 h7 => ⟨xi_k h6, rfl⟩⟩
      have hen := en_add (P := P) (n := n) (r := m.2 (c + 1)) (s := fun i => if i = n then w else m.2 (c + 1) i) (w := w) (cw_en h4 h5) hw (fun i hi => by simp [Nat.ne_of_lt hi]) (by simp)
      exact en_big hen (by omega)
  by_cases z : n ≤ p
  · rw [if_pos (nI_le z (by omega))]
    exact add (fun hw => by
      obtain ⟨i, hi, e⟩ := (h5 w).mp hw
      exact lg_lt_ne (p3 i (by omega)) e)
  · rw [if_neg (nI_ge (by omega) (by omega)), xg_nI (by omega) (by decide), nI_clamp (by omega)]
    by_cases q : lg_cmp (m.2 (c + 1) p) w = 0
    · rw [if_pos q]
      have q' := (lg_cmp_eq _ _).mp q
      refine ⟨m, rfl, Or.inl ⟨n, h1, h2, h3, h4, fun x => ⟨fun hx => ?_, fun hx => Or.inl ((h5 x).mpr hx)⟩⟩, cw_f0⟩
      rcases hx with hx | hx
      · exact (h5 x).mp hx
      · exact ⟨p, by omega, by rw [q', hx]⟩
    · rw [if_neg q]
      rw [nI_clamp (show p < 2 ^ 31 by omega)] at add
      exact add (fun hw => by
        obtain ⟨i, hi, e⟩ := (h5 w).mp hw
        rcases Nat.lt_trichotomy i p with y | y | y
        · exact lg_lt_ne (p3 i y) e
        · subst y; exact q ((lg_cmp_eq _ _).mpr e)
        · have y1 := h4 p i y hi
          have y2 := p4 p (Nat.le_refl _) (by omega)
          rw [e] at y1
          exact lg_le_not_lt y2 y1)
