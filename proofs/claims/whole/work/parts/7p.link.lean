/-! The two automata linked, and the row after a letter on both sides. -/
def ga_J (sg : Nat → Nat) (n : Nat) (A G A' G' : Nat → Nat → Nat) : Prop := (∀ t, t < n → sg t < n) ∧ (∀ s, s < n → ∃ t, t < n ∧ sg t = s) ∧ sg 0 = 0 ∧ (∀ t u, t < n → u < n → sg t = sg u → t = u) ∧ ∀ s t l, s < n → t < n → l < 16 → ((A' s l).testBit t = true ↔ (A (sg s) l).testBit (sg t) = true) ∧ ((G' s l).testBit t = true ↔ (G (sg s) l).testBit (sg t) = true)
def ga_D (sg : Nat → Nat) (n b : Nat) (A G A' G' : Nat → Nat → Nat) (mc mm : xm_S) : Prop := n ≤ 16 ∧ 0 < n ∧ b ≤ 3 ∧ mc.1 20 6 = nI n ∧ mm.1 35 11 = nI n ∧ (∀ s l, s < n → l < 16 → mc.1 24 (16 * s + l) = nI (A s l) ∧ mc.1 25 (16 * s + l) = nI (G s l) ∧ mm.1 47 (16 * s + l) = nI (A' s l) ∧ mm.1 48 (16 * s + l) = nI (G' s l) ∧ A s l < 2 ^ n ∧ G s l < 2 ^ n ∧ A' s l < 2 ^ n ∧ G' s l < 2 ^ n ∧ ∀ t, (G s l).testBit t = true → (A s l).testBit t = true) ∧ ga_J sg n A G A' G'
theorem ga_link {T : bo_T} {PS : Nat → Nat} {f n b : Nat} {q q' : Nat → Nat × Nat} {mc mm : xm_S} (hb : b ≤ 3) (h : au_C T PS f q n mc) (k : au_M T PS f q' n mm) : ∃ sg A G A' G', ga_D sg n b A G A' G' mc mm := by
  have hn := h.1.1.2.1
  have p16 : (2 : Nat) ^ n ≤ 2 ^ 16 := Nat.pow_le_pow_right (by decide) hn
  have hs := fun t (ht : t < n) => au_C_all h (q' t) (k.1.2.2.1 t ht)
  obtain ⟨sg, hsg⟩ : ∃ sg : Nat → Nat, ∀ t, t < n → sg t < n ∧ q (sg t) = q' t := ⟨fun t => if ht : t < n then Classical.choose (hs t ht) else 0, fun t ht => by
    simp only [dif_pos ht]
    exact Classical.choose_spec (hs t ht)⟩
  have hC : ∀ s l, s < n → l < 16 → ∃ A G, mc.1 24 (16 * s + l) = nI A ∧ mc.1 25 (16 * s + l) = nI G ∧ sp_W (ut_w T (PS f) (f + 1)) q n (q s) (jp_w T l (q s).1 28) A G := fun s l h1 h2 => (h.2.2.2 s l h1 h2).2
  have hM : ∀ s l, s < n → l < 16 → ∃ A G, mm.1 47 (16 * s + l) = nI A ∧ mm.1 48 (16 * s + l) = nI G ∧ sp_W (ut_w T (PS f) (f + 1)) q' n (q' s) (jp_w T l (q' s).1 28) A G := fun s l h1 h2 => (k.2.2.2.2 s l h1 h2).2
  have hC2 : ∀ s l, s < n → l < 16 → mc.1 24 (16 * s + l) = nI ((mc.1 24 (16 * s + l)).toNatClampNeg) ∧ mc.1 25 (16 * s + l) = nI ((mc.1 25 (16 * s + l)).toNatClampNeg) ∧ sp_W (ut_w T (PS f) (f + 1)) q n (q s) (jp_w T l (q s).1 28) ((mc.1 24 (16 * s + l)).toNatClampNeg) ((mc.1 25 (16 * s + l)).toNatClampNeg) := fun s l h1 h2 => by
    obtain ⟨A, G, a1, a2, a3⟩ := hC s l h1 h2
    rw [a1, a2, nI_clamp (by have := a3.1; omega), nI_clamp (by have := a3.2.1; omega)]
    exact ⟨rfl, rfl, a3⟩
  have hM2 : ∀ s l, s < n → l < 16 → mm.1 47 (16 * s + l) = nI ((mm.1 47 (16 * s + l)).toNatClampNeg) ∧ mm.1 48 (16 * s + l) = nI ((mm.1 48 (16 * s + l)).toNatClampNeg) ∧ sp_W (ut_w T (PS f) (f + 1)) q' n (q' s) (jp_w T l (q' s).1 28) ((mm.1 47 (16 * s + l)).toNatClampNeg) ((mm.1 48 (16 * s + l)).toNatClampNeg) := fun s l h1 h2 => by
    obtain ⟨A, G, a1, a2, a3⟩ := hM s l h1 h2
    rw [a1, a2, nI_clamp (by have := a3.1; omega), nI_clamp (by have := a3.2.1; omega)]
    exact ⟨rfl, rfl, a3⟩
  refine ⟨sg, fun s l => (mc.1 24 (16 * s + l)).toNatClampNeg, fun s l => (mc.1 25 (16 * s + l)).toNatClampNeg, fun s l => (mm.1 47 (16 * s + l)).toNatClampNeg, fun s l => (mm.1 48 (16 * s + l)).toNatClampNeg, hn, h.2.1, hb, h.1.1.1, k.1.1.1, fun s l h1 h2 => ?_, fun t ht => (hsg t ht).1, fun s hs' => ?_, ?_, fun t u ht hu e => ?_, fun s t l h1 h2 h3 => ?_⟩
  · obtain ⟨a1, a2, a3⟩ := hC2 s l h1 h2
    obtain ⟨b1, b2, b3⟩ := hM2 s l h1 h2
    refine ⟨a1, a2, b1, b2, a3.1, a3.2.1, b3.1, b3.2.1, fun t ht => ?_⟩
    by_cases z : t < n
    · obtain ⟨x, x1, x2, x3⟩ := ((a3.2.2.1 t z).2).mp ht
      exact ((a3.2.2.1 t z).1).mpr ⟨x, x1, x2⟩
    · have : ((mc.1 25 (16 * s + l)).toNatClampNeg).testBit t = false := Nat.testBit_lt_two_pow (Nat.lt_of_lt_of_le a3.2.1 (Nat.pow_le_pow_right (by decide) (by omega)))
      have ht' : ((mc.1 25 (16 * s + l)).toNatClampNeg).testBit t = true := ht
      rw [this] at ht'
      cases ht'
  · obtain ⟨t, ht, e⟩ := au_M_all k (q s) (h.1.2.2.1 s hs')
    exact ⟨t, ht, h.1.2.1 _ _ (hsg t ht).1 hs' (by rw [(hsg t ht).2, e])⟩
  · exact h.1.2.1 _ _ (hsg 0 h.2.1).1 h.2.1 (by rw [(hsg 0 h.2.1).2, k.2.2.2.1, h.2.2.1])
  · exact k.1.2.1 _ _ ht hu (by rw [← (hsg t ht).2, ← (hsg u hu).2, e])
  · obtain ⟨-, -, a3⟩ := hC2 (sg s) l (hsg s h1).1 h3
    obtain ⟨-, -, b3⟩ := hM2 s l h1 h3
    obtain ⟨c1, c2⟩ := a3.2.2.1 (sg t) (hsg t h2).1
    obtain ⟨d1, d2⟩ := b3.2.2.1 t h2
    rw [(hsg s h1).2, (hsg t h2).2] at c1 c2
    exact ⟨d1.trans c1.symm, d2.trans c2.symm⟩
theorem ga_po {sg : Nat → Nat} {n l s t : Nat} {A G A' G' : Nat → Nat → Nat} {P : Nat → Nat} (J : ga_J sg n A G A' G') (hs : s < n) (ht : t < n) (hl : l < 16) : ga_o A' G' (fun t => P (sg t)) l t s = ga_o A G P l (sg t) (sg s) := by
  obtain ⟨j1, j2⟩ := J.2.2.2.2 s t l hs ht hl
  unfold ga_o
  simp only [j1, j2]
theorem ga_pv {sg : Nat → Nat} {n l t : Nat} {A G A' G' : Nat → Nat → Nat} {P : Nat → Nat} (J : ga_J sg n A G A' G') (ht : t < n) (hl : l < 16) : ga_v A' G' (fun t => P (sg t)) l t n = ga_v A G P l (sg t) n := by
  apply Nat.le_antisymm
  · exact ga_v_le (fun s hs => by
      rw [ga_po J hs ht hl]
      exact ga_v_ge (J.1 s hs))
  · exact ga_v_le (fun s hs => by
      obtain ⟨u, hu, e⟩ := J.2.1 s hs
      rw [← e, ← ga_po J hu ht hl]
      exact ga_v_ge hu)
theorem ga_two {F n b l : Nat} {sg : Nat → Nat} {A G A' G' : Nat → Nat → Nat} {P : Nat → Nat} {mc mm : xm_S} (hF : 100 < F) (hD : ga_D sg n b A G A' G' mc mm) (hl : l < 16) (hP : ∀ t, P t ≤ b + 1) :
    (gm_rowAfter F (lN (cd_n 16 P 16)) (nI l) (nI b) mc = some (-1, mc) ∧ mm_after F (lN (cd_n 8 (fun t => P (sg t)) n)) (nI l) (nI b) mm = some (-1, mm)) ∨
    ∃ Q : Nat → Nat, (∀ t, Q t ≤ b + 1) ∧ (∀ t, n ≤ t → Q t = 0) ∧ gm_rowAfter F (lN (cd_n 16 P 16)) (nI l) (nI b) mc = some (lN (cd_n 16 Q 16), mc) ∧ mm_after F (lN (cd_n 8 (fun t => P (sg t)) n)) (nI l) (nI b) mm = some (lN (cd_n 8 (fun t => Q (sg t)) n), mm) := by
  obtain ⟨hn, h0, hb, h20, h35, hR, J⟩ := hD
  have p16 : (2 : Nat) ^ n ≤ 2 ^ 16 := Nat.pow_le_pow_right (by decide) hn
  have c := ga_c (F := F) (A := A) (G := G) hF hn hb hl hP h20 (fun s hs => ⟨(hR s l hs hl).1, Nat.lt_of_lt_of_le (hR s l hs hl).2.2.2.2.1 p16⟩) (fun s hs => ⟨(hR s l hs hl).2.1, Nat.lt_of_lt_of_le (hR s l hs hl).2.2.2.2.2.1 p16, (hR s l hs hl).2.2.2.2.2.2.2.2⟩)
  have r := ga_m (F := F) (A := A') (G := G') (P := fun t => P (sg t)) hF hn hb hl (fun t => by have := hP (sg t); show P (sg t) ≤ 4; omega) h35 (fun s hs => ⟨(hR s l hs hl).2.2.1, Nat.lt_of_lt_of_le (hR s l hs hl).2.2.2.2.2.2.1 p16⟩) (fun s hs => ⟨(hR s l hs hl).2.2.2.1, Nat.lt_of_lt_of_le (hR s l hs hl).2.2.2.2.2.2.2.1 p16⟩)
  have bit : ∀ s t, s < n → (G s l).testBit t = true → t < n := fun s t hs ht => by
    by_cases z : t < n
    · exact z
    · have : (G s l).testBit t = false := Nat.testBit_lt_two_pow (Nat.lt_of_lt_of_le (hR s l hs hl).2.2.2.2.2.1 (Nat.pow_le_pow_right (by decide) (by omega)))
      rw [this] at ht
      cases ht
  have zero : ∀ t, n ≤ t → ga_v A G P l t n = 0 := fun t ht => Nat.le_zero.mp (ga_v_le (fun s hs => by
    have : (A s l).testBit t = false := Nat.testBit_lt_two_pow (Nat.lt_of_lt_of_le (hR s l hs hl).2.2.2.2.1 (Nat.pow_le_pow_right (by decide) ht))
    unfold ga_o
    rw [if_neg (fun z => by rw [this] at z; cases z.2)]
    exact Nat.le_refl _))
  have e8 : cd_n 8 (fun t => ga_v A' G' (fun t => P (sg t)) l t n) n = cd_n 8 (fun t => (fun t => ga_v A G P l t n) (sg t)) n := cd_ext (fun t ht => ga_pv J ht hl)
  rcases c with ⟨c1, c2⟩ | ⟨c1, c2⟩
  · refine Or.inl ⟨c2, ?_⟩
    rcases r with ⟨r1, r2⟩ | ⟨r1, r2⟩
    · exact r2
    · exfalso
      obtain ⟨s, hs, g1, g2⟩ := c1
      by_cases z : ∃ t, (G s l).testBit t = true
      · obtain ⟨t, ht⟩ := z
        have htn := bit s t hs ht
        obtain ⟨u, hu, e⟩ := J.2.1 t htn
        have h1 := r1 u hu
        rw [ga_pv J hu hl, e] at h1
        have h2 := ga_v_ge (A := A) (G := G) (P := P) (l := l) (t := t) hs
        have h3 : ga_o A G P l t s = P s + 1 := by
          unfold ga_o
          rw [if_pos ⟨by omega, (hR s l hs hl).2.2.2.2.2.2.2.2 t ht⟩, if_pos ht]
        omega
      · exact g2 (Nat.eq_of_testBit_eq (fun i => by
          rw [Nat.zero_testBit]
          cases y : (G s l).testBit i with
          | false => rfl
          | true => exact absurd ⟨i, y⟩ z))
  · refine Or.inr ⟨fun t => ga_v A G P l t n, fun t => ga_v_le (fun s hs => ga_o_le hP c1 hs), zero, c2, ?_⟩
    rcases r with ⟨⟨u, hu, r1⟩, r2⟩ | ⟨r1, r2⟩
    · exfalso
      rw [ga_pv J hu hl] at r1
      have : ga_v A G P l (sg u) n ≤ b + 1 := ga_v_le (fun s hs => ga_o_le hP c1 hs)
      omega
    · rw [r2, e8]
