/-! The class: the row after a letter. -/
def ga_o (A G : Nat → Nat → Nat) (P : Nat → Nat) (l t s : Nat) : Nat := if 0 < P s ∧ (A s l).testBit t = true then P s + (if (G s l).testBit t = true then 1 else 0) else 0
def ga_v (A G : Nat → Nat → Nat) (P : Nat → Nat) (l t : Nat) : Nat → Nat
  | 0 => 0
  | s + 1 => if ga_v A G P l t s ≤ ga_o A G P l t s then ga_o A G P l t s else ga_v A G P l t s
def ga_L (G : Nat → Nat → Nat) (n b : Nat) (P : Nat → Nat) (l : Nat) : Prop := ∃ s, s < n ∧ b < P s ∧ G s l ≠ 0
theorem ga_v_le {A G : Nat → Nat → Nat} {P : Nat → Nat} {l t v : Nat} : ∀ {n : Nat}, (∀ s, s < n → ga_o A G P l t s ≤ v) → ga_v A G P l t n ≤ v
  | 0, _ => Nat.zero_le _
  | n + 1, h => by
    have h1 := ga_v_le (n := n) (fun s hs => h s (by omega))
    have h2 := h n (by omega)
    rw [ga_v]
    split <;> omega
theorem ga_v_ge {A G : Nat → Nat → Nat} {P : Nat → Nat} {l t : Nat} : ∀ {n s : Nat}, s < n → ga_o A G P l t s ≤ ga_v A G P l t n
  | 0, s, h => by omega
  | n + 1, s, h => by
    rw [ga_v]
    by_cases e : s = n
    · subst e; split <;> omega
    · have := ga_v_ge (A := A) (G := G) (P := P) (l := l) (t := t) (n := n) (s := s) (by omega)
      split <;> omega
theorem ga_o_le {A G : Nat → Nat → Nat} {P : Nat → Nat} {n b l t s : Nat} (hP : ∀ t, P t ≤ b + 1) (hL : ¬ ga_L G n b P l) (hs : s < n) : ga_o A G P l t s ≤ b + 1 := by
  unfold ga_o
  have h1 := hP s
  by_cases h : 0 < P s ∧ (A s l).testBit t = true
  · rw [if_pos h]
    by_cases g : (G s l).testBit t = true
    · rw [if_pos g]
      have : ¬ b < P s := fun q => hL ⟨s, hs, q, fun z => by rw [z, Nat.zero_testBit] at g; cases g⟩
      omega
    · rw [if_neg g]; omega
  · rw [if_neg h]; omega
theorem ct_p {a : Nat} (h : a < 8) (h0 : 0 < a) : nI a - 1 = nI (a - 1) := by
  have : ∀ a, a < 8 → 0 < a → nI a - 1 = nI (a - 1) := by decide
  exact this a h h0
theorem ix_c (s l : Nat) : nI s * (16 : Int32) + nI l = nI (16 * s + l) := by
  rw [show nI s * (16 : Int32) = nI (s * 16) from pk_mul s 16, nI_add, Nat.mul_comm]
theorem ix_m (s l : Nat) : (16 : Int32) * nI s + nI l = nI (16 * s + l) := by
  rw [show (16 : Int32) * nI s = nI (16 * s) from pk_mul 16 s, nI_add]
theorem ga_6 {F n b l : Nat} {A G : Nat → Nat → Nat} {P : Nat → Nat} {m : xm_S} {kk : Int64 → xm_S → Option (Int64 × xm_S)} (hF : 100 < F) (hn : n ≤ 16) (hb : b ≤ 3) (hl : l < 16) (hP : ∀ t, P t ≤ b + 1) (h20 : m.1 20 6 = nI n)
    (hA : ∀ s, s < n → m.1 24 (16 * s + l) = nI (A s l) ∧ A s l < 2 ^ 16) (hG : ∀ s, s < n → m.1 25 (16 * s + l) = nI (G s l) ∧ G s l < 2 ^ 16 ∧ ∀ t, (G s l).testBit t = true → (A s l).testBit t = true) :
    ∀ (r i fu : Nat), i + r = n → r < fu → (∀ s, s < i → ¬ (b < P s ∧ G s l ≠ 0)) →
      (ga_L G n b P l ∧ gm_rowAfter_l6 F (lN (cd_n 16 P 16)) (nI l) (nI b) kk fu (lN (cd_n 16 (fun t => ga_v A G P l t i) 16)) (nI i) m = some (-1, m)) ∨ (¬ ga_L G n b P l ∧ gm_rowAfter_l6 F (lN (cd_n 16 P 16)) (nI l) (nI b) kk fu (lN (cd_n 16 (fun t => ga_v A G P l t i) 16)) (nI i) m = kk (lN (cd_n 16 (fun t => ga_v A G P l t n) 16)) m) := by
  have hP8 : ∀ t, P t < 8 := fun t => by have := hP t; omega
  intro r
  induction r with
  | zero =>
    intro i fu hi hfu hL
    obtain ⟨fu, rfl⟩ : ∃ g, fu = g + 1 := ⟨fu - 1, by omega⟩
    obtain rfl : i = n := by omega
    refine Or.inr ⟨fun ⟨s, h1, h2⟩ => hL s h1 h2, ?_⟩
    rw [gm_rowAfter_l6, h20, if_pos (nI_le (Nat.le_refl _) (by omega))]
  | succ r ih =>
    intro i fu hi hfu hL
    obtain ⟨fu, rfl⟩ : ∃ g, fu = g + 1 := ⟨fu - 1, by omega⟩
    have hin : i < n := by omega
    rw [gm_rowAfter_l6, h20, if_neg (nI_ge (by omega) (by omega)), gm_c hP8 (by omega), ix_c]
    have hv : ∀ t, ga_v A G P l t i < 8 := fun t => by
      have : ga_v A G P l t i ≤ b + 1 := ga_v_le (fun s hs => ga_o_le (n := i) hP (fun ⟨s, h1, h2⟩ => hL s h1 h2) hs)
      omega
    by_cases hp : P i = 0
    · rw [if_neg (by rw [hp]; decide), nI_1]
      have e : cd_n 16 (fun t => ga_v A G P l t i) 16 = cd_n 16 (fun t => ga_v A G P l t (i + 1)) 16 := cd_ext (fun t _ => by
        show _ = ga_v A G P l t (i + 1)
        have : ga_o A G P l t i = 0 := if_neg (by omega)
        rw [ga_v, this]
        split <;> omega)
      rw [e]
      exact ih (i + 1) fu (by omega) (by omega) (fun s hs => by
        by_cases z : s = i
        · rw [z, hp]; omega
        · exact hL s (by omega))
    · have h16 : 16 * i + l < 256 := by omega
      rw [ct_p (hP8 i) (by omega), if_pos (nI_pos' (by have := hP8 i; omega)), xg_nI h16 (by decide), nI_clamp (by omega), (hG i hin).1, (hA i hin).1]
      obtain ⟨-, g1, g2⟩ := hG i hin
      obtain ⟨-, a1⟩ := hA i hin
      have step : (xj_j (fun (u759 : Unit) => xg_n (nI (16 * i + l)) 256 (xc_m (gm_allRaised F (lN (cd_n 16 (fun t => ga_v A G P l t i) 16)) (nI (A i l)) (nI (P i - 1)) m) fun v774 m775 => xg_n (nI (16 * i + l)) 256 (xc_m (gm_allRaised F v774 (m775.1 25 (16 * i + l)) (nI (P i - 1) + (1 : Int32)) m775) fun v779 m780 => gm_rowAfter_l6 F (lN (cd_n 16 P 16)) (nI l) (nI b) kk fu v779 (nI i + (1 : Int32)) m780))) fun j760 => j760 ()) = gm_rowAfter_l6 F (lN (cd_n 16 P 16)) (nI l) (nI b) kk fu (lN (cd_n 16 (ur_x (ur_x (fun t => ga_v A G P l t i) (A i l) (P i)) (G i l) (P i + 1)) 16)) (nI (i + 1)) m := by
        have u8 : ∀ t, ur_x (fun t => ga_v A G P l t i) (A i l) (P i) t < 8 := fun t => by
          have := hv t
          have := hP8 i
          unfold ur_x
          split
          · split <;> omega
          · omega
        simp only [xj_j]
        rw [xg_nI h16 (by decide), gm_all hF hv a1 (by have := hP8 i; omega), show P i - 1 + 1 = P i by omega]
        simp only [xc_s]
        rw [xg_nI h16 (by decide), (hG i hin).1, nI_1, show P i - 1 + 1 = P i by omega, gm_all hF u8 g1 (by have := hP i; omega)]
        simp only [xc_s, nI_1]
      have eq : ∀ (hnl : ¬ (b < P i ∧ G i l ≠ 0)), cd_n 16 (ur_x (ur_x (fun t => ga_v A G P l t i) (A i l) (P i)) (G i l) (P i + 1)) 16 = cd_n 16 (fun t => ga_v A G P l t (i + 1)) 16 := fun hnl => cd_ext (fun t _ => by
        show _ = ga_v A G P l t (i + 1)
        rw [ga_v]
        unfold ur_x ga_o
        dsimp only
        by_cases x : (A i l).testBit t = true
        · rw [if_pos x, if_pos (show 0 < P i ∧ (A i l).testBit t = true from ⟨by omega, x⟩)]
          by_cases y : (G i l).testBit t = true
          · rw [if_pos y, if_pos y]
            split <;> split <;> (try split) <;> omega
          · rw [if_neg y, if_neg y]
            split <;> split <;> omega
        · have y : ¬ (G i l).testBit t = true := fun z => x (g2 t z)
          rw [if_neg y, if_neg x, if_neg (show ¬ (0 < P i ∧ (A i l).testBit t = true) from fun z => x z.2)]
          split <;> omega)
      have go : ∀ (hnl : ¬ (b < P i ∧ G i l ≠ 0)), (ga_L G n b P l ∧ gm_rowAfter_l6 F (lN (cd_n 16 P 16)) (nI l) (nI b) kk fu (lN (cd_n 16 (ur_x (ur_x (fun t => ga_v A G P l t i) (A i l) (P i)) (G i l) (P i + 1)) 16)) (nI (i + 1)) m = some (-1, m)) ∨ (¬ ga_L G n b P l ∧ gm_rowAfter_l6 F (lN (cd_n 16 P 16)) (nI l) (nI b) kk fu (lN (cd_n 16 (ur_x (ur_x (fun t => ga_v A G P l t i) (A i l) (P i)) (G i l) (P i + 1)) 16)) (nI (i + 1)) m = kk (lN (cd_n 16 (fun t => ga_v A G P l t n) 16)) m) := fun hnl => by
        rw [eq hnl]
        exact ih (i + 1) fu (by omega) (by omega) (fun s hs => by
          by_cases z : s = i
          · rw [z]; exact hnl
          · exact hL s (by omega))
      by_cases hz : G i l = 0
      · simp only [xj_j] at step ⊢
        rw [if_pos (show nI (G i l) = 0 by rw [hz]; rfl), step]
        exact go (fun z => z.2 hz)
      · have hg31 : G i l < 2 ^ 31 := Nat.lt_of_lt_of_le g1 (by decide)
        simp only [xj_j] at step ⊢
        rw [if_neg (nI_ne0 (Nat.pos_of_ne_zero hz) hg31)]
        by_cases hbp : b < P i
        · rw [if_neg (nI_nlt (by omega) (by have := hP8 i; omega))]
          exact Or.inl ⟨⟨i, hin, hbp, hz⟩, rfl⟩
        · rw [if_pos (nI_lt (by omega) (by omega)), step]
          exact go (fun z => hbp z.1)
theorem ga_c {F n b l : Nat} {A G : Nat → Nat → Nat} {P : Nat → Nat} {m : xm_S} (hF : 100 < F) (hn : n ≤ 16) (hb : b ≤ 3) (hl : l < 16) (hP : ∀ t, P t ≤ b + 1) (h20 : m.1 20 6 = nI n)
    (hA : ∀ s, s < n → m.1 24 (16 * s + l) = nI (A s l) ∧ A s l < 2 ^ 16) (hG : ∀ s, s < n → m.1 25 (16 * s + l) = nI (G s l) ∧ G s l < 2 ^ 16 ∧ ∀ t, (G s l).testBit t = true → (A s l).testBit t = true) :
    (ga_L G n b P l ∧ gm_rowAfter F (lN (cd_n 16 P 16)) (nI l) (nI b) m = some (-1, m)) ∨ (¬ ga_L G n b P l ∧ gm_rowAfter F (lN (cd_n 16 P 16)) (nI l) (nI b) m = some (lN (cd_n 16 (fun t => ga_v A G P l t n) 16), m)) := by
  have e0 : cd_n 16 (fun t => ga_v A G P l t 0) 16 = 0 := (cd_ext (Q := fun _ => 0) (fun t _ => rfl)).trans (by decide)
  have h := ga_6 (F := F) (kk := fun x m => some (x, m)) hF hn hb hl hP h20 hA hG n 0 F (by omega) (by omega) (fun s hs => by omega)
  rw [e0] at h
  exact h
