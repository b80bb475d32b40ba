/-! Words, the class's side: writing, bits, rounds. -/
section WORD
variable {F : Nat}
theorem ww_3 {x y : Int64} {n q : Nat} {kk : xm_S → Option xm_S} (hn : n ≤ 8) : ∀ (r fu i : Nat) (m : xm_S), i + r = n → r < fu → (∀ p, p < i → m.1 8 p = nI (hw_l x p)) →
    ∃ m' : xm_S, wd_write_l3 F x (nI n) y (nI q) kk fu (nI i) m = kk m' ∧ (∀ p, p < n → m'.1 8 p = nI (hw_l x p)) := by
  intro r
  induction r with
  | zero =>
    intro fu i m hi hf hm
    obtain ⟨fu, rfl⟩ : ∃ g, fu = g + 1 := ⟨fu - 1, by omega⟩
    obtain rfl : i = n := by omega
    rw [wd_write_l3, if_pos (nI_le (Nat.le_refl _) (by omega))]
    exact ⟨m, rfl, hm⟩
  | succ r ih =>
    intro fu i m hi hf hm
    obtain ⟨fu, rfl⟩ : ∃ g, fu = g + 1 := ⟨fu - 1, by omega⟩
    rw [wd_write_l3, if_neg (nI_ge (by omega) (by omega)), xg_nI (by omega) (by decide), nI_clamp (by omega), show (4 : Int32) * nI i = nI (4 * i) from pk_mul 4 i, hw_l_c, nI_1]
    unfold xs_m
    exact ih fu (i + 1) _ (by omega) (by omega) (fun p hp => by
      by_cases e : p = i
      · subst e; exact xi_s
      · rw [xi_j e]; exact hm p (by omega))
theorem ww_35 {x y : Int64} {n q : Nat} {kk : xm_S → Option xm_S} (hn : n ≤ 8) (hq : q ≤ 8) : ∀ (r fu i : Nat) (m : xm_S), i + r = q → r < fu → (∀ p, p < n + i → m.1 8 p = nI (hw_L x y n p)) →
    ∃ m' : xm_S, wd_write_l35 F (nI n) y (nI q) kk fu (nI i) m = kk m' ∧ (∀ p, p < n + q → m'.1 8 p = nI (hw_L x y n p)) := by
  intro r
  induction r with
  | zero =>
    intro fu i m hi hf hm
    obtain ⟨fu, rfl⟩ : ∃ g, fu = g + 1 := ⟨fu - 1, by omega⟩
    obtain rfl : i = q := by omega
    rw [wd_write_l35, if_pos (nI_le (Nat.le_refl _) (by omega))]
    exact ⟨m, rfl, hm⟩
  | succ r ih =>
    intro fu i m hi hf hm
    obtain ⟨fu, rfl⟩ : ∃ g, fu = g + 1 := ⟨fu - 1, by omega⟩
    rw [wd_write_l35, if_neg (nI_ge (by omega) (by omega)), nI_add, xg_nI (by omega) (by decide), nI_clamp (by omega), show (4 : Int32) * nI i = nI (4 * i) from pk_mul 4 i, hw_l_c, nI_1]
    unfold xs_m
    exact ih fu (i + 1) _ (by omega) (by omega) (fun p hp => by
      by_cases e : p = n + i
      · subst e
        rw [xi_s]
        unfold hw_L
        rw [if_neg (by omega), Nat.add_sub_cancel_left]
      · rw [xi_j e]; exact hm p (by omega))
-- the word stands written
def hw_C (x y : Int64) (n w : Nat) (m : xm_S) : Prop := m.1 7 3 = nI w ∧ m.1 7 4 = nI n ∧ ∀ p, p < w → m.1 8 p = nI (hw_L x y n p)
theorem ww_all {x y : Int64} {n q : Nat} {m : xm_S} (hF : 100 < F) (hn : n ≤ 8) (hq : q ≤ 8) : ∃ m' : xm_S, wd_write F x (nI n) y (nI q) m = some m' ∧ hw_C x y n (n + q) m' := by
  unfold wd_write
  obtain ⟨m1, e1, e2⟩ := ww_3 (F := F) (x := x) (y := y) (n := n) (q := q) (kk := fun (m179 : xm_S) => wd_write_l35 F (nI n) y (nI q) (fun (m189 : xm_S) => xs_m (xw_i m189 7 3 (nI n + nI q)) fun m190 => xs_m (xw_i m190 7 4 (nI n)) fun m192 => some m192) F (0 : Int32) m179) hn n F 0 m (by omega) (by omega) (fun p hp => by omega)
  have e1' : wd_write_l3 F x (nI n) y (nI q) (fun (m179 : xm_S) => wd_write_l35 F (nI n) y (nI q) (fun (m189 : xm_S) => xs_m (xw_i m189 7 3 (nI n + nI q)) fun m190 => xs_m (xw_i m190 7 4 (nI n)) fun m192 => some m192) F (0 : Int32) m179) F (0 : Int32) m = _ := e1
  rw [e1']
  obtain ⟨m2, e3, e4⟩ := ww_35 (F := F) (x := x) (y := y) (n := n) (q := q) (kk := fun (m189 : xm_S) => xs_m (xw_i m189 7 3 (nI n + nI q)) fun m190 => xs_m (xw_i m190 7 4 (nI n)) fun m192 => some m192) hn hq q F 0 m1 (by omega) (by omega) (fun p hp => by rw [e2 p (by omega)]; unfold hw_L; rw [if_pos (by omega)])
  have e3' : wd_write_l35 F (nI n) y (nI q) (fun (m189 : xm_S) => xs_m (xw_i m189 7 3 (nI n + nI q)) fun m190 => xs_m (xw_i m190 7 4 (nI n)) fun m192 => some m192) F (0 : Int32) m1 = _ := e3
  rw [e3']
  unfold xs_m
  refine ⟨_, rfl, ?_, xi_s, fun p hp => ?_⟩
  · rw [xi_j (by decide), xi_s, nI_add]
  · rw [xi_k (by decide), xi_k (by decide)]
    exact e4 p hp
theorem wb_4 {x y : Int64} {n w a : Nat} {m : xm_S} {kk : Int32 → xm_S → Option (Int32 × xm_S)} (hw : w ≤ 16) (ha : a < 4) (hC : hw_C x y n w m) : ∀ (r fu i : Nat), i + r = w → r < fu →
    wd_placesWithBit_l4 F (nI a) kk fu (nI (hw_w (fun p => hw_b x y n p a) i)) (nI i) m = kk (nI (hw_w (fun p => hw_b x y n p a) w)) m := by
  intro r
  induction r with
  | zero =>
    intro fu i hi hf
    obtain ⟨fu, rfl⟩ : ∃ g, fu = g + 1 := ⟨fu - 1, by omega⟩
    obtain rfl : i = w := by omega
    rw [wd_placesWithBit_l4, hC.1, if_pos (nI_le (Nat.le_refl _) (by omega))]
  | succ r ih =>
    intro fu i hi hf
    obtain ⟨fu, rfl⟩ : ∃ g, fu = g + 1 := ⟨fu - 1, by omega⟩
    have hL := hw_L_lt x y n i
    have hb := hw_b_lt x y n i a
    have hpw : 2 ^ i ≤ 2 ^ 15 := Nat.pow_le_pow_right (by decide) (by omega)
    rw [wd_placesWithBit_l4, hC.1, if_neg (nI_ge (by omega) (by omega)), xg_nI (by omega) (by decide), nI_clamp (by omega), hC.2.2 i (by omega), nb_bit (by omega) (by omega), nI_1]
    have e : nI (hw_L x y n i / 2 ^ a % 2) <<< (nI i &&& 31) = nI (hw_b x y n i a * 2 ^ i) := nb_shl (by omega) (Nat.lt_of_le_of_lt (Nat.mul_le_mul (show hw_L x y n i / 2 ^ a % 2 ≤ 1 from by have := Nat.mod_lt (hw_L x y n i / 2 ^ a) (show 0 < 2 by decide); omega) hpw) (by decide))
    rw [e, nb_or]
    exact ih fu (i + 1) (by omega) (by omega)
theorem wb_all {x y : Int64} {n w a : Nat} {m : xm_S} (hF : 100 < F) (hw : w ≤ 16) (ha : a < 4) (hC : hw_C x y n w m) : wd_placesWithBit F (nI a) m = some (nI (hw_w (fun p => hw_b x y n p a) w), m) := by
  unfold wd_placesWithBit
  exact wb_4 (kk := fun x m => some (x, m)) hw ha hC w F 0 (by omega) (by omega)
theorem wu_5 {x y : Int64} {n w f g : Nat} {m : xm_S} {kk : Int32 → xm_S → Option (Int32 × xm_S)} (hw0 : 0 < w) (hw : w ≤ 16) (hn : n < w) (hf : f < 2 ^ w) (hg : g < 2 ^ w) (hC : hw_C x y n w m) : ∀ (r fu i z : Nat), i + r = w → r < fu → z < 2 ^ w →
    wd_placesOfUntil_l5 F (nI f) (nI g) kk fu (nI z) (nI i) m = kk (nI (hw_u n w f g r z)) m := by
  intro r
  induction r with
  | zero =>
    intro fu i z hi hfu hz
    obtain ⟨fu, rfl⟩ : ∃ g, fu = g + 1 := ⟨fu - 1, by omega⟩
    obtain rfl : i = w := by omega
    rw [wd_placesOfUntil_l5, hC.1, if_pos (nI_le (Nat.le_refl _) (by omega))]
    rfl
  | succ r ih =>
    intro fu i z hi hfu hz
    obtain ⟨fu, rfl⟩ : ∃ g, fu = g + 1 := ⟨fu - 1, by omega⟩
    rw [wd_placesOfUntil_l5, hC.1, if_neg (nI_ge (by omega) (by omega)), hw_ac hC.1 hC.2.1 hw0 hw hn hz, nb_and, nb_or, nI_1]
    exact ih fu (i + 1) _ (by omega) (by omega) (Nat.or_lt_two_pow hg (Nat.lt_of_le_of_lt Nat.and_le_left hf))
theorem wu_all {x y : Int64} {n w f g : Nat} {m : xm_S} (hF : 100 < F) (hw0 : 0 < w) (hw : w ≤ 16) (hn : n < w) (hf : f < 2 ^ w) (hg : g < 2 ^ w) (hC : hw_C x y n w m) : wd_placesOfUntil F (nI f) (nI g) m = some (nI (hw_u n w f g w g), m) := by
  unfold wd_placesOfUntil
  exact wu_5 (kk := fun x m => some (x, m)) hw0 hw hn hf hg hC w F 0 g (by omega) (by omega) hg
theorem wr_5 {x y : Int64} {n w f g : Nat} {m : xm_S} {kk : Int32 → xm_S → Option (Int32 × xm_S)} (hw0 : 0 < w) (hw : w ≤ 16) (hn : n < w) (hf : f < 2 ^ w) (hg : g < 2 ^ w) (hC : hw_C x y n w m) : ∀ (r fu i z : Nat), i + r = w → r < fu → z < 2 ^ w →
    wd_placesOfRelease_l5 F (nI f) (nI g) kk fu (nI z) (nI i) m = kk (nI (hw_r n w f g r z)) m := by
  intro r
  induction r with
  | zero =>
    intro fu i z hi hfu hz
    obtain ⟨fu, rfl⟩ : ∃ g, fu = g + 1 := ⟨fu - 1, by omega⟩
    obtain rfl : i = w := by omega
    rw [wd_placesOfRelease_l5, hC.1, if_pos (nI_le (Nat.le_refl _) (by omega))]
    rfl
  | succ r ih =>
    intro fu i z hi hfu hz
    obtain ⟨fu, rfl⟩ : ∃ g, fu = g + 1 := ⟨fu - 1, by omega⟩
    rw [wd_placesOfRelease_l5, hC.1, if_neg (nI_ge (by omega) (by omega)), hw_ac hC.1 hC.2.1 hw0 hw hn hz, nb_or, nb_and, nI_1]
    exact ih fu (i + 1) _ (by omega) (by omega) (Nat.lt_of_le_of_lt Nat.and_le_left hg)
theorem wr_all {x y : Int64} {n w f g : Nat} {m : xm_S} (hF : 100 < F) (hw0 : 0 < w) (hw : w ≤ 16) (hn : n < w) (hf : f < 2 ^ w) (hg : g < 2 ^ w) (hC : hw_C x y n w m) : wd_placesOfRelease F (nI f) (nI g) m = some (nI (hw_r n w f g w g), m) := by
  unfold wd_placesOfRelease
  exact wr_5 (kk := fun x m => some (x, m)) hw0 hw hn hf hg hC w F 0 g (by omega) (by omega) hg
end WORD
