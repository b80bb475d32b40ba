/-! Memory when both sides stand: cells 0 to 57, then the rows that 'kept' was made anew in; what the functions are made of. -/
def xk_c : Nat → Nat
  | 0 => 13
  | n + 1 => 58 + n
def xk_l (n : Nat) : Nat := 512 * 2 ^ n
def xk_s : Nat → Nat
  | 0 => 0
  | n + 1 => xk_s n + xk_l (n + 1)
theorem xk_s_s (n : Nat) : xk_s (n + 1) = xk_s n + xk_l (n + 1) := rfl
theorem xk_mono {a b : Nat} (h : a ≤ b) : xk_s a ≤ xk_s b := by
  induction h with
  | refl => exact Nat.le_refl _
  | step _ ih => exact Nat.le_trans ih (Nat.le_add_right _ _)
theorem xk_ne (n : Nat) : 15 ≠ xk_c n := by
  cases n with
  | zero => decide
  | succ n => show 15 ≠ 58 + n; omega
def sh_b (n : Nat) : List xm_T := [xt_o 0 [some (some 1), some (some 7), some (some 10), some (some 20), some (some 26), some (some 30)], xt_o 1 [some (some 2), some (some 3), some (some 4), some (some 5), some (some 6), none], xt_r 0 28, xt_r 0 28, xt_r 0 28, xt_r 0 28, xt_r 0 28, xt_o 2 [some (some 1), some (some 8), some (some 9), none, none], xt_r 0 16, xt_r 0 28, xt_o 3 [some (some 1), some (some 11), some (some 12), some (some (xk_c n)), none, some (some 14), some (some 16), some (some 18)], xt_r 0 448, xt_r 0 448, xt_r 1 512, xt_o 4 [some (some 15), none, none], xt_r 1 60, xt_o 4 [some (some 17), none, none], xt_r 1 60, xt_o 4 [some (some 19), none, none], xt_r 1 60, xt_o 5 [some (some 1), some (some 10), some (some 21), none, some (some 22), some (some 23), none, some (some 24), some (some 25)], xt_r 0 28, xt_r 0 16, xt_r 0 16, xt_r 0 256, xt_r 0 256, xt_o 6 [some (some 20), some (some 27), none, some (some 28), some (some 29), none], xt_r 1 100, xt_r 0 1600, xt_r 2 100, xt_o 7 [some (some 26), none, none, none, none, some (some 31), some (some 32), some (some 33), some (some 34)], xt_r 0 100, xt_r 0 100, xt_r 0 400, xt_r 0 400, xt_o 8 [none, some (some 36), some (some 37), some (some 38), some (some 39), some (some 40), some (some 41), some (some 42), some (some 43), none, some (some 44), none, some (some 45), some (some 46), some (some 47), some (some 48), some (some 49), none, none, some (some 50), some (some 51), some (some 52), none, none, none, none, none, some (some 53), some (some 54), some (some 55), some (some 56), some (some 57)], xt_r 0 28, xt_r 0 28, xt_r 0 28, xt_r 0 28, xt_r 0 60, xt_r 1 1680, xt_r 0 28, xt_r 1 61, xt_r 1 61, xt_r 0 17, xt_r 0 17, xt_r 0 272, xt_r 0 272, xt_r 0 28, xt_r 1 101, xt_r 0 1600, xt_r 2 100, xt_r 0 100, xt_r 0 100, xt_r 0 400, xt_r 0 400, xt_r 0 28]
def sh_t (n : Nat) : List xm_T := (List.range n).map fun i => xt_r 1 (xk_l (i + 1))
def sh (n : Nat) : List xm_T := sh_b n ++ sh_t n
theorem sh_0 (n : Nat) : (sh n)[0]? = some (xt_o 0 [some (some 1), some (some 7), some (some 10), some (some 20), some (some 26), some (some 30)]) := rfl
theorem sh_1 (n : Nat) : (sh n)[1]? = some (xt_o 1 [some (some 2), some (some 3), some (some 4), some (some 5), some (some 6), none]) := rfl
theorem sh_2 (n : Nat) : (sh n)[2]? = some (xt_r 0 28) := rfl
theorem sh_3 (n : Nat) : (sh n)[3]? = some (xt_r 0 28) := rfl
theorem sh_4 (n : Nat) : (sh n)[4]? = some (xt_r 0 28) := rfl
theorem sh_5 (n : Nat) : (sh n)[5]? = some (xt_r 0 28) := rfl
theorem sh_6 (n : Nat) : (sh n)[6]? = some (xt_r 0 28) := rfl
theorem sh_7 (n : Nat) : (sh n)[7]? = some (xt_o 2 [some (some 1), some (some 8), some (some 9), none, none]) := rfl
theorem sh_8 (n : Nat) : (sh n)[8]? = some (xt_r 0 16) := rfl
theorem sh_9 (n : Nat) : (sh n)[9]? = some (xt_r 0 28) := rfl
theorem sh_10 (n : Nat) : (sh n)[10]? = some (xt_o 3 [some (some 1), some (some 11), some (some 12), some (some (xk_c n)), none, some (some 14), some (some 16), some (some 18)]) := rfl
theorem sh_11 (n : Nat) : (sh n)[11]? = some (xt_r 0 448) := rfl
theorem sh_12 (n : Nat) : (sh n)[12]? = some (xt_r 0 448) := rfl
theorem sh_13 (n : Nat) : (sh n)[13]? = some (xt_r 1 512) := rfl
theorem sh_14 (n : Nat) : (sh n)[14]? = some (xt_o 4 [some (some 15), none, none]) := rfl
theorem sh_15 (n : Nat) : (sh n)[15]? = some (xt_r 1 60) := rfl
theorem sh_16 (n : Nat) : (sh n)[16]? = some (xt_o 4 [some (some 17), none, none]) := rfl
theorem sh_17 (n : Nat) : (sh n)[17]? = some (xt_r 1 60) := rfl
theorem sh_18 (n : Nat) : (sh n)[18]? = some (xt_o 4 [some (some 19), none, none]) := rfl
theorem sh_19 (n : Nat) : (sh n)[19]? = some (xt_r 1 60) := rfl
theorem sh_20 (n : Nat) : (sh n)[20]? = some (xt_o 5 [some (some 1), some (some 10), some (some 21), none, some (some 22), some (some 23), none, some (some 24), some (some 25)]) := rfl
theorem sh_21 (n : Nat) : (sh n)[21]? = some (xt_r 0 28) := rfl
theorem sh_22 (n : Nat) : (sh n)[22]? = some (xt_r 0 16) := rfl
theorem sh_23 (n : Nat) : (sh n)[23]? = some (xt_r 0 16) := rfl
theorem sh_24 (n : Nat) : (sh n)[24]? = some (xt_r 0 256) := rfl
theorem sh_25 (n : Nat) : (sh n)[25]? = some (xt_r 0 256) := rfl
theorem sh_26 (n : Nat) : (sh n)[26]? = some (xt_o 6 [some (some 20), some (some 27), none, some (some 28), some (some 29), none]) := rfl
theorem sh_27 (n : Nat) : (sh n)[27]? = some (xt_r 1 100) := rfl
theorem sh_28 (n : Nat) : (sh n)[28]? = some (xt_r 0 1600) := rfl
theorem sh_29 (n : Nat) : (sh n)[29]? = some (xt_r 2 100) := rfl
theorem sh_30 (n : Nat) : (sh n)[30]? = some (xt_o 7 [some (some 26), none, none, none, none, some (some 31), some (some 32), some (some 33), some (some 34)]) := rfl
theorem sh_31 (n : Nat) : (sh n)[31]? = some (xt_r 0 100) := rfl
theorem sh_32 (n : Nat) : (sh n)[32]? = some (xt_r 0 100) := rfl
theorem sh_33 (n : Nat) : (sh n)[33]? = some (xt_r 0 400) := rfl
theorem sh_34 (n : Nat) : (sh n)[34]? = some (xt_r 0 400) := rfl
theorem sh_35 (n : Nat) : (sh n)[35]? = some (xt_o 8 [none, some (some 36), some (some 37), some (some 38), some (some 39), some (some 40), some (some 41), some (some 42), some (some 43), none, some (some 44), none, some (some 45), some (some 46), some (some 47), some (some 48), some (some 49), none, none, some (some 50), some (some 51), some (some 52), none, none, none, none, none, some (some 53), some (some 54), some (some 55), some (some 56), some (some 57)]) := rfl
theorem sh_36 (n : Nat) : (sh n)[36]? = some (xt_r 0 28) := rfl
theorem sh_37 (n : Nat) : (sh n)[37]? = some (xt_r 0 28) := rfl
theorem sh_38 (n : Nat) : (sh n)[38]? = some (xt_r 0 28) := rfl
theorem sh_39 (n : Nat) : (sh n)[39]? = some (xt_r 0 28) := rfl
theorem sh_40 (n : Nat) : (sh n)[40]? = some (xt_r 0 60) := rfl
theorem sh_41 (n : Nat) : (sh n)[41]? = some (xt_r 1 1680) := rfl
theorem sh_42 (n : Nat) : (sh n)[42]? = some (xt_r 0 28) := rfl
theorem sh_43 (n : Nat) : (sh n)[43]? = some (xt_r 1 61) := rfl
theorem sh_44 (n : Nat) : (sh n)[44]? = some (xt_r 1 61) := rfl
theorem sh_45 (n : Nat) : (sh n)[45]? = some (xt_r 0 17) := rfl
theorem sh_46 (n : Nat) : (sh n)[46]? = some (xt_r 0 17) := rfl
theorem sh_47 (n : Nat) : (sh n)[47]? = some (xt_r 0 272) := rfl
theorem sh_48 (n : Nat) : (sh n)[48]? = some (xt_r 0 272) := rfl
theorem sh_49 (n : Nat) : (sh n)[49]? = some (xt_r 0 28) := rfl
theorem sh_50 (n : Nat) : (sh n)[50]? = some (xt_r 1 101) := rfl
theorem sh_51 (n : Nat) : (sh n)[51]? = some (xt_r 0 1600) := rfl
theorem sh_52 (n : Nat) : (sh n)[52]? = some (xt_r 2 100) := rfl
theorem sh_53 (n : Nat) : (sh n)[53]? = some (xt_r 0 100) := rfl
theorem sh_54 (n : Nat) : (sh n)[54]? = some (xt_r 0 100) := rfl
theorem sh_55 (n : Nat) : (sh n)[55]? = some (xt_r 0 400) := rfl
theorem sh_56 (n : Nat) : (sh n)[56]? = some (xt_r 0 400) := rfl
theorem sh_57 (n : Nat) : (sh n)[57]? = some (xt_r 0 28) := rfl
theorem sh_len (n : Nat) : (sh n).length = 58 + n := by
  show (sh_b n ++ sh_t n).length = 58 + n
  rw [List.length_append]
  show 58 + ((List.range n).map _).length = 58 + n
  rw [List.length_map, List.length_range]
theorem sh_k (n : Nat) : (sh n)[xk_c n]? = some (xt_r 1 (xk_l n)) := by
  cases n with
  | zero => rfl
  | succ n =>
    show (sh_b (n + 1) ++ sh_t (n + 1))[58 + n]? = _
    have e : (sh_b (n + 1)).length = 58 := rfl
    rw [List.getElem?_append_right (by rw [e]; omega), e, Nat.add_sub_cancel_left]
    show ((List.range (n + 1)).map _)[n]? = _
    rw [List.getElem?_map, List.getElem?_range (Nat.lt_succ_self n)]
    rfl
def xw_ok (w : Nat) : Prop := w = 14 ∨ w = 16 ∨ w = 18
theorem xw_F : xw_ok 14 := Or.inl rfl
theorem xw_A : xw_ok 16 := Or.inr (Or.inl rfl)
theorem xw_B : xw_ok 18 := Or.inr (Or.inr rfl)
theorem sh_w (n : Nat) {w : Nat} (h : xw_ok w) : (sh n)[w]? = some (xt_o 4 [some (some (w + 1)), none, none]) := by
  rcases h with rfl | rfl | rfl <;> rfl
theorem sh_wr (n : Nat) {w : Nat} (h : xw_ok w) : (sh n)[w + 1]? = some (xt_r 1 60) := by
  rcases h with rfl | rfl | rfl <;> rfl
theorem sh_g10 (n : Nat) : (sh n ++ [xt_r 1 (xk_l (n + 1))])[10]? = some (xt_o 3 [some (some 1), some (some 11), some (some 12), some (some (xk_c n)), none, some (some 14), some (some 16), some (some 18)]) := rfl
theorem sh_grow (n : Nat) : (sh n ++ [xt_r 1 (xk_l (n + 1))]).set 10 (xt_o 3 (List.set [some (some 1), some (some 11), some (some 12), some (some (xk_c n)), none, some (some 14), some (some 16), some (some 18)] 3 (some (some (58 + n))))) = sh (n + 1) := by
  show ((sh_b n ++ sh_t n) ++ [xt_r 1 (xk_l (n + 1))]).set 10 _ = sh_b (n + 1) ++ sh_t (n + 1)
  have e : sh_t (n + 1) = sh_t n ++ [xt_r 1 (xk_l (n + 1))] := by
    unfold sh_t
    rw [List.range_succ, List.map_append]
    rfl
  rw [e, List.append_assoc]
  rfl
-- what the functions are made of
def xo_k (i : Int32) (n : Nat) : Bool := !(decide (i < 0) || Nat.ble n i.toNatClampNeg)
theorem xo_k_e {i : Int32} {n : Nat} : xo_k i n = true ↔ vp_in i n := by
  unfold xo_k vp_in
  rw [Bool.not_eq_true', Bool.or_eq_false_iff, decide_eq_false_iff_not]
  constructor
  · rintro ⟨h1, h2⟩ (h | h)
    · exact h1 h
    · rw [Nat.ble_eq_true_of_le h] at h2; cases h2
  · intro h
    refine ⟨fun q => h (Or.inl q), ?_⟩
    cases hb : Nat.ble n i.toNatClampNeg with
    | false => rfl
    | true => exact absurd (Or.inr (Nat.le_of_ble_eq_true hb)) h
def xg_n {β : Type} (i : Int32) (n : Nat) (o : Option β) : Option β := bif xo_k i n then o else none
theorem xg_e {β : Type} {i : Int32} {n : Nat} {o : Option β} {r : β} (h : xg_n i n o = some r) : vp_in i n ∧ o = some r := by
  unfold xg_n at h
  cases hb : xo_k i n with
  | false => rw [hb] at h; cases h
  | true => rw [hb] at h; exact ⟨xo_k_e.mp hb, h⟩
theorem xg_t {β : Type} {i : Int32} {n : Nat} {o : Option β} (h : vp_in i n) : xg_n i n o = o := by
  unfold xg_n; rw [xo_k_e.mpr h]; rfl
def xg_b {β : Type} (x : Int32) (o : Option β) : Option β := if x = 0 ∨ x = 1 then o else none
theorem xg_b_e {β : Type} {x : Int32} {o : Option β} {r : β} (h : xg_b x o = some r) : (x = 0 ∨ x = 1) ∧ o = some r := by
  unfold xg_b at h
  by_cases hb : x = 0 ∨ x = 1
  · rw [if_pos hb] at h; exact ⟨hb, h⟩
  · rw [if_neg hb] at h; cases h
theorem xg_b_t {β : Type} {x : Int32} {o : Option β} (h : x = 0 ∨ x = 1) : xg_b x o = o := if_pos h
def xg_c {β : Type} (sp dp n : Int32) (n0 nd : Nat) (o : Option β) : Option β := if ¬ sp < 0 ∧ ¬ dp < 0 ∧ ¬ n < 0 ∧ sp.toNatClampNeg + n.toNatClampNeg ≤ n0 ∧ dp.toNatClampNeg + n.toNatClampNeg ≤ nd then o else none
theorem xg_c_e {β : Type} {sp dp n : Int32} {n0 nd : Nat} {o : Option β} {r : β} (h : xg_c sp dp n n0 nd o = some r) : (¬ sp < 0 ∧ ¬ dp < 0 ∧ ¬ n < 0 ∧ sp.toNatClampNeg + n.toNatClampNeg ≤ n0 ∧ dp.toNatClampNeg + n.toNatClampNeg ≤ nd) ∧ o = some r := by
  unfold xg_c at h
  by_cases hb : ¬ sp < 0 ∧ ¬ dp < 0 ∧ ¬ n < 0 ∧ sp.toNatClampNeg + n.toNatClampNeg ≤ n0 ∧ dp.toNatClampNeg + n.toNatClampNeg ≤ nd
  · rw [if_pos hb] at h; exact ⟨hb, h⟩
  · rw [if_neg hb] at h; cases h
def xg_y {β : Type} (x : Int32) (n : Nat) (o : Option β) : Option β := if x = nI (xk_l (n + 1)) ∧ n ≤ 10 then o else none
theorem xg_y_e {β : Type} {x : Int32} {n : Nat} {o : Option β} {r : β} (h : xg_y x n o = some r) : (x = nI (xk_l (n + 1)) ∧ n ≤ 10) ∧ o = some r := by
  unfold xg_y at h
  by_cases hb : x = nI (xk_l (n + 1)) ∧ n ≤ 10
  · rw [if_pos hb] at h; exact ⟨hb, h⟩
  · rw [if_neg hb] at h; cases h
def xw_k {β : Type} (w : Nat) (o : Option β) : Option β := if w = 14 ∨ w = 16 ∨ w = 18 then o else none
theorem xw_k_e {β : Type} {w : Nat} {o : Option β} {r : β} (h : xw_k w o = some r) : xw_ok w ∧ o = some r := by
  unfold xw_k at h
  by_cases hb : w = 14 ∨ w = 16 ∨ w = 18
  · rw [if_pos hb] at h; exact ⟨hb, h⟩
  · rw [if_neg hb] at h; cases h
def xc_m {α β : Type} (e : Option (α × xm_S)) (f : α → xm_S → Option β) : Option β := match e with
  | none => none
  | some q => f q.1 q.2
theorem xc_m_e {α β : Type} {e : Option (α × xm_S)} {f : α → xm_S → Option β} {r : β} (h : xc_m e f = some r) : ∃ a m, e = some (a, m) ∧ f a m = some r := by
  cases e with
  | none => cases h
  | some q => exact ⟨q.1, q.2, rfl, h⟩
def xc_v {β : Type} (e : Option xm_S) (f : xm_S → Option β) : Option β := match e with
  | none => none
  | some q => f q
theorem xc_v_e {β : Type} {e : Option xm_S} {f : xm_S → Option β} {r : β} (h : xc_v e f = some r) : ∃ m, e = some m ∧ f m = some r := by
  cases e with
  | none => cases h
  | some q => exact ⟨q, rfl, h⟩
def xc_a {α β : Type} (n : Nat) (e : Option (α × Nat × xm_S)) (f : α → Nat → xm_S → Option β) : Option β := match e with
  | none => none
  | some q => bif Nat.ble n q.2.1 then f q.1 q.2.1 q.2.2 else none
theorem xc_a_e {α β : Type} {n : Nat} {e : Option (α × Nat × xm_S)} {f : α → Nat → xm_S → Option β} {r : β} (h : xc_a n e f = some r) : ∃ a n1 m, e = some (a, n1, m) ∧ n ≤ n1 ∧ f a n1 m = some r := by
  cases e with
  | none => cases h
  | some q =>
    unfold xc_a at h
    dsimp only at h
    cases hb : Nat.ble n q.2.1 with
    | false => rw [hb] at h; cases h
    | true => rw [hb] at h; exact ⟨q.1, q.2.1, q.2.2, rfl, Nat.le_of_ble_eq_true hb, h⟩
def xc_av {β : Type} (n : Nat) (e : Option (Nat × xm_S)) (f : Nat → xm_S → Option β) : Option β := match e with
  | none => none
  | some q => bif Nat.ble n q.1 then f q.1 q.2 else none
theorem xc_av_e {β : Type} {n : Nat} {e : Option (Nat × xm_S)} {f : Nat → xm_S → Option β} {r : β} (h : xc_av n e f = some r) : ∃ n1 m, e = some (n1, m) ∧ n ≤ n1 ∧ f n1 m = some r := by
  cases e with
  | none => cases h
  | some q =>
    unfold xc_av at h
    dsimp only at h
    cases hb : Nat.ble n q.1 with
    | false => rw [hb] at h; cases h
    | true => rw [hb] at h; exact ⟨q.1, q.2, rfl, Nat.le_of_ble_eq_true hb, h⟩
def xj_j {α β : Type} (k : α) (b : α → β) : β := b k
theorem xj_e {α β : Type} {k : α} {b : α → β} {r : β} (h : xj_j k b = r) : ∃ j, j = k ∧ b j = r := ⟨k, rfl, h⟩
def xs_m {β : Type} (m : xm_S) (b : xm_S → β) : β := b m
theorem xs_e {β : Type} {k : xm_S} {b : xm_S → β} {r : β} (h : xs_m k b = r) : ∃ j, j = k ∧ b j = r := ⟨k, rfl, h⟩
def xw_g (m : xm_S) (n : Nat) : xm_S := (xz_2 m.1 (58 + n) 0, xc_y (xz_2 m.2 (58 + n) 0) (58 + n) (va_cpy (m.2 (xk_c n)) (fun _ => 0) 0 0 (xk_l n)))
theorem xl_n : xm_le [] [] := trivial
theorem xl_o {a b : xm_L} {w : Option xm_V} (h : xm_le a b) : xm_le (none :: a) (w :: b) := h
theorem xl_s {a b : xm_L} {v : xm_V} (h : xm_le a b) : xm_le (some v :: a) (some v :: b) := ⟨rfl, h⟩
theorem xi_1 (x : Int32) : x + Int32.ofInt 1 = x + 1 := rfl
theorem xi_m1 (x : Int32) : x + Int32.ofInt (-1) = x + (-1) := rfl
theorem xi_8 (x : Int32) : x + Int32.ofInt 8 = x + 8 := rfl
