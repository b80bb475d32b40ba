/-! Duals, the reference's side: the walk over a formula's parts. -/
-- what comes of a formula k on top at place q
def md_O (F : Nat) (f : Int32) (kk : xm_S → Option (Int32 × xm_S)) (k q s : Nat) (T : bo_T) (m m' : xm_S) : Prop :=
  bt_M (bt_D 28 T k).2 m' ∧ (∀ j, j ≠ 0 → m'.1 35 j = m.1 35 j) ∧
  ((∃ d, d < 28 ∧ (bt_D 28 T k).1 = some d ∧ (∀ fu, mm_dual_l40 F f kk (fu + s) (nI (q + 1)) m = mm_dual_l40 F f kk fu (nI q) m') ∧ md_I (bt_D 28 T k).2 m' ∧ m'.1 39 k = nI d ∧ (∀ i, i ≤ q → m'.1 40 i = m.1 40 i) ∧ (∀ j, k < j → m'.1 39 j = m.1 39 j) ∧ (∀ j, ¬ m.1 39 j = -1 → m'.1 39 j = m.1 39 j)) ∨
   ((bt_D 28 T k).1 = none ∧ ∀ fu, mm_dual_l40 F f kk (fu + s) (nI (q + 1)) m = some ((-2 : Int32), m')))
def md_A (F : Nat) (f : Int32) (kk : xm_S → Option (Int32 × xm_S)) (k q s : Nat) (T : bo_T) (m m' : xm_S) : Prop :=
  bt_M (bt_D 28 T k).2 m' ∧ (∀ j, j ≠ 0 → m'.1 35 j = m.1 35 j) ∧
  ((∃ d, d < 28 ∧ (bt_D 28 T k).1 = some d ∧ (∀ fu, mm_dual_l40 F f kk (fu + s) (nI (q + 1)) m = mm_dual_l40 F f kk fu (nI (q + 1)) m') ∧ md_I (bt_D 28 T k).2 m' ∧ m'.1 39 k = nI d ∧ (∀ i, i ≤ q → m'.1 40 i = m.1 40 i) ∧ (∀ j, k < j → m'.1 39 j = m.1 39 j) ∧ (∀ j, ¬ m.1 39 j = -1 → m'.1 39 j = m.1 39 j)) ∨
   ((bt_D 28 T k).1 = none ∧ ∀ fu, mm_dual_l40 F f kk (fu + s) (nI (q + 1)) m = some ((-2 : Int32), m')))
section MDFS
variable {F : Nat} {f : Int32} {kk : xm_S → Option (Int32 × xm_S)}
-- a part is seen to
theorem mm_stage {q c : Nat} {T : bo_T} {m : xm_S} (hc : c < T.1) (hW : bt_W T) (hM : bt_M T m) (hI : md_I T m)
    (hpush : m.1 39 c = -1 → ∀ fu, mm_dual_l40 F f kk (fu + 1) (nI (q + 1)) m = mm_dual_l40 F f kk fu (nI (q + 1 + 1)) (xw_i m 40 (q + 1) (nI c)))
    (ih : ∀ m0 : xm_S, bt_M T m0 → md_I T m0 → m0.1 40 (q + 1) = nI c → ∃ (s : Nat) (m' : xm_S), s + 4 ≤ 4 * 2 ^ (c + 1) ∧ md_O F f kk c (q + 1) s T m0 m') :
    ∃ (s : Nat) (m' : xm_S), s + 3 ≤ 4 * 2 ^ (c + 1) ∧ md_A F f kk c q s T m m' := by
  have h28 := hW.1
  have hp : 0 < 2 ^ (c + 1) := Nat.two_pow_pos _
  rcases hI c (by omega) with hm | ⟨-, d, hd, hmd, hDd⟩
  · obtain ⟨s, m', hs, o1, o2, o3⟩ := ih (xw_i m 40 (q + 1) (nI c)) (by
      unfold bt_M bo_M at hM ⊢
      rw [xi_k (show (35 : Nat) ≠ 40 by decide), xi_k (show (36 : Nat) ≠ 40 by decide), xi_k (show (37 : Nat) ≠ 40 by decide), xi_k (show (38 : Nat) ≠ 40 by decide)]
      exact hM) (by
      unfold md_I at hI ⊢
      rw [xi_k (show (39 : Nat) ≠ 40 by decide)]
      exact hI) xi_s
    have e35 : (xw_i m 40 (q + 1) (nI c)).1 35 = m.1 35 := xi_k (by decide)
    have e39 : (xw_i m 40 (q + 1) (nI c)).1 39 = m.1 39 := xi_k (by decide)
    refine ⟨s + 1, m', by omega, o1, fun j hj => by rw [o2 j hj, e35], ?_⟩
    rcases o3 with ⟨d, g1, g2, g3, g4, g5, g6, g7, g8⟩ | ⟨g1, g2⟩
    · refine Or.inl ⟨d, g1, g2, fun fu => ?_, g4, g5, fun i hi => ?_, fun j hj => by rw [g7 j hj, e39], fun j hj => by rw [g8 j (by rw [e39]; exact hj), e39]⟩
      · rw [← Nat.add_assoc, hpush hm (fu + s)]
        exact g3 fu
      · rw [g6 i (by omega), xi_j (by omega)]
    · refine Or.inr ⟨g1, fun fu => ?_⟩
      rw [← Nat.add_assoc, hpush hm (fu + s)]
      exact g2 fu
  · refine ⟨0, m, by omega, ?_⟩
    unfold md_A
    rw [hDd]
    exact ⟨hM, fun _ _ => rfl, Or.inl ⟨d, hd, rfl, fun fu => rfl, hI, hmd, fun _ _ => rfl, fun _ _ => rfl, fun _ _ => rfl⟩⟩
-- a part that stands is one that is kept or wanting
theorem md_or {T : bo_T} {m : xm_S} (hI : md_I T m) {j : Nat} (hj : j < 28) : m.1 39 j = -1 ∨ ∃ a, a < 28 ∧ m.1 39 j = nI a := by
  rcases hI j hj with h | ⟨-, d, h1, h2, -⟩
  · exact Or.inl h
  · exact Or.inr ⟨d, h1, h2⟩
-- the last two steps: it is made, and taken away
theorem mm_last {q k a b : Nat} {T T2 : bo_T} {m : xm_S} (hF : 28 < F) (hq : q < 58) (hW : bt_W T) (hk : k < T.1) (hW2 : bt_W T2) (hX : bt_X T T2) (hM : bt_M T2 m) (hI : md_I T2 m) (ht : m.1 40 q = nI k) (hm : m.1 39 k = -1) (ha : a < 28) (hb : b < 28)
    (hA : 4 ≤ T.2.1 k → m.1 39 (T.2.2.1 k) = nI a) (hA2 : ¬ 4 ≤ T.2.1 k → a = T.2.2.1 k) (hB : bo_two (T.2.1 k) → m.1 39 (T.2.2.2 k) = nI b) (hB2 : ¬ bo_two (T.2.1 k) → b = 0) (hG : bt_G T2 (bt_k (T.2.1 k)) a b) (hD : bt_D 28 T k = bt_mk T2 (bt_k (T.2.1 k)) a b) :
    ∃ m' : xm_S, md_O F f kk k q 2 T m m' := by
  have h28 := hW.1
  have hk2 : k < T2.1 := Nat.lt_of_lt_of_le hk hX.1
  obtain ⟨x1, x2, x3⟩ := hX.2 k hk
  obtain ⟨w1, w2, w3, w4, w5, w6, -⟩ := hW.2 k hk
  obtain ⟨m1, e1, e2, e3⟩ := mm_mk hW2 hM hG hF
  obtain ⟨v1, v2⟩ := bt_mk_W hW2 hG
  have g := mm_make_fr e1
  have st : ∀ fu, mm_dual_l40 F f kk (fu + 1) (nI (q + 1)) m = xc_m (mm_make F (nI (bt_k (T.2.1 k))) (nI a) (nI b) m) fun v m1 => if 0 ≤ v then mm_dual_l40 F f kk fu (nI (q + 1)) (xw_i m1 39 k v) else some ((-2 : Int32), m1) := by
    intro fu
    have := mm_made (F := F) (f := f) (kk := kk) (T := T2) (m := m) hq hk2 hW2 hM ht hm ha hb (by rw [x1, x2]; exact hA) (by rw [x1, x2]; exact hA2) (by rw [x1, x3]; exact hB) (by rw [x1]; exact hB2) fu
    rw [x1] at this
    exact this
  have hI1 : md_I (bt_mk T2 (bt_k (T.2.1 k)) a b).2 m1 := md_I_X hW2 v1 v2 (fun j => by rw [(g 39 rfl).1]) hI
  cases hr : (bt_mk T2 (bt_k (T.2.1 k)) a b).1 with
  | none =>
    refine ⟨m1, ?_⟩
    unfold md_O
    rw [hD]
    refine ⟨e2, e3, Or.inr ⟨hr, fun fu => ?_⟩⟩
    rw [show fu + 2 = fu + 1 + 1 from rfl, st (fu + 1), e1, hr]
    show (if (0 : Int32) ≤ (-2 : Int32) then mm_dual_l40 F f kk (fu + 1) (nI (q + 1)) (xw_i m1 39 k (-2)) else some ((-2 : Int32), m1)) = some ((-2 : Int32), m1)
    rw [if_neg (show ¬ (0 : Int32) ≤ -2 by decide)]
  | some d =>
    have hdT := (bt_mk_at hr).1
    have hd : d < 28 := by have := v1.1; omega
    have hDd : bt_D 28 (bt_mk T2 (bt_k (T.2.1 k)) a b).2 k = (some d, (bt_mk T2 (bt_k (T.2.1 k)) a b).2) := bt_D_st 28 T k d hW hk (by omega) (by rw [hD]; exact hr) _ v1 (by rw [hD]; exact bt_X_r) 28 (by omega)
    have hI2 : md_I (bt_mk T2 (bt_k (T.2.1 k)) a b).2 (xw_i m1 39 k (nI d)) := by
      intro j hj
      by_cases e : j = k
      · subst e
        rw [xi_s]
        exact Or.inr ⟨Nat.lt_of_lt_of_le hk2 v2.1, d, hd, rfl, hDd⟩
      · rw [xi_j e]
        exact hI1 j hj
    have hM2 : bt_M (bt_mk T2 (bt_k (T.2.1 k)) a b).2 (xw_i m1 39 k (nI d)) := by
      unfold bt_M bo_M at e2 ⊢
      rw [xi_k (show (35 : Nat) ≠ 39 by decide), xi_k (show (36 : Nat) ≠ 39 by decide), xi_k (show (37 : Nat) ≠ 39 by decide), xi_k (show (38 : Nat) ≠ 39 by decide)]
      exact e2
    have ek3 : k < (bt_mk T2 (bt_k (T.2.1 k)) a b).2.1 := Nat.lt_of_lt_of_le hk2 v2.1
    have hs3 := (bo_W.S v1).2 k ek3
    refine ⟨xw_i m1 39 k (nI d), ?_⟩
    unfold md_O
    rw [hD]
    refine ⟨hM2, fun j hj => by rw [xi_k (show (35 : Nat) ≠ 39 by decide)]; exact e3 j hj, Or.inl ⟨d, hd, hr, fun fu => ?_, hI2, xi_s, fun i hi => ?_, fun j hj => ?_, fun j hj => ?_⟩⟩
    · rw [show fu + 2 = fu + 1 + 1 from rfl, st (fu + 1), e1, hr]
      show (if (0 : Int32) ≤ nI d then mm_dual_l40 F f kk (fu + 1) (nI (q + 1)) (xw_i m1 39 k (nI d)) else _) = _
      rw [if_pos (nI_pos' (by omega))]
      exact mm_pop (by omega) ek3 v1 hM2 (by rw [xi_k (show (40 : Nat) ≠ 39 by decide), (g 40 rfl).1]; exact ht) hd xi_s (fun _ => md_or hI2 (by omega)) (fun _ => md_or hI2 (by omega)) fu
    · rw [xi_k (show (40 : Nat) ≠ 39 by decide), (g 40 rfl).1]
    · rw [xi_j (by omega), (g 39 rfl).1]
    · have hjk : j ≠ k := fun e => hj (by rw [e]; exact hm)
      rw [xi_j hjk, (g 39 rfl).1]
theorem mm_dfs (hF : 28 < F) : ∀ (n k q : Nat) (m : xm_S) (T : bo_T), k < n → k < T.1 → q + k ≤ 40 → bt_W T → bt_M T m → md_I T m → m.1 40 q = nI k → ∃ (s : Nat) (m' : xm_S), s + 4 ≤ 4 * 2 ^ (k + 1) ∧ md_O F f kk k q s T m m' := by
  intro n
  induction n with
  | zero => intro k q m T h; omega
  | succ n ih =>
    intro k q m T hn hk hq hW hM hI ht
    have h28 := hW.1
    obtain ⟨w1, w2, w3, w4, w5, w6, -⟩ := hW.2 k hk
    obtain ⟨s1, s2, s3⟩ := (bo_W.S hW).2 k hk
    have hp2 : 2 * 2 ^ k = 2 ^ (k + 1) := by rw [Nat.pow_succ]; omega
    have hpk : 0 < 2 ^ k := Nat.two_pow_pos _
    rcases hI k (by omega) with hm | ⟨-, d, hd, hmd, hDd⟩
    · have hDu := bt_D_u hW hk
      by_cases q4 : 4 ≤ T.2.1 k
      · rw [if_pos q4] at hDu
        have hA : T.2.2.1 k < k := w4 q4
        have hpa : 2 ^ (T.2.2.1 k + 1) ≤ 2 ^ k := Nat.pow_le_pow_right (by decide) (by omega)
        obtain ⟨sa, ma, ea, a1, a2, a3⟩ := mm_stage (F := F) (f := f) (kk := kk) (q := q) (c := T.2.2.1 k) (T := T) (m := m) (by omega) hW hM hI (fun h fu => mm_pushA (by omega) hk hW hM ht hm q4 h (fun _ => md_or hI (by omega)) fu) (fun m0 h1 h2 h3 => ih (T.2.2.1 k) (q + 1) m0 T (by omega) (by omega) (by omega) hW h1 h2 h3)
        obtain ⟨d1, d2, d3⟩ := bt_D_28 hW (show T.2.2.1 k < T.1 by omega)
        rcases a3 with ⟨a, ha28, hra, a4, a5, a6, a7, a8, a9⟩ | ⟨hra, a4⟩
        · rw [hra] at hDu
          dsimp only at hDu
          have uA := (bt_D_W 28 T (T.2.2.1 k) hW (by omega) (by omega)).2.2 a hra
          have hma : ma.1 39 k = -1 := by rw [a8 k hA]; exact hm
          have hta : ma.1 40 q = nI k := by rw [a7 q (Nat.le_refl _)]; exact ht
          obtain ⟨x1, x2, x3⟩ := d2.2 k hk
          by_cases q2 : T.2.1 k = 4 ∨ T.2.1 k = 5 ∨ T.2.1 k = 7 ∨ T.2.1 k = 8
          · rw [if_pos q2] at hDu
            have hB : T.2.2.2 k < k := w5 q2
            have hpb : 2 ^ (T.2.2.2 k + 1) ≤ 2 ^ k := Nat.pow_le_pow_right (by decide) (by omega)
            have hBT : T.2.2.2 k < (bt_D 28 T (T.2.2.1 k)).2.1 := Nat.lt_of_lt_of_le (by omega) d2.1
            obtain ⟨sb, mb, eb, b1, b2, b3⟩ := mm_stage (F := F) (f := f) (kk := kk) (q := q) (c := T.2.2.2 k) (T := (bt_D 28 T (T.2.2.1 k)).2) (m := ma) hBT d1 a1 a5 (fun h fu => by
                have := mm_pushB (F := F) (f := f) (kk := kk) (a := a) (q := q) (k := k) (T := (bt_D 28 T (T.2.2.1 k)).2) (m := ma) (by omega) (Nat.lt_of_lt_of_le hk d2.1) d1 a1 hta hma (by rw [x1]; exact q2) ha28 (by rw [x2]; exact a6) (by rw [x3]; exact h) fu
                rw [x3] at this
                exact this) (fun m0 h1 h2 h3 => ih (T.2.2.2 k) (q + 1) m0 _ (by omega) hBT (by omega) d1 h1 h2 h3)
            obtain ⟨f1, f2, f3⟩ := bt_D_28 d1 hBT
            rcases b3 with ⟨b, hb28, hrb, b4, b5, b6, b7, b8, b9⟩ | ⟨hrb, b4⟩
            · rw [hrb] at hDu
              dsimp only at hDu
              have uB := (bt_D_W 28 (bt_D 28 T (T.2.2.1 k)).2 (T.2.2.2 k) d1 hBT (by omega)).2.2 b hrb
              have hG : bt_G (bt_D 28 (bt_D 28 T (T.2.2.1 k)).2 (T.2.2.2 k)).2 (bt_k (T.2.1 k)) a b := bt_Gk w1 (fun q => by omega) (fun q => by omega) (fun _ => Nat.lt_of_lt_of_le uA f2.1) (fun _ => uB) (fun q => absurd q2 q)
              -- the first part's dual still stands in the later memory
              have hkeep : mb.1 39 (T.2.2.1 k) = nI a := by rw [b9 _ (by rw [a6]; exact nI_m1 ha28)]; exact a6
              obtain ⟨m', o1, o2, o3⟩ := mm_last (F := F) (f := f) (kk := kk) (q := q) (k := k) (a := a) (b := b) (T := T) (T2 := (bt_D 28 (bt_D 28 T (T.2.2.1 k)).2 (T.2.2.2 k)).2) (m := mb) hF (by omega) hW hk f1 (bt_X_t d2 f2) b1 b5 (by rw [b7 q (Nat.le_refl _)]; exact hta) (by rw [b8 k hB]; exact hma) ha28 hb28 (fun _ => hkeep) (fun z => absurd q4 z) (fun _ => b6) (fun z => absurd q2 z) hG hDu
              refine ⟨2 + sb + sa, m', by omega, o1, fun j hj => by rw [o2 j hj, b2 j hj, a2 j hj], ?_⟩
              have run : ∀ fu, mm_dual_l40 F f kk (fu + (2 + sb + sa)) (nI (q + 1)) m = mm_dual_l40 F f kk (fu + 2) (nI (q + 1)) mb := fun fu => by
                rw [show fu + (2 + sb + sa) = fu + 2 + sb + sa by omega, a4, b4]
              rcases o3 with ⟨d, g1, g2, g3, g4, g5, g6, g7, g8⟩ | ⟨g1, g2⟩
              · exact Or.inl ⟨d, g1, g2, fun fu => by rw [run fu]; exact g3 fu, g4, g5, fun i hi => by rw [g6 i hi, b7 i hi, a7 i hi], fun j hj => by rw [g7 j hj, b8 j (by omega), a8 j (by omega)], fun j hj => by
                  have h1 := a9 j hj
                  have h2 := b9 j (by rw [h1]; exact hj)
                  rw [g8 j (by rw [h2, h1]; exact hj), h2, h1]⟩
              · exact Or.inr ⟨g1, fun fu => by rw [run fu]; exact g2 fu⟩
            · rw [hrb] at hDu
              dsimp only at hDu
              refine ⟨sb + sa, mb, by omega, ?_⟩
              unfold md_O
              rw [hDu]
              exact ⟨b1, fun j hj => by rw [b2 j hj, a2 j hj], Or.inr ⟨rfl, fun fu => by rw [← Nat.add_assoc, a4]; exact b4 fu⟩⟩
          · rw [if_neg q2] at hDu
            have hG : bt_G (bt_D 28 T (T.2.2.1 k)).2 (bt_k (T.2.1 k)) a 0 := bt_Gk w1 (fun q => by omega) (fun q => by omega) (fun _ => uA) (fun q => absurd q q2) (fun _ => rfl)
            obtain ⟨m', o1, o2, o3⟩ := mm_last (F := F) (f := f) (kk := kk) (q := q) (k := k) (a := a) (b := 0) (T := T) (T2 := (bt_D 28 T (T.2.2.1 k)).2) (m := ma) hF (by omega) hW hk d1 d2 a1 a5 hta hma ha28 (by decide) (fun _ => a6) (fun z => absurd q4 z) (fun z => absurd z q2) (fun _ => rfl) hG hDu
            refine ⟨2 + sa, m', by omega, o1, fun j hj => by rw [o2 j hj, a2 j hj], ?_⟩
            have run : ∀ fu, mm_dual_l40 F f kk (fu + (2 + sa)) (nI (q + 1)) m = mm_dual_l40 F f kk (fu + 2) (nI (q + 1)) ma := fun fu => by
              rw [show fu + (2 + sa) = fu + 2 + sa by omega, a4]
            rcases o3 with ⟨d, g1, g2, g3, g4, g5, g6, g7, g8⟩ | ⟨g1, g2⟩
            · exact Or.inl ⟨d, g1, g2, fun fu => by rw [run fu]; exact g3 fu, g4, g5, fun i hi => by rw [g6 i hi, a7 i hi], fun j hj => by rw [g7 j hj, a8 j (by omega)], fun j hj => by
                have h1 := a9 j hj
                rw [g8 j (by rw [h1]; exact hj), h1]⟩
            · exact Or.inr ⟨g1, fun fu => by rw [run fu]; exact g2 fu⟩
        · rw [hra] at hDu
          dsimp only at hDu
          refine ⟨sa, ma, by omega, ?_⟩
          unfold md_O
          rw [hDu]
          exact ⟨a1, a2, Or.inr ⟨rfl, a4⟩⟩
      · rw [if_neg q4] at hDu
        have q2 : ¬ bo_two (T.2.1 k) := by unfold bo_two; omega
        have hG : bt_G T (bt_k (T.2.1 k)) (T.2.2.1 k) 0 := bt_Gk w1 w2 w3 (fun q => absurd q q4) (fun q => absurd q q2) (fun _ => rfl)
        obtain ⟨m', o⟩ := mm_last (F := F) (f := f) (kk := kk) (q := q) (k := k) (a := T.2.2.1 k) (b := 0) (T := T) (T2 := T) (m := m) hF (by omega) hW hk hW bt_X_r hM hI ht hm s2 (by decide) (fun z => absurd z q4) (fun _ => rfl) (fun z => absurd z q2) (fun _ => rfl) hG hDu
        exact ⟨2, m', by omega, o⟩
    · refine ⟨1, m, by omega, ?_⟩
      unfold md_O
      rw [hDd]
      exact ⟨hM, fun _ _ => rfl, Or.inl ⟨d, hd, rfl, fun fu => mm_pop (by omega) hk hW hM ht hd hmd (fun _ => md_or hI (by omega)) (fun _ => md_or hI (by omega)) fu, hI, hmd, fun _ _ => rfl, fun _ _ => rfl, fun _ _ => rfl⟩⟩
end MDFS
