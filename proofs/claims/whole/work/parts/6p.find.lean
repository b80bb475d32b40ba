/-! The ways of a formula by a letter, as a set; the class finds them. -/
def bl_n (a : Nat) : Int64 := (1 : Int64) <<< ((nI a).toInt64 &&& 63)
def wp_s (T : bo_T) (l : Nat) (R : Nat → Int64 → Prop) (k : Nat) (x : Int64) : Prop :=
  if T.2.1 k = 0 then x = 0
  else if T.2.1 k = 1 then False
  else if T.2.1 k = 2 then l / 2 ^ T.2.2.1 k % 2 = 1 ∧ x = 0
  else if T.2.1 k = 3 then l / 2 ^ T.2.2.1 k % 2 = 0 ∧ x = 0
  else if T.2.1 k = 4 then ∃ u v, R (T.2.2.1 k) u ∧ R (T.2.2.2 k) v ∧ x = v ||| u
  else if T.2.1 k = 5 then R (T.2.2.1 k) x ∨ R (T.2.2.2 k) x
  else if T.2.1 k = 6 then x = bl_n (T.2.2.1 k)
  else if T.2.1 k = 7 then R (T.2.2.2 k) x ∨ ∃ u, R (T.2.2.1 k) u ∧ x = u ||| (bl_n k ||| bl_n (28 + k))
  else (∃ u v, R (T.2.2.2 k) u ∧ R (T.2.2.1 k) v ∧ x = v ||| u) ∨ ∃ u, R (T.2.2.2 k) u ∧ x = u ||| bl_n k
def wp_R (T : bo_T) (l : Nat) : Nat → Nat → Int64 → Prop
  | 0 => fun _ _ => False
  | k + 1 => fun j => if j = k then wp_s T l (wp_R T l k) k else wp_R T l k j
def wp_f (T : bo_T) (l k : Nat) : Int64 → Prop := wp_R T l (k + 1) k
theorem wp_R_lt {T : bo_T} {l : Nat} : ∀ (k j : Nat), j < k → wp_R T l k j = wp_f T l j := by
  intro k
  induction k with
  | zero => intro j h; omega
  | succ k ih =>
    intro j h
    by_cases e : j = k
    · subst e; rfl
    · rw [wp_R]
      simp only [e, if_false]
      exact ih j (by omega)
theorem wp_f_e {T : bo_T} {l k : Nat} (hW : bt_W T) (hk : k < T.1) : wp_f T l k = wp_s T l (wp_f T l) k := by
  obtain ⟨w1, w2, w3, w4, w5, w6, -⟩ := hW.2 k hk
  have e : wp_f T l k = wp_s T l (wp_R T l k) k := by
    unfold wp_f
    rw [wp_R]
    simp
  rw [e]
  funext x
  unfold wp_s
  by_cases q4 : 4 ≤ T.2.1 k
  · have hA := wp_R_lt (T := T) (l := l) k (T.2.2.1 k) (w4 q4)
    by_cases q2 : bo_two (T.2.1 k)
    · have hB := wp_R_lt (T := T) (l := l) k (T.2.2.2 k) (w5 q2)
      rw [hA, hB]
    · rw [hA]
      have h6 : T.2.1 k = 6 := by unfold bo_two at q2; omega
      simp [h6]
  · have h0 : T.2.1 k = 0 ∨ T.2.1 k = 1 ∨ T.2.1 k = 2 ∨ T.2.1 k = 3 := by omega
    rcases h0 with h | h | h | h <;> simp [h]
theorem cw_iff {c : Nat} {P Q : Int64 → Prop} {m : xm_S} (h : ∀ x, P x ↔ Q x) (k : cw_P c P m) : cw_P c Q m := by
  rcases k with ⟨n, k1, k2, k3, k4, k5⟩ | ⟨k1, k2⟩
  · exact Or.inl ⟨n, k1, k2, k3, k4, fun x => (h x).symm.trans (k5 x)⟩
  · exact Or.inr ⟨k1, fun q => k2 ((sm_iff h).mpr q)⟩
def cw_c (c : Nat) : Prop := c = 14 ∨ c = 16 ∨ c = 18
-- a kept row
def kt_G (N f l : Nat) (Q : Int64 → Prop) (q s : Nat) (m : xm_S) : Prop := m.1 12 (16 * f + l) = nI q ∧ m.1 11 (16 * f + l) = nI s ∧ q ≤ 60 ∧ s + q ≤ xk_l N ∧ en_P Q q (fun i => m.2 (xk_c N) (s + i))
theorem xk_c_n {N c : Nat} (hc : cw_c c) : xk_c N ≠ c ∧ xk_c N ≠ c + 1 := by
  unfold cw_c at hc
  cases N with
  | zero => show 13 ≠ c ∧ 13 ≠ c + 1; omega
  | succ N => show 58 + N ≠ c ∧ 58 + N ≠ c + 1; omega
theorem kt_G_f {N f l c q s : Nat} {Q : Int64 → Prop} {m m' : xm_S} (hc : cw_c c) (h : kt_G N f l Q q s m) (g : cw_f c m m') : kt_G N f l Q q s m' := by
  obtain ⟨n1, n2⟩ := xk_c_n (N := N) hc
  unfold kt_G at *
  unfold cw_c at hc
  rw [(g 12 (by omega) (by omega)).1, (g 11 (by omega) (by omega)).1, (g _ n1 n2).2]
  exact h
theorem xk_l_6 {N : Nat} (hN : N ≤ 6) : xk_l N ≤ 32768 := by
  have h := Nat.pow_le_pow_right (show 0 < 2 by decide) hN
  unfold xk_l
  omega
theorem wc_n {f l : Nat} : wt_cell (nI f) (nI l) = nI (16 * f + l) := by
  unfold wt_cell
  rw [show nI f * (16 : Int32) = nI (f * 16) from pk_mul f 16, nI_add, Nat.mul_comm]
theorem wt_ae {F N c f l q s : Nat} {w : Int64} {Q P : Int64 → Prop} {kk : xm_S → Option xm_S} (hF : 100 < F) (hN : N ≤ 6) (hc : cw_c c) (hf : f < 28) (hl : l < 16) : ∀ (r i fu : Nat) (m : xm_S), i + r = q → r < fu → kt_G N f l Q q s m → cw_P c (fun x => P x ∨ ∃ j, j < i ∧ x = m.2 (xk_c N) (s + j) ||| w) m →
    ∃ m' : xm_S, wt_addEach_l10 F N c w (nI (16 * f + l)) kk fu (nI i) m = kk m' ∧ cw_P c (fun x => P x ∨ ∃ u, Q u ∧ x = u ||| w) m' ∧ cw_f c m m' := by
  intro r
  have hx := xk_l_6 hN
  induction r with
  | zero =>
    intro i fu m hi hfu hk hP
    obtain ⟨fu, rfl⟩ : ∃ g, fu = g + 1 := ⟨fu - 1, by omega⟩
    obtain rfl : i = q := by omega
    have h60 := hk.2.2.1
    refine ⟨m, ?_, ?_, cw_f0⟩
    · rw [wt_addEach_l10, xg_nI (by omega) (by decide), nI_clamp (by omega), hk.1, if_pos (nI_le (Nat.le_refl _) (by omega))]
    · refine cw_iff (fun x => ?_) hP
      constructor
      · rintro (h | ⟨j, h1, h2⟩)
        · exact Or.inl h
        · exact Or.inr ⟨_, (hk.2.2.2.2.2 _).mpr ⟨j, h1, rfl⟩, h2⟩
      · rintro (h | ⟨u, h1, h2⟩)
        · exact Or.inl h
        · obtain ⟨j, h3, h4⟩ := (hk.2.2.2.2.2 _).mp h1
          exact Or.inr ⟨j, h3, by rw [h2, ← h4]⟩
  | succ r ih =>
    intro i fu m hi hfu hk hP
    obtain ⟨fu, rfl⟩ : ∃ g, fu = g + 1 := ⟨fu - 1, by omega⟩
    have hk0 := hk
    obtain ⟨k1, k2, k3, k4, k5⟩ := hk
    have hsi : s + i < xk_l N := by omega
    rw [wt_addEach_l10, xg_nI (by omega) (by decide), nI_clamp (by omega), k1, if_neg (nI_ge (by omega) (by omega)), k2, xg_nI (show 16 * f + l < 448 by omega) (by decide), nI_add, xg_nI hsi (by omega), nI_clamp (show s + i < 2 ^ 31 by omega), nI_1]
    rcases hP with ⟨n, hG⟩ | ⟨h1, h2⟩
    · rw [if_pos hG.1]
      obtain ⟨m1, e1, e2, e3⟩ := wy_1 (F := F) (w := m.2 (xk_c N) (s + i) ||| w) hF hG
      rw [e1]
      simp only [xc_v]
      obtain ⟨n1, n2⟩ := xk_c_n (N := N) hc
      have hrow := (e3 _ n1 n2).2
      obtain ⟨m2, e4, e5, e6⟩ := ih (i + 1) fu m1 (by omega) (by omega) (kt_G_f hc hk0 e3) (cw_iff (fun x => by
        rw [hrow]
        constructor
        · rintro ((h | ⟨j, h1, h2⟩) | h)
          · exact Or.inl h
          · exact Or.inr ⟨j, by omega, h2⟩
          · exact Or.inr ⟨i, by omega, h⟩
        · rintro (h | ⟨j, h1, h2⟩)
          · exact Or.inl (Or.inl h)
          · by_cases e : j = i
            · subst e; exact Or.inr h2
            · exact Or.inl (Or.inr ⟨j, by omega, h2⟩)) e2)
      exact ⟨m2, e4, e5, cw_ft e3 e6⟩
    · rw [if_neg (by rw [h1]; decide)]
      refine ⟨m, rfl, Or.inr ⟨h1, fun q => h2 (sm_mono (fun x hx => ?_) q)⟩, cw_f0⟩
      rcases hx with h | ⟨j, h3, h4⟩
      · exact Or.inl h
      · exact Or.inr ⟨_, (k5.2 _).mpr ⟨j, by omega, rfl⟩, h4⟩
theorem wt_each {F N c f l q s : Nat} {w : Int64} {Q P : Int64 → Prop} {m : xm_S} (hF : 100 < F) (hN : N ≤ 6) (hc : cw_c c) (hf : f < 28) (hl : l < 16) (hk : kt_G N f l Q q s m) (hP : cw_P c P m) : ∃ m' : xm_S, wt_addEach F N c (nI f) (nI l) w m = some m' ∧ cw_P c (fun x => P x ∨ ∃ u, Q u ∧ x = u ||| w) m' ∧ cw_f c m m' := by
  unfold wt_addEach
  rw [wc_n]
  exact wt_ae (kk := fun m => some m) hF hN hc hf hl q 0 F m (by omega) (by have := hk.2.2.1; omega) hk (cw_iff (fun x => ⟨fun h => Or.inl h, fun h => h.elim id (fun ⟨j, h1, _⟩ => by omega)⟩) hP)
theorem wt_fj {F N f g l q s q2 s2 : Nat} {A B P : Int64 → Prop} {kk : xm_S → Option xm_S} (hF : 100 < F) (hN : N ≤ 6) (hf : f < 28) (hg : g < 28) (hl : l < 16) : ∀ (r i fu : Nat) (m : xm_S), i + r = q → r < fu → kt_G N f l A q s m → kt_G N g l B q2 s2 m → cw_P 14 (fun x => P x ∨ ∃ j, j < i ∧ ∃ v, B v ∧ x = v ||| m.2 (xk_c N) (s + j)) m →
    ∃ m' : xm_S, wt_findJoined_l10 F N (nI g) (nI l) (nI (16 * f + l)) kk fu (nI i) m = kk m' ∧ cw_P 14 (fun x => P x ∨ ∃ u v, A u ∧ B v ∧ x = v ||| u) m' ∧ cw_f 14 m m' := by
  intro r
  have hx := xk_l_6 hN
  have hc : cw_c 14 := Or.inl rfl
  induction r with
  | zero =>
    intro i fu m hi hfu hk hk2 hP
    obtain ⟨fu, rfl⟩ : ∃ g, fu = g + 1 := ⟨fu - 1, by omega⟩
    obtain rfl : i = q := by omega
    have h60 := hk.2.2.1
    refine ⟨m, ?_, ?_, cw_f0⟩
    · rw [wt_findJoined_l10, xg_nI (by omega) (by decide), nI_clamp (by omega), hk.1, if_pos (nI_le (Nat.le_refl _) (by omega))]
    · refine cw_iff (fun x => ?_) hP
      constructor
      · rintro (h | ⟨j, h1, v, h2, h3⟩)
        · exact Or.inl h
        · exact Or.inr ⟨_, v, (hk.2.2.2.2.2 _).mpr ⟨j, h1, rfl⟩, h2, h3⟩
      · rintro (h | ⟨u, v, h1, h2, h3⟩)
        · exact Or.inl h
        · obtain ⟨j, h4, h5⟩ := (hk.2.2.2.2.2 _).mp h1
          exact Or.inr ⟨j, h4, v, h2, by rw [h3, ← h5]⟩
  | succ r ih =>
    intro i fu m hi hfu hk hk2 hP
    obtain ⟨fu, rfl⟩ : ∃ g, fu = g + 1 := ⟨fu - 1, by omega⟩
    have hk0 := hk
    obtain ⟨k1, k2, k3, k4, k5⟩ := hk
    have hsi : s + i < xk_l N := by omega
    rw [wt_findJoined_l10, xg_nI (by omega) (by decide), nI_clamp (by omega), k1, if_neg (nI_ge (by omega) (by omega)), k2, xg_nI (show 16 * f + l < 448 by omega) (by decide), nI_add, xg_nI hsi (by omega), nI_clamp (show s + i < 2 ^ 31 by omega), nI_1]
    rcases hP with ⟨n, hG⟩ | ⟨h1, h2⟩
    · rw [if_pos hG.1]
      obtain ⟨m1, e1, e2, e3⟩ := wt_each (F := F) (w := m.2 (xk_c N) (s + i)) hF hN hc hg hl hk2 (Or.inl ⟨n, hG⟩)
      rw [e1]
      simp only [xc_v]
      obtain ⟨n1, n2⟩ := xk_c_n (N := N) hc
      have hrow := (e3 _ n1 n2).2
      obtain ⟨m2, e4, e5, e6⟩ := ih (i + 1) fu m1 (by omega) (by omega) (kt_G_f hc hk0 e3) (kt_G_f hc hk2 e3) (cw_iff (fun x => by
        rw [hrow]
        constructor
        · rintro ((h | ⟨j, h1, h2⟩) | h)
          · exact Or.inl h
          · exact Or.inr ⟨j, by omega, h2⟩
          · exact Or.inr ⟨i, by omega, h⟩
        · rintro (h | ⟨j, h1, h2⟩)
          · exact Or.inl (Or.inl h)
          · by_cases e : j = i
            · subst e; exact Or.inr h2
            · exact Or.inl (Or.inr ⟨j, by omega, h2⟩)) e2)
      exact ⟨m2, e4, e5, cw_ft e3 e6⟩
    · rw [if_neg (by rw [h1]; decide)]
      refine ⟨m, rfl, Or.inr ⟨h1, fun q => h2 (sm_mono (fun x hx => ?_) q)⟩, cw_f0⟩
      rcases hx with h | ⟨j, h3, v, h4, h5⟩
      · exact Or.inl h
      · exact Or.inr ⟨_, v, (k5.2 _).mpr ⟨j, by omega, rfl⟩, h4, h5⟩
theorem wt_joined {F N f g l q s q2 s2 : Nat} {A B P : Int64 → Prop} {m : xm_S} (hF : 100 < F) (hN : N ≤ 6) (hf : f < 28) (hg : g < 28) (hl : l < 16) (hk : kt_G N f l A q s m) (hk2 : kt_G N g l B q2 s2 m) (hP : cw_P 14 P m) : ∃ m' : xm_S, wt_findJoined F N (nI f) (nI g) (nI l) m = some m' ∧ cw_P 14 (fun x => P x ∨ ∃ u v, A u ∧ B v ∧ x = v ||| u) m' ∧ cw_f 14 m m' := by
  unfold wt_findJoined
  rw [wc_n]
  exact wt_fj (kk := fun m => some m) hF hN hf hg hl q 0 F m (by omega) (by have := hk.2.2.1; omega) hk hk2 (cw_iff (fun x => ⟨fun h => Or.inl h, fun h => h.elim id (fun ⟨j, h1, _⟩ => by omega)⟩) hP)
theorem wy_0 {F c : Nat} {m : xm_S} : ∃ m' : xm_S, wy_clear F c m = some m' ∧ cw_G c (fun _ => False) 0 m' ∧ cw_f c m m' := by
  unfold wy_clear xs_m
  refine ⟨_, rfl, ⟨xi_s, ?_, by decide, fun i j _ h => by omega, fun x => ⟨fun h => h.elim, fun ⟨i, h, _⟩ => by omega⟩⟩, fun a h1 h2 => ⟨?_, rfl⟩⟩
  · rw [xi_j (by decide), xi_s]; rfl
  · rw [xi_k h1, xi_k h1]
theorem wt_fd {F N k l : Nat} {T : bo_T} {m : xm_S} (hF : 100 < F) (hN : N ≤ 6) (hW : bt_W T) (hC : bt_C T m) (hk : k < T.1) (hl : l < 16) (hA : bo_two (T.2.1 k) → ∃ q s, kt_G N (T.2.2.1 k) l (wp_f T l (T.2.2.1 k)) q s m) (hB : bo_two (T.2.1 k) → ∃ q s, kt_G N (T.2.2.2 k) l (wp_f T l (T.2.2.2 k)) q s m) :
    ∃ m' : xm_S, wt_find F N (nI k) (nI l) m = some m' ∧ cw_P 14 (wp_f T l k) m' ∧ cw_f 14 m m' := by
  have h28 := hW.1
  obtain ⟨w1, w2, w3, w4, w5, w6, -⟩ := hW.2 k hk
  obtain ⟨c1, c2, c3⟩ := hC.2 k hk
  obtain ⟨s1, s2, s3⟩ := (bo_W.S hW).2 k hk
  have hc : cw_c 14 := Or.inl rfl
  have hg : ∀ {β : Type} {o : Option β}, xg_n (nI k) 28 o = o := fun {β o} => xg_nI (by omega) (by decide)
  obtain ⟨m1, e1, e2, e3⟩ := wy_0 (F := F) (c := 14) (m := m)
  have e2' : cw_P 14 (fun _ => False) m1 := Or.inl ⟨0, e2⟩
  rw [wp_f_e hW hk]
  unfold wt_find
  simp only [hg, nI_clamp (show k < 2 ^ 31 by omega), c1, c2, c3]
  rw [e1]
  simp only [xc_v]
  have cc : ∀ j : Nat, j ≤ 8 → ((nI (T.2.1 k) = nI j) ↔ T.2.1 k = j) := fun j hj => fm_e w1 hj
  have add0 : ∀ (w : Int64) (Q : Int64 → Prop), (∀ x, Q x ↔ x = w) → ∃ m' : xm_S, (match wy_add F 14 w m1 with | none => none | some m' => some m') = some m' ∧ cw_P 14 Q m' ∧ cw_f 14 m m' := fun w Q hQ => by
    obtain ⟨m2, f1, f2, f3⟩ := wy_1 (w := w) hF e2
    rw [f1]
    exact ⟨m2, rfl, cw_iff (fun x => by rw [hQ x]; simp) f2, cw_ft e3 f3⟩
  have hcase : T.2.1 k = 0 ∨ T.2.1 k = 1 ∨ T.2.1 k = 2 ∨ T.2.1 k = 3 ∨ T.2.1 k = 4 ∨ T.2.1 k = 5 ∨ T.2.1 k = 6 ∨ T.2.1 k = 7 ∨ T.2.1 k = 8 := by omega
  rcases hcase with h | h | h | h | h | h | h | h | h
  · simp (decide := true) only [h, if_true, if_false]
    exact add0 0 _ (fun x => by unfold wp_s; simp [h])
  · simp (decide := true) only [h, if_true, if_false]
    exact ⟨m1, rfl, cw_iff (fun x => by unfold wp_s; simp [h]) e2', e3⟩
  · simp (decide := true) only [h, if_true, if_false]
    rw [nb_bit (by omega) (by have := w3 (Or.inl h); omega)]
    by_cases z : l / 2 ^ T.2.2.1 k % 2 = 1
    · rw [if_pos (by rw [z]; rfl)]
      exact add0 0 _ (fun x => by unfold wp_s; simp [h, z])
    · have z0 : l / 2 ^ T.2.2.1 k % 2 = 0 := by omega
      rw [if_neg (by rw [z0]; decide)]
      exact ⟨m1, rfl, cw_iff (fun x => by unfold wp_s; simp [h, z0]) e2', e3⟩
  · simp (decide := true) only [h, if_true, if_false]
    rw [nb_bit (by omega) (by have := w3 (Or.inr h); omega)]
    by_cases z : l / 2 ^ T.2.2.1 k % 2 = 0
    · rw [if_pos (by rw [z]; rfl)]
      exact add0 0 _ (fun x => by unfold wp_s; simp [h, z])
    · have z0 : l / 2 ^ T.2.2.1 k % 2 = 1 := by omega
      rw [if_neg (by rw [z0]; decide)]
      exact ⟨m1, rfl, cw_iff (fun x => by unfold wp_s; simp [h, z0]) e2', e3⟩
  · obtain ⟨qa, sa, ka⟩ := hA (Or.inl h)
    obtain ⟨qb, sb, kb⟩ := hB (Or.inl h)
    obtain ⟨m2, f1, f2, f3⟩ := wt_joined hF hN (by omega) (by omega) hl (kt_G_f hc ka e3) (kt_G_f hc kb e3) e2'
    simp (decide := true) only [h, if_true, if_false]
    rw [f1]
    exact ⟨m2, rfl, cw_iff (fun x => by unfold wp_s; simp [h]) f2, cw_ft e3 f3⟩
  · obtain ⟨qa, sa, ka⟩ := hA (Or.inr (Or.inl h))
    obtain ⟨qb, sb, kb⟩ := hB (Or.inr (Or.inl h))
    obtain ⟨m2, f1, f2, f3⟩ := wt_each (w := 0) hF hN hc (by omega) hl (kt_G_f hc ka e3) e2'
    obtain ⟨m3, g1, g2, g3⟩ := wt_each (w := 0) hF hN hc (by omega) hl (kt_G_f hc kb (cw_ft e3 f3)) f2
    simp (decide := true) only [h, if_true, if_false]
    rw [f1]
    simp only []
    rw [g1]
    exact ⟨m3, rfl, cw_iff (fun x => by unfold wp_s; simp [h]) g2, cw_ft e3 (cw_ft f3 g3)⟩
  · simp (decide := true) only [h, if_true, if_false]
    exact add0 _ _ (fun x => by unfold wp_s; simp [h]; exact Iff.rfl)
  · obtain ⟨qa, sa, ka⟩ := hA (Or.inr (Or.inr (Or.inl h)))
    obtain ⟨qb, sb, kb⟩ := hB (Or.inr (Or.inr (Or.inl h)))
    obtain ⟨m2, f1, f2, f3⟩ := wt_each (w := 0) hF hN hc (by omega) hl (kt_G_f hc kb e3) e2'
    obtain ⟨m3, g1, g2, g3⟩ := wt_each (w := bl_n k ||| bl_n (28 + k)) hF hN hc (by omega) hl (kt_G_f hc ka (cw_ft e3 f3)) f2
    simp (decide := true) only [h, if_true, if_false]
    rw [f1]
    simp only []
    rw [show wy_toHoldNext (nI k) ||| wy_putOff (nI k) = bl_n k ||| bl_n (28 + k) by unfold wy_toHoldNext wy_putOff bl_n; rw [show (28 : Int32) + nI k = nI (28 + k) from nI_add 28 k], g1]
    exact ⟨m3, rfl, cw_iff (fun x => by unfold wp_s; simp [h]) g2, cw_ft e3 (cw_ft f3 g3)⟩
  · obtain ⟨qa, sa, ka⟩ := hA (Or.inr (Or.inr (Or.inr h)))
    obtain ⟨qb, sb, kb⟩ := hB (Or.inr (Or.inr (Or.inr h)))
    obtain ⟨m2, f1, f2, f3⟩ := wt_joined hF hN (by omega) (by omega) hl (kt_G_f hc kb e3) (kt_G_f hc ka e3) e2'
    obtain ⟨m3, g1, g2, g3⟩ := wt_each (w := bl_n k) hF hN hc (by omega) hl (kt_G_f hc kb (cw_ft e3 f3)) f2
    simp (decide := true) only [h, if_true, if_false]
    rw [f1]
    simp only []
    rw [show wy_toHoldNext (nI k) = bl_n k from rfl, g1]
    exact ⟨m3, rfl, cw_iff (fun x => by unfold wp_s; simp [h]) g2, cw_ft e3 (cw_ft f3 g3)⟩
