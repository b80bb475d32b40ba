/-! The class: steps from one state by one letter. -/
-- what adding steps leaves
def st_f (p : Nat) (m m' : xm_S) : Prop := xf_r [20, 22, 23, 24, 25] m m' ∧ (∀ j, j ≠ 6 → m'.1 20 j = m.1 20 j) ∧ (∀ j, j ≠ p → m'.1 24 j = m.1 24 j ∧ m'.1 25 j = m.1 25 j)
theorem st_f0 {p : Nat} {m : xm_S} : st_f p m m := ⟨xf_0, fun _ _ => rfl, fun _ _ => ⟨rfl, rfl⟩⟩
theorem st_ft {p : Nat} {a b c : xm_S} (h : st_f p a b) (k : st_f p b c) : st_f p a c := ⟨xf_t h.1 k.1, fun j hj => (k.2.1 j hj).trans (h.2.1 j hj), fun j hj => ⟨(k.2.2 j hj).1.trans (h.2.2 j hj).1, (k.2.2 j hj).2.trans (h.2.2 j hj).2⟩⟩
def sq_x (q : Nat → Nat × Nat) (n : Nat) (q' : Nat → Nat × Nat) (n' : Nat) : Prop := n ≤ n' ∧ ∀ i, i < n → q' i = q i
theorem sq_x_t {q r s : Nat → Nat × Nat} {n p t : Nat} (h : sq_x q n r p) (k : sq_x r p s t) : sq_x q n s t := ⟨Nat.le_trans h.1 k.1, fun i hi => (k.2 i (Nat.lt_of_lt_of_le hi h.1)).trans (h.2 i hi)⟩
-- a list of reachable states, each once, held by the class
def al_C (T : bo_T) (U : Nat × (Nat → Nat)) (f : Nat) (q : Nat → Nat × Nat) (n : Nat) (m : xm_S) : Prop := as_C q n m ∧ sq_i q n ∧ (∀ i, i < n → au_r T U f (q i)) ∧ m.1 20 3 = nI U.1 ∧ ∀ i, i < U.1 → m.1 21 i = nI (U.2 i)
theorem st_51 {F N c s l cnt f : Nat} {T : bo_T} {U : Nat × (Nat → Nat)} {w : Nat → Int64} {kk : xm_S → Option (Int32 × xm_S)} (hF : 100 < F) (hc : c = 16 ∨ c = 18) (hU : U.1 ≤ 28) (hU2 : ∀ i, i < U.1 → U.2 i < 28) (hb : ∀ t, au_r T U f t → sq_b t ∧ t.2 ≤ U.1) (hcnt : cnt ≤ 60) (hl : l < 16) : ∀ (r i fu n A G : Nat) (q : Nat → Nat × Nat) (m : xm_S), i + r = cnt → r < fu → m.1 c 1 = nI cnt → (∀ j, j < cnt → m.2 (c + 1) j = w j) → al_C T U f q n m → s < n → (∀ j, j < cnt → jp_w T l (q s).1 28 (w j)) → m.1 24 (16 * s + l) = nI A → m.1 25 (16 * s + l) = nI G → sp_W U q n (q s) (fun x => ∃ j, j < i ∧ x = w j) A G →
    ∃ m' : xm_S, st_f (16 * s + l) m m' ∧ ((∃ (q' : Nat → Nat × Nat) (n' A' G' : Nat), au_addSteps_l51 F N (nI s) c (nI (16 * s + l)) kk fu (nI i) m = kk m' ∧ sq_x q n q' n' ∧ al_C T U f q' n' m' ∧ m'.1 24 (16 * s + l) = nI A' ∧ m'.1 25 (16 * s + l) = nI G' ∧ sp_W U q' n' (q' s) (fun x => ∃ j, j < cnt ∧ x = w j) A' G') ∨ (au_addSteps_l51 F N (nI s) c (nI (16 * s + l)) kk fu (nI i) m = some (0, m') ∧ ¬ af_N T U f)) := by
  intro r
  induction r with
  | zero =>
    intro i fu n A G q m hi hfu h1 h2 hL hs hw h24 h25 hS
    obtain ⟨fu, rfl⟩ : ∃ g, fu = g + 1 := ⟨fu - 1, by omega⟩
    obtain rfl : i = cnt := by omega
    refine ⟨m, st_f0, Or.inl ⟨q, n, A, G, ?_, ⟨Nat.le_refl _, fun _ _ => rfl⟩, hL, h24, h25, hS⟩⟩
    rw [au_addSteps_l51, h1, if_pos (nI_le (Nat.le_refl _) (by omega))]
  | succ r ih =>
    intro i fu n A G q m hi hfu h1 h2 hL hs hw h24 h25 hS
    obtain ⟨fu, rfl⟩ : ∃ g, fu = g + 1 := ⟨fu - 1, by omega⟩
    obtain ⟨l1, l2, l3, l4, l5⟩ := hL
    obtain ⟨a1, a2, a3⟩ := l1
    obtain ⟨b1, b2⟩ := hb (q s) (l3 s hs)
    have hreach : au_r T U f (au_t U (q s) (w i)) := au_r_s (l3 s hs) hl (hw i (by omega))
    have ht := (hb _ hreach).1
    have hn16 := a2
    rw [au_addSteps_l51, h1, if_neg (nI_ge (by omega) (by omega)), xg_nI (show i < 60 by omega) (by decide), nI_clamp (show i < 2 ^ 31 by omega), xg_nI (show s < 16 by omega) (by decide), nI_clamp (show s < 2 ^ 31 by omega), (a3 s hs).2.2, h2 i (by omega), fp_all hF hU hU2 l4 l5 b2]
    simp only [xc_s]
    have hj28 := (au_t_lt (x := w i) b2).1
    have en : (if (if au_j U (w i) (q s).2 = U.1 then (-1 : Int32) else nI (au_j U (w i) (q s).2)) = (-1 : Int32) then (0 : Int32) else (if au_j U (w i) (q s).2 = U.1 then (-1 : Int32) else nI (au_j U (w i) (q s).2))) = nI (au_t U (q s) (w i)).2 := by
      show _ = nI (if au_j U (w i) (q s).2 = U.1 then 0 else au_j U (w i) (q s).2)
      by_cases g : au_j U (w i) (q s).2 = U.1
      · simp only [g, if_true]; rfl
      · have := (nq_1 (show au_j U (w i) (q s).2 ≤ 60 by omega)).1
        simp only [g, if_false, this]
    have es : wy_nextSet (w i) = nI (au_t U (q s) (w i)).1 := lb_n (w i)
    rw [en, es]
    have hp : 16 * s + l < 256 := by omega
    have hcl : (nI (16 * s + l)).toNatClampNeg = 16 * s + l := nI_clamp (by omega)
    have hg : ∀ {β : Type} {o : Option β}, xg_n (nI (16 * s + l)) 256 o = o := fun {β o} => xg_nI hp (by decide)
    simp only [hg, hcl, nI_1]
    have vg : ((if au_j U (w i) (q s).2 = U.1 then (-1 : Int32) else nI (au_j U (w i) (q s).2)) = (-1 : Int32)) ↔ au_j U (w i) (q s).2 = U.1 := by
      by_cases g : au_j U (w i) (q s).2 = U.1
      · simp [g]
      · have := (nq_1 (show au_j U (w i) (q s).2 ≤ 60 by omega)).1
        simp [g, this]
    simp only [vg]
    -- once the state is there
    have go : ∀ (n1 j : Nat) (q1 : Nat → Nat × Nat) (m1 : xm_S), j < n1 → q1 j = au_t U (q s) (w i) → sq_x q n q1 n1 → al_C T U f q1 n1 m1 → st_f (16 * s + l) m m1 → m1.1 24 (16 * s + l) = nI A → m1.1 25 (16 * s + l) = nI G → sp_W U q1 n1 (q s) (fun x => ∃ j, j < i ∧ x = w j) A G →
        ∃ m' : xm_S, st_f (16 * s + l) m m' ∧ ((∃ (q' : Nat → Nat × Nat) (n' A' G' : Nat), (if nI j = (-1 : Int32) then some ((0 : Int32), m1) else xs_m (xw_i m1 24 (16 * s + l) ((m1.1 24 (16 * s + l)) ||| ((1 : Int32) <<< (nI j &&& 31)))) fun m679 => if au_j U (w i) (q s).2 = U.1 then xs_m (xw_i m679 25 (16 * s + l) ((m679.1 25 (16 * s + l)) ||| ((1 : Int32) <<< (nI j &&& 31)))) fun m684 => au_addSteps_l51 F N (nI s) c (nI (16 * s + l)) kk fu (nI (i + 1)) m684 else au_addSteps_l51 F N (nI s) c (nI (16 * s + l)) kk fu (nI (i + 1)) m679) = kk m' ∧ sq_x q n q' n' ∧ al_C T U f q' n' m' ∧ m'.1 24 (16 * s + l) = nI A' ∧ m'.1 25 (16 * s + l) = nI G' ∧ sp_W U q' n' (q' s) (fun x => ∃ j, j < cnt ∧ x = w j) A' G') ∨ ((if nI j = (-1 : Int32) then some ((0 : Int32), m1) else xs_m (xw_i m1 24 (16 * s + l) ((m1.1 24 (16 * s + l)) ||| ((1 : Int32) <<< (nI j &&& 31)))) fun m679 => if au_j U (w i) (q s).2 = U.1 then xs_m (xw_i m679 25 (16 * s + l) ((m679.1 25 (16 * s + l)) ||| ((1 : Int32) <<< (nI j &&& 31)))) fun m684 => au_addSteps_l51 F N (nI s) c (nI (16 * s + l)) kk fu (nI (i + 1)) m684 else au_addSteps_l51 F N (nI s) c (nI (16 * s + l)) kk fu (nI (i + 1)) m679) = some (0, m') ∧ ¬ af_N T U f)) := by
      intro n1 j q1 m1 hj hq hx hL1 hf1 g24 g25 hS1
      have hn1 := hL1.1.2.1
      rw [if_neg (nq_1 (show j ≤ 60 by omega)).1, nb_one (by omega), g24, nb_or]
      have hqs : q1 s = q s := hx.2 s hs
      have hadd := sp_add hL1.2.1 hS1 hj hq
      have hW : ∀ x, ((∃ j, j < i ∧ x = w j) ∨ x = w i) ↔ ∃ j, j < i + 1 ∧ x = w j := fun x => by
        constructor
        · rintro (⟨j, h, e⟩ | e)
          · exact ⟨j, by omega, e⟩
          · exact ⟨i, by omega, e⟩
        · rintro ⟨j, h, e⟩
          by_cases z : j = i
          · subst z; exact Or.inr e
          · exact Or.inl ⟨j, by omega, e⟩
      have hadd' := sp_iff hW hadd
      -- the memory that follows
      have fin : ∀ (m2 : xm_S) (G2 : Nat), G2 = (if au_j U (w i) (q s).2 = U.1 then G ||| 2 ^ j else G) → m2.1 24 (16 * s + l) = nI (A ||| 2 ^ j) → m2.1 25 (16 * s + l) = nI G2 → xf_r [24, 25] m1 m2 → (∀ j, j ≠ 16 * s + l → m2.1 24 j = m1.1 24 j ∧ m2.1 25 j = m1.1 25 j) → ∃ m' : xm_S, st_f (16 * s + l) m m' ∧ ((∃ (q' : Nat → Nat × Nat) (n' A' G' : Nat), au_addSteps_l51 F N (nI s) c (nI (16 * s + l)) kk fu (nI (i + 1)) m2 = kk m' ∧ sq_x q n q' n' ∧ al_C T U f q' n' m' ∧ m'.1 24 (16 * s + l) = nI A' ∧ m'.1 25 (16 * s + l) = nI G' ∧ sp_W U q' n' (q' s) (fun x => ∃ j, j < cnt ∧ x = w j) A' G') ∨ (au_addSteps_l51 F N (nI s) c (nI (16 * s + l)) kk fu (nI (i + 1)) m2 = some (0, m') ∧ ¬ af_N T U f)) := by
        intro m2 G2 eG k24 k25 kf kp
        have f2 : st_f (16 * s + l) m m2 := st_ft hf1 ⟨xf_s rfl kf, fun j hj => by rw [(kf 20 rfl).1], kp⟩
        have hcc : m2.1 c = m.1 c ∧ m2.2 (c + 1) = m.2 (c + 1) := by
          rcases hc with z | z <;> subst z
          · exact ⟨(f2.1 16 rfl).1, (f2.1 17 rfl).2⟩
          · exact ⟨(f2.1 18 rfl).1, (f2.1 19 rfl).2⟩
        obtain ⟨x1, x2, x3, x4, x5⟩ := hL1
        obtain ⟨m', d1, d2⟩ := ih (i + 1) fu n1 (A ||| 2 ^ j) G2 q1 m2 (by omega) (by omega) (by rw [hcc.1, h1]) (fun j hj => by rw [hcc.2]; exact h2 j hj) ⟨⟨by rw [(kf 20 rfl).1]; exact x1.1, x1.2.1, fun j hj => by rw [(kf 22 rfl).1, (kf 23 rfl).1]; exact x1.2.2 j hj⟩, x2, x3, by rw [(kf 20 rfl).1]; exact x4, fun j hj => by rw [(kf 21 rfl).1]; exact x5 j hj⟩ (by have := hx.1; omega) (by rw [hqs]; exact hw) k24 k25 (by rw [hqs, eG]; exact hadd')
        refine ⟨m', st_ft f2 d1, ?_⟩
        rcases d2 with ⟨q', n', A', G', y1, y2, y3⟩ | y
        · exact Or.inl ⟨q', n', A', G', y1, sq_x_t hx y2, y3⟩
        · exact Or.inr y
      by_cases g : au_j U (w i) (q s).2 = U.1
      · simp only [xs_m, g, if_true]
        have v25 : (xw_i m1 24 (16 * s + l) (nI (A ||| 2 ^ j))).1 25 (16 * s + l) = nI G := by rw [xi_k (by decide), g25]
        rw [v25, nb_or]
        exact fin _ _ (by rw [if_pos g]) (by rw [xi_k (by decide), xi_s]) xi_s (xf_t (xf_i rfl) (xf_i rfl)) (fun j hj => ⟨by rw [xi_k (by decide), xi_j hj], by rw [xi_j hj, xi_k (by decide)]⟩)
      · simp only [xs_m, g, if_false]
        exact fin _ _ (by rw [if_neg g]) xi_s (by rw [xi_k (by decide), g25]) (xf_i rfl) (fun j hj => ⟨by rw [xi_j hj], by rw [xi_k (by decide)]⟩)
    have hL0 : al_C T U f q n m := ⟨⟨a1, a2, a3⟩, l2, l3, l4, l5⟩
    rcases so_c (F := F) hF (show as_C q n m from ⟨a1, a2, a3⟩) ht with ⟨j, j1, j2, j3⟩ | ⟨j1, ⟨j2, m1, j3, j4, j5, j6⟩ | ⟨j2, j3⟩⟩
    · rw [j3]
      simp only [xc_s]
      exact go n j q m j1 j2 ⟨Nat.le_refl _, fun _ _ => rfl⟩ hL0 st_f0 h24 h25 hS
    · rw [j3]
      simp only [xc_s]
      refine go (n + 1) n (sq_u q n (au_t U (q s) (w i))) m1 (by omega) sq_n ⟨by omega, fun k hk => sq_o (by omega)⟩ ⟨j4, sq_i_u l2 j1, fun k hk => ?_, by rw [j6 3 (by decide), l4], fun k hk => by rw [(j5 21 rfl).1]; exact l5 k hk⟩ ⟨xf_s rfl j5, j6, fun k hk => ⟨by rw [(j5 24 rfl).1], by rw [(j5 25 rfl).1]⟩⟩ (by rw [(j5 24 rfl).1, h24]) (by rw [(j5 25 rfl).1, h25]) (sp_grow hS j1)
      by_cases e : k = n
      · rw [e, sq_n]; exact hreach
      · rw [sq_o e]; exact l3 k (by omega)
    · rw [j3]
      simp only [xc_s, if_true]
      refine ⟨m, st_f0, Or.inr ⟨rfl, ?_⟩⟩
      refine af_17 (n := n + 1) (q := sq_u q n (au_t U (q s) (w i))) (sq_i_u l2 j1) (fun k hk => ?_) (by omega)
      by_cases e : k = n
      · rw [e, sq_n]; exact hreach
      · rw [sq_o e]; exact l3 k (by omega)
