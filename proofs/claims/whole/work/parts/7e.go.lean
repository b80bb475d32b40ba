/-! The reference: steps from one state by one letter. -/
def sm_f (p : Nat) (m m' : xm_S) : Prop := xf_r [35, 45, 46, 47, 48] m m' ∧ (∀ j, j ≠ 11 → m'.1 35 j = m.1 35 j) ∧ (∀ j, j ≠ p → m'.1 47 j = m.1 47 j ∧ m'.1 48 j = m.1 48 j)
theorem sm_f0 {p : Nat} {m : xm_S} : sm_f p m m := ⟨xf_0, fun _ _ => rfl, fun _ _ => ⟨rfl, rfl⟩⟩
theorem sm_ft {p : Nat} {a b c : xm_S} (h : sm_f p a b) (k : sm_f p b c) : sm_f p a c := ⟨xf_t h.1 k.1, fun j hj => (k.2.1 j hj).trans (h.2.1 j hj), fun j hj => ⟨(k.2.2 j hj).1.trans (h.2.2 j hj).1, (k.2.2 j hj).2.trans (h.2.2 j hj).2⟩⟩
def al_M (T : bo_T) (U : Nat × (Nat → Nat)) (f : Nat) (q : Nat → Nat × Nat) (n : Nat) (m : xm_S) : Prop := as_M q n m ∧ sq_i q n ∧ (∀ i, i < n → au_r T U f (q i)) ∧ m.1 35 17 = nI U.1 ∧ ∀ i, i < U.1 → m.1 49 i = nI (U.2 i)
theorem sm_24 {F s l cnt f : Nat} {T : bo_T} {U : Nat × (Nat → Nat)} {w : Nat → Int64} {kk : xm_S → Option xm_S} (hF : 100 < F) (hU : U.1 ≤ 28) (hU2 : ∀ i, i < U.1 → U.2 i < 28) (hb : ∀ t, au_r T U f t → sq_b t ∧ t.2 ≤ U.1) (hcnt : cnt ≤ 60) (hl : l < 16) (hs16 : s < 16) : ∀ (r i fu n A G : Nat) (q : Nat → Nat × Nat) (m : xm_S), i + r = cnt → r < fu → m.1 35 9 = nI cnt → (∀ j, j < cnt → m.2 43 j = w j) → al_M T U f q n m → n ≤ 16 → s < n → (∀ j, j < cnt → jp_w T l (q s).1 28 (w j)) → m.1 47 (16 * s + l) = nI A → m.1 48 (16 * s + l) = nI G → sp_W U q n (q s) (fun x => ∃ j, j < i ∧ x = w j) A G →
    ∃ m' : xm_S, sm_f (16 * s + l) m m' ∧ mm_goFrom_l24 F (nI s) (nI (16 * s + l)) kk fu (nI i) m = kk m' ∧ ((∃ (q' : Nat → Nat × Nat) (n' A' G' : Nat), n' ≤ 16 ∧ sq_x q n q' n' ∧ al_M T U f q' n' m' ∧ m'.1 47 (16 * s + l) = nI A' ∧ m'.1 48 (16 * s + l) = nI G' ∧ sp_W U q' n' (q' s) (fun x => ∃ j, j < cnt ∧ x = w j) A' G') ∨ (m'.1 35 11 = nI 17 ∧ ¬ af_N T U f)) := by
  intro r
  induction r with
  | zero =>
    intro i fu n A G q m hi hfu h1 h2 hL hn hs hw h47 h48 hS
    obtain ⟨fu, rfl⟩ : ∃ g, fu = g + 1 := ⟨fu - 1, by omega⟩
    obtain rfl : i = cnt := by omega
    refine ⟨m, sm_f0, ?_, Or.inl ⟨q, n, A, G, hn, ⟨Nat.le_refl _, fun _ _ => rfl⟩, hL, h47, h48, hS⟩⟩
    rw [mm_goFrom_l24, h1, if_pos (nI_le (Nat.le_refl _) (by omega))]
  | succ r ih =>
    intro i fu n A G q m hi hfu h1 h2 hL hn hs hw h47 h48 hS
    obtain ⟨fu, rfl⟩ : ∃ g, fu = g + 1 := ⟨fu - 1, by omega⟩
    obtain ⟨l1, l2, l3, l4, l5⟩ := hL
    obtain ⟨a1, a2, a3⟩ := l1
    obtain ⟨b1, b2⟩ := hb (q s) (l3 s hs)
    have hreach : au_r T U f (au_t U (q s) (w i)) := au_r_s (l3 s hs) hl (hw i (by omega))
    have ht := (hb _ hreach).1
    have hj28 := (au_t_lt (x := w i) b2).1
    have hp : 16 * s + l < 272 := by omega
    have hcl : (nI (16 * s + l)).toNatClampNeg = 16 * s + l := nI_clamp (by omega)
    have hg : ∀ {β : Type} {o : Option β}, xg_n (nI (16 * s + l)) 272 o = o := fun {β o} => xg_nI hp (by decide)
    rw [mm_goFrom_l24, h1, if_neg (nI_ge (by omega) (by omega)), a1, if_neg (show ¬ (16 : Int32) < nI n from nI_nlt (a := 16) hn (by decide)), xg_nI (show i < 61 by omega) (by decide), xg_nI (show i < 61 by omega) (by decide), nI_clamp (show i < 2 ^ 31 by omega), xg_nI (show s < 17 by omega) (by decide), nI_clamp (show s < 2 ^ 31 by omega), (a3 s hs).2.2, h2 i (by omega), fp_m hU hU2 l4 l5 (U.1 - (q s).2) (q s).2 F (by omega) (by omega)]
    simp only [xj_j, hg, hcl, nI_1, l4]
    have ej : fo_w (fun i_1 => wx_o (w i) (U.2 i_1)) (U.1 - (q s).2) (q s).2 = au_j U (w i) (q s).2 := rfl
    rw [ej]
    have vg : ((if nI (au_j U (w i) (q s).2) < nI U.1 then (0 : Int32) else (1 : Int32)) = 0) ↔ ¬ au_j U (w i) (q s).2 = U.1 := by
      by_cases g : au_j U (w i) (q s).2 = U.1
      · rw [g, if_neg (nI_nlt (Nat.le_refl _) (by omega))]; simp
      · rw [if_pos (nI_lt (by omega) (by omega))]; simp [g]
    have en : (if (if nI (au_j U (w i) (q s).2) < nI U.1 then (0 : Int32) else (1 : Int32)) = 0 then nI (au_j U (w i) (q s).2) else (0 : Int32)) = nI (au_t U (q s) (w i)).2 := by
      show _ = nI (if au_j U (w i) (q s).2 = U.1 then 0 else au_j U (w i) (q s).2)
      by_cases g : au_j U (w i) (q s).2 = U.1
      · rw [if_neg (fun z => vg.mp z g), if_pos g]; rfl
      · rw [if_pos (vg.mpr g), if_neg g]
    have es : ((w i) &&& (268435455 : Int64)).toInt32 = nI (au_t U (q s) (w i)).1 := lb_n (w i)
    rw [en, es]
    simp only [vg]
    have go : ∀ (n1 j : Nat) (q1 : Nat → Nat × Nat) (m1 : xm_S), j < n1 → q1 j = au_t U (q s) (w i) → sq_x q n q1 n1 → al_M T U f q1 n1 m1 → sm_f (16 * s + l) m m1 → m1.1 47 (16 * s + l) = nI A → m1.1 48 (16 * s + l) = nI G → sp_W U q1 n1 (q s) (fun x => ∃ j, j < i ∧ x = w j) A G →
        ∃ m' : xm_S, sm_f (16 * s + l) m m' ∧ (xs_m (xw_i m1 47 (16 * s + l) ((m1.1 47 (16 * s + l)) ||| ((1 : Int32) <<< (nI j &&& 31)))) fun m1893 => if ¬ au_j U (w i) (q s).2 = U.1 then xs_m (xw_i m1893 48 (16 * s + l) (m1893.1 48 (16 * s + l))) fun m1904 => mm_goFrom_l24 F (nI s) (nI (16 * s + l)) kk fu (nI (i + 1)) m1904 else xs_m (xw_i m1893 48 (16 * s + l) ((m1893.1 48 (16 * s + l)) ||| ((1 : Int32) <<< (nI j &&& 31)))) fun m1904 => mm_goFrom_l24 F (nI s) (nI (16 * s + l)) kk fu (nI (i + 1)) m1904) = kk m' ∧ ((∃ (q' : Nat → Nat × Nat) (n' A' G' : Nat), n' ≤ 16 ∧ sq_x q n q' n' ∧ al_M T U f q' n' m' ∧ m'.1 47 (16 * s + l) = nI A' ∧ m'.1 48 (16 * s + l) = nI G' ∧ sp_W U q' n' (q' s) (fun x => ∃ j, j < cnt ∧ x = w j) A' G') ∨ (m'.1 35 11 = nI 17 ∧ ¬ af_N T U f)) := by
      intro n1 j q1 m1 hj hq hx hL1 hf1 g47 g48 hS1
      have hn1 := hL1.1.2.1
      rw [nb_one (by omega), g47, nb_or]
      have hqs : q1 s = q s := hx.2 s hs
      have hadd := sp_add hL1.2.1 hS1 hj hq
      have hW : ∀ x, ((∃ j, j < i ∧ x = w j) ∨ x = w i) ↔ ∃ j, j < i + 1 ∧ x = w j := fun x => by
        constructor
        · rintro (⟨j, h, e⟩ | e)
          · exact ⟨j, by omega, e⟩
          · exact ⟨i, by omega, e⟩
        · rintro ⟨j, h, e⟩
          by_cases z : j = i
          · subst z; exact Or.inr e
          · exact Or.inl ⟨j, by omega, e⟩
      have hadd' := sp_iff hW hadd
      have fin : ∀ (m2 : xm_S) (G2 : Nat), G2 = (if au_j U (w i) (q s).2 = U.1 then G ||| 2 ^ j else G) → m2.1 47 (16 * s + l) = nI (A ||| 2 ^ j) → m2.1 48 (16 * s + l) = nI G2 → xf_r [47, 48] m1 m2 → (∀ j, j ≠ 16 * s + l → m2.1 47 j = m1.1 47 j ∧ m2.1 48 j = m1.1 48 j) → ∃ m' : xm_S, sm_f (16 * s + l) m m' ∧ mm_goFrom_l24 F (nI s) (nI (16 * s + l)) kk fu (nI (i + 1)) m2 = kk m' ∧ ((∃ (q' : Nat → Nat × Nat) (n' A' G' : Nat), n' ≤ 16 ∧ sq_x q n q' n' ∧ al_M T U f q' n' m' ∧ m'.1 47 (16 * s + l) = nI A' ∧ m'.1 48 (16 * s + l) = nI G' ∧ sp_W U q' n' (q' s) (fun x => ∃ j, j < cnt ∧ x = w j) A' G') ∨ (m'.1 35 11 = nI 17 ∧ ¬ af_N T U f)) := by
        intro m2 G2 eG k47 k48 kf kp
        have f2 : sm_f (16 * s + l) m m2 := sm_ft hf1 ⟨xf_s rfl kf, fun j hj => by rw [(kf 35 rfl).1], kp⟩
        have h9 : m2.1 35 9 = nI cnt := by rw [f2.2.1 9 (by decide), h1]
        have h43 : m2.2 43 = m.2 43 := (f2.1 43 rfl).2
        obtain ⟨x1, x2, x3, x4, x5⟩ := hL1
        by_cases hn16 : n1 ≤ 16
        · obtain ⟨m', d1, d2, d3⟩ := ih (i + 1) fu n1 (A ||| 2 ^ j) G2 q1 m2 (by omega) (by omega) h9 (fun j hj => by rw [h43]; exact h2 j hj) ⟨⟨by rw [(kf 35 rfl).1]; exact x1.1, x1.2.1, fun j hj => by rw [(kf 45 rfl).1, (kf 46 rfl).1]; exact x1.2.2 j hj⟩, x2, x3, by rw [(kf 35 rfl).1]; exact x4, fun j hj => by rw [(kf 49 rfl).1]; exact x5 j hj⟩ hn16 (by have := hx.1; omega) (by rw [hqs]; exact hw) k47 k48 (by rw [hqs, eG]; exact hadd')
          refine ⟨m', sm_ft f2 d1, d2, ?_⟩
          rcases d3 with ⟨q', n', A', G', y0, y2, y3⟩ | y
          · exact Or.inl ⟨q', n', A', G', y0, sq_x_t hx y2, y3⟩
          · exact Or.inr y
        · have e17 : n1 = 17 := by omega
          subst e17
          have h11 : m2.1 35 11 = nI 17 := by rw [(kf 35 rfl).1]; exact x1.1
          refine ⟨m2, f2, ?_, Or.inr ⟨h11, af_17 x2 x3 (by decide)⟩⟩
          obtain ⟨fv, rfl⟩ : ∃ g, fu = g + 1 := ⟨fu - 1, by omega⟩
          rw [mm_goFrom_l24, h9, h11]
          by_cases z : nI cnt ≤ nI (i + 1)
          · rw [if_pos z]
          · rw [if_neg z, if_pos (by decide)]
      by_cases g : au_j U (w i) (q s).2 = U.1
      · rw [if_pos g] at fin
        simp only [xs_m, g, not_true, if_false]
        have v48 : (xw_i m1 47 (16 * s + l) (nI (A ||| 2 ^ j))).1 48 (16 * s + l) = nI G := by rw [xi_k (by decide), g48]
        rw [v48, nb_or]
        exact fin _ _ rfl (by rw [xi_k (by decide), xi_s]) xi_s (xf_t (xf_i rfl) (xf_i rfl)) (fun j hj => ⟨by rw [xi_k (by decide), xi_j hj], by rw [xi_j hj, xi_k (by decide)]⟩)
      · rw [if_neg g] at fin
        simp only [xs_m, g, not_false_iff, if_true]
        have v48 : (xw_i m1 47 (16 * s + l) (nI (A ||| 2 ^ j))).1 48 (16 * s + l) = nI G := by rw [xi_k (by decide), g48]
        rw [v48]
        exact fin _ _ rfl (by rw [xi_k (by decide), xi_s]) xi_s (xf_t (xf_i rfl) (xf_i rfl)) (fun j hj => ⟨by rw [xi_k (by decide), xi_j hj], by rw [xi_j hj, xi_k (by decide)]⟩)
    have hL0 : al_M T U f q n m := ⟨⟨a1, a2, a3⟩, l2, l3, l4, l5⟩
    rcases so_m (F := F) hF (show as_M q n m from ⟨a1, a2, a3⟩) hn ht with ⟨j, j1, j2, j3⟩ | ⟨j1, m1, j3, j4, j5, j6⟩
    · rw [j3]
      simp only [xc_s]
      exact go n j q m j1 j2 ⟨Nat.le_refl _, fun _ _ => rfl⟩ hL0 sm_f0 h47 h48 hS
    · rw [j3]
      simp only [xc_s]
      refine go (n + 1) n (sq_u q n (au_t U (q s) (w i))) m1 (by omega) sq_n ⟨by omega, fun k hk => sq_o (by omega)⟩ ⟨j4, sq_i_u l2 j1, fun k hk => ?_, by rw [j6 17 (by decide), l4], fun k hk => by rw [(j5 49 rfl).1]; exact l5 k hk⟩ ⟨xf_s rfl j5, j6, fun k hk => ⟨by rw [(j5 47 rfl).1], by rw [(j5 48 rfl).1]⟩⟩ (by rw [(j5 47 rfl).1, h47]) (by rw [(j5 48 rfl).1, h48]) (sp_grow hS j1)
      by_cases e : k = n
      · rw [e, sq_n]; exact hreach
      · rw [sq_o e]; exact l3 k (by omega)
