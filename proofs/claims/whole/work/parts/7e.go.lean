/-! The reference: steps from one state by one letter. -/
def sm_f (p : Nat) (m m' : xm_S) : Prop := xf_r [35, 45, 46, 47, 48] m m' ∧ (∀ j, j ≠ 11 → m'.1 35 j = m.1 35 j) ∧ (∀ j, j ≠ p → m'.1 47 j = m.1 47 j ∧ m'.1 48 j = m.1 48 j)
theorem sm_f0 {p : Nat} {m : xm_S} : sm_f p m m := ⟨xf_0, fun _ _ => rfl, fun _ _ => ⟨rfl, rfl⟩⟩
theorem sm_ft {p : Nat} {a b c : xm_S} (h : sm_f p a b) (k : sm_f p b c) : sm_f p a c := ⟨xf_t h.1 k.1, fun j hj => (k.2.1 j hj).trans (h.2.1 j hj), fun j hj => ⟨(k.2.2 j hj).1.trans (h.2.2 j hj).1, (k.2.2 j hj).2.trans (h.2.2 j hj).2⟩⟩
def al_M (T : bo_T) (U : Nat × (Nat → Nat)) (f : Nat) (q : Nat → Nat × Nat) (n : Nat) (m : xm_S) : Prop := as_M q n m ∧ sq_i q n ∧ (∀ i, i < n → au_r T U f (q i)) ∧ m.1 35 17 = nI U.1 ∧ ∀ i, i < U.1 → m.1 49 i = nI (U.2 i)
theorem sm_24 {F s l cnt f : Nat} {T : bo_T} {U : Nat × (Nat → Nat)} {w : Nat → Int64} {kk : xm_S → Option xm_S} (hF : 100 < F) (hU : U.1 ≤ 28) (hU2 : ∀ i, i < U.1 → U.2 i < 28) (hb : ∀ t, au_r T U f t → sq_b t ∧ t.2 ≤ U.1) (hcnt : cnt ≤ 60) (hl : l < 16) (hs16 : s < 16) : ∀ (r i fu n A G : Nat) (q : Nat → Nat × Nat) (m : xm_S), i + r = cnt → r < fu → m.1 35 9 = nI cnt → (∀ j, j < cnt → m.2 43 j = w j) → al_M T U f q n m → n ≤ 16 → s < n → (∀ j, j < cnt → jp_w T l (q s).1 28 (w j)) → m.1 47 (16 * s + l) = nI A → m.1 48 (16 * s + l) = nI G → sp_W U q n (q s) (fun x => ∃ j, j < i ∧ x = w j) A G →
    ∃ m' : xm_S, sm_f (16 * s + l) m m' ∧ mm_goFrom_l24 F (nI s) (nI (16 * s + l)) kk fu (nI i) m = kk m' ∧ ((∃ (q' : Nat → Nat × Nat) (n' A' G' : Nat), n' ≤ 16 ∧ sq_x q n q' n' ∧ al_M T U f q' n' m' ∧ m'.1 47 (16 * s + l) = nI A' ∧ m'.1 48 (16 * s + l) = nI G' ∧ sp_W U q' n' (q' s) (fun x => ∃ j, j < cnt ∧ x = w j) A' G') ∨ (m'.1 35 11 = nI 17 ∧ ¬ af_N T U f)) := by
  intro r
  induction r with
  | zero =>
    intro i fu n A G q m hi hfu h1 h2 hL hn hs hw h47 h48 hS
    obtain ⟨fu, rfl⟩ : ∃ g, fu = g + 1 := ⟨fu - 1, by omega⟩
    obtain rfl : i = cnt := by omega
    refine ⟨m, sm_f0, ?_, Or.inl ⟨q, n, A, G, hn, ⟨Nat.le_refl _, fun _ _ => rfl⟩, hL, h47, h48, hS⟩⟩
    rw [mm_goFrom_l24, h1, if_pos (nI_le (Nat.le_refl _) (by omega))]
  | succ r ih =>
    intro i fu n A G q m hi hfu h1 h2 hL hn hs hw h47 h48 hS
    obtain ⟨fu, rfl⟩ : ∃ g, fu = g + 1 := ⟨fu - 1, by omega⟩
    obtain ⟨l1, l2, l3, l4, l5⟩ := hL
    obtain ⟨a1, a2, a3⟩ := l1
    obtain ⟨b1, b2⟩ := hb (q s) (l3 s hs)
    have hreach : au_r T U f (au_t U (q s) (w i)) := au_r_s (l3 s hs) hl (hw i (by omega))
    have ht := (hb _ hreach).1
    have hj28 := (au_t_lt (x := w i) b2).1
    have hp : 16 * s + l < 272 := by omega
    have hcl : (nI (16 * s + l)).toNatClampNeg = 16 * s + l := nI_clamp (by omega)
    have hg : ∀ {β : Type} {o : Option β}, xg_n (nI (16 * s + l)) 272 o = o := fun {β o} => xg_nI hp (by decide)
    rw [mm_goFrom_l24, h1, if_neg (nI_ge (by omega) (by omega)), a1, if_neg (show ¬ (16 : Int32) < nI n from nI_nlt (a := 16) hn (by decide)), xg_nI (show i < 61 by omega) (by decide), xg_nI (show i < 61 by omega) (by decide), nI_clamp (show i < 2 ^ 31 by omega), xg_nI (show s < 17 by omega) (by decide), nI_clamp (show s < 2 ^ 31 by omega), (a3 s hs).2.2, h2 i (by omega), fp_m hU hU2 l4 l5 (U.1 - (q s).2) (q s).2 F (by omega) (by omega)]
    simp only [xj_j, hg, hcl, nI_1, l4]
    have ej : fo_w (fun i_1 => wx_o (w i) (U.2 i_1)) (U.1 - (q s).2) (q s).2 = au_j U (w i) (q s).2 := rfl
    rw [ej]
    have vg : ((if nI (au_j U (w i) (q s).2) < nI U.1 then (0 : Int32) else (1 : Int32)) = 0) ↔ ¬ au_j U (w i) (q s).2 = U.1 := by
      by_cases g : au_j U (w i) (q s).2 = U.1
      · rw [g, if_neg (nI_nlt (Nat.le_refl _) (by omega))]; simp
      · rw [if_pos (nI_lt (by omega) (by omega))]; simp [g]
    have en : (if (if nI (au_j U (w i) (q s).2) < nI U.1 then (0 : Int32) else (1 : Int32)) = 0 then nI (au_j U (w i) (q s).2) else (0 : Int32)) = nI (au_t U (q s) (w i)).2 := by
      show _ = nI (if au_j U (w i) (q s).2 = U.1 then 0 else au_j U (w i) (q s).2)
      by_cases g : au_j U (w i) (q s).2 = U.1
      · rw [if_neg (fun z => vg.mp z g), if_pos g]; rfl
      · rw [if_pos (vg.mpr g), if_neg g]
    have es : ((w i) &&& (268435455 : Int64)).toInt32 = nI (au_t U (q s) (w i)).1 := lb_n (w i)
    rw [en, es]
    sorry
