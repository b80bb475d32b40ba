/-! The reference: steps from one state by one letter, the whole. -/
theorem al_M_f {T : bo_T} {U : Nat × (Nat → Nat)} {f n : Nat} {q : Nat → Nat × Nat} {m m' : xm_S} (h : al_M T U f q n m) (h11 : m'.1 35 11 = m.1 35 11) (h17 : m'.1 35 17 = m.1 35 17) (h45 : m'.1 45 = m.1 45) (h46 : m'.1 46 = m.1 46) (h49 : m'.1 49 = m.1 49) : al_M T U f q n m' := by
  unfold al_M as_M at *
  rw [h11, h17, h45, h46, h49]
  exact h
theorem go_all {F s l f n cnt : Nat} {T : bo_T} {U : Nat × (Nat → Nat)} {q : Nat → Nat × Nat} {m : xm_S} (hF : 100 < F) (hU : U.1 ≤ 28) (hU2 : ∀ i, i < U.1 → U.2 i < 28) (hb : ∀ t, au_r T U f t → sq_b t ∧ t.2 ≤ U.1) (hl : l < 16) (hL : al_M T U f q n m) (hn : n ≤ 16) (hs : s < n) (hJ : jm_J (jp_w T l (q s).1 28) cnt m) :
    ∃ m' : xm_S, mm_goFrom F (nI s) (nI l) m = some m' ∧ sm_f (16 * s + l) m m' ∧ ((∃ (q' : Nat → Nat × Nat) (n' A G : Nat), n' ≤ 16 ∧ sq_x q n q' n' ∧ al_M T U f q' n' m' ∧ m'.1 47 (16 * s + l) = nI A ∧ m'.1 48 (16 * s + l) = nI G ∧ sp_W U q' n' (q' s) (jp_w T l (q s).1 28) A G) ∨ (m'.1 35 11 = nI 17 ∧ ¬ af_N T U f)) := by
  obtain ⟨e2, e3, e5⟩ := hJ
  have hp : 16 * s + l < 272 := by omega
  have hcl : (nI (16 * s + l)).toNatClampNeg = 16 * s + l := nI_clamp (by omega)
  have hg : ∀ {β : Type} {o : Option β}, xg_n (nI (16 * s + l)) 272 o = o := fun {β o} => xg_nI hp (by decide)
  have ei : ((16 : Int32) * nI s) + nI l = nI (16 * s + l) := by rw [show (16 : Int32) * nI s = nI (16 * s) from pk_mul 16 s, nI_add]
  unfold mm_goFrom
  rw [ei]
  simp only [hg, hcl, xs_m]
  have f2 : sm_f (16 * s + l) m (xw_i (xw_i m 47 (16 * s + l) 0) 48 (16 * s + l) 0) := ⟨xf_t (xf_i rfl) (xf_i rfl), fun j _ => by rw [xi_k (by decide), xi_k (by decide)], fun j hj => ⟨by rw [xi_k (by decide), xi_j hj], by rw [xi_j hj, xi_k (by decide)]⟩⟩
  obtain ⟨m2, k1, k2, k3⟩ := sm_24 (F := F) (s := s) (l := l) (cnt := cnt) (f := f) (T := T) (U := U) (w := m.2 43) (kk := fun (m1911 : xm_S) => some m1911) hF hU hU2 hb e3 hl (by omega) cnt 0 F n 0 0 q (xw_i (xw_i m 47 (16 * s + l) 0) 48 (16 * s + l) 0) (by omega) (by omega) (by rw [f2.2.1 9 (by decide), e2]) (fun j hj => rfl) (al_M_f hL (f2.2.1 11 |> fun _ => by rw [xi_k (by decide), xi_k (by decide)]) (by rw [xi_k (by decide), xi_k (by decide)]) (by rw [xi_k (by decide), xi_k (by decide)]) (by rw [xi_k (by decide), xi_k (by decide)]) (by rw [xi_k (by decide), xi_k (by decide)])) hn hs (fun j hj => (e5.2 _).mpr ⟨j, hj, rfl⟩) (by rw [xi_k (by decide), xi_s]; rfl) xi_s (sp_iff (fun x => ⟨fun h => h.elim, fun ⟨j, h, _⟩ => by omega⟩) sp_0)
  refine ⟨m2, k2, sm_ft f2 k1, ?_⟩
  rcases k3 with ⟨q', n', A, G, y0, y2, y3, y4, y5, y6⟩ | y
  · refine Or.inl ⟨q', n', A, G, y0, y2, y3, y4, y5, sp_iff (fun x => ?_) y6⟩
    rw [e5.2 x]
    exact ⟨fun ⟨j, h, e⟩ => ⟨j, h, e.symm⟩, fun ⟨j, h, e⟩ => ⟨j, h, e.symm⟩⟩
  · exact Or.inr y
