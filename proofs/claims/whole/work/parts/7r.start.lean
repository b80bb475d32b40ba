/-! The positions from the beginning on. -/
theorem cd_one {b : Nat} {P : Nat → Nat} (h0 : P 0 = 1) : ∀ n, 0 < n → (∀ t, 0 < t → t < n → P t = 0) → cd_n b P n = 1
  | 0, h, _ => by omega
  | 1, _, _ => by show 0 + P 0 * b ^ 0 = 1; rw [h0, Nat.pow_zero]
  | n + 2, _, h => by
    rw [cd_n, cd_one h0 (n + 1) (by omega) (fun t h1 h2 => h t h1 (by omega)), h (n + 1) (by omega) (by omega), Nat.zero_mul]
def gq_0 : Nat → Nat := fun t => if t = 0 then 1 else 0
theorem gq_00 : gm_raised (0 : Int64) (0 : Int32) (0 : Int32) = lN (cd_n 16 gq_0 16) := by decide +kernel
-- what the game leaves, on both sides
def gr_P (cnt : Nat) (E : Nat → Option Nat) : Prop := 0 < cnt ∧ cnt ≤ 100 ∧ ∀ j, j < 16 * cnt → ∀ v, E j = some v → v < cnt
def gr_C (cnt : Nat) (E : Nat → Option Nat) (m : xm_S) : Prop := m.1 26 2 = nI cnt ∧ ∀ j, j < 16 * cnt → m.1 28 j = eI (E j)
def gr_M (cnt : Nat) (E : Nat → Option Nat) (m : xm_S) : Prop := m.1 35 18 = nI cnt ∧ ∀ j, j < 16 * cnt → m.1 51 j = eI (E j)
theorem ge_all {F n b : Nat} {sg : Nat → Nat} {A G A' G' : Nat → Nat → Nat} {mc mm : xm_S} (hF : 1000 < F) (hD : ga_D sg n b A G A' G' mc mm) :
    (∃ mc' mm' : xm_S, gm_explore F (nI b) mc = some (0, mc') ∧ mm_game F (nI b) mm = some (0, mm') ∧ gk_18 mm mm') ∨
    ∃ (cnt : Nat) (E : Nat → Option Nat) (mc' mm' : xm_S), gm_explore F (nI b) mc = some (1, mc') ∧ mm_game F (nI b) mm = some (1, mm') ∧ gr_P cnt E ∧ gr_C cnt E mc' ∧ gr_M cnt E mm' ∧ gk_18 mm mm' := by
  unfold gm_explore mm_game
  rw [xg_0 (by decide) (by decide), gq_00, nz_0]
  simp only [xs_m]
  have hp := gp_M (F := F) (cnt := 0) (w := 1) (m := xw_i mm 35 18 (0 : Int32)) (Q := fun _ => False) hF (by decide) xi_s (fun p hp => by omega)
  rcases hp with ⟨p, p1, -⟩ | ⟨-, p2⟩
  · omega
  rw [p2]
  simp only [xc_s]
  have g0 : gk_18 mm (xw_i (xw_l (xw_i mm 35 18 (0 : Int32)) 50 0 1) 35 18 (nI (0 + 1))) := fun j hj => by rw [xi_j hj, xl_1, xi_j hj]
  obtain ⟨d1, d2, d3, d4, d5, d6, d7⟩ := hD
  have hd : ga_D sg n b A G A' G' (xw_i (xw_l mc 27 0 (lN (cd_n 16 gq_0 16))) 26 2 (1 : Int32)) (xw_i (xw_l (xw_i mm 35 18 (0 : Int32)) 50 0 1) 35 18 (nI (0 + 1))) :=
    ⟨d1, d2, d3, by rw [xi_k (by decide)]; exact d4, by rw [xi_j (by decide), xl_1, xi_j (by decide)]; exact d5, fun s l' h1 h2 => by rw [xi_k (by decide), xi_k (by decide), xi_k (by decide), xi_k (by decide), xl_1, xl_1, xi_k (by decide), xi_k (by decide)]; exact d6 s l' h1 h2, d7⟩
  have h := ge_out (F := F) (kC := fun (m825 : xm_S) => some ((1 : Int32), m825)) (kM := fun (m2050 : xm_S) => some ((1 : Int32), m2050)) hF 100 0 F F (fun _ => gq_0) 1 (fun _ => none) _ _ (by omega) (by omega) (by omega) hd ⟨⟨by decide, by decide⟩, xi_s, xi_s, fun p hp => by
    obtain rfl : p = 0 := by omega
    refine ⟨fun t => ?_, fun t ht => if_neg (by omega), ?_, ?_⟩
    · show (if t = 0 then 1 else 0) ≤ b + 1
      split <;> omega
    · rw [xi_2]; exact xl_s1
    · rw [xi_2, xl_s1, cd_one (P := fun t => gq_0 (sg t)) (by show gq_0 (sg 0) = 1; rw [d7.2.2.1]; rfl) n d2 (fun t h1 h2 => by
        show gq_0 (sg t) = 0
        exact if_neg (fun z => by
          have := d7.2.2.2.1 t 0 h2 d2 (by rw [z, d7.2.2.1])
          omega))]
      rfl, fun j hj => by omega⟩
  rcases h with ⟨mc', mm', t1, t2, t3⟩ | ⟨R', cnt', E', mc', mm', t1, t2, t3, t4⟩
  · exact Or.inl ⟨mc', mm', t1, t2, gk_t g0 t3⟩
  · obtain ⟨e1, e2, e3, e4, e5⟩ := t3
    exact Or.inr ⟨cnt', E', mc', mm', t1, t2, ⟨e1.1, e1.2, fun j hj => (e5 j hj).1⟩, ⟨e2, fun j hj => (e5 j hj).2.1⟩, ⟨e3, fun j hj => (e5 j hj).2.2⟩, gk_t g0 t4⟩
