/-! The tables are true of the program (written by program). -/
theorem xm_nth_big {α : Type} {d : α} : ∀ {k : Nat} {l : List α}, l.length ≤ k → xm_nth d k l = d
  | 0, [], _ => rfl
  | k + 1, [], _ => rfl
  | 0, _ :: _, h => absurd h (by simp)
  | k + 1, _ :: r, h => xm_nth_big (k := k) (l := r) (by simpa using h)
theorem xm_nn_big {α : Type} {d : α} {y : Nat} {l : List (List α)} (h : l.length ≤ y / 16) : xm_nn d y l = d := by
  unfold xm_nn
  rw [xm_nth_big h]
  exact xm_nth_big (Nat.zero_le _)
theorem xm_nn_all {α : Type} {p : α → Prop} {d : α} (hd : p d) {l : List (List α)} (hl : ∀ r ∈ l, ∀ x ∈ r, p x) (y : Nat) : p (xm_nn d y l) := by
  have hn : ∀ {β : Type} {e : β} {q : β → Prop}, q e → ∀ {k : Nat} {m : List β}, (∀ x ∈ m, q x) → q (xm_nth e k m) := by
    intro β e q he k m
    induction m generalizing k with
    | nil => intro _; cases k <;> exact he
    | cons a r ih =>
      intro h
      cases k with
      | zero => exact h a List.mem_cons_self
      | succ k => exact ih fun x hx => h x (List.mem_cons_of_mem _ hx)
  unfold xm_nn
  exact hn hd (hn (q := fun m => ∀ x ∈ m, p x) (fun x hx => by cases hx) hl)
def xm_pr1 (y : Nat) : Prop := (xm_yok (ng.1 y).cls (ng.2.1 y) ng.2.2.2 xm_vc (pg.1 y) ∧ ((pg.1 y).2.2.2.2.2 0 = 9 → (ng.1 y).name = "<init>")) ∧ xm_rt (pg.2.2.1 y) (ng.2.2.1 y) ∧ (∀ ix q, (pg.1 y).2.2.2.2.1 ix = some q → q = 1 ∧ Cond.fieldLink (ng.1 y).cls ix "MachineMaker$Book" "DUAL_KINDS" "[I" ∈ xm_tg) ∧ (∀ ix y' n kd ci, pg.2.2.2 y ix = some (y', n, kd, ci) → xm_cok pg ng xm_vc y ix y' n kd ci)
theorem xm_pr_e (y : Nat) (h1 : pg.1 y = xm_y0) (h2 : pg.2.2.1 y = 0) (h3 : ng.2.2.1 y = none) (h4 : ∀ ix, pg.2.2.2 y ix = none) : xm_pr1 y := by
  unfold xm_pr1
  rw [h1, h2, h3]
  refine ⟨⟨⟨?_, ?_, ?_, ?_, ?_, ?_, ?_, ?_⟩, ?_⟩, Or.inl ⟨rfl, rfl⟩, ?_, ?_⟩
  · intro _ _ h; cases h
  · intro _ _ h; cases h
  · intro _ _ h; cases h
  · intro _ _ _ _ h; cases h
  · intro _ _ _ h; cases h
  · intro _ h; cases h
  · intro _ h; cases h
  · intro _ h; cases h
  · intro h; cases h
  · intro _ _ h; cases h
  · intro ix _ _ _ _ h; rw [h4 ix] at h; cases h
theorem xm_pr_m (y : Nat) (own : String) (cc : ByteArray) (tb : List (Nat × List xm_I)) (kc : List (Nat × xm_V)) (kf : List (Nat × Nat × Nat × Nat)) (kn : List (Nat × Nat × List xm_F)) (ks : List (Nat × Nat)) (kx : List (Nat × Nat)) (kl : List (Nat × Nat × Nat × Nat × Nat)) (fx : Nat → Nat)
    (hY : pg.1 y = (fun pc => xm_tb pc tb, fun ix => xm_as ix kc, fun ix => xm_as ix kf, fun ix => xm_as ix kn, fun ix => xm_as ix ks, fx)) (ho : (ng.1 y).cls = own) (hc : ng.2.1 y = cc) (hL : ∀ ix, pg.2.2.2 y ix = xm_as ix kl)
    (hfx : ∀ ix, fx ix = 2 ∨ fx ix = 1 ∨ fx ix = 3 → (xm_as ix kx).getD 0 = fx ix) (hfi : fx 0 = 9 → (ng.1 y).name = "<init>") (hrt : xm_rt (pg.2.2.1 y) (ng.2.2.1 y))
    (hd : tb.all (fun q => q.2.all (xm_dcb cc)) = true) (h1 : ∀ e ∈ kc, ∀ v, e.2 = xv_i v → Jvm.Cond.constant own e.1 v ∈ xm_tg) (h2 : ∀ e ∈ kc, ∀ v, e.2 = xv_l v → Jvm.Cond.constantLong own e.1 v ∈ xm_tg)
    (h3 : ∀ e ∈ kf, xm_fok own xm_tg xm_vc e.1 e.2.1 e.2.2.1 e.2.2.2) (h4 : ∀ e ∈ kn, xm_nok own xm_tg xm_vc e.1 e.2.1 e.2.2) (h5 : ∀ e ∈ ks, e.2 = 1 ∧ Cond.fieldLink own e.1 "MachineMaker$Book" "DUAL_KINDS" "[I" ∈ xm_tg)
    (h6 : ∀ e ∈ kx, (e.2 = 2 → Cond.methodLink own e.1 objectInit ∈ xm_tg) ∧ (e.2 = 1 → Cond.methodLink own e.1 arraycopyName ∈ xm_tg) ∧ (e.2 = 3 → Cond.methodLink own e.1 Lib.Math.min.name ∈ xm_tg)) (h7 : ∀ e ∈ kl, xm_cow pg ng xm_vc own e.1 e.2.1 e.2.2.1 e.2.2.2.1 e.2.2.2.2) : xm_pr1 y := by
  have hx : ∀ ix t, fx ix = t → (t = 2 ∨ t = 1 ∨ t = 3) → (ix, t) ∈ kx := fun ix t ht h12 => by
    have h := hfx ix (by rw [ht]; exact h12)
    rw [ht] at h
    cases hk : xm_as ix kx with
    | none => rw [hk] at h; subst h; rcases h12 with q | q | q <;> cases q
    | some v => rw [hk] at h; have h : v = t := h; subst h; exact xm_as_mem hk
  unfold xm_pr1
  rw [hY]
  refine ⟨⟨⟨?_, ?_, ?_, ?_, ?_, ?_, ?_, ?_⟩, hfi⟩, hrt, ?_, ?_⟩
  · intro pc i h; rw [hc]; exact xm_dec_all hd pc i h
  · intro ix v h; rw [ho]; exact h1 _ (xm_as_mem h) v rfl
  · intro ix v h; rw [ho]; exact h2 _ (xm_as_mem h) v rfl
  · intro ix ci j t h; rw [ho]; exact h3 _ (xm_as_mem h)
  · intro ix ci fs h; rw [ho]; exact h4 _ (xm_as_mem h)
  · intro ix h; rw [ho]; exact (h6 _ (hx ix 2 h (Or.inl rfl))).1 rfl
  · intro ix h; rw [ho]; exact (h6 _ (hx ix 1 h (Or.inr (Or.inl rfl)))).2.1 rfl
  · intro ix h; rw [ho]; exact (h6 _ (hx ix 3 h (Or.inr (Or.inr rfl)))).2.2 rfl
  · intro ix q h; rw [ho]; exact h5 _ (xm_as_mem h)
  · intro ix y' n kd ci h
    rw [hL] at h
    have q := h7 _ (xm_as_mem h)
    unfold xm_cow at q
    unfold xm_cok
    rw [ho]
    exact q
set_option maxRecDepth 20000 in
theorem pm_0 : xm_pr1 0 := xm_pr_m 0 "MachineMakerLaw" code tb_0 kc_8 kf_8 kn_8 ks_8 kx_8 kl_8 _ rfl rfl rfl (fun _ => rfl) (fun _ _ => rfl) (fun h => by cases h) (Or.inr (Or.inr (Or.inr (Or.inr ⟨rfl, rfl⟩)))) dc_0 ki_8 kj_8 kg_8 kp_8 kt_8 kx_8_ok km_8
set_option maxRecDepth 20000 in
theorem pm_1 : xm_pr1 1 := xm_pr_m 1 "MachineMaker" prog_1_method_1_code tb_1 kc_0 kf_0 kn_0 ks_0 kx_0 kl_0 _ rfl rfl rfl (fun _ => rfl) (fun ix h => by cases ix with | zero => rcases h with q | q | q <;> cases q | succ ix => rfl) (fun _ => rfl) (Or.inl ⟨rfl, rfl⟩) dc_1 ki_0 kj_0 kg_0 kp_0 kt_0 kx_0_ok km_0
set_option maxRecDepth 20000 in
theorem pm_2 : xm_pr1 2 := xm_pr_m 2 "MachineMaker$Book" prog_3_method_1_code tb_2 kc_2 kf_2 kn_2 ks_2 kx_2 kl_2 _ rfl rfl rfl (fun _ => rfl) (fun ix h => by cases ix with | zero => rcases h with q | q | q <;> cases q | succ ix => rfl) (fun _ => rfl) (Or.inl ⟨rfl, rfl⟩) dc_2 ki_2 kj_2 kg_2 kp_2 kt_2 kx_2_ok km_2
set_option maxRecDepth 20000 in
theorem pm_3 : xm_pr1 3 := xm_pr_m 3 "java/util/Arrays" prog_14_method_103_code tb_3 kc_11 kf_11 kn_11 ks_11 kx_11 kl_11 _ rfl rfl rfl (fun _ => rfl) (fun _ _ => rfl) (fun h => by cases h) (Or.inl ⟨rfl, rfl⟩) dc_3 ki_11 kj_11 kg_11 kp_11 kt_11 kx_11_ok km_11
set_option maxRecDepth 20000 in
theorem pm_4 : xm_pr1 4 := xm_pr_m 4 "MachineMaker$Word" prog_8_method_1_code tb_4 kc_7 kf_7 kn_7 ks_7 kx_7 kl_7 _ rfl rfl rfl (fun _ => rfl) (fun ix h => by cases ix with | zero => rcases h with q | q | q <;> cases q | succ ix => rfl) (fun _ => rfl) (Or.inl ⟨rfl, rfl⟩) dc_4 ki_7 kj_7 kg_7 kp_7 kt_7 kx_7_ok km_7
set_option maxRecDepth 20000 in
theorem pm_5 : xm_pr1 5 := xm_pr_m 5 "MachineMaker$WayTable" prog_6_method_1_code tb_5 kc_5 kf_5 kn_5 ks_5 kx_5 kl_5 _ rfl rfl rfl (fun _ => rfl) (fun ix h => by cases ix with | zero => rcases h with q | q | q <;> cases q | succ ix => rfl) (fun _ => rfl) (Or.inl ⟨rfl, rfl⟩) dc_5 ki_5 kj_5 kg_5 kp_5 kt_5 kx_5_ok km_5
set_option maxRecDepth 20000 in
theorem pm_6 : xm_pr1 6 := xm_pr_m 6 "MachineMaker$WaySet" prog_5_method_1_code tb_6 kc_4 kf_4 kn_4 ks_4 kx_4 kl_4 _ rfl rfl rfl (fun _ => rfl) (fun ix h => by cases ix with | zero => rcases h with q | q | q <;> cases q | succ ix => rfl) (fun _ => rfl) (Or.inl ⟨rfl, rfl⟩) dc_6 ki_4 kj_4 kg_4 kp_4 kt_4 kx_4_ok km_4
set_option maxRecDepth 20000 in
theorem pm_7 : xm_pr1 7 := xm_pr_m 7 "MachineMaker$Automaton" prog_2_method_1_code tb_7 kc_1 kf_1 kn_1 ks_1 kx_1 kl_1 _ rfl rfl rfl (fun _ => rfl) (fun ix h => by cases ix with | zero => rcases h with q | q | q <;> cases q | succ ix => rfl) (fun _ => rfl) (Or.inl ⟨rfl, rfl⟩) dc_7 ki_1 kj_1 kg_1 kp_1 kt_1 kx_1_ok km_1
set_option maxRecDepth 20000 in
theorem pm_8 : xm_pr1 8 := xm_pr_m 8 "MachineMaker$Game" prog_4_method_1_code tb_8 kc_3 kf_3 kn_3 ks_3 kx_3 kl_3 _ rfl rfl rfl (fun _ => rfl) (fun ix h => by cases ix with | zero => rcases h with q | q | q <;> cases q | succ ix => rfl) (fun _ => rfl) (Or.inl ⟨rfl, rfl⟩) dc_8 ki_3 kj_3 kg_3 kp_3 kt_3 kx_3_ok km_3
set_option maxRecDepth 20000 in
theorem pm_9 : xm_pr1 9 := xm_pr_m 9 "MachineMaker$Winner" prog_7_method_1_code tb_9 kc_6 kf_6 kn_6 ks_6 kx_6 kl_6 _ rfl rfl rfl (fun _ => rfl) (fun ix h => by cases ix with | zero => rcases h with q | q | q <;> cases q | succ ix => rfl) (fun _ => rfl) (Or.inl ⟨rfl, rfl⟩) dc_9 ki_6 kj_6 kg_6 kp_6 kt_6 kx_6_ok km_6
set_option maxRecDepth 20000 in
theorem pm_10 : xm_pr1 10 := xm_pr_m 10 "MachineMaker" prog_1_method_2_code tb_10 kc_0 kf_0 kn_0 ks_0 kx_0 kl_0 _ rfl rfl rfl (fun _ => rfl) (fun _ _ => rfl) (fun h => by cases h) (Or.inr (Or.inl ⟨rfl, rfl⟩)) dc_10 ki_0 kj_0 kg_0 kp_0 kt_0 kx_0_ok km_0
set_option maxRecDepth 20000 in
theorem pm_11 : xm_pr1 11 := xm_pr_m 11 "MachineMaker$Book" prog_3_method_7_code tb_11 kc_2 kf_2 kn_2 ks_2 kx_2 kl_2 _ rfl rfl rfl (fun _ => rfl) (fun _ _ => rfl) (fun h => by cases h) (Or.inr (Or.inr (Or.inr (Or.inr ⟨rfl, rfl⟩)))) dc_11 ki_2 kj_2 kg_2 kp_2 kt_2 kx_2_ok km_2
set_option maxRecDepth 20000 in
theorem pm_12 : xm_pr1 12 := xm_pr_m 12 "MachineMaker$Book" prog_3_method_2_code tb_12 kc_2 kf_2 kn_2 ks_2 kx_2 kl_2 _ rfl rfl rfl (fun _ => rfl) (fun _ _ => rfl) (fun h => by cases h) (Or.inr (Or.inr (Or.inr (Or.inr ⟨rfl, rfl⟩)))) dc_12 ki_2 kj_2 kg_2 kp_2 kt_2 kx_2_ok km_2
set_option maxRecDepth 20000 in
theorem pm_13 : xm_pr1 13 := xm_pr_m 13 "MachineMaker$Book" prog_3_method_3_code tb_13 kc_2 kf_2 kn_2 ks_2 kx_2 kl_2 _ rfl rfl rfl (fun _ => rfl) (fun _ _ => rfl) (fun h => by cases h) (Or.inr (Or.inr (Or.inr (Or.inr ⟨rfl, rfl⟩)))) dc_13 ki_2 kj_2 kg_2 kp_2 kt_2 kx_2_ok km_2
set_option maxRecDepth 20000 in
theorem pm_14 : xm_pr1 14 := xm_pr_m 14 "MachineMaker$Book" prog_3_method_5_code tb_14 kc_2 kf_2 kn_2 ks_2 kx_2 kl_2 _ rfl rfl rfl (fun _ => rfl) (fun _ _ => rfl) (fun h => by cases h) (Or.inr (Or.inr (Or.inr (Or.inr ⟨rfl, rfl⟩)))) dc_14 ki_2 kj_2 kg_2 kp_2 kt_2 kx_2_ok km_2
set_option maxRecDepth 20000 in
theorem pm_15 : xm_pr1 15 := xm_pr_m 15 "MachineMaker$Book" prog_3_method_6_code tb_15 kc_2 kf_2 kn_2 ks_2 kx_2 kl_2 _ rfl rfl rfl (fun _ => rfl) (fun _ _ => rfl) (fun h => by cases h) (Or.inr (Or.inr (Or.inr (Or.inr ⟨rfl, rfl⟩)))) dc_15 ki_2 kj_2 kg_2 kp_2 kt_2 kx_2_ok km_2
set_option maxRecDepth 20000 in
theorem pm_16 : xm_pr1 16 := xm_pr_m 16 "MachineMaker$Book" prog_3_method_8_code tb_16 kc_2 kf_2 kn_2 ks_2 kx_2 kl_2 _ rfl rfl rfl (fun _ => rfl) (fun _ _ => rfl) (fun h => by cases h) (Or.inr (Or.inl ⟨rfl, rfl⟩)) dc_16 ki_2 kj_2 kg_2 kp_2 kt_2 kx_2_ok km_2
set_option maxRecDepth 20000 in
theorem pm_17 : xm_pr1 17 := xm_pr_m 17 "MachineMaker$Book" prog_3_method_4_code tb_17 kc_2 kf_2 kn_2 ks_2 kx_2 kl_2 _ rfl rfl rfl (fun _ => rfl) (fun _ _ => rfl) (fun h => by cases h) (Or.inr (Or.inr (Or.inr (Or.inr ⟨rfl, rfl⟩)))) dc_17 ki_2 kj_2 kg_2 kp_2 kt_2 kx_2_ok km_2
set_option maxRecDepth 20000 in
theorem pm_18 : xm_pr1 18 := xm_pr_m 18 "MachineMaker" prog_1_method_3_code tb_18 kc_0 kf_0 kn_0 ks_0 kx_0 kl_0 _ rfl rfl rfl (fun _ => rfl) (fun _ _ => rfl) (fun h => by cases h) (Or.inr (Or.inl ⟨rfl, rfl⟩)) dc_18 ki_0 kj_0 kg_0 kp_0 kt_0 kx_0_ok km_0
set_option maxRecDepth 20000 in
theorem pm_19 : xm_pr1 19 := xm_pr_m 19 "MachineMaker$Book" prog_3_method_9_code tb_19 kc_2 kf_2 kn_2 ks_2 kx_2 kl_2 _ rfl rfl rfl (fun _ => rfl) (fun _ _ => rfl) (fun h => by cases h) (Or.inr (Or.inl ⟨rfl, rfl⟩)) dc_19 ki_2 kj_2 kg_2 kp_2 kt_2 kx_2_ok km_2
set_option maxRecDepth 20000 in
theorem pm_20 : xm_pr1 20 := xm_pr_m 20 "MachineMaker" prog_1_method_4_code tb_20 kc_0 kf_0 kn_0 ks_0 kx_0 kl_0 _ rfl rfl rfl (fun _ => rfl) (fun _ _ => rfl) (fun h => by cases h) (Or.inr (Or.inl ⟨rfl, rfl⟩)) dc_20 ki_0 kj_0 kg_0 kp_0 kt_0 kx_0_ok km_0
set_option maxRecDepth 20000 in
theorem pm_21 : xm_pr1 21 := xm_pr_m 21 "MachineMaker" prog_1_method_5_code tb_21 kc_0 kf_0 kn_0 ks_0 kx_0 kl_0 _ rfl rfl rfl (fun _ => rfl) (fun _ _ => rfl) (fun h => by cases h) (Or.inr (Or.inl ⟨rfl, rfl⟩)) dc_21 ki_0 kj_0 kg_0 kp_0 kt_0 kx_0_ok km_0
set_option maxRecDepth 20000 in
theorem pm_22 : xm_pr1 22 := xm_pr_m 22 "MachineMaker$Word" prog_8_method_2_code tb_22 kc_7 kf_7 kn_7 ks_7 kx_7 kl_7 _ rfl rfl rfl (fun _ => rfl) (fun _ _ => rfl) (fun h => by cases h) (Or.inl ⟨rfl, rfl⟩) dc_22 ki_7 kj_7 kg_7 kp_7 kt_7 kx_7_ok km_7
set_option maxRecDepth 20000 in
theorem pm_23 : xm_pr1 23 := xm_pr_m 23 "MachineMaker$Word" prog_8_method_3_code tb_23 kc_7 kf_7 kn_7 ks_7 kx_7 kl_7 _ rfl rfl rfl (fun _ => rfl) (fun _ _ => rfl) (fun h => by cases h) (Or.inr (Or.inr (Or.inr (Or.inr ⟨rfl, rfl⟩)))) dc_23 ki_7 kj_7 kg_7 kp_7 kt_7 kx_7_ok km_7
set_option maxRecDepth 20000 in
theorem pm_24 : xm_pr1 24 := xm_pr_m 24 "MachineMaker$Book" prog_3_method_10_code tb_24 kc_2 kf_2 kn_2 ks_2 kx_2 kl_2 _ rfl rfl rfl (fun _ => rfl) (fun _ _ => rfl) (fun h => by cases h) (Or.inr (Or.inr (Or.inr (Or.inr ⟨rfl, rfl⟩)))) dc_24 ki_2 kj_2 kg_2 kp_2 kt_2 kx_2_ok km_2
set_option maxRecDepth 20000 in
theorem pm_25 : xm_pr1 25 := xm_pr_m 25 "MachineMaker$Word" prog_8_method_4_code tb_25 kc_7 kf_7 kn_7 ks_7 kx_7 kl_7 _ rfl rfl rfl (fun _ => rfl) (fun _ _ => rfl) (fun h => by cases h) (Or.inr (Or.inl ⟨rfl, rfl⟩)) dc_25 ki_7 kj_7 kg_7 kp_7 kt_7 kx_7_ok km_7
set_option maxRecDepth 20000 in
theorem pm_26 : xm_pr1 26 := xm_pr_m 26 "MachineMaker$Word" prog_8_method_5_code tb_26 kc_7 kf_7 kn_7 ks_7 kx_7 kl_7 _ rfl rfl rfl (fun _ => rfl) (fun _ _ => rfl) (fun h => by cases h) (Or.inr (Or.inl ⟨rfl, rfl⟩)) dc_26 ki_7 kj_7 kg_7 kp_7 kt_7 kx_7_ok km_7
set_option maxRecDepth 20000 in
theorem pm_27 : xm_pr1 27 := xm_pr_m 27 "MachineMaker$Word" prog_8_method_6_code tb_27 kc_7 kf_7 kn_7 ks_7 kx_7 kl_7 _ rfl rfl rfl (fun _ => rfl) (fun _ _ => rfl) (fun h => by cases h) (Or.inr (Or.inl ⟨rfl, rfl⟩)) dc_27 ki_7 kj_7 kg_7 kp_7 kt_7 kx_7_ok km_7
set_option maxRecDepth 20000 in
theorem pm_28 : xm_pr1 28 := xm_pr_m 28 "MachineMaker$Word" prog_8_method_7_code tb_28 kc_7 kf_7 kn_7 ks_7 kx_7 kl_7 _ rfl rfl rfl (fun _ => rfl) (fun _ _ => rfl) (fun h => by cases h) (Or.inr (Or.inl ⟨rfl, rfl⟩)) dc_28 ki_7 kj_7 kg_7 kp_7 kt_7 kx_7_ok km_7
set_option maxRecDepth 20000 in
theorem pm_29 : xm_pr1 29 := xm_pr_m 29 "MachineMaker$Word" prog_8_method_8_code tb_29 kc_7 kf_7 kn_7 ks_7 kx_7 kl_7 _ rfl rfl rfl (fun _ => rfl) (fun _ _ => rfl) (fun h => by cases h) (Or.inr (Or.inl ⟨rfl, rfl⟩)) dc_29 ki_7 kj_7 kg_7 kp_7 kt_7 kx_7_ok km_7
set_option maxRecDepth 20000 in
theorem pm_30 : xm_pr1 30 := xm_pr_m 30 "MachineMaker$Word" prog_8_method_9_code tb_30 kc_7 kf_7 kn_7 ks_7 kx_7 kl_7 _ rfl rfl rfl (fun _ => rfl) (fun _ _ => rfl) (fun h => by cases h) (Or.inr (Or.inl ⟨rfl, rfl⟩)) dc_30 ki_7 kj_7 kg_7 kp_7 kt_7 kx_7_ok km_7
set_option maxRecDepth 20000 in
theorem pm_31 : xm_pr1 31 := xm_pr_m 31 "MachineMaker" prog_1_method_6_code tb_31 kc_0 kf_0 kn_0 ks_0 kx_0 kl_0 _ rfl rfl rfl (fun _ => rfl) (fun _ _ => rfl) (fun h => by cases h) (Or.inr (Or.inl ⟨rfl, rfl⟩)) dc_31 ki_0 kj_0 kg_0 kp_0 kt_0 kx_0_ok km_0
set_option maxRecDepth 20000 in
theorem pm_32 : xm_pr1 32 := xm_pr_m 32 "MachineMaker$WayTable" prog_6_method_4_code tb_32 kc_5 kf_5 kn_5 ks_5 kx_5 kl_5 _ rfl rfl rfl (fun _ => rfl) (fun _ _ => rfl) (fun h => by cases h) (Or.inr (Or.inr (Or.inr (Or.inr ⟨rfl, rfl⟩)))) dc_32 ki_5 kj_5 kg_5 kp_5 kt_5 kx_5_ok km_5
set_option maxRecDepth 20000 in
theorem pm_33 : xm_pr1 33 := xm_pr_m 33 "MachineMaker$WayTable" prog_6_method_2_code tb_33 kc_5 kf_5 kn_5 ks_5 kx_5 kl_5 _ rfl rfl rfl (fun _ => rfl) (fun _ _ => rfl) (fun h => by cases h) (Or.inr (Or.inl ⟨rfl, rfl⟩)) dc_33 ki_5 kj_5 kg_5 kp_5 kt_5 kx_5_ok km_5
set_option maxRecDepth 20000 in
theorem pm_34 : xm_pr1 34 := xm_pr_m 34 "MachineMaker$WayTable" prog_6_method_6_code tb_34 kc_5 kf_5 kn_5 ks_5 kx_5 kl_5 _ rfl rfl rfl (fun _ => rfl) (fun _ _ => rfl) (fun h => by cases h) (Or.inl ⟨rfl, rfl⟩) dc_34 ki_5 kj_5 kg_5 kp_5 kt_5 kx_5_ok km_5
set_option maxRecDepth 20000 in
theorem pm_35 : xm_pr1 35 := xm_pr_m 35 "MachineMaker$WaySet" prog_5_method_2_code tb_35 kc_4 kf_4 kn_4 ks_4 kx_4 kl_4 _ rfl rfl rfl (fun _ => rfl) (fun _ _ => rfl) (fun h => by cases h) (Or.inl ⟨rfl, rfl⟩) dc_35 ki_4 kj_4 kg_4 kp_4 kt_4 kx_4_ok km_4
set_option maxRecDepth 20000 in
theorem pm_36 : xm_pr1 36 := xm_pr_m 36 "MachineMaker$WaySet" prog_5_method_3_code tb_36 kc_4 kf_4 kn_4 ks_4 kx_4 kl_4 _ rfl rfl rfl (fun _ => rfl) (fun _ _ => rfl) (fun h => by cases h) (Or.inl ⟨rfl, rfl⟩) dc_36 ki_4 kj_4 kg_4 kp_4 kt_4 kx_4_ok km_4
set_option maxRecDepth 20000 in
theorem pm_37 : xm_pr1 37 := xm_pr_m 37 "MachineMaker$WayTable" prog_6_method_7_code tb_37 kc_5 kf_5 kn_5 ks_5 kx_5 kl_5 _ rfl rfl rfl (fun _ => rfl) (fun _ _ => rfl) (fun h => by cases h) (Or.inl ⟨rfl, rfl⟩) dc_37 ki_5 kj_5 kg_5 kp_5 kt_5 kx_5_ok km_5
set_option maxRecDepth 20000 in
theorem pm_38 : xm_pr1 38 := xm_pr_m 38 "MachineMaker$WayTable" prog_6_method_8_code tb_38 kc_5 kf_5 kn_5 ks_5 kx_5 kl_5 _ rfl rfl rfl (fun _ => rfl) (fun _ _ => rfl) (fun h => by cases h) (Or.inl ⟨rfl, rfl⟩) dc_38 ki_5 kj_5 kg_5 kp_5 kt_5 kx_5_ok km_5
set_option maxRecDepth 20000 in
theorem pm_39 : xm_pr1 39 := xm_pr_m 39 "MachineMaker$WaySet" prog_5_method_4_code tb_39 kc_4 kf_4 kn_4 ks_4 kx_4 kl_4 _ rfl rfl rfl (fun _ => rfl) (fun _ _ => rfl) (fun h => by cases h) (Or.inr (Or.inr (Or.inl ⟨rfl, rfl⟩))) dc_39 ki_4 kj_4 kg_4 kp_4 kt_4 kx_4_ok km_4
set_option maxRecDepth 20000 in
theorem pm_40 : xm_pr1 40 := xm_pr_m 40 "MachineMaker$WaySet" prog_5_method_5_code tb_40 kc_4 kf_4 kn_4 ks_4 kx_4 kl_4 _ rfl rfl rfl (fun _ => rfl) (fun _ _ => rfl) (fun h => by cases h) (Or.inr (Or.inr (Or.inl ⟨rfl, rfl⟩))) dc_40 ki_4 kj_4 kg_4 kp_4 kt_4 kx_4_ok km_4
set_option maxRecDepth 20000 in
theorem pm_41 : xm_pr1 41 := xm_pr_m 41 "MachineMaker$WayTable" prog_6_method_5_code tb_41 kc_5 kf_5 kn_5 ks_5 kx_5 kl_5 _ rfl rfl rfl (fun _ => rfl) (fun _ _ => rfl) (fun h => by cases h) (Or.inl ⟨rfl, rfl⟩) dc_41 ki_5 kj_5 kg_5 kp_5 kt_5 kx_5_ok km_5
set_option maxRecDepth 20000 in
theorem pm_42 : xm_pr1 42 := xm_pr_m 42 "java/util/Arrays" prog_14_method_124_code tb_42 kc_11 kf_11 kn_11 ks_11 kx_11 kl_11 _ rfl rfl rfl (fun _ => rfl) (fun _ _ => rfl) (fun h => by cases h) (Or.inr (Or.inr (Or.inr (Or.inl ⟨rfl, Or.inr ⟨_, rfl⟩⟩)))) dc_42 ki_11 kj_11 kg_11 kp_11 kt_11 kx_11_ok km_11
set_option maxRecDepth 20000 in
theorem pm_43 : xm_pr1 43 := xm_pr_m 43 "java/lang/Math" prog_12_method_69_code tb_43 kc_10 kf_10 kn_10 ks_10 kx_10 kl_10 _ rfl rfl rfl (fun _ => rfl) (fun _ _ => rfl) (fun h => by cases h) (Or.inr (Or.inl ⟨rfl, rfl⟩)) dc_43 ki_10 kj_10 kg_10 kp_10 kt_10 kx_10_ok km_10
set_option maxRecDepth 20000 in
theorem pm_44 : xm_pr1 44 := xm_pr_m 44 "MachineMaker$WayTable" prog_6_method_3_code tb_44 kc_5 kf_5 kn_5 ks_5 kx_5 kl_5 _ rfl rfl rfl (fun _ => rfl) (fun _ _ => rfl) (fun h => by cases h) (Or.inr (Or.inl ⟨rfl, rfl⟩)) dc_44 ki_5 kj_5 kg_5 kp_5 kt_5 kx_5_ok km_5
set_option maxRecDepth 20000 in
theorem pm_45 : xm_pr1 45 := xm_pr_m 45 "MachineMaker" prog_1_method_7_code tb_45 kc_0 kf_0 kn_0 ks_0 kx_0 kl_0 _ rfl rfl rfl (fun _ => rfl) (fun _ _ => rfl) (fun h => by cases h) (Or.inr (Or.inl ⟨rfl, rfl⟩)) dc_45 ki_0 kj_0 kg_0 kp_0 kt_0 kx_0_ok km_0
set_option maxRecDepth 20000 in
theorem pm_46 : xm_pr1 46 := xm_pr_m 46 "MachineMaker$Automaton" prog_2_method_2_code tb_46 kc_1 kf_1 kn_1 ks_1 kx_1 kl_1 _ rfl rfl rfl (fun _ => rfl) (fun _ _ => rfl) (fun h => by cases h) (Or.inr (Or.inr (Or.inr (Or.inr ⟨rfl, rfl⟩)))) dc_46 ki_1 kj_1 kg_1 kp_1 kt_1 kx_1_ok km_1
set_option maxRecDepth 20000 in
theorem pm_47 : xm_pr1 47 := xm_pr_m 47 "MachineMaker$Automaton" prog_2_method_3_code tb_47 kc_1 kf_1 kn_1 ks_1 kx_1 kl_1 _ rfl rfl rfl (fun _ => rfl) (fun _ _ => rfl) (fun h => by cases h) (Or.inl ⟨rfl, rfl⟩) dc_47 ki_1 kj_1 kg_1 kp_1 kt_1 kx_1_ok km_1
set_option maxRecDepth 20000 in
theorem pm_48 : xm_pr1 48 := xm_pr_m 48 "MachineMaker$Automaton" prog_2_method_4_code tb_48 kc_1 kf_1 kn_1 ks_1 kx_1 kl_1 _ rfl rfl rfl (fun _ => rfl) (fun _ _ => rfl) (fun h => by cases h) (Or.inr (Or.inr (Or.inr (Or.inr ⟨rfl, rfl⟩)))) dc_48 ki_1 kj_1 kg_1 kp_1 kt_1 kx_1_ok km_1
set_option maxRecDepth 20000 in
theorem pm_49 : xm_pr1 49 := xm_pr_m 49 "MachineMaker$WayTable" prog_6_method_9_code tb_49 kc_5 kf_5 kn_5 ks_5 kx_5 kl_5 _ rfl rfl rfl (fun _ => rfl) (fun _ _ => rfl) (fun h => by cases h) (Or.inr (Or.inr (Or.inr (Or.inl ⟨rfl, Or.inl ⟨_, rfl⟩⟩)))) dc_49 ki_5 kj_5 kg_5 kp_5 kt_5 kx_5_ok km_5
set_option maxRecDepth 20000 in
theorem pm_50 : xm_pr1 50 := xm_pr_m 50 "MachineMaker$WaySet" prog_5_method_7_code tb_50 kc_4 kf_4 kn_4 ks_4 kx_4 kl_4 _ rfl rfl rfl (fun _ => rfl) (fun _ _ => rfl) (fun h => by cases h) (Or.inr (Or.inl ⟨rfl, rfl⟩)) dc_50 ki_4 kj_4 kg_4 kp_4 kt_4 kx_4_ok km_4
set_option maxRecDepth 20000 in
theorem pm_51 : xm_pr1 51 := xm_pr_m 51 "MachineMaker$Automaton" prog_2_method_5_code tb_51 kc_1 kf_1 kn_1 ks_1 kx_1 kl_1 _ rfl rfl rfl (fun _ => rfl) (fun _ _ => rfl) (fun h => by cases h) (Or.inr (Or.inl ⟨rfl, rfl⟩)) dc_51 ki_1 kj_1 kg_1 kp_1 kt_1 kx_1_ok km_1
set_option maxRecDepth 20000 in
theorem pm_52 : xm_pr1 52 := xm_pr_m 52 "MachineMaker$WaySet" prog_5_method_6_code tb_52 kc_4 kf_4 kn_4 ks_4 kx_4 kl_4 _ rfl rfl rfl (fun _ => rfl) (fun _ _ => rfl) (fun h => by cases h) (Or.inr (Or.inl ⟨rfl, rfl⟩)) dc_52 ki_4 kj_4 kg_4 kp_4 kt_4 kx_4_ok km_4
set_option maxRecDepth 20000 in
theorem pm_53 : xm_pr1 53 := xm_pr_m 53 "MachineMaker$Automaton" prog_2_method_6_code tb_53 kc_1 kf_1 kn_1 ks_1 kx_1 kl_1 _ rfl rfl rfl (fun _ => rfl) (fun _ _ => rfl) (fun h => by cases h) (Or.inr (Or.inl ⟨rfl, rfl⟩)) dc_53 ki_1 kj_1 kg_1 kp_1 kt_1 kx_1_ok km_1
set_option maxRecDepth 20000 in
theorem pm_54 : xm_pr1 54 := xm_pr_m 54 "MachineMaker" prog_1_method_8_code tb_54 kc_0 kf_0 kn_0 ks_0 kx_0 kl_0 _ rfl rfl rfl (fun _ => rfl) (fun _ _ => rfl) (fun h => by cases h) (Or.inr (Or.inl ⟨rfl, rfl⟩)) dc_54 ki_0 kj_0 kg_0 kp_0 kt_0 kx_0_ok km_0
set_option maxRecDepth 20000 in
theorem pm_55 : xm_pr1 55 := xm_pr_m 55 "MachineMaker$Winner" prog_7_method_3_code tb_55 kc_6 kf_6 kn_6 ks_6 kx_6 kl_6 _ rfl rfl rfl (fun _ => rfl) (fun _ _ => rfl) (fun h => by cases h) (Or.inl ⟨rfl, rfl⟩) dc_55 ki_6 kj_6 kg_6 kp_6 kt_6 kx_6_ok km_6
set_option maxRecDepth 20000 in
theorem pm_56 : xm_pr1 56 := xm_pr_m 56 "MachineMaker$Game" prog_4_method_2_code tb_56 kc_3 kf_3 kn_3 ks_3 kx_3 kl_3 _ rfl rfl rfl (fun _ => rfl) (fun _ _ => rfl) (fun h => by cases h) (Or.inr (Or.inr (Or.inr (Or.inr ⟨rfl, rfl⟩)))) dc_56 ki_3 kj_3 kg_3 kp_3 kt_3 kx_3_ok km_3
set_option maxRecDepth 20000 in
theorem pm_57 : xm_pr1 57 := xm_pr_m 57 "MachineMaker$Game" prog_4_method_4_code tb_57 kc_3 kf_3 kn_3 ks_3 kx_3 kl_3 _ rfl rfl rfl (fun _ => rfl) (fun _ _ => rfl) (fun h => by cases h) (Or.inr (Or.inr (Or.inl ⟨rfl, rfl⟩))) dc_57 ki_3 kj_3 kg_3 kp_3 kt_3 kx_3_ok km_3
set_option maxRecDepth 20000 in
theorem pm_58 : xm_pr1 58 := xm_pr_m 58 "MachineMaker$Game" prog_4_method_3_code tb_58 kc_3 kf_3 kn_3 ks_3 kx_3 kl_3 _ rfl rfl rfl (fun _ => rfl) (fun _ _ => rfl) (fun h => by cases h) (Or.inr (Or.inl ⟨rfl, rfl⟩)) dc_58 ki_3 kj_3 kg_3 kp_3 kt_3 kx_3_ok km_3
set_option maxRecDepth 20000 in
theorem pm_59 : xm_pr1 59 := xm_pr_m 59 "MachineMaker$Game" prog_4_method_6_code tb_59 kc_3 kf_3 kn_3 ks_3 kx_3 kl_3 _ rfl rfl rfl (fun _ => rfl) (fun _ _ => rfl) (fun h => by cases h) (Or.inr (Or.inr (Or.inl ⟨rfl, rfl⟩))) dc_59 ki_3 kj_3 kg_3 kp_3 kt_3 kx_3_ok km_3
set_option maxRecDepth 20000 in
theorem pm_60 : xm_pr1 60 := xm_pr_m 60 "MachineMaker$Game" prog_4_method_5_code tb_60 kc_3 kf_3 kn_3 ks_3 kx_3 kl_3 _ rfl rfl rfl (fun _ => rfl) (fun _ _ => rfl) (fun h => by cases h) (Or.inr (Or.inr (Or.inl ⟨rfl, rfl⟩))) dc_60 ki_3 kj_3 kg_3 kp_3 kt_3 kx_3_ok km_3
set_option maxRecDepth 20000 in
theorem pm_61 : xm_pr1 61 := xm_pr_m 61 "MachineMaker$Game" prog_4_method_7_code tb_61 kc_3 kf_3 kn_3 ks_3 kx_3 kl_3 _ rfl rfl rfl (fun _ => rfl) (fun _ _ => rfl) (fun h => by cases h) (Or.inr (Or.inl ⟨rfl, rfl⟩)) dc_61 ki_3 kj_3 kg_3 kp_3 kt_3 kx_3_ok km_3
set_option maxRecDepth 20000 in
theorem pm_62 : xm_pr1 62 := xm_pr_m 62 "MachineMaker$Game" prog_4_method_9_code tb_62 kc_3 kf_3 kn_3 ks_3 kx_3 kl_3 _ rfl rfl rfl (fun _ => rfl) (fun _ _ => rfl) (fun h => by cases h) (Or.inr (Or.inr (Or.inr (Or.inr ⟨rfl, rfl⟩)))) dc_62 ki_3 kj_3 kg_3 kp_3 kt_3 kx_3_ok km_3
set_option maxRecDepth 20000 in
theorem pm_63 : xm_pr1 63 := xm_pr_m 63 "MachineMaker$Game" prog_4_method_10_code tb_63 kc_3 kf_3 kn_3 ks_3 kx_3 kl_3 _ rfl rfl rfl (fun _ => rfl) (fun _ _ => rfl) (fun h => by cases h) (Or.inr (Or.inr (Or.inr (Or.inr ⟨rfl, rfl⟩)))) dc_63 ki_3 kj_3 kg_3 kp_3 kt_3 kx_3_ok km_3
set_option maxRecDepth 20000 in
theorem pm_64 : xm_pr1 64 := xm_pr_m 64 "MachineMaker$Game" prog_4_method_11_code tb_64 kc_3 kf_3 kn_3 ks_3 kx_3 kl_3 _ rfl rfl rfl (fun _ => rfl) (fun _ _ => rfl) (fun h => by cases h) (Or.inr (Or.inr (Or.inr (Or.inr ⟨rfl, rfl⟩)))) dc_64 ki_3 kj_3 kg_3 kp_3 kt_3 kx_3_ok km_3
set_option maxRecDepth 20000 in
theorem pm_65 : xm_pr1 65 := xm_pr_m 65 "MachineMaker$Game" prog_4_method_14_code tb_65 kc_3 kf_3 kn_3 ks_3 kx_3 kl_3 _ rfl rfl rfl (fun _ => rfl) (fun _ _ => rfl) (fun h => by cases h) (Or.inr (Or.inl ⟨rfl, rfl⟩)) dc_65 ki_3 kj_3 kg_3 kp_3 kt_3 kx_3_ok km_3
set_option maxRecDepth 20000 in
theorem pm_66 : xm_pr1 66 := xm_pr_m 66 "MachineMaker$Game" prog_4_method_12_code tb_66 kc_3 kf_3 kn_3 ks_3 kx_3 kl_3 _ rfl rfl rfl (fun _ => rfl) (fun _ _ => rfl) (fun h => by cases h) (Or.inr (Or.inr (Or.inr (Or.inr ⟨rfl, rfl⟩)))) dc_66 ki_3 kj_3 kg_3 kp_3 kt_3 kx_3_ok km_3
set_option maxRecDepth 20000 in
theorem pm_67 : xm_pr1 67 := xm_pr_m 67 "MachineMaker$Game" prog_4_method_8_code tb_67 kc_3 kf_3 kn_3 ks_3 kx_3 kl_3 _ rfl rfl rfl (fun _ => rfl) (fun _ _ => rfl) (fun h => by cases h) (Or.inr (Or.inl ⟨rfl, rfl⟩)) dc_67 ki_3 kj_3 kg_3 kp_3 kt_3 kx_3_ok km_3
set_option maxRecDepth 20000 in
theorem pm_68 : xm_pr1 68 := xm_pr_m 68 "MachineMaker$Game" prog_4_method_13_code tb_68 kc_3 kf_3 kn_3 ks_3 kx_3 kl_3 _ rfl rfl rfl (fun _ => rfl) (fun _ _ => rfl) (fun h => by cases h) (Or.inr (Or.inl ⟨rfl, rfl⟩)) dc_68 ki_3 kj_3 kg_3 kp_3 kt_3 kx_3_ok km_3
set_option maxRecDepth 20000 in
theorem pm_69 : xm_pr1 69 := xm_pr_m 69 "MachineMaker$Winner" prog_7_method_4_code tb_69 kc_6 kf_6 kn_6 ks_6 kx_6 kl_6 _ rfl rfl rfl (fun _ => rfl) (fun _ _ => rfl) (fun h => by cases h) (Or.inl ⟨rfl, rfl⟩) dc_69 ki_6 kj_6 kg_6 kp_6 kt_6 kx_6_ok km_6
set_option maxRecDepth 20000 in
theorem pm_70 : xm_pr1 70 := xm_pr_m 70 "MachineMaker$Winner" prog_7_method_6_code tb_70 kc_6 kf_6 kn_6 ks_6 kx_6 kl_6 _ rfl rfl rfl (fun _ => rfl) (fun _ _ => rfl) (fun h => by cases h) (Or.inl ⟨rfl, rfl⟩) dc_70 ki_6 kj_6 kg_6 kp_6 kt_6 kx_6_ok km_6
set_option maxRecDepth 20000 in
theorem pm_71 : xm_pr1 71 := xm_pr_m 71 "MachineMaker$Winner" prog_7_method_8_code tb_71 kc_6 kf_6 kn_6 ks_6 kx_6 kl_6 _ rfl rfl rfl (fun _ => rfl) (fun _ _ => rfl) (fun h => by cases h) (Or.inr (Or.inl ⟨rfl, rfl⟩)) dc_71 ki_6 kj_6 kg_6 kp_6 kt_6 kx_6_ok km_6
set_option maxRecDepth 20000 in
theorem pm_72 : xm_pr1 72 := xm_pr_m 72 "MachineMaker$Winner" prog_7_method_7_code tb_72 kc_6 kf_6 kn_6 ks_6 kx_6 kl_6 _ rfl rfl rfl (fun _ => rfl) (fun _ _ => rfl) (fun h => by cases h) (Or.inl ⟨rfl, rfl⟩) dc_72 ki_6 kj_6 kg_6 kp_6 kt_6 kx_6_ok km_6
set_option maxRecDepth 20000 in
theorem pm_73 : xm_pr1 73 := xm_pr_m 73 "MachineMaker$Winner" prog_7_method_5_code tb_73 kc_6 kf_6 kn_6 ks_6 kx_6 kl_6 _ rfl rfl rfl (fun _ => rfl) (fun _ _ => rfl) (fun h => by cases h) (Or.inl ⟨rfl, rfl⟩) dc_73 ki_6 kj_6 kg_6 kp_6 kt_6 kx_6_ok km_6
set_option maxRecDepth 20000 in
theorem pm_74 : xm_pr1 74 := xm_pr_m 74 "MachineMaker" prog_1_method_9_code tb_74 kc_0 kf_0 kn_0 ks_0 kx_0 kl_0 _ rfl rfl rfl (fun _ => rfl) (fun _ _ => rfl) (fun h => by cases h) (Or.inr (Or.inl ⟨rfl, rfl⟩)) dc_74 ki_0 kj_0 kg_0 kp_0 kt_0 kx_0_ok km_0
set_option maxRecDepth 20000 in
theorem pm_75 : xm_pr1 75 := xm_pr_m 75 "MachineMaker" prog_1_method_10_code tb_75 kc_0 kf_0 kn_0 ks_0 kx_0 kl_0 _ rfl rfl rfl (fun _ => rfl) (fun _ _ => rfl) (fun h => by cases h) (Or.inr (Or.inl ⟨rfl, rfl⟩)) dc_75 ki_0 kj_0 kg_0 kp_0 kt_0 kx_0_ok km_0
set_option maxRecDepth 20000 in
theorem pm_76 : xm_pr1 76 := xm_pr_m 76 "MachineMaker$Winner" prog_7_method_2_code tb_76 kc_6 kf_6 kn_6 ks_6 kx_6 kl_6 _ rfl rfl rfl (fun _ => rfl) (fun _ _ => rfl) (fun h => by cases h) (Or.inr (Or.inr (Or.inr (Or.inr ⟨rfl, rfl⟩)))) dc_76 ki_6 kj_6 kg_6 kp_6 kt_6 kx_6_ok km_6
set_option maxRecDepth 20000 in
theorem pm_77 : xm_pr1 77 := xm_pr_m 77 "MachineMaker" prog_1_method_12_code tb_77 kc_0 kf_0 kn_0 ks_0 kx_0 kl_0 _ rfl rfl rfl (fun _ => rfl) (fun _ _ => rfl) (fun h => by cases h) (Or.inr (Or.inr (Or.inr (Or.inr ⟨rfl, rfl⟩)))) dc_77 ki_0 kj_0 kg_0 kp_0 kt_0 kx_0_ok km_0
set_option maxRecDepth 20000 in
theorem pm_78 : xm_pr1 78 := xm_pr_m 78 "MachineMaker" prog_1_method_11_code tb_78 kc_0 kf_0 kn_0 ks_0 kx_0 kl_0 _ rfl rfl rfl (fun _ => rfl) (fun _ _ => rfl) (fun h => by cases h) (Or.inr (Or.inl ⟨rfl, rfl⟩)) dc_78 ki_0 kj_0 kg_0 kp_0 kt_0 kx_0_ok km_0
set_option maxRecDepth 20000 in
theorem pm_79 : xm_pr1 79 := xm_pr_m 79 "MachineMakerModel" prog_10_method_1_code tb_79 kc_9 kf_9 kn_9 ks_9 kx_9 kl_9 _ rfl rfl rfl (fun _ => rfl) (fun ix h => by cases ix with | zero => rcases h with q | q | q <;> cases q | succ ix => rfl) (fun _ => rfl) (Or.inl ⟨rfl, rfl⟩) dc_79 ki_9 kj_9 kg_9 kp_9 kt_9 kx_9_ok km_9
set_option maxRecDepth 20000 in
theorem pm_80 : xm_pr1 80 := xm_pr_m 80 "MachineMakerModel" prog_10_method_5_code tb_80 kc_9 kf_9 kn_9 ks_9 kx_9 kl_9 _ rfl rfl rfl (fun _ => rfl) (fun _ _ => rfl) (fun h => by cases h) (Or.inr (Or.inl ⟨rfl, rfl⟩)) dc_80 ki_9 kj_9 kg_9 kp_9 kt_9 kx_9_ok km_9
set_option maxRecDepth 20000 in
theorem pm_81 : xm_pr1 81 := xm_pr_m 81 "MachineMakerModel" prog_10_method_2_code tb_81 kc_9 kf_9 kn_9 ks_9 kx_9 kl_9 _ rfl rfl rfl (fun _ => rfl) (fun _ _ => rfl) (fun h => by cases h) (Or.inr (Or.inr (Or.inr (Or.inr ⟨rfl, rfl⟩)))) dc_81 ki_9 kj_9 kg_9 kp_9 kt_9 kx_9_ok km_9
set_option maxRecDepth 20000 in
theorem pm_82 : xm_pr1 82 := xm_pr_m 82 "MachineMakerModel" prog_10_method_3_code tb_82 kc_9 kf_9 kn_9 ks_9 kx_9 kl_9 _ rfl rfl rfl (fun _ => rfl) (fun _ _ => rfl) (fun h => by cases h) (Or.inr (Or.inr (Or.inr (Or.inr ⟨rfl, rfl⟩)))) dc_82 ki_9 kj_9 kg_9 kp_9 kt_9 kx_9_ok km_9
set_option maxRecDepth 20000 in
theorem pm_83 : xm_pr1 83 := xm_pr_m 83 "MachineMakerModel" prog_10_method_4_code tb_83 kc_9 kf_9 kn_9 ks_9 kx_9 kl_9 _ rfl rfl rfl (fun _ => rfl) (fun _ _ => rfl) (fun h => by cases h) (Or.inr (Or.inl ⟨rfl, rfl⟩)) dc_83 ki_9 kj_9 kg_9 kp_9 kt_9 kx_9_ok km_9
set_option maxRecDepth 20000 in
theorem pm_84 : xm_pr1 84 := xm_pr_m 84 "MachineMakerModel" prog_10_method_7_code tb_84 kc_9 kf_9 kn_9 ks_9 kx_9 kl_9 _ rfl rfl rfl (fun _ => rfl) (fun _ _ => rfl) (fun h => by cases h) (Or.inr (Or.inl ⟨rfl, rfl⟩)) dc_84 ki_9 kj_9 kg_9 kp_9 kt_9 kx_9_ok km_9
set_option maxRecDepth 20000 in
theorem pm_85 : xm_pr1 85 := xm_pr_m 85 "MachineMakerModel" prog_10_method_6_code tb_85 kc_9 kf_9 kn_9 ks_9 kx_9 kl_9 _ rfl rfl rfl (fun _ => rfl) (fun _ _ => rfl) (fun h => by cases h) (Or.inr (Or.inl ⟨rfl, rfl⟩)) dc_85 ki_9 kj_9 kg_9 kp_9 kt_9 kx_9_ok km_9
set_option maxRecDepth 20000 in
theorem pm_86 : xm_pr1 86 := xm_pr_m 86 "MachineMakerModel" prog_10_method_8_code tb_86 kc_9 kf_9 kn_9 ks_9 kx_9 kl_9 _ rfl rfl rfl (fun _ => rfl) (fun _ _ => rfl) (fun h => by cases h) (Or.inr (Or.inl ⟨rfl, rfl⟩)) dc_86 ki_9 kj_9 kg_9 kp_9 kt_9 kx_9_ok km_9
set_option maxRecDepth 20000 in
theorem pm_87 : xm_pr1 87 := xm_pr_m 87 "MachineMakerModel" prog_10_method_12_code tb_87 kc_9 kf_9 kn_9 ks_9 kx_9 kl_9 _ rfl rfl rfl (fun _ => rfl) (fun _ _ => rfl) (fun h => by cases h) (Or.inr (Or.inl ⟨rfl, rfl⟩)) dc_87 ki_9 kj_9 kg_9 kp_9 kt_9 kx_9_ok km_9
set_option maxRecDepth 20000 in
theorem pm_88 : xm_pr1 88 := xm_pr_m 88 "MachineMakerModel" prog_10_method_9_code tb_88 kc_9 kf_9 kn_9 ks_9 kx_9 kl_9 _ rfl rfl rfl (fun _ => rfl) (fun _ _ => rfl) (fun h => by cases h) (Or.inr (Or.inl ⟨rfl, rfl⟩)) dc_88 ki_9 kj_9 kg_9 kp_9 kt_9 kx_9_ok km_9
set_option maxRecDepth 20000 in
theorem pm_89 : xm_pr1 89 := xm_pr_m 89 "MachineMakerModel" prog_10_method_10_code tb_89 kc_9 kf_9 kn_9 ks_9 kx_9 kl_9 _ rfl rfl rfl (fun _ => rfl) (fun _ _ => rfl) (fun h => by cases h) (Or.inr (Or.inl ⟨rfl, rfl⟩)) dc_89 ki_9 kj_9 kg_9 kp_9 kt_9 kx_9_ok km_9
set_option maxRecDepth 20000 in
theorem pm_90 : xm_pr1 90 := xm_pr_m 90 "MachineMakerModel" prog_10_method_11_code tb_90 kc_9 kf_9 kn_9 ks_9 kx_9 kl_9 _ rfl rfl rfl (fun _ => rfl) (fun _ _ => rfl) (fun h => by cases h) (Or.inr (Or.inl ⟨rfl, rfl⟩)) dc_90 ki_9 kj_9 kg_9 kp_9 kt_9 kx_9_ok km_9
set_option maxRecDepth 20000 in
theorem pm_91 : xm_pr1 91 := xm_pr_m 91 "MachineMakerModel" prog_10_method_18_code tb_91 kc_9 kf_9 kn_9 ks_9 kx_9 kl_9 _ rfl rfl rfl (fun _ => rfl) (fun _ _ => rfl) (fun h => by cases h) (Or.inr (Or.inl ⟨rfl, rfl⟩)) dc_91 ki_9 kj_9 kg_9 kp_9 kt_9 kx_9_ok km_9
set_option maxRecDepth 20000 in
theorem pm_92 : xm_pr1 92 := xm_pr_m 92 "MachineMakerModel" prog_10_method_17_code tb_92 kc_9 kf_9 kn_9 ks_9 kx_9 kl_9 _ rfl rfl rfl (fun _ => rfl) (fun _ _ => rfl) (fun h => by cases h) (Or.inl ⟨rfl, rfl⟩) dc_92 ki_9 kj_9 kg_9 kp_9 kt_9 kx_9_ok km_9
set_option maxRecDepth 20000 in
theorem pm_93 : xm_pr1 93 := xm_pr_m 93 "MachineMakerModel" prog_10_method_16_code tb_93 kc_9 kf_9 kn_9 ks_9 kx_9 kl_9 _ rfl rfl rfl (fun _ => rfl) (fun _ _ => rfl) (fun h => by cases h) (Or.inl ⟨rfl, rfl⟩) dc_93 ki_9 kj_9 kg_9 kp_9 kt_9 kx_9_ok km_9
set_option maxRecDepth 20000 in
theorem pm_94 : xm_pr1 94 := xm_pr_m 94 "MachineMakerModel" prog_10_method_13_code tb_94 kc_9 kf_9 kn_9 ks_9 kx_9 kl_9 _ rfl rfl rfl (fun _ => rfl) (fun _ _ => rfl) (fun h => by cases h) (Or.inl ⟨rfl, rfl⟩) dc_94 ki_9 kj_9 kg_9 kp_9 kt_9 kx_9_ok km_9
set_option maxRecDepth 20000 in
theorem pm_95 : xm_pr1 95 := xm_pr_m 95 "MachineMakerModel" prog_10_method_15_code tb_95 kc_9 kf_9 kn_9 ks_9 kx_9 kl_9 _ rfl rfl rfl (fun _ => rfl) (fun _ _ => rfl) (fun h => by cases h) (Or.inl ⟨rfl, rfl⟩) dc_95 ki_9 kj_9 kg_9 kp_9 kt_9 kx_9_ok km_9
set_option maxRecDepth 20000 in
theorem pm_96 : xm_pr1 96 := xm_pr_m 96 "MachineMakerModel" prog_10_method_14_code tb_96 kc_9 kf_9 kn_9 ks_9 kx_9 kl_9 _ rfl rfl rfl (fun _ => rfl) (fun _ _ => rfl) (fun h => by cases h) (Or.inl ⟨rfl, rfl⟩) dc_96 ki_9 kj_9 kg_9 kp_9 kt_9 kx_9_ok km_9
set_option maxRecDepth 20000 in
theorem pm_97 : xm_pr1 97 := xm_pr_m 97 "MachineMakerModel" prog_10_method_25_code tb_97 kc_9 kf_9 kn_9 ks_9 kx_9 kl_9 _ rfl rfl rfl (fun _ => rfl) (fun _ _ => rfl) (fun h => by cases h) (Or.inr (Or.inl ⟨rfl, rfl⟩)) dc_97 ki_9 kj_9 kg_9 kp_9 kt_9 kx_9_ok km_9
set_option maxRecDepth 20000 in
theorem pm_98 : xm_pr1 98 := xm_pr_m 98 "MachineMakerModel" prog_10_method_24_code tb_98 kc_9 kf_9 kn_9 ks_9 kx_9 kl_9 _ rfl rfl rfl (fun _ => rfl) (fun _ _ => rfl) (fun h => by cases h) (Or.inr (Or.inr (Or.inr (Or.inr ⟨rfl, rfl⟩)))) dc_98 ki_9 kj_9 kg_9 kp_9 kt_9 kx_9_ok km_9
set_option maxRecDepth 20000 in
theorem pm_99 : xm_pr1 99 := xm_pr_m 99 "MachineMakerModel" prog_10_method_21_code tb_99 kc_9 kf_9 kn_9 ks_9 kx_9 kl_9 _ rfl rfl rfl (fun _ => rfl) (fun _ _ => rfl) (fun h => by cases h) (Or.inl ⟨rfl, rfl⟩) dc_99 ki_9 kj_9 kg_9 kp_9 kt_9 kx_9_ok km_9
set_option maxRecDepth 20000 in
theorem pm_100 : xm_pr1 100 := xm_pr_m 100 "MachineMakerModel" prog_10_method_22_code tb_100 kc_9 kf_9 kn_9 ks_9 kx_9 kl_9 _ rfl rfl rfl (fun _ => rfl) (fun _ _ => rfl) (fun h => by cases h) (Or.inr (Or.inl ⟨rfl, rfl⟩)) dc_100 ki_9 kj_9 kg_9 kp_9 kt_9 kx_9_ok km_9
set_option maxRecDepth 20000 in
theorem pm_101 : xm_pr1 101 := xm_pr_m 101 "MachineMakerModel" prog_10_method_20_code tb_101 kc_9 kf_9 kn_9 ks_9 kx_9 kl_9 _ rfl rfl rfl (fun _ => rfl) (fun _ _ => rfl) (fun h => by cases h) (Or.inr (Or.inr (Or.inr (Or.inr ⟨rfl, rfl⟩)))) dc_101 ki_9 kj_9 kg_9 kp_9 kt_9 kx_9_ok km_9
set_option maxRecDepth 20000 in
theorem pm_102 : xm_pr1 102 := xm_pr_m 102 "MachineMakerModel" prog_10_method_19_code tb_102 kc_9 kf_9 kn_9 ks_9 kx_9 kl_9 _ rfl rfl rfl (fun _ => rfl) (fun _ _ => rfl) (fun h => by cases h) (Or.inl ⟨rfl, rfl⟩) dc_102 ki_9 kj_9 kg_9 kp_9 kt_9 kx_9_ok km_9
set_option maxRecDepth 20000 in
theorem pm_103 : xm_pr1 103 := xm_pr_m 103 "MachineMakerModel" prog_10_method_23_code tb_103 kc_9 kf_9 kn_9 ks_9 kx_9 kl_9 _ rfl rfl rfl (fun _ => rfl) (fun _ _ => rfl) (fun h => by cases h) (Or.inl ⟨rfl, rfl⟩) dc_103 ki_9 kj_9 kg_9 kp_9 kt_9 kx_9_ok km_9
set_option maxRecDepth 20000 in
theorem pm_104 : xm_pr1 104 := xm_pr_m 104 "MachineMakerModel" prog_10_method_37_code tb_104 kc_9 kf_9 kn_9 ks_9 kx_9 kl_9 _ rfl rfl rfl (fun _ => rfl) (fun _ _ => rfl) (fun h => by cases h) (Or.inr (Or.inl ⟨rfl, rfl⟩)) dc_104 ki_9 kj_9 kg_9 kp_9 kt_9 kx_9_ok km_9
set_option maxRecDepth 20000 in
theorem pm_105 : xm_pr1 105 := xm_pr_m 105 "MachineMakerModel" prog_10_method_29_code tb_105 kc_9 kf_9 kn_9 ks_9 kx_9 kl_9 _ rfl rfl rfl (fun _ => rfl) (fun _ _ => rfl) (fun h => by cases h) (Or.inr (Or.inr (Or.inr (Or.inr ⟨rfl, rfl⟩)))) dc_105 ki_9 kj_9 kg_9 kp_9 kt_9 kx_9_ok km_9
set_option maxRecDepth 20000 in
theorem pm_106 : xm_pr1 106 := xm_pr_m 106 "MachineMakerModel" prog_10_method_28_code tb_106 kc_9 kf_9 kn_9 ks_9 kx_9 kl_9 _ rfl rfl rfl (fun _ => rfl) (fun _ _ => rfl) (fun h => by cases h) (Or.inr (Or.inl ⟨rfl, rfl⟩)) dc_106 ki_9 kj_9 kg_9 kp_9 kt_9 kx_9_ok km_9
set_option maxRecDepth 20000 in
theorem pm_107 : xm_pr1 107 := xm_pr_m 107 "MachineMakerModel" prog_10_method_27_code tb_107 kc_9 kf_9 kn_9 ks_9 kx_9 kl_9 _ rfl rfl rfl (fun _ => rfl) (fun _ _ => rfl) (fun h => by cases h) (Or.inr (Or.inr (Or.inl ⟨rfl, rfl⟩))) dc_107 ki_9 kj_9 kg_9 kp_9 kt_9 kx_9_ok km_9
set_option maxRecDepth 20000 in
theorem pm_108 : xm_pr1 108 := xm_pr_m 108 "MachineMakerModel" prog_10_method_26_code tb_108 kc_9 kf_9 kn_9 ks_9 kx_9 kl_9 _ rfl rfl rfl (fun _ => rfl) (fun _ _ => rfl) (fun h => by cases h) (Or.inr (Or.inl ⟨rfl, rfl⟩)) dc_108 ki_9 kj_9 kg_9 kp_9 kt_9 kx_9_ok km_9
set_option maxRecDepth 20000 in
theorem pm_109 : xm_pr1 109 := xm_pr_m 109 "MachineMakerModel" prog_10_method_34_code tb_109 kc_9 kf_9 kn_9 ks_9 kx_9 kl_9 _ rfl rfl rfl (fun _ => rfl) (fun _ _ => rfl) (fun h => by cases h) (Or.inl ⟨rfl, rfl⟩) dc_109 ki_9 kj_9 kg_9 kp_9 kt_9 kx_9_ok km_9
set_option maxRecDepth 20000 in
theorem pm_110 : xm_pr1 110 := xm_pr_m 110 "MachineMakerModel" prog_10_method_33_code tb_110 kc_9 kf_9 kn_9 ks_9 kx_9 kl_9 _ rfl rfl rfl (fun _ => rfl) (fun _ _ => rfl) (fun h => by cases h) (Or.inr (Or.inr (Or.inr (Or.inr ⟨rfl, rfl⟩)))) dc_110 ki_9 kj_9 kg_9 kp_9 kt_9 kx_9_ok km_9
set_option maxRecDepth 20000 in
theorem pm_111 : xm_pr1 111 := xm_pr_m 111 "MachineMakerModel" prog_10_method_32_code tb_111 kc_9 kf_9 kn_9 ks_9 kx_9 kl_9 _ rfl rfl rfl (fun _ => rfl) (fun _ _ => rfl) (fun h => by cases h) (Or.inr (Or.inl ⟨rfl, rfl⟩)) dc_111 ki_9 kj_9 kg_9 kp_9 kt_9 kx_9_ok km_9
set_option maxRecDepth 20000 in
theorem pm_112 : xm_pr1 112 := xm_pr_m 112 "MachineMakerModel" prog_10_method_30_code tb_112 kc_9 kf_9 kn_9 ks_9 kx_9 kl_9 _ rfl rfl rfl (fun _ => rfl) (fun _ _ => rfl) (fun h => by cases h) (Or.inr (Or.inr (Or.inr (Or.inr ⟨rfl, rfl⟩)))) dc_112 ki_9 kj_9 kg_9 kp_9 kt_9 kx_9_ok km_9
set_option maxRecDepth 20000 in
theorem pm_113 : xm_pr1 113 := xm_pr_m 113 "MachineMakerModel" prog_10_method_31_code tb_113 kc_9 kf_9 kn_9 ks_9 kx_9 kl_9 _ rfl rfl rfl (fun _ => rfl) (fun _ _ => rfl) (fun h => by cases h) (Or.inr (Or.inl ⟨rfl, rfl⟩)) dc_113 ki_9 kj_9 kg_9 kp_9 kt_9 kx_9_ok km_9
set_option maxRecDepth 20000 in
theorem pm_114 : xm_pr1 114 := xm_pr_m 114 "MachineMakerModel" prog_10_method_36_code tb_114 kc_9 kf_9 kn_9 ks_9 kx_9 kl_9 _ rfl rfl rfl (fun _ => rfl) (fun _ _ => rfl) (fun h => by cases h) (Or.inl ⟨rfl, rfl⟩) dc_114 ki_9 kj_9 kg_9 kp_9 kt_9 kx_9_ok km_9
set_option maxRecDepth 20000 in
theorem pm_115 : xm_pr1 115 := xm_pr_m 115 "MachineMakerModel" prog_10_method_35_code tb_115 kc_9 kf_9 kn_9 ks_9 kx_9 kl_9 _ rfl rfl rfl (fun _ => rfl) (fun _ _ => rfl) (fun h => by cases h) (Or.inr (Or.inl ⟨rfl, rfl⟩)) dc_115 ki_9 kj_9 kg_9 kp_9 kt_9 kx_9_ok km_9
set_option maxRecDepth 20000 in
theorem pm_116 : xm_pr1 116 := xm_pr_m 116 "MachineMakerModel" prog_10_method_38_code tb_116 kc_9 kf_9 kn_9 ks_9 kx_9 kl_9 _ rfl rfl rfl (fun _ => rfl) (fun _ _ => rfl) (fun h => by cases h) (Or.inr (Or.inl ⟨rfl, rfl⟩)) dc_116 ki_9 kj_9 kg_9 kp_9 kt_9 kx_9_ok km_9
set_option maxRecDepth 20000 in
theorem pm_117 : xm_pr1 117 := xm_pr_m 117 "MachineMakerModel" prog_10_method_40_code tb_117 kc_9 kf_9 kn_9 ks_9 kx_9 kl_9 _ rfl rfl rfl (fun _ => rfl) (fun _ _ => rfl) (fun h => by cases h) (Or.inr (Or.inl ⟨rfl, rfl⟩)) dc_117 ki_9 kj_9 kg_9 kp_9 kt_9 kx_9_ok km_9
set_option maxRecDepth 20000 in
theorem pm_118 : xm_pr1 118 := xm_pr_m 118 "MachineMakerModel" prog_10_method_39_code tb_118 kc_9 kf_9 kn_9 ks_9 kx_9 kl_9 _ rfl rfl rfl (fun _ => rfl) (fun _ _ => rfl) (fun h => by cases h) (Or.inr (Or.inr (Or.inr (Or.inr ⟨rfl, rfl⟩)))) dc_118 ki_9 kj_9 kg_9 kp_9 kt_9 kx_9_ok km_9
set_option maxRecDepth 20000 in
theorem pm_119 : xm_pr1 119 := xm_pr_m 119 "MachineMakerModel" prog_10_method_41_code tb_119 kc_9 kf_9 kn_9 ks_9 kx_9 kl_9 _ rfl rfl rfl (fun _ => rfl) (fun _ _ => rfl) (fun h => by cases h) (Or.inr (Or.inl ⟨rfl, rfl⟩)) dc_119 ki_9 kj_9 kg_9 kp_9 kt_9 kx_9_ok km_9
set_option maxRecDepth 20000 in
theorem pm_120 : xm_pr1 120 := xm_pr_e 120 rfl rfl rfl (fun _ => rfl)
set_option maxRecDepth 20000 in
theorem pm_121 : xm_pr1 121 := xm_pr_e 121 rfl rfl rfl (fun _ => rfl)
set_option maxRecDepth 20000 in
theorem pm_122 : xm_pr1 122 := xm_pr_e 122 rfl rfl rfl (fun _ => rfl)
set_option maxRecDepth 20000 in
theorem pm_123 : xm_pr1 123 := xm_pr_e 123 rfl rfl rfl (fun _ => rfl)
set_option maxRecDepth 20000 in
theorem pm_124 : xm_pr1 124 := xm_pr_e 124 rfl rfl rfl (fun _ => rfl)
set_option maxRecDepth 20000 in
theorem pm_125 : xm_pr1 125 := xm_pr_e 125 rfl rfl rfl (fun _ => rfl)
set_option maxRecDepth 20000 in
theorem pm_126 : xm_pr1 126 := xm_pr_e 126 rfl rfl rfl (fun _ => rfl)
set_option maxRecDepth 20000 in
theorem pm_127 : xm_pr1 127 := xm_pr_e 127 rfl rfl rfl (fun _ => rfl)
set_option maxRecDepth 20000 in
theorem pr_0 : ∀ y ∈ ([0, 1, 2, 3, 4, 5, 6, 7, 8, 9, 10, 11, 12, 13, 14, 15] : List Nat), xm_pr1 y := fc_cons pm_0 (fc_cons pm_1 (fc_cons pm_2 (fc_cons pm_3 (fc_cons pm_4 (fc_cons pm_5 (fc_cons pm_6 (fc_cons pm_7 (fc_cons pm_8 (fc_cons pm_9 (fc_cons pm_10 (fc_cons pm_11 (fc_cons pm_12 (fc_cons pm_13 (fc_cons pm_14 (fc_cons pm_15 (fc_nil))))))))))))))))
set_option maxRecDepth 20000 in
theorem pr_1 : ∀ y ∈ ([16, 17, 18, 19, 20, 21, 22, 23, 24, 25, 26, 27, 28, 29, 30, 31] : List Nat), xm_pr1 y := fc_cons pm_16 (fc_cons pm_17 (fc_cons pm_18 (fc_cons pm_19 (fc_cons pm_20 (fc_cons pm_21 (fc_cons pm_22 (fc_cons pm_23 (fc_cons pm_24 (fc_cons pm_25 (fc_cons pm_26 (fc_cons pm_27 (fc_cons pm_28 (fc_cons pm_29 (fc_cons pm_30 (fc_cons pm_31 (fc_nil))))))))))))))))
set_option maxRecDepth 20000 in
theorem pr_2 : ∀ y ∈ ([32, 33, 34, 35, 36, 37, 38, 39, 40, 41, 42, 43, 44, 45, 46, 47] : List Nat), xm_pr1 y := fc_cons pm_32 (fc_cons pm_33 (fc_cons pm_34 (fc_cons pm_35 (fc_cons pm_36 (fc_cons pm_37 (fc_cons pm_38 (fc_cons pm_39 (fc_cons pm_40 (fc_cons pm_41 (fc_cons pm_42 (fc_cons pm_43 (fc_cons pm_44 (fc_cons pm_45 (fc_cons pm_46 (fc_cons pm_47 (fc_nil))))))))))))))))
set_option maxRecDepth 20000 in
theorem pr_3 : ∀ y ∈ ([48, 49, 50, 51, 52, 53, 54, 55, 56, 57, 58, 59, 60, 61, 62, 63] : List Nat), xm_pr1 y := fc_cons pm_48 (fc_cons pm_49 (fc_cons pm_50 (fc_cons pm_51 (fc_cons pm_52 (fc_cons pm_53 (fc_cons pm_54 (fc_cons pm_55 (fc_cons pm_56 (fc_cons pm_57 (fc_cons pm_58 (fc_cons pm_59 (fc_cons pm_60 (fc_cons pm_61 (fc_cons pm_62 (fc_cons pm_63 (fc_nil))))))))))))))))
set_option maxRecDepth 20000 in
theorem pr_4 : ∀ y ∈ ([64, 65, 66, 67, 68, 69, 70, 71, 72, 73, 74, 75, 76, 77, 78, 79] : List Nat), xm_pr1 y := fc_cons pm_64 (fc_cons pm_65 (fc_cons pm_66 (fc_cons pm_67 (fc_cons pm_68 (fc_cons pm_69 (fc_cons pm_70 (fc_cons pm_71 (fc_cons pm_72 (fc_cons pm_73 (fc_cons pm_74 (fc_cons pm_75 (fc_cons pm_76 (fc_cons pm_77 (fc_cons pm_78 (fc_cons pm_79 (fc_nil))))))))))))))))
set_option maxRecDepth 20000 in
theorem pr_5 : ∀ y ∈ ([80, 81, 82, 83, 84, 85, 86, 87, 88, 89, 90, 91, 92, 93, 94, 95] : List Nat), xm_pr1 y := fc_cons pm_80 (fc_cons pm_81 (fc_cons pm_82 (fc_cons pm_83 (fc_cons pm_84 (fc_cons pm_85 (fc_cons pm_86 (fc_cons pm_87 (fc_cons pm_88 (fc_cons pm_89 (fc_cons pm_90 (fc_cons pm_91 (fc_cons pm_92 (fc_cons pm_93 (fc_cons pm_94 (fc_cons pm_95 (fc_nil))))))))))))))))
set_option maxRecDepth 20000 in
theorem pr_6 : ∀ y ∈ ([96, 97, 98, 99, 100, 101, 102, 103, 104, 105, 106, 107, 108, 109, 110, 111] : List Nat), xm_pr1 y := fc_cons pm_96 (fc_cons pm_97 (fc_cons pm_98 (fc_cons pm_99 (fc_cons pm_100 (fc_cons pm_101 (fc_cons pm_102 (fc_cons pm_103 (fc_cons pm_104 (fc_cons pm_105 (fc_cons pm_106 (fc_cons pm_107 (fc_cons pm_108 (fc_cons pm_109 (fc_cons pm_110 (fc_cons pm_111 (fc_nil))))))))))))))))
set_option maxRecDepth 20000 in
theorem pr_7 : ∀ y ∈ ([112, 113, 114, 115, 116, 117, 118, 119, 120, 121, 122, 123, 124, 125, 126, 127] : List Nat), xm_pr1 y := fc_cons pm_112 (fc_cons pm_113 (fc_cons pm_114 (fc_cons pm_115 (fc_cons pm_116 (fc_cons pm_117 (fc_cons pm_118 (fc_cons pm_119 (fc_cons pm_120 (fc_cons pm_121 (fc_cons pm_122 (fc_cons pm_123 (fc_cons pm_124 (fc_cons pm_125 (fc_cons pm_126 (fc_cons pm_127 (fc_nil))))))))))))))))
theorem xm_pr_all (y : Nat) : xm_pr1 y := by
  by_cases hb : 128 ≤ y
  · have hd : 8 ≤ y / 16 := by omega
    exact xm_pr_e y (xm_nn_big hd) (xm_nn_big hd) (xm_nn_big hd) (fun ix => by show xm_as ix (xm_nn [] y xm_cl) = none; rw [xm_nn_big (l := xm_cl) hd]; rfl)
  by_cases h0 : y < 16
  · exact pr_0 y (by simp only [List.mem_cons]; omega)
  by_cases h1 : y < 32
  · exact pr_1 y (by simp only [List.mem_cons]; omega)
  by_cases h2 : y < 48
  · exact pr_2 y (by simp only [List.mem_cons]; omega)
  by_cases h3 : y < 64
  · exact pr_3 y (by simp only [List.mem_cons]; omega)
  by_cases h4 : y < 80
  · exact pr_4 y (by simp only [List.mem_cons]; omega)
  by_cases h5 : y < 96
  · exact pr_5 y (by simp only [List.mem_cons]; omega)
  by_cases h6 : y < 112
  · exact pr_6 y (by simp only [List.mem_cons]; omega)
  by_cases h7 : y < 128
  · exact pr_7 y (by simp only [List.mem_cons]; omega)
  exact absurd (Nat.le_of_not_lt h7) hb
set_option maxRecDepth 20000 in
theorem xm_pok_g : xm_pok pg ng xm_vc ("MachineMaker$Book", "DUAL_KINDS", "[I") := by
  refine ⟨fun y => (xm_pr_all y).1, fun y => (xm_pr_all y).2.1, fun y => xm_nn_all (p := fun a => a ≤ 100) (by decide) (by decide) y, mt_good, fun y => (xm_pr_all y).2.2.1, fun y => (xm_pr_all y).2.2.2, ?_, ?_⟩
  · exact ⟨mt_at 68 rfl, mt_at 69 rfl, mt_at 106 rfl, mt_at 157 rfl, mt_at 249 rfl, mt_at 451 rfl, mt_at 450 rfl, mt_at 61 rfl⟩
  · exact ⟨mt_at 447 rfl, mt_at 60 rfl, mt_at 448 rfl⟩
