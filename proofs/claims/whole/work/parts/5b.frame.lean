/-! Frames, on (written by program). -/
def fl_gm_canStaySafe : List Nat := []
theorem gm_canStaySafe_l22_fr {F : Nat} {a856 : Int32} {k : xm_S → Option (Int32 × xm_S)} {r : Int32} {m0 m' : xm_S} 
    (hk : ∀ (m : xm_S), xf_r fl_gm_canStaySafe m0 m → k m = some (r, m') → xf_r fl_gm_canStaySafe m0 m') : ∀ (fu : Nat) (a857 : Int32) (m855 : xm_S), xf_r fl_gm_canStaySafe m0 m855 → gm_canStaySafe_l22 F a856 k fu a857 m855 = some (r, m') → xf_r fl_gm_canStaySafe m0 m' := by
  intro fu
  induction fu with
  | zero => intro a857 m855 gg h; cases h
  | succ fu ih =>
    intro a857 m855 gg h
    rw [gm_canStaySafe_l22] at h
    by_cases c858 : (4 : Int32) ≤ a857
    · replace h := (if_pos c858).symm.trans h
      exact hk m855 gg h
    · replace h := (if_neg c858).symm.trans h
      obtain ⟨v878, m879, e880, h⟩ := xc_m_e h
      have g2588 : xf_r fl_gm_canStaySafe m0 m879 := xf_t gg (xf_s rfl (gm_safeOutput_fr e880))
      by_cases c882 : v878 = (-1 : Int32)
      · replace h := (if_pos c882).symm.trans h
        obtain ⟨rfl, rfl⟩ := Prod.mk.inj (Option.some.inj h)
        exact g2588
      · replace h := (if_neg c882).symm.trans h
        exact ih (a857 + (1 : Int32)) m879 g2588 h
theorem gm_canStaySafe_fr {F : Nat} {a1 : Int32} {a2 : Int32} {r : Int32} {m0 m' : xm_S} (h : gm_canStaySafe F a1 a2 m0 = some (r, m')) : xf_r fl_gm_canStaySafe m0 m' := by
  unfold gm_canStaySafe at h
  have gg : xf_r fl_gm_canStaySafe m0 m0 := xf_0
  by_cases c854 : a2 = (2 : Int32)
  · replace h := (if_pos c854).symm.trans h
    obtain ⟨v903, m904, e905, h⟩ := xc_m_e h
    have g2589 : xf_r fl_gm_canStaySafe m0 m904 := xf_t gg (xf_s rfl (gm_safeInput_fr e905))
    by_cases c907 : v903 = (-1 : Int32)
    · replace h := (if_pos c907).symm.trans h
      obtain ⟨rfl, rfl⟩ := Prod.mk.inj (Option.some.inj h)
      exact g2589
    · replace h := (if_neg c907).symm.trans h
      obtain ⟨rfl, rfl⟩ := Prod.mk.inj (Option.some.inj h)
      exact g2589
  · replace h := (if_neg c854).symm.trans h
    refine gm_canStaySafe_l22_fr (fun m883 g2590 h => ?_) F (0 : Int32) m0 gg h
    obtain ⟨rfl, rfl⟩ := Prod.mk.inj (Option.some.inj h)
    exact g2590
def fl_gm_dropUnsafe : List Nat := [26, 29]
theorem gm_dropUnsafe_l7_fr {F : Nat} {a848 : Int32} {a849 : Int32} {k : xm_S → Option (Int32 × xm_S)} {r : Int32} {m0 m' : xm_S} 
    (hk : ∀ (m : xm_S), xf_r fl_gm_dropUnsafe m0 m → k m = some (r, m') → xf_r fl_gm_dropUnsafe m0 m') : ∀ (fu : Nat) (a850 : Int32) (m847 : xm_S), xf_r fl_gm_dropUnsafe m0 m847 → gm_dropUnsafe_l7 F a848 a849 k fu a850 m847 = some (r, m') → xf_r fl_gm_dropUnsafe m0 m' := by
  intro fu
  induction fu with
  | zero => intro a850 m847 gg h; cases h
  | succ fu ih =>
    intro a850 m847 gg h
    rw [gm_dropUnsafe_l7] at h
    by_cases c851 : (m847.1 26 2) ≤ a850
    · replace h := (if_pos c851).symm.trans h
      exact hk m847 gg h
    · replace h := (if_neg c851).symm.trans h
      obtain ⟨-, h⟩ := xg_e h
      by_cases c853 : (m847.1 29 a850.toNatClampNeg) = 0
      · replace h := (if_pos c853).symm.trans h
        exact ih (a850 + (1 : Int32)) m847 gg h
      · replace h := (if_neg c853).symm.trans h
        obtain ⟨v908, m909, e910, h⟩ := xc_m_e h
        have g2591 : xf_r fl_gm_dropUnsafe m0 m909 := xf_t gg (xf_s rfl (gm_canStaySafe_fr e910))
        by_cases c912 : v908 = 0
        · replace h := (if_pos c912).symm.trans h
          obtain ⟨-, h⟩ := xg_e h
          obtain ⟨m914, e915, h⟩ := xs_e h
          have g2592 : xf_r fl_gm_dropUnsafe m0 m914 := xf_t g2591 (by rw [e915]; exact xf_i rfl)
          clear e915
          obtain ⟨m916, e917, h⟩ := xs_e h
          have g2593 : xf_r fl_gm_dropUnsafe m0 m916 := xf_t g2592 (by rw [e917]; exact xf_i rfl)
          clear e917
          exact ih (a850 + (1 : Int32)) m916 g2593 h
        · replace h := (if_neg c912).symm.trans h
          exact ih (a850 + (1 : Int32)) m909 g2591 h
theorem gm_dropUnsafe_fr {F : Nat} {a1 : Int32} {r : Int32} {m0 m' : xm_S} (h : gm_dropUnsafe F a1 m0 = some (r, m')) : xf_r fl_gm_dropUnsafe m0 m' := by
  unfold gm_dropUnsafe at h
  have gg : xf_r fl_gm_dropUnsafe m0 m0 := xf_0
  refine gm_dropUnsafe_l7_fr (fun m918 g2594 h => ?_) F (0 : Int32) m0 gg h
  by_cases c919 : (m918.1 26 5) = (m0.1 26 5)
  · replace h := (if_pos c919).symm.trans h
    obtain ⟨rfl, rfl⟩ := Prod.mk.inj (Option.some.inj h)
    exact g2594
  · replace h := (if_neg c919).symm.trans h
    obtain ⟨rfl, rfl⟩ := Prod.mk.inj (Option.some.inj h)
    exact g2594
def fl_gm_isWonBy : List Nat := [26, 29]
theorem gm_isWonBy_l2_fr {F : Nat} {a832 : Int32} {k : xm_S → Option (Int32 × xm_S)} {r : Int32} {m0 m' : xm_S} 
    (hk : ∀ (m : xm_S), xf_r fl_gm_isWonBy m0 m → k m = some (r, m') → xf_r fl_gm_isWonBy m0 m') : ∀ (fu : Nat) (a833 : Int32) (m831 : xm_S), xf_r fl_gm_isWonBy m0 m831 → gm_isWonBy_l2 F a832 k fu a833 m831 = some (r, m') → xf_r fl_gm_isWonBy m0 m' := by
  intro fu
  induction fu with
  | zero => intro a833 m831 gg h; cases h
  | succ fu ih =>
    intro a833 m831 gg h
    rw [gm_isWonBy_l2] at h
    by_cases c834 : (m831.1 26 2) ≤ a833
    · replace h := (if_pos c834).symm.trans h
      exact hk m831 gg h
    · replace h := (if_neg c834).symm.trans h
      obtain ⟨-, h⟩ := xg_e h
      obtain ⟨m836, e837, h⟩ := xs_e h
      have g2595 : xf_r fl_gm_isWonBy m0 m836 := xf_t gg (by rw [e837]; exact xf_i rfl)
      clear e837
      exact ih (a833 + (1 : Int32)) m836 g2595 h
theorem gm_isWonBy_l35_fr {F : Nat} {a842 : Int32} {k : xm_S → Option (Int32 × xm_S)} {r : Int32} {m0 m' : xm_S} 
    (hk : ∀ (m : xm_S), xf_r fl_gm_isWonBy m0 m → k m = some (r, m') → xf_r fl_gm_isWonBy m0 m') : ∀ (fu : Nat) (a843 : Int32) (a844 : Int32) (m841 : xm_S), xf_r fl_gm_isWonBy m0 m841 → gm_isWonBy_l35 F a842 k fu a843 a844 m841 = some (r, m') → xf_r fl_gm_isWonBy m0 m' := by
  intro fu
  induction fu with
  | zero => intro a843 a844 m841 gg h; cases h
  | succ fu ih =>
    intro a843 a844 m841 gg h
    rw [gm_isWonBy_l35] at h
    by_cases c845 : (100 : Int32) < a844
    · replace h := (if_pos c845).symm.trans h
      exact hk m841 gg h
    · replace h := (if_neg c845).symm.trans h
      by_cases c846 : a843 = 0
      · replace h := (if_pos c846).symm.trans h
        exact hk m841 gg h
      · replace h := (if_neg c846).symm.trans h
        obtain ⟨v920, m921, e922, h⟩ := xc_m_e h
        have g2596 : xf_r fl_gm_isWonBy m0 m921 := xf_t gg (xf_s rfl (gm_dropUnsafe_fr e922))
        exact ih v920 (a844 + (1 : Int32)) m921 g2596 h
theorem gm_isWonBy_fr {F : Nat} {a1 : Int32} {r : Int32} {m0 m' : xm_S} (h : gm_isWonBy F a1 m0 = some (r, m')) : xf_r fl_gm_isWonBy m0 m' := by
  unfold gm_isWonBy at h
  have gg : xf_r fl_gm_isWonBy m0 m0 := xf_0
  refine gm_isWonBy_l2_fr (fun m838 g2597 h => ?_) F (0 : Int32) m0 gg h
  obtain ⟨m839, e840, h⟩ := xs_e h
  have g2598 : xf_r fl_gm_isWonBy m0 m839 := xf_t g2597 (by rw [e840]; exact xf_i rfl)
  clear e840
  refine gm_isWonBy_l35_fr (fun m924 g2599 h => ?_) F (1 : Int32) (0 : Int32) m839 g2598 h
  obtain ⟨-, h⟩ := xg_e h
  obtain ⟨-, h⟩ := xg_b_e h
  obtain ⟨rfl, rfl⟩ := Prod.mk.inj (Option.some.inj h)
  exact g2599
def fl_wi_stateOf : List Nat := [30, 31, 32]
theorem wi_stateOf_fr {F : Nat} {a1 : Int32} {r : Int32} {m0 m' : xm_S} (h : wi_stateOf F a1 m0 = some (r, m')) : xf_r fl_wi_stateOf m0 m' := by
  unfold wi_stateOf at h
  have gg : xf_r fl_wi_stateOf m0 m0 := xf_0
  obtain ⟨-, h⟩ := xg_e h
  obtain ⟨j972, e973, h⟩ := xj_e h
  have q974 : ∀ (m971 : xm_S), xf_r fl_wi_stateOf m0 m971 → j972 m971 = some (r, m') → xf_r fl_wi_stateOf m0 m' := by
    intro m971 g2600 h
    rw [e973] at h
    obtain ⟨-, h⟩ := xg_e h
    obtain ⟨rfl, rfl⟩ := Prod.mk.inj (Option.some.inj h)
    exact g2600
  clear e973
  by_cases c976 : (m0.1 32 a1.toNatClampNeg) = (-1 : Int32)
  · replace h := (if_pos c976).symm.trans h
    obtain ⟨-, h⟩ := xg_e h
    obtain ⟨m978, e979, h⟩ := xs_e h
    have g2601 : xf_r fl_wi_stateOf m0 m978 := xf_t gg (by rw [e979]; exact xf_i rfl)
    clear e979
    obtain ⟨-, h⟩ := xg_e h
    obtain ⟨m981, e982, h⟩ := xs_e h
    have g2602 : xf_r fl_wi_stateOf m0 m981 := xf_t g2601 (by rw [e982]; exact xf_i rfl)
    clear e982
    obtain ⟨m983, e984, h⟩ := xs_e h
    have g2603 : xf_r fl_wi_stateOf m0 m983 := xf_t g2602 (by rw [e984]; exact xf_i rfl)
    clear e984
    exact q974 m983 g2603 h
  · replace h := (if_neg c976).symm.trans h
    exact q974 m0 gg h
def fl_wi_begin : List Nat := [30, 31, 32]
theorem wi_begin_fr {F : Nat} {a1 : Int32} {m0 m' : xm_S} (h : wi_begin F a1 m0 = some m') : xf_r fl_wi_begin m0 m' := by
  unfold wi_begin at h
  have gg : xf_r fl_wi_begin m0 m0 := xf_0
  obtain ⟨m948, e949, h⟩ := xs_e h
  have g2604 : xf_r fl_wi_begin m0 m948 := xf_t gg (by rw [e949]; exact xf_i rfl)
  clear e949
  obtain ⟨m950, e951, h⟩ := xs_e h
  have g2605 : xf_r fl_wi_begin m0 m950 := xf_t g2604 (by rw [e951]; exact xf_i rfl)
  clear e951
  obtain ⟨m952, e953, h⟩ := xs_e h
  have g2606 : xf_r fl_wi_begin m0 m952 := xf_t g2605 (by rw [e953]; exact xf_i rfl)
  clear e953
  obtain ⟨m955, e956, h⟩ := xc_v_e h
  have g2607 : xf_r fl_wi_begin m0 m955 := xf_t g2606 (xf_s rfl (ja_fill_fr e956))
  obtain ⟨m958, e959, h⟩ := xs_e h
  have g2608 : xf_r fl_wi_begin m0 m958 := xf_t g2607 (by rw [e959]; exact xf_i rfl)
  clear e959
  obtain ⟨v985, m986, e987, h⟩ := xc_m_e h
  have g2609 : xf_r fl_wi_begin m0 m986 := xf_t g2608 (xf_s rfl (wi_stateOf_fr e987))
  obtain rfl := Option.some.inj h
  exact g2609
def fl_wi_addStep : List Nat := [30, 31, 32, 33, 34]
theorem wi_addStep_fr {F : Nat} {a1 : Int32} {a2 : Int32} {a3 : Int32} {a4 : Int32} {m0 m' : xm_S} (h : wi_addStep F a1 a2 a3 a4 m0 = some m') : xf_r fl_wi_addStep m0 m' := by
  unfold wi_addStep at h
  have gg : xf_r fl_wi_addStep m0 m0 := xf_0
  by_cases c1007 : a3 = (-1 : Int32)
  · replace h := (if_pos c1007).symm.trans h
    obtain rfl := Option.some.inj h
    exact gg
  · replace h := (if_neg c1007).symm.trans h
    by_cases c1008 : a4 = (-1 : Int32)
    · replace h := (if_pos c1008).symm.trans h
      obtain rfl := Option.some.inj h
      exact gg
    · replace h := (if_neg c1008).symm.trans h
      obtain ⟨-, h⟩ := xg_e h
      obtain ⟨m1011, e1012, h⟩ := xs_e h
      have g2610 : xf_r fl_wi_addStep m0 m1011 := xf_t gg (by rw [e1012]; exact xf_i rfl)
      clear e1012
      obtain ⟨-, h⟩ := xg_e h
      obtain ⟨v1014, m1015, e1016, h⟩ := xc_m_e h
      have g2611 : xf_r fl_wi_addStep m0 m1015 := xf_t g2610 (xf_s rfl (gm_follower_fr e1016))
      obtain ⟨v1018, m1019, e1020, h⟩ := xc_m_e h
      have g2612 : xf_r fl_wi_addStep m0 m1019 := xf_t g2611 (xf_s rfl (wi_stateOf_fr e1020))
      obtain ⟨-, h⟩ := xg_e h
      obtain ⟨m1023, e1024, h⟩ := xs_e h
      have g2613 : xf_r fl_wi_addStep m0 m1023 := xf_t g2612 (by rw [e1024]; exact xf_i rfl)
      clear e1024
      obtain rfl := Option.some.inj h
      exact g2613
def fl_wi_takeOpponent : List Nat := [30, 31, 32, 33, 34]
theorem wi_takeOpponent_l37_fr {F : Nat} {a1003 : Int32} {a1004 : Int32} {k : xm_S → Option (xm_S)} {m0 m' : xm_S} 
    (hk : ∀ (m : xm_S), xf_r fl_wi_takeOpponent m0 m → k m = some m' → xf_r fl_wi_takeOpponent m0 m') : ∀ (fu : Nat) (a1005 : Int32) (m1002 : xm_S), xf_r fl_wi_takeOpponent m0 m1002 → wi_takeOpponent_l37 F a1003 a1004 k fu a1005 m1002 = some m' → xf_r fl_wi_takeOpponent m0 m' := by
  intro fu
  induction fu with
  | zero => intro a1005 m1002 gg h; cases h
  | succ fu ih =>
    intro a1005 m1002 gg h
    rw [wi_takeOpponent_l37] at h
    by_cases c1006 : (4 : Int32) ≤ a1005
    · replace h := (if_pos c1006).symm.trans h
      exact hk m1002 gg h
    · replace h := (if_neg c1006).symm.trans h
      obtain ⟨m1027, e1028, h⟩ := xc_v_e h
      have g2614 : xf_r fl_wi_takeOpponent m0 m1027 := xf_t gg (xf_s rfl (wi_addStep_fr e1028))
      exact ih (a1005 + (1 : Int32)) m1027 g2614 h
theorem wi_takeOpponent_l7_fr {F : Nat} {k : xm_S → Option (xm_S)} {m0 m' : xm_S} 
    (hk : ∀ (m : xm_S), xf_r fl_wi_takeOpponent m0 m → k m = some m' → xf_r fl_wi_takeOpponent m0 m') : ∀ (fu : Nat) (a994 : Int32) (m993 : xm_S), xf_r fl_wi_takeOpponent m0 m993 → wi_takeOpponent_l7 F k fu a994 m993 = some m' → xf_r fl_wi_takeOpponent m0 m' := by
  intro fu
  induction fu with
  | zero => intro a994 m993 gg h; cases h
  | succ fu ih =>
    intro a994 m993 gg h
    rw [wi_takeOpponent_l7] at h
    by_cases c995 : (m993.1 30 2) ≤ a994
    · replace h := (if_pos c995).symm.trans h
      exact hk m993 gg h
    · replace h := (if_neg c995).symm.trans h
      by_cases c996 : (100 : Int32) ≤ a994
      · replace h := (if_pos c996).symm.trans h
        exact hk m993 gg h
      · replace h := (if_neg c996).symm.trans h
        obtain ⟨-, h⟩ := xg_e h
        obtain ⟨v998, m999, e1000, h⟩ := xc_m_e h
        have g2615 : xf_r fl_wi_takeOpponent m0 m999 := xf_t gg (xf_s rfl (gm_safeInput_fr e1000))
        refine wi_takeOpponent_l37_fr (fun m1030 g2616 h => ?_) F (0 : Int32) m999 g2615 h
        exact ih (a994 + (1 : Int32)) m1030 g2616 h
theorem wi_takeOpponent_fr {F : Nat} {m0 m' : xm_S} (h : wi_takeOpponent F m0 = some m') : xf_r fl_wi_takeOpponent m0 m' := by
  unfold wi_takeOpponent at h
  have gg : xf_r fl_wi_takeOpponent m0 m0 := xf_0
  obtain ⟨m990, e991, h⟩ := xc_v_e h
  have g2617 : xf_r fl_wi_takeOpponent m0 m990 := xf_t gg (xf_s rfl (wi_begin_fr e991))
  refine wi_takeOpponent_l7_fr (fun m1031 g2618 h => ?_) F (0 : Int32) m990 g2617 h
  obtain rfl := Option.some.inj h
  exact g2618
def fl_wi_takeMachine : List Nat := [30, 31, 32, 33, 34]
theorem wi_takeMachine_l30_fr {F : Nat} {a1046 : Int32} {a1047 : Int32} {k : xm_S → Option (xm_S)} {m0 m' : xm_S} 
    (hk : ∀ (m : xm_S), xf_r fl_wi_takeMachine m0 m → k m = some m' → xf_r fl_wi_takeMachine m0 m') : ∀ (fu : Nat) (a1048 : Int32) (m1045 : xm_S), xf_r fl_wi_takeMachine m0 m1045 → wi_takeMachine_l30 F a1046 a1047 k fu a1048 m1045 = some m' → xf_r fl_wi_takeMachine m0 m' := by
  intro fu
  induction fu with
  | zero => intro a1048 m1045 gg h; cases h
  | succ fu ih =>
    intro a1048 m1045 gg h
    rw [wi_takeMachine_l30] at h
    by_cases c1049 : (4 : Int32) ≤ a1048
    · replace h := (if_pos c1049).symm.trans h
      exact hk m1045 gg h
    · replace h := (if_neg c1049).symm.trans h
      obtain ⟨v1050, m1051, e1052, h⟩ := xc_m_e h
      have g2619 : xf_r fl_wi_takeMachine m0 m1051 := xf_t gg (xf_s rfl (gm_safeOutput_fr e1052))
      obtain ⟨m1055, e1056, h⟩ := xc_v_e h
      have g2620 : xf_r fl_wi_takeMachine m0 m1055 := xf_t g2619 (xf_s rfl (wi_addStep_fr e1056))
      exact ih (a1048 + (1 : Int32)) m1055 g2620 h
theorem wi_takeMachine_l7_fr {F : Nat} {k : xm_S → Option (xm_S)} {m0 m' : xm_S} 
    (hk : ∀ (m : xm_S), xf_r fl_wi_takeMachine m0 m → k m = some m' → xf_r fl_wi_takeMachine m0 m') : ∀ (fu : Nat) (a1041 : Int32) (m1040 : xm_S), xf_r fl_wi_takeMachine m0 m1040 → wi_takeMachine_l7 F k fu a1041 m1040 = some m' → xf_r fl_wi_takeMachine m0 m' := by
  intro fu
  induction fu with
  | zero => intro a1041 m1040 gg h; cases h
  | succ fu ih =>
    intro a1041 m1040 gg h
    rw [wi_takeMachine_l7] at h
    by_cases c1042 : (m1040.1 30 2) ≤ a1041
    · replace h := (if_pos c1042).symm.trans h
      exact hk m1040 gg h
    · replace h := (if_neg c1042).symm.trans h
      by_cases c1043 : (100 : Int32) ≤ a1041
      · replace h := (if_pos c1043).symm.trans h
        exact hk m1040 gg h
      · replace h := (if_neg c1043).symm.trans h
        obtain ⟨-, h⟩ := xg_e h
        refine wi_takeMachine_l30_fr (fun m1058 g2621 h => ?_) F (0 : Int32) m1040 gg h
        exact ih (a1041 + (1 : Int32)) m1058 g2621 h
theorem wi_takeMachine_fr {F : Nat} {m0 m' : xm_S} (h : wi_takeMachine F m0 = some m') : xf_r fl_wi_takeMachine m0 m' := by
  unfold wi_takeMachine at h
  have gg : xf_r fl_wi_takeMachine m0 m0 := xf_0
  obtain ⟨m1037, e1038, h⟩ := xc_v_e h
  have g2622 : xf_r fl_wi_takeMachine m0 m1037 := xf_t gg (xf_s rfl (wi_begin_fr e1038))
  refine wi_takeMachine_l7_fr (fun m1059 g2623 h => ?_) F (0 : Int32) m1037 g2622 h
  obtain rfl := Option.some.inj h
  exact g2623
def fl_mk_solve : List Nat := [1, 2, 3, 4, 5, 6, 10, 11, 12, 13, 14, 15, 16, 17, 18, 19, 20, 21, 22, 23, 24, 25, 26, 27, 28, 29, 30, 31, 32, 33, 34, 58]
theorem mk_solve_fr {xt : Nat → Nat × (Nat → Int32)} {n : Nat} {F : Nat} {a1 : Int32} {a2 : Int32} {r : Int32} {m0 m' : xm_S} {n' : Nat} (h : mk_solve F xt n a1 a2 m0 = some (r, n', m')) : xf_r fl_mk_solve m0 m' := by
  unfold mk_solve at h
  have gg : xf_r fl_mk_solve m0 m0 := xf_0
  by_cases c703 : (bk_knows a1 m0) = 0
  · replace h := (if_pos c703).symm.trans h
    obtain ⟨rfl, h9⟩ := Prod.mk.inj (Option.some.inj h)
    obtain ⟨rfl, rfl⟩ := Prod.mk.inj h9
    exact gg
  · replace h := (if_neg c703).symm.trans h
    by_cases c704 : a2 < 0
    · replace h := (if_pos c704).symm.trans h
      obtain ⟨rfl, h9⟩ := Prod.mk.inj (Option.some.inj h)
      obtain ⟨rfl, rfl⟩ := Prod.mk.inj h9
      exact gg
    · replace h := (if_neg c704).symm.trans h
      by_cases c705 : a2 ≤ (3 : Int32)
      · replace h := (if_pos c705).symm.trans h
        obtain ⟨m715, e716, h⟩ := xc_v_e h
        have g2624 : xf_r fl_mk_solve m0 m715 := xf_t gg (xf_s rfl (wi_forget_fr e716))
        obtain ⟨v718, m719, e720, h⟩ := xc_m_e h
        have g2625 : xf_r fl_mk_solve m0 m719 := xf_t g2624 (xf_s rfl (bk_buildDual_fr 29 e720))
        by_cases c722 : v718 = (-2 : Int32)
        · replace h := (if_pos c722).symm.trans h
          obtain ⟨rfl, h9⟩ := Prod.mk.inj (Option.some.inj h)
          obtain ⟨rfl, rfl⟩ := Prod.mk.inj h9
          exact g2625
        · replace h := (if_neg c722).symm.trans h
          obtain ⟨v723, n726, m724, e725, l727, h⟩ := xc_a_e h
          have g2626 : xf_r fl_mk_solve m0 m724 := xf_t g2625 (xf_s rfl (au_build_fr e725))
          by_cases c728 : v723 = 0
          · replace h := (if_pos c728).symm.trans h
            obtain ⟨rfl, h9⟩ := Prod.mk.inj (Option.some.inj h)
            obtain ⟨rfl, rfl⟩ := Prod.mk.inj h9
            exact g2626
          · replace h := (if_neg c728).symm.trans h
            obtain ⟨v826, m827, e828, h⟩ := xc_m_e h
            have g2627 : xf_r fl_mk_solve m0 m827 := xf_t g2626 (xf_s rfl (gm_explore_fr e828))
            by_cases c830 : v826 = 0
            · replace h := (if_pos c830).symm.trans h
              obtain ⟨rfl, h9⟩ := Prod.mk.inj (Option.some.inj h)
              obtain ⟨rfl, rfl⟩ := Prod.mk.inj h9
              exact g2627
            · replace h := (if_neg c830).symm.trans h
              obtain ⟨v927, m928, e929, h⟩ := xc_m_e h
              have g2628 : xf_r fl_mk_solve m0 m928 := xf_t g2627 (xf_s rfl (gm_isWonBy_fr e929))
              by_cases c931 : v927 = 0
              · replace h := (if_pos c931).symm.trans h
                obtain ⟨v932, n935, m933, e934, l936, h⟩ := xc_a_e h
                have g2629 : xf_r fl_mk_solve m0 m933 := xf_t g2628 (xf_s rfl (au_build_fr e934))
                by_cases c937 : v932 = 0
                · replace h := (if_pos c937).symm.trans h
                  obtain ⟨rfl, h9⟩ := Prod.mk.inj (Option.some.inj h)
                  obtain ⟨rfl, rfl⟩ := Prod.mk.inj h9
                  exact g2629
                · replace h := (if_neg c937).symm.trans h
                  obtain ⟨v938, m939, e940, h⟩ := xc_m_e h
                  have g2630 : xf_r fl_mk_solve m0 m939 := xf_t g2629 (xf_s rfl (gm_explore_fr e940))
                  by_cases c942 : v938 = 0
                  · replace h := (if_pos c942).symm.trans h
                    obtain ⟨rfl, h9⟩ := Prod.mk.inj (Option.some.inj h)
                    obtain ⟨rfl, rfl⟩ := Prod.mk.inj h9
                    exact g2630
                  · replace h := (if_neg c942).symm.trans h
                    obtain ⟨v943, m944, e945, h⟩ := xc_m_e h
                    have g2631 : xf_r fl_mk_solve m0 m944 := xf_t g2630 (xf_s rfl (gm_isWonBy_fr e945))
                    by_cases c947 : v943 = 0
                    · replace h := (if_pos c947).symm.trans h
                      obtain ⟨rfl, h9⟩ := Prod.mk.inj (Option.some.inj h)
                      obtain ⟨rfl, rfl⟩ := Prod.mk.inj h9
                      exact g2631
                    · replace h := (if_neg c947).symm.trans h
                      obtain ⟨m1033, e1034, h⟩ := xc_v_e h
                      have g2632 : xf_r fl_mk_solve m0 m1033 := xf_t g2631 (xf_s rfl (wi_takeOpponent_fr e1034))
                      obtain ⟨rfl, h9⟩ := Prod.mk.inj (Option.some.inj h)
                      obtain ⟨rfl, rfl⟩ := Prod.mk.inj h9
                      exact g2632
              · replace h := (if_neg c931).symm.trans h
                obtain ⟨m1061, e1062, h⟩ := xc_v_e h
                have g2633 : xf_r fl_mk_solve m0 m1061 := xf_t g2628 (xf_s rfl (wi_takeMachine_fr e1062))
                obtain ⟨rfl, h9⟩ := Prod.mk.inj (Option.some.inj h)
                obtain ⟨rfl, rfl⟩ := Prod.mk.inj h9
                exact g2633
      · replace h := (if_neg c705).symm.trans h
        obtain ⟨rfl, h9⟩ := Prod.mk.inj (Option.some.inj h)
        obtain ⟨rfl, rfl⟩ := Prod.mk.inj h9
        exact gg
def fl_mk_gives : List Nat := []
theorem mk_gives_fr {F : Nat} {a1 : Int32} {a2 : Int32} {r : Int32} {m0 m' : xm_S} (h : mk_gives F a1 a2 m0 = some (r, m')) : xf_r fl_mk_gives m0 m' := by
  unfold mk_gives at h
  have gg : xf_r fl_mk_gives m0 m0 := xf_0
  by_cases c1074 : (wi_knows a1 m0) = 0
  · replace h := (if_pos c1074).symm.trans h
    obtain ⟨rfl, rfl⟩ := Prod.mk.inj (Option.some.inj h)
    exact gg
  · replace h := (if_neg c1074).symm.trans h
    by_cases c1075 : (m0.1 30 1) = (2 : Int32)
    · replace h := (if_pos c1075).symm.trans h
      obtain ⟨-, h⟩ := xg_e h
      obtain ⟨rfl, rfl⟩ := Prod.mk.inj (Option.some.inj h)
      exact gg
    · replace h := (if_neg c1075).symm.trans h
      by_cases c1076 : (mk_isSignal a2) = 0
      · replace h := (if_pos c1076).symm.trans h
        obtain ⟨rfl, rfl⟩ := Prod.mk.inj (Option.some.inj h)
        exact gg
      · replace h := (if_neg c1076).symm.trans h
        obtain ⟨-, h⟩ := xg_e h
        obtain ⟨rfl, rfl⟩ := Prod.mk.inj (Option.some.inj h)
        exact gg
def fl_mk_next : List Nat := []
theorem mk_next_fr {F : Nat} {a1 : Int32} {a2 : Int32} {r : Int32} {m0 m' : xm_S} (h : mk_next F a1 a2 m0 = some (r, m')) : xf_r fl_mk_next m0 m' := by
  unfold mk_next at h
  have gg : xf_r fl_mk_next m0 m0 := xf_0
  by_cases c1081 : (wi_knows a1 m0) = 0
  · replace h := (if_pos c1081).symm.trans h
    obtain ⟨rfl, rfl⟩ := Prod.mk.inj (Option.some.inj h)
    exact gg
  · replace h := (if_neg c1081).symm.trans h
    by_cases c1082 : (mk_isSignal a2) = 0
    · replace h := (if_pos c1082).symm.trans h
      obtain ⟨rfl, rfl⟩ := Prod.mk.inj (Option.some.inj h)
      exact gg
    · replace h := (if_neg c1082).symm.trans h
      obtain ⟨-, h⟩ := xg_e h
      obtain ⟨rfl, rfl⟩ := Prod.mk.inj (Option.some.inj h)
      exact gg
def fl_mm_make : List Nat := [35, 36, 37, 38]
theorem mm_make_l3_fr {F : Nat} {a1104 : Int32} {a1105 : Int32} {a1106 : Int32} {k : xm_S → Option (Int32 × xm_S)} {r : Int32} {m0 m' : xm_S} 
    (hk : ∀ (m : xm_S), xf_r fl_mm_make m0 m → k m = some (r, m') → xf_r fl_mm_make m0 m') : ∀ (fu : Nat) (a1107 : Int32) (m1103 : xm_S), xf_r fl_mm_make m0 m1103 → mm_make_l3 F a1104 a1105 a1106 k fu a1107 m1103 = some (r, m') → xf_r fl_mm_make m0 m' := by
  intro fu
  induction fu with
  | zero => intro a1107 m1103 gg h; cases h
  | succ fu ih =>
    intro a1107 m1103 gg h
    rw [mm_make_l3] at h
    by_cases c1108 : (m1103.1 35 0) ≤ a1107
    · replace h := (if_pos c1108).symm.trans h
      exact hk m1103 gg h
    · replace h := (if_neg c1108).symm.trans h
      obtain ⟨-, h⟩ := xg_e h
      by_cases c1110 : (m1103.1 36 a1107.toNatClampNeg) = a1104
      · replace h := (if_pos c1110).symm.trans h
        obtain ⟨-, h⟩ := xg_e h
        by_cases c1112 : (m1103.1 37 a1107.toNatClampNeg) = a1105
        · replace h := (if_pos c1112).symm.trans h
          obtain ⟨-, h⟩ := xg_e h
          by_cases c1114 : (m1103.1 38 a1107.toNatClampNeg) = a1106
          · replace h := (if_pos c1114).symm.trans h
            obtain ⟨rfl, rfl⟩ := Prod.mk.inj (Option.some.inj h)
            exact gg
          · replace h := (if_neg c1114).symm.trans h
            exact ih (a1107 + (1 : Int32)) m1103 gg h
        · replace h := (if_neg c1112).symm.trans h
          exact ih (a1107 + (1 : Int32)) m1103 gg h
      · replace h := (if_neg c1110).symm.trans h
        exact ih (a1107 + (1 : Int32)) m1103 gg h
theorem mm_make_fr {F : Nat} {a1 : Int32} {a2 : Int32} {a3 : Int32} {r : Int32} {m0 m' : xm_S} (h : mm_make F a1 a2 a3 m0 = some (r, m')) : xf_r fl_mm_make m0 m' := by
  unfold mm_make at h
  have gg : xf_r fl_mm_make m0 m0 := xf_0
  refine mm_make_l3_fr (fun m1115 g2634 h => ?_) F (0 : Int32) m0 gg h
  by_cases c1116 : (m1115.1 35 0) = (28 : Int32)
  · replace h := (if_pos c1116).symm.trans h
    obtain ⟨rfl, rfl⟩ := Prod.mk.inj (Option.some.inj h)
    exact g2634
  · replace h := (if_neg c1116).symm.trans h
    obtain ⟨-, h⟩ := xg_e h
    obtain ⟨m1118, e1119, h⟩ := xs_e h
    have g2635 : xf_r fl_mm_make m0 m1118 := xf_t g2634 (by rw [e1119]; exact xf_i rfl)
    clear e1119
    obtain ⟨-, h⟩ := xg_e h
    obtain ⟨m1121, e1122, h⟩ := xs_e h
    have g2636 : xf_r fl_mm_make m0 m1121 := xf_t g2635 (by rw [e1122]; exact xf_i rfl)
    clear e1122
    obtain ⟨-, h⟩ := xg_e h
    obtain ⟨m1124, e1125, h⟩ := xs_e h
    have g2637 : xf_r fl_mm_make m0 m1124 := xf_t g2636 (by rw [e1125]; exact xf_i rfl)
    clear e1125
    obtain ⟨m1126, e1127, h⟩ := xs_e h
    have g2638 : xf_r fl_mm_make m0 m1126 := xf_t g2637 (by rw [e1127]; exact xf_i rfl)
    clear e1127
    obtain ⟨rfl, rfl⟩ := Prod.mk.inj (Option.some.inj h)
    exact g2638
def fl_mm_formula : List Nat := [35, 36, 37, 38]
theorem mm_formula_fr {F : Nat} {a1 : Int32} {a2 : Int32} {a3 : Int32} {r : Int32} {m0 m' : xm_S} (h : mm_formula F a1 a2 a3 m0 = some (r, m')) : xf_r fl_mm_formula m0 m' := by
  unfold mm_formula at h
  have gg : xf_r fl_mm_formula m0 m0 := xf_0
  by_cases c1132 : a1 < 0
  · replace h := (if_pos c1132).symm.trans h
    obtain ⟨rfl, rfl⟩ := Prod.mk.inj (Option.some.inj h)
    exact gg
  · replace h := (if_neg c1132).symm.trans h
    by_cases c1133 : a1 ≤ (8 : Int32)
    · replace h := (if_pos c1133).symm.trans h
      obtain ⟨j1141, e1142, h⟩ := xj_e h
      have q1143 : ∀ (u1140 : Unit), j1141 u1140 = some (r, m') → xf_r fl_mm_formula m0 m' := by
        intro u1140 h
        rw [e1142] at h
        obtain ⟨j1149, e1150, h⟩ := xj_e h
        have q1151 : ∀ (u1148 : Unit), j1149 u1148 = some (r, m') → xf_r fl_mm_formula m0 m' := by
          intro u1148 h
          rw [e1150] at h
          obtain ⟨j1157, e1158, h⟩ := xj_e h
          have q1159 : ∀ (u1156 : Unit), j1157 u1156 = some (r, m') → xf_r fl_mm_formula m0 m' := by
            intro u1156 h
            rw [e1158] at h
            obtain ⟨v1162, m1163, e1164, h⟩ := xc_m_e h
            have g2639 : xf_r fl_mm_formula m0 m1163 := xf_t gg (xf_s rfl (mm_make_fr e1164))
            obtain ⟨rfl, rfl⟩ := Prod.mk.inj (Option.some.inj h)
            exact g2639
          clear e1158
          by_cases c1168 : (mm_hasTwo a1) = 0
          · replace h := (if_pos c1168).symm.trans h
            exact q1159 () h
          · replace h := (if_neg c1168).symm.trans h
            by_cases c1169 : (mm_isFormula a3 m0) = 0
            · replace h := (if_pos c1169).symm.trans h
              obtain ⟨rfl, rfl⟩ := Prod.mk.inj (Option.some.inj h)
              exact gg
            · replace h := (if_neg c1169).symm.trans h
              exact q1159 () h
        clear e1150
        by_cases c1170 : a1 ≤ (3 : Int32)
        · replace h := (if_pos c1170).symm.trans h
          exact q1151 () h
        · replace h := (if_neg c1170).symm.trans h
          by_cases c1171 : (mm_isFormula a2 m0) = 0
          · replace h := (if_pos c1171).symm.trans h
            obtain ⟨rfl, rfl⟩ := Prod.mk.inj (Option.some.inj h)
            exact gg
          · replace h := (if_neg c1171).symm.trans h
            exact q1151 () h
      clear e1142
      obtain ⟨j1175, e1176, h⟩ := xj_e h
      have q1177 : ∀ (u1174 : Unit), j1175 u1174 = some (r, m') → xf_r fl_mm_formula m0 m' := by
        intro u1174 h
        rw [e1176] at h
        by_cases c1178 : a2 < 0
        · replace h := (if_pos c1178).symm.trans h
          obtain ⟨rfl, rfl⟩ := Prod.mk.inj (Option.some.inj h)
          exact gg
        · replace h := (if_neg c1178).symm.trans h
          by_cases c1179 : a2 ≤ (3 : Int32)
          · replace h := (if_pos c1179).symm.trans h
            exact q1143 () h
          · replace h := (if_neg c1179).symm.trans h
            obtain ⟨rfl, rfl⟩ := Prod.mk.inj (Option.some.inj h)
            exact gg
      clear e1176
      by_cases c1180 : a1 = (2 : Int32)
      · replace h := (if_pos c1180).symm.trans h
        exact q1177 () h
      · replace h := (if_neg c1180).symm.trans h
        by_cases c1181 : a1 = (3 : Int32)
        · replace h := (if_pos c1181).symm.trans h
          exact q1177 () h
        · replace h := (if_neg c1181).symm.trans h
          exact q1143 () h
    · replace h := (if_neg c1133).symm.trans h
      obtain ⟨rfl, rfl⟩ := Prod.mk.inj (Option.some.inj h)
      exact gg
def fl_mm_dual : List Nat := [35, 36, 37, 38, 39, 40]
theorem mm_dual_l12_fr {F : Nat} {a1184 : Int32} {k : xm_S → Option (Int32 × xm_S)} {r : Int32} {m0 m' : xm_S} 
    (hk : ∀ (m : xm_S), xf_r fl_mm_dual m0 m → k m = some (r, m') → xf_r fl_mm_dual m0 m') : ∀ (fu : Nat) (a1185 : Int32) (m1183 : xm_S), xf_r fl_mm_dual m0 m1183 → mm_dual_l12 F a1184 k fu a1185 m1183 = some (r, m') → xf_r fl_mm_dual m0 m' := by
  intro fu
  induction fu with
  | zero => intro a1185 m1183 gg h; cases h
  | succ fu ih =>
    intro a1185 m1183 gg h
    rw [mm_dual_l12] at h
    by_cases c1186 : (28 : Int32) ≤ a1185
    · replace h := (if_pos c1186).symm.trans h
      exact hk m1183 gg h
    · replace h := (if_neg c1186).symm.trans h
      obtain ⟨-, h⟩ := xg_e h
      obtain ⟨m1188, e1189, h⟩ := xs_e h
      have g2640 : xf_r fl_mm_dual m0 m1188 := xf_t gg (by rw [e1189]; exact xf_i rfl)
      clear e1189
      exact ih (a1185 + (1 : Int32)) m1188 g2640 h
theorem mm_dual_l40_fr {F : Nat} {a1195 : Int32} {k : xm_S → Option (Int32 × xm_S)} {r : Int32} {m0 m' : xm_S} 
    (hk : ∀ (m : xm_S), xf_r fl_mm_dual m0 m → k m = some (r, m') → xf_r fl_mm_dual m0 m') : ∀ (fu : Nat) (a1196 : Int32) (m1194 : xm_S), xf_r fl_mm_dual m0 m1194 → mm_dual_l40 F a1195 k fu a1196 m1194 = some (r, m') → xf_r fl_mm_dual m0 m' := by
  intro fu
  induction fu with
  | zero => intro a1196 m1194 gg h; cases h
  | succ fu ih =>
    intro a1196 m1194 gg h
    rw [mm_dual_l40] at h
    by_cases c1197 : a1196 ≤ 0
    · replace h := (if_pos c1197).symm.trans h
      exact hk m1194 gg h
    · replace h := (if_neg c1197).symm.trans h
      obtain ⟨-, h⟩ := xg_e h
      obtain ⟨-, h⟩ := xg_e h
      obtain ⟨j1205, e1206, h⟩ := xj_e h
      have q1207 : ∀ (x1204 : Int32), j1205 x1204 = some (r, m') → xf_r fl_mm_dual m0 m' := by
        intro x1204 h
        rw [e1206] at h
        obtain ⟨-, h⟩ := xg_e h
        obtain ⟨j1214, e1215, h⟩ := xj_e h
        have q1216 : ∀ (x1213 : Int32), j1214 x1213 = some (r, m') → xf_r fl_mm_dual m0 m' := by
          intro x1213 h
          rw [e1215] at h
          obtain ⟨-, h⟩ := xg_e h
          by_cases c1218 : (m1194.1 39 (m1194.1 40 (a1196 - (1 : Int32)).toNatClampNeg).toNatClampNeg) < 0
          · replace h := (if_pos c1218).symm.trans h
            obtain ⟨j1268, e1269, h⟩ := xj_e h
            have q1270 : ∀ (u1267 : Unit), j1268 u1267 = some (r, m') → xf_r fl_mm_dual m0 m' := by
              intro u1267 h
              rw [e1269] at h
              obtain ⟨j1276, e1277, h⟩ := xj_e h
              have q1278 : ∀ (x1275 : Int32), j1276 x1275 = some (r, m') → xf_r fl_mm_dual m0 m' := by
                intro x1275 h
                rw [e1277] at h
                obtain ⟨-, h⟩ := xg_e h
                obtain ⟨m1280, e1281, h⟩ := xs_e h
                have g2641 : xf_r fl_mm_dual m0 m1280 := xf_t gg (by rw [e1281]; exact xf_i rfl)
                clear e1281
                exact ih (a1196 + (1 : Int32)) m1280 g2641 h
              clear e1277
              by_cases c1282 : x1204 = 0
              · replace h := (if_pos c1282).symm.trans h
                obtain ⟨-, h⟩ := xg_e h
                exact q1278 (m1194.1 38 (m1194.1 40 (a1196 - (1 : Int32)).toNatClampNeg).toNatClampNeg) h
              · replace h := (if_neg c1282).symm.trans h
                obtain ⟨-, h⟩ := xg_e h
                exact q1278 (m1194.1 37 (m1194.1 40 (a1196 - (1 : Int32)).toNatClampNeg).toNatClampNeg) h
            clear e1269
            by_cases c1285 : x1204 = 0
            · replace h := (if_pos c1285).symm.trans h
              by_cases c1286 : x1213 = 0
              · replace h := (if_pos c1286).symm.trans h
                obtain ⟨-, h⟩ := xg_e h
                obtain ⟨j1294, e1295, h⟩ := xj_e h
                have q1296 : ∀ (x1293 : Int32), j1294 x1293 = some (r, m') → xf_r fl_mm_dual m0 m' := by
                  intro x1293 h
                  rw [e1295] at h
                  obtain ⟨-, h⟩ := xg_e h
                  obtain ⟨j1303, e1304, h⟩ := xj_e h
                  have q1305 : ∀ (x1302 : Int32), j1303 x1302 = some (r, m') → xf_r fl_mm_dual m0 m' := by
                    intro x1302 h
                    rw [e1304] at h
                    obtain ⟨-, h⟩ := xg_e h
                    obtain ⟨v1307, m1308, e1309, h⟩ := xc_m_e h
                    have g2642 : xf_r fl_mm_dual m0 m1308 := xf_t gg (xf_s rfl (mm_make_fr e1309))
                    by_cases c1311 : 0 ≤ v1307
                    · replace h := (if_pos c1311).symm.trans h
                      obtain ⟨-, h⟩ := xg_e h
                      obtain ⟨m1313, e1314, h⟩ := xs_e h
                      have g2643 : xf_r fl_mm_dual m0 m1313 := xf_t g2642 (by rw [e1314]; exact xf_i rfl)
                      clear e1314
                      exact ih a1196 m1313 g2643 h
                    · replace h := (if_neg c1311).symm.trans h
                      obtain ⟨rfl, rfl⟩ := Prod.mk.inj (Option.some.inj h)
                      exact g2642
                  clear e1304
                  by_cases c1315 : (mm_hasTwo (m1194.1 36 (m1194.1 40 (a1196 - (1 : Int32)).toNatClampNeg).toNatClampNeg)) = 0
                  · replace h := (if_pos c1315).symm.trans h
                    exact q1305 (0 : Int32) h
                  · replace h := (if_neg c1315).symm.trans h
                    obtain ⟨-, h⟩ := xg_e h
                    obtain ⟨-, h⟩ := xg_e h
                    exact q1305 (m1194.1 39 (m1194.1 38 (m1194.1 40 (a1196 - (1 : Int32)).toNatClampNeg).toNatClampNeg).toNatClampNeg) h
                clear e1295
                by_cases c1318 : (m1194.1 36 (m1194.1 40 (a1196 - (1 : Int32)).toNatClampNeg).toNatClampNeg) ≤ (3 : Int32)
                · replace h := (if_pos c1318).symm.trans h
                  obtain ⟨-, h⟩ := xg_e h
                  exact q1296 (m1194.1 37 (m1194.1 40 (a1196 - (1 : Int32)).toNatClampNeg).toNatClampNeg) h
                · replace h := (if_neg c1318).symm.trans h
                  obtain ⟨-, h⟩ := xg_e h
                  obtain ⟨-, h⟩ := xg_e h
                  exact q1296 (m1194.1 39 (m1194.1 37 (m1194.1 40 (a1196 - (1 : Int32)).toNatClampNeg).toNatClampNeg).toNatClampNeg) h
              · replace h := (if_neg c1286).symm.trans h
                exact q1270 () h
            · replace h := (if_neg c1285).symm.trans h
              exact q1270 () h
          · replace h := (if_neg c1218).symm.trans h
            exact ih (a1196 + (-1 : Int32)) m1194 gg h
        clear e1215
        obtain ⟨j1327, e1328, h⟩ := xj_e h
        have q1329 : ∀ (u1326 : Unit), j1327 u1326 = some (r, m') → xf_r fl_mm_dual m0 m' := by
          intro u1326 h
          rw [e1328] at h
          exact q1216 (0 : Int32) h
        clear e1328
        by_cases c1330 : (mm_hasTwo (m1194.1 36 (m1194.1 40 (a1196 - (1 : Int32)).toNatClampNeg).toNatClampNeg)) = 0
        · replace h := (if_pos c1330).symm.trans h
          exact q1329 () h
        · replace h := (if_neg c1330).symm.trans h
          obtain ⟨-, h⟩ := xg_e h
          obtain ⟨-, h⟩ := xg_e h
          by_cases c1333 : 0 ≤ (m1194.1 39 (m1194.1 38 (m1194.1 40 (a1196 - (1 : Int32)).toNatClampNeg).toNatClampNeg).toNatClampNeg)
          · replace h := (if_pos c1333).symm.trans h
            exact q1329 () h
          · replace h := (if_neg c1333).symm.trans h
            exact q1216 (1 : Int32) h
      clear e1206
      obtain ⟨j1339, e1340, h⟩ := xj_e h
      have q1341 : ∀ (u1338 : Unit), j1339 u1338 = some (r, m') → xf_r fl_mm_dual m0 m' := by
        intro u1338 h
        rw [e1340] at h
        exact q1207 (0 : Int32) h
      clear e1340
      by_cases c1342 : (m1194.1 36 (m1194.1 40 (a1196 - (1 : Int32)).toNatClampNeg).toNatClampNeg) ≤ (3 : Int32)
      · replace h := (if_pos c1342).symm.trans h
        exact q1341 () h
      · replace h := (if_neg c1342).symm.trans h
        obtain ⟨-, h⟩ := xg_e h
        obtain ⟨-, h⟩ := xg_e h
        by_cases c1345 : 0 ≤ (m1194.1 39 (m1194.1 37 (m1194.1 40 (a1196 - (1 : Int32)).toNatClampNeg).toNatClampNeg).toNatClampNeg)
        · replace h := (if_pos c1345).symm.trans h
          exact q1341 () h
        · replace h := (if_neg c1345).symm.trans h
          exact q1207 (1 : Int32) h
theorem mm_dual_fr {F : Nat} {a1 : Int32} {r : Int32} {m0 m' : xm_S} (h : mm_dual F a1 m0 = some (r, m')) : xf_r fl_mm_dual m0 m' := by
  unfold mm_dual at h
  have gg : xf_r fl_mm_dual m0 m0 := xf_0
  by_cases c1182 : (mm_isFormula a1 m0) = 0
  · replace h := (if_pos c1182).symm.trans h
    obtain ⟨rfl, rfl⟩ := Prod.mk.inj (Option.some.inj h)
    exact gg
  · replace h := (if_neg c1182).symm.trans h
    refine mm_dual_l12_fr (fun m1190 g2644 h => ?_) F (0 : Int32) m0 gg h
    obtain ⟨-, h⟩ := xg_e h
    obtain ⟨m1192, e1193, h⟩ := xs_e h
    have g2645 : xf_r fl_mm_dual m0 m1192 := xf_t g2644 (by rw [e1193]; exact xf_i rfl)
    clear e1193
    refine mm_dual_l40_fr (fun m1346 g2646 h => ?_) F (1 : Int32) m1192 g2645 h
    obtain ⟨-, h⟩ := xg_e h
    obtain ⟨rfl, rfl⟩ := Prod.mk.inj (Option.some.inj h)
    exact g2646
def fl_mm_fixed : List Nat := []
theorem mm_fixed_l19_fr {F : Nat} {a1435 : Int32} {a1436 : Int32} {a1437 : Int32} {a1438 : Int32} {a1439 : Int32} {k : Int32 → xm_S → Option (Int32 × xm_S)} {r : Int32} {m0 m' : xm_S} 
    (hk : ∀ (z6 : Int32) (m : xm_S), xf_r fl_mm_fixed m0 m → k z6 m = some (r, m') → xf_r fl_mm_fixed m0 m') : ∀ (fu : Nat) (a1440 : Int32) (a1441 : Int32) (m1434 : xm_S), xf_r fl_mm_fixed m0 m1434 → mm_fixed_l19 F a1435 a1436 a1437 a1438 a1439 k fu a1440 a1441 m1434 = some (r, m') → xf_r fl_mm_fixed m0 m' := by
  intro fu
  induction fu with
  | zero => intro a1440 a1441 m1434 gg h; cases h
  | succ fu ih =>
    intro a1440 a1441 m1434 gg h
    rw [mm_fixed_l19] at h
    by_cases c1442 : a1439 < a1441
    · replace h := (if_pos c1442).symm.trans h
      exact hk a1440 m1434 gg h
    · replace h := (if_neg c1442).symm.trans h
      by_cases c1443 : a1437 = 0
      · replace h := (if_pos c1443).symm.trans h
        exact ih (a1436 &&& (a1435 ||| (mm_ahead a1440 a1438 a1439))) (a1441 + (1 : Int32)) m1434 gg h
      · replace h := (if_neg c1443).symm.trans h
        exact ih (a1436 ||| (a1435 &&& (mm_ahead a1440 a1438 a1439))) (a1441 + (1 : Int32)) m1434 gg h
theorem mm_fixed_fr {F : Nat} {a1 : Int32} {a2 : Int32} {a3 : Int32} {a4 : Int32} {a5 : Int32} {r : Int32} {m0 m' : xm_S} (h : mm_fixed F a1 a2 a3 a4 a5 m0 = some (r, m')) : xf_r fl_mm_fixed m0 m' := by
  unfold mm_fixed at h
  have gg : xf_r fl_mm_fixed m0 m0 := xf_0
  refine mm_fixed_l19_fr (fun x1444 m1445 g2647 h => ?_) F (if a3 = 0 then ((1 : Int32) <<< (a5 &&& 31)) - (1 : Int32) else (0 : Int32)) (0 : Int32) m0 gg h
  obtain ⟨rfl, rfl⟩ := Prod.mk.inj (Option.some.inj h)
  exact g2647
def fl_mm_has : List Nat := [57]
theorem mm_has_l125_fr {F : Nat} {a1381 : Int32} {a1382 : Int64} {a1383 : Int32} {a1384 : Int64} {a1385 : Int32} {a1386 : Int32} {a1387 : Int32} {a1388 : Int32} {a1389 : Int32} {k : Int32 → xm_S → Option (Int32 × xm_S)} {r : Int32} {m0 m' : xm_S} 
    (hk : ∀ (z13 : Int32) (m : xm_S), xf_r fl_mm_has m0 m → k z13 m = some (r, m') → xf_r fl_mm_has m0 m') : ∀ (fu : Nat) (a1390 : Int32) (a1391 : Int32) (m1380 : xm_S), xf_r fl_mm_has m0 m1380 → mm_has_l125 F a1381 a1382 a1383 a1384 a1385 a1386 a1387 a1388 a1389 k fu a1390 a1391 m1380 = some (r, m') → xf_r fl_mm_has m0 m' := by
  intro fu
  induction fu with
  | zero => intro a1390 a1391 m1380 gg h; cases h
  | succ fu ih =>
    intro a1390 a1391 m1380 gg h
    rw [mm_has_l125] at h
    by_cases c1392 : a1385 ≤ a1391
    · replace h := (if_pos c1392).symm.trans h
      exact hk a1390 m1380 gg h
    · replace h := (if_neg c1392).symm.trans h
      obtain ⟨-, h⟩ := xg_e h
      obtain ⟨j1399, e1400, h⟩ := xj_e h
      have q1401 : ∀ (u1398 : Unit), j1399 u1398 = some (r, m') → xf_r fl_mm_has m0 m' := by
        intro u1398 h
        rw [e1400] at h
        obtain ⟨-, h⟩ := xg_e h
        obtain ⟨-, h⟩ := xg_e h
        by_cases c1405 : (m1380.1 36 a1387.toNatClampNeg) = (2 : Int32)
        · replace h := (if_pos c1405).symm.trans h
          exact ih (a1390 ||| ((((mm_letterAt a1382 a1383 a1384 a1391) >>> ((m1380.1 37 a1387.toNatClampNeg) &&& 31)) &&& (1 : Int32)) <<< (a1391 &&& 31))) (a1391 + (1 : Int32)) m1380 gg h
        · replace h := (if_neg c1405).symm.trans h
          exact ih (a1390 ||| (((1 : Int32) - (((mm_letterAt a1382 a1383 a1384 a1391) >>> ((m1380.1 37 a1387.toNatClampNeg) &&& 31)) &&& (1 : Int32))) <<< (a1391 &&& 31))) (a1391 + (1 : Int32)) m1380 gg h
      clear e1400
      by_cases c1406 : (m1380.1 36 a1387.toNatClampNeg) = (2 : Int32)
      · replace h := (if_pos c1406).symm.trans h
        exact q1401 () h
      · replace h := (if_neg c1406).symm.trans h
        obtain ⟨-, h⟩ := xg_e h
        by_cases c1408 : (m1380.1 36 a1387.toNatClampNeg) = (3 : Int32)
        · replace h := (if_pos c1408).symm.trans h
          exact q1401 () h
        · replace h := (if_neg c1408).symm.trans h
          exact hk a1390 m1380 gg h
theorem mm_has_l53_fr {F : Nat} {a1354 : Int32} {a1355 : Int64} {a1356 : Int32} {a1357 : Int64} {a1358 : Int32} {a1359 : Int32} {k : xm_S → Option (Int32 × xm_S)} {r : Int32} {m0 m' : xm_S} 
    (hk : ∀ (m : xm_S), xf_r fl_mm_has m0 m → k m = some (r, m') → xf_r fl_mm_has m0 m') : ∀ (fu : Nat) (a1360 : Int32) (m1353 : xm_S), xf_r fl_mm_has m0 m1353 → mm_has_l53 F a1354 a1355 a1356 a1357 a1358 a1359 k fu a1360 m1353 = some (r, m') → xf_r fl_mm_has m0 m' := by
  intro fu
  induction fu with
  | zero => intro a1360 m1353 gg h; cases h
  | succ fu ih =>
    intro a1360 m1353 gg h
    rw [mm_has_l53] at h
    by_cases c1361 : a1354 < a1360
    · replace h := (if_pos c1361).symm.trans h
      exact hk m1353 gg h
    · replace h := (if_neg c1361).symm.trans h
      obtain ⟨-, h⟩ := xg_e h
      obtain ⟨j1368, e1369, h⟩ := xj_e h
      have q1370 : ∀ (x1367 : Int32), j1368 x1367 = some (r, m') → xf_r fl_mm_has m0 m' := by
        intro x1367 h
        rw [e1369] at h
        obtain ⟨-, h⟩ := xg_e h
        obtain ⟨j1377, e1378, h⟩ := xj_e h
        have q1379 : ∀ (x1376 : Int32), j1377 x1376 = some (r, m') → xf_r fl_mm_has m0 m' := by
          intro x1376 h
          rw [e1378] at h
          refine mm_has_l125_fr (fun x1409 m1410 g2648 h => ?_) F (0 : Int32) (0 : Int32) m1353 gg h
          obtain ⟨-, h⟩ := xg_e h
          by_cases c1412 : (m1410.1 36 a1360.toNatClampNeg) = (0 : Int32)
          · replace h := (if_pos c1412).symm.trans h
            obtain ⟨-, h⟩ := xg_e h
            obtain ⟨m1414, e1415, h⟩ := xs_e h
            have g2649 : xf_r fl_mm_has m0 m1414 := xf_t g2648 (by rw [e1415]; exact xf_i rfl)
            clear e1415
            exact ih (a1360 + (1 : Int32)) m1414 g2649 h
          replace h := (if_neg c1412).symm.trans h
          by_cases c1416 : (m1410.1 36 a1360.toNatClampNeg) = (1 : Int32)
          · replace h := (if_pos c1416).symm.trans h
            obtain ⟨-, h⟩ := xg_e h
            obtain ⟨m1418, e1419, h⟩ := xs_e h
            have g2650 : xf_r fl_mm_has m0 m1418 := xf_t g2648 (by rw [e1419]; exact xf_i rfl)
            clear e1419
            exact ih (a1360 + (1 : Int32)) m1418 g2650 h
          replace h := (if_neg c1416).symm.trans h
          by_cases c1420 : (m1410.1 36 a1360.toNatClampNeg) = (4 : Int32)
          · replace h := (if_pos c1420).symm.trans h
            obtain ⟨-, h⟩ := xg_e h
            obtain ⟨m1422, e1423, h⟩ := xs_e h
            have g2651 : xf_r fl_mm_has m0 m1422 := xf_t g2648 (by rw [e1423]; exact xf_i rfl)
            clear e1423
            exact ih (a1360 + (1 : Int32)) m1422 g2651 h
          replace h := (if_neg c1420).symm.trans h
          by_cases c1424 : (m1410.1 36 a1360.toNatClampNeg) = (5 : Int32)
          · replace h := (if_pos c1424).symm.trans h
            obtain ⟨-, h⟩ := xg_e h
            obtain ⟨m1426, e1427, h⟩ := xs_e h
            have g2652 : xf_r fl_mm_has m0 m1426 := xf_t g2648 (by rw [e1427]; exact xf_i rfl)
            clear e1427
            exact ih (a1360 + (1 : Int32)) m1426 g2652 h
          replace h := (if_neg c1424).symm.trans h
          by_cases c1428 : (m1410.1 36 a1360.toNatClampNeg) = (6 : Int32)
          · replace h := (if_pos c1428).symm.trans h
            obtain ⟨-, h⟩ := xg_e h
            obtain ⟨m1430, e1431, h⟩ := xs_e h
            have g2653 : xf_r fl_mm_has m0 m1430 := xf_t g2648 (by rw [e1431]; exact xf_i rfl)
            clear e1431
            exact ih (a1360 + (1 : Int32)) m1430 g2653 h
          replace h := (if_neg c1428).symm.trans h
          by_cases c1432 : (m1410.1 36 a1360.toNatClampNeg) = (7 : Int32)
          · replace h := (if_pos c1432).symm.trans h
            obtain ⟨v1447, m1448, e1449, h⟩ := xc_m_e h
            have g2654 : xf_r fl_mm_has m0 m1448 := xf_t g2648 (xf_s rfl (mm_fixed_fr e1449))
            obtain ⟨-, h⟩ := xg_e h
            obtain ⟨m1452, e1453, h⟩ := xs_e h
            have g2655 : xf_r fl_mm_has m0 m1452 := xf_t g2654 (by rw [e1453]; exact xf_i rfl)
            clear e1453
            exact ih (a1360 + (1 : Int32)) m1452 g2655 h
          replace h := (if_neg c1432).symm.trans h
          by_cases c1454 : (m1410.1 36 a1360.toNatClampNeg) = (8 : Int32)
          · replace h := (if_pos c1454).symm.trans h
            obtain ⟨v1455, m1456, e1457, h⟩ := xc_m_e h
            have g2656 : xf_r fl_mm_has m0 m1456 := xf_t g2648 (xf_s rfl (mm_fixed_fr e1457))
            obtain ⟨-, h⟩ := xg_e h
            obtain ⟨m1460, e1461, h⟩ := xs_e h
            have g2657 : xf_r fl_mm_has m0 m1460 := xf_t g2656 (by rw [e1461]; exact xf_i rfl)
            clear e1461
            exact ih (a1360 + (1 : Int32)) m1460 g2657 h
          replace h := (if_neg c1454).symm.trans h
          have c1412z : (m1410.1 36 a1360.toNatClampNeg).toInt ≠ 0 := fun q => c1412 (Int32.toInt_inj.mp (q.trans (by decide)))
          have c1416z : (m1410.1 36 a1360.toNatClampNeg).toInt ≠ 1 := fun q => c1416 (Int32.toInt_inj.mp (q.trans (by decide)))
          have c1420z : (m1410.1 36 a1360.toNatClampNeg).toInt ≠ 4 := fun q => c1420 (Int32.toInt_inj.mp (q.trans (by decide)))
          have c1424z : (m1410.1 36 a1360.toNatClampNeg).toInt ≠ 5 := fun q => c1424 (Int32.toInt_inj.mp (q.trans (by decide)))
          have c1428z : (m1410.1 36 a1360.toNatClampNeg).toInt ≠ 6 := fun q => c1428 (Int32.toInt_inj.mp (q.trans (by decide)))
          have c1432z : (m1410.1 36 a1360.toNatClampNeg).toInt ≠ 7 := fun q => c1432 (Int32.toInt_inj.mp (q.trans (by decide)))
          have c1454z : (m1410.1 36 a1360.toNatClampNeg).toInt ≠ 8 := fun q => c1454 (Int32.toInt_inj.mp (q.trans (by decide)))
          by_cases c1465 : (m1410.1 36 a1360.toNatClampNeg) = (2 : Int32)
          · obtain ⟨-, h⟩ := xg_e h
            obtain ⟨m1463, e1464, h⟩ := xs_e h
            have g2658 : xf_r fl_mm_has m0 m1463 := xf_t g2648 (by rw [e1464]; exact xf_i rfl)
            clear e1464
            exact ih (a1360 + (1 : Int32)) m1463 g2658 h
          have c1465z : (m1410.1 36 a1360.toNatClampNeg).toInt ≠ 2 := fun q => c1465 (Int32.toInt_inj.mp (q.trans (by decide)))
          by_cases c1466 : (m1410.1 36 a1360.toNatClampNeg) = (3 : Int32)
          · obtain ⟨-, h⟩ := xg_e h
            obtain ⟨m1463, e1464, h⟩ := xs_e h
            have g2659 : xf_r fl_mm_has m0 m1463 := xf_t g2648 (by rw [e1464]; exact xf_i rfl)
            clear e1464
            exact ih (a1360 + (1 : Int32)) m1463 g2659 h
          have c1466z : (m1410.1 36 a1360.toNatClampNeg).toInt ≠ 3 := fun q => c1466 (Int32.toInt_inj.mp (q.trans (by decide)))
          obtain ⟨-, h⟩ := xg_e h
          obtain ⟨m1463, e1464, h⟩ := xs_e h
          have g2660 : xf_r fl_mm_has m0 m1463 := xf_t g2648 (by rw [e1464]; exact xf_i rfl)
          clear e1464
          exact ih (a1360 + (1 : Int32)) m1463 g2660 h
        clear e1378
        by_cases c1467 : (mm_hasTwo (m1353.1 36 a1360.toNatClampNeg)) = 0
        · replace h := (if_pos c1467).symm.trans h
          exact q1379 (0 : Int32) h
        · replace h := (if_neg c1467).symm.trans h
          obtain ⟨-, h⟩ := xg_e h
          obtain ⟨-, h⟩ := xg_e h
          exact q1379 (m1353.1 57 (m1353.1 38 a1360.toNatClampNeg).toNatClampNeg) h
      clear e1369
      by_cases c1470 : (m1353.1 36 a1360.toNatClampNeg) ≤ (3 : Int32)
      · replace h := (if_pos c1470).symm.trans h
        exact q1370 (0 : Int32) h
      · replace h := (if_neg c1470).symm.trans h
        obtain ⟨-, h⟩ := xg_e h
        obtain ⟨-, h⟩ := xg_e h
        exact q1370 (m1353.1 57 (m1353.1 37 a1360.toNatClampNeg).toNatClampNeg) h
theorem mm_has_fr {F : Nat} {a1 : Int32} {a2 : Int64} {a3 : Int32} {a4 : Int64} {a5 : Int32} {r : Int32} {m0 m' : xm_S} (h : mm_has F a1 a2 a3 a4 a5 m0 = some (r, m')) : xf_r fl_mm_has m0 m' := by
  unfold mm_has at h
  have gg : xf_r fl_mm_has m0 m0 := xf_0
  by_cases c1348 : (mm_isFormula a1 m0) = 0
  · replace h := (if_pos c1348).symm.trans h
    obtain ⟨rfl, rfl⟩ := Prod.mk.inj (Option.some.inj h)
    exact gg
  · replace h := (if_neg c1348).symm.trans h
    by_cases c1349 : a3 < 0
    · replace h := (if_pos c1349).symm.trans h
      obtain ⟨rfl, rfl⟩ := Prod.mk.inj (Option.some.inj h)
      exact gg
    · replace h := (if_neg c1349).symm.trans h
      by_cases c1350 : (8 : Int32) < a3
      · replace h := (if_pos c1350).symm.trans h
        obtain ⟨rfl, rfl⟩ := Prod.mk.inj (Option.some.inj h)
        exact gg
      · replace h := (if_neg c1350).symm.trans h
        by_cases c1351 : a5 < (1 : Int32)
        · replace h := (if_pos c1351).symm.trans h
          obtain ⟨rfl, rfl⟩ := Prod.mk.inj (Option.some.inj h)
          exact gg
        · replace h := (if_neg c1351).symm.trans h
          by_cases c1352 : a5 ≤ (8 : Int32)
          · replace h := (if_pos c1352).symm.trans h
            refine mm_has_l53_fr (fun m1473 g2661 h => ?_) F (0 : Int32) m0 gg h
            obtain ⟨-, h⟩ := xg_e h
            obtain ⟨rfl, rfl⟩ := Prod.mk.inj (Option.some.inj h)
            exact g2661
          · replace h := (if_neg c1352).symm.trans h
            obtain ⟨rfl, rfl⟩ := Prod.mk.inj (Option.some.inj h)
            exact gg
def fl_mm_addWay : List Nat := [41, 42]
theorem mm_addWay_l15_fr {F : Nat} {a1493 : Int32} {a1494 : Int64} {k : xm_S → Option (xm_S)} {m0 m' : xm_S} 
    (hk : ∀ (m : xm_S), xf_r fl_mm_addWay m0 m → k m = some m' → xf_r fl_mm_addWay m0 m') : ∀ (fu : Nat) (a1495 : Int32) (m1492 : xm_S), xf_r fl_mm_addWay m0 m1492 → mm_addWay_l15 F a1493 a1494 k fu a1495 m1492 = some m' → xf_r fl_mm_addWay m0 m' := by
  intro fu
  induction fu with
  | zero => intro a1495 m1492 gg h; cases h
  | succ fu ih =>
    intro a1495 m1492 gg h
    rw [mm_addWay_l15] at h
    obtain ⟨-, h⟩ := xg_e h
    by_cases c1497 : (m1492.1 42 a1493.toNatClampNeg) ≤ a1495
    · replace h := (if_pos c1497).symm.trans h
      exact hk m1492 gg h
    · replace h := (if_neg c1497).symm.trans h
      obtain ⟨-, h⟩ := xg_e h
      by_cases c1499 : (lg_cmp (m1492.2 41 (((60 : Int32) * a1493) + a1495).toNatClampNeg) a1494) = 0
      · replace h := (if_pos c1499).symm.trans h
        obtain rfl := Option.some.inj h
        exact gg
      · replace h := (if_neg c1499).symm.trans h
        exact ih (a1495 + (1 : Int32)) m1492 gg h
theorem mm_addWay_fr {F : Nat} {a1 : Int32} {a2 : Int64} {m0 m' : xm_S} (h : mm_addWay F a1 a2 m0 = some m') : xf_r fl_mm_addWay m0 m' := by
  unfold mm_addWay at h
  have gg : xf_r fl_mm_addWay m0 m0 := xf_0
  obtain ⟨-, h⟩ := xg_e h
  by_cases c1491 : (m0.1 42 a1.toNatClampNeg) ≤ (60 : Int32)
  · replace h := (if_pos c1491).symm.trans h
    refine mm_addWay_l15_fr (fun m1500 g2662 h => ?_) F (0 : Int32) m0 gg h
    obtain ⟨-, h⟩ := xg_e h
    obtain ⟨j1509, e1510, h⟩ := xj_e h
    have q1511 : ∀ (m1508 : xm_S), xf_r fl_mm_addWay m0 m1508 → j1509 m1508 = some m' → xf_r fl_mm_addWay m0 m' := by
      intro m1508 g2663 h
      rw [e1510] at h
      obtain ⟨-, h⟩ := xg_e h
      obtain ⟨-, h⟩ := xg_e h
      obtain ⟨m1514, e1515, h⟩ := xs_e h
      have g2664 : xf_r fl_mm_addWay m0 m1514 := xf_t g2663 (by rw [e1515]; exact xf_i rfl)
      clear e1515
      obtain rfl := Option.some.inj h
      exact g2664
    clear e1510
    by_cases c1516 : (60 : Int32) ≤ (m1500.1 42 a1.toNatClampNeg)
    · replace h := (if_pos c1516).symm.trans h
      exact q1511 m1500 g2662 h
    · replace h := (if_neg c1516).symm.trans h
      obtain ⟨-, h⟩ := xg_e h
      obtain ⟨-, h⟩ := xg_e h
      obtain ⟨m1519, e1520, h⟩ := xs_e h
      have g2665 : xf_r fl_mm_addWay m0 m1519 := xf_t g2662 (by rw [e1520]; exact xf_l rfl)
      clear e1520
      exact q1511 m1519 g2665 h
  · replace h := (if_neg c1491).symm.trans h
    obtain rfl := Option.some.inj h
    exact gg
def fl_mm_addJoined : List Nat := [41, 42]
theorem mm_addJoined_l51_fr {F : Nat} {a1556 : Int32} {a1557 : Int32} {a1558 : Int32} {a1559 : Int32} {a1560 : Int32} {k : xm_S → Option (xm_S)} {m0 m' : xm_S} 
    (hk : ∀ (m : xm_S), xf_r fl_mm_addJoined m0 m → k m = some m' → xf_r fl_mm_addJoined m0 m') : ∀ (fu : Nat) (a1561 : Int32) (m1555 : xm_S), xf_r fl_mm_addJoined m0 m1555 → mm_addJoined_l51 F a1556 a1557 a1558 a1559 a1560 k fu a1561 m1555 = some m' → xf_r fl_mm_addJoined m0 m' := by
  intro fu
  induction fu with
  | zero => intro a1561 m1555 gg h; cases h
  | succ fu ih =>
    intro a1561 m1555 gg h
    rw [mm_addJoined_l51] at h
    obtain ⟨-, h⟩ := xg_e h
    by_cases c1563 : (m1555.1 42 a1558.toNatClampNeg) ≤ a1561
    · replace h := (if_pos c1563).symm.trans h
      exact hk m1555 gg h
    · replace h := (if_neg c1563).symm.trans h
      obtain ⟨-, h⟩ := xg_e h
      obtain ⟨-, h⟩ := xg_e h
      obtain ⟨m1567, e1568, h⟩ := xc_v_e h
      have g2666 : xf_r fl_mm_addJoined m0 m1567 := xf_t gg (xf_s rfl (mm_addWay_fr e1568))
      exact ih (a1561 + (1 : Int32)) m1567 g2666 h
theorem mm_addJoined_l32_fr {F : Nat} {a1547 : Int32} {a1548 : Int32} {a1549 : Int32} {a1550 : Int32} {k : xm_S → Option (xm_S)} {m0 m' : xm_S} 
    (hk : ∀ (m : xm_S), xf_r fl_mm_addJoined m0 m → k m = some m' → xf_r fl_mm_addJoined m0 m') : ∀ (fu : Nat) (a1551 : Int32) (m1546 : xm_S), xf_r fl_mm_addJoined m0 m1546 → mm_addJoined_l32 F a1547 a1548 a1549 a1550 k fu a1551 m1546 = some m' → xf_r fl_mm_addJoined m0 m' := by
  intro fu
  induction fu with
  | zero => intro a1551 m1546 gg h; cases h
  | succ fu ih =>
    intro a1551 m1546 gg h
    rw [mm_addJoined_l32] at h
    obtain ⟨-, h⟩ := xg_e h
    by_cases c1553 : (m1546.1 42 a1548.toNatClampNeg) ≤ a1551
    · replace h := (if_pos c1553).symm.trans h
      exact hk m1546 gg h
    · replace h := (if_neg c1553).symm.trans h
      by_cases c1554 : a1550 = 0
      · replace h := (if_pos c1554).symm.trans h
        exact hk m1546 gg h
      · replace h := (if_neg c1554).symm.trans h
        refine mm_addJoined_l51_fr (fun m1570 g2667 h => ?_) F (0 : Int32) m1546 gg h
        exact ih (a1551 + (1 : Int32)) m1570 g2667 h
theorem mm_addJoined_fr {F : Nat} {a1 : Int32} {a2 : Int32} {a3 : Int32} {m0 m' : xm_S} (h : mm_addJoined F a1 a2 a3 m0 = some m') : xf_r fl_mm_addJoined m0 m' := by
  unfold mm_addJoined at h
  have gg : xf_r fl_mm_addJoined m0 m0 := xf_0
  obtain ⟨-, h⟩ := xg_e h
  obtain ⟨j1543, e1544, h⟩ := xj_e h
  have q1545 : ∀ (x1542 : Int32), j1543 x1542 = some m' → xf_r fl_mm_addJoined m0 m' := by
    intro x1542 h
    rw [e1544] at h
    refine mm_addJoined_l32_fr (fun m1571 g2668 h => ?_) F (0 : Int32) m0 gg h
    obtain ⟨j1576, e1577, h⟩ := xj_e h
    have q1578 : ∀ (x1575 : Int32), j1576 x1575 = some m' → xf_r fl_mm_addJoined m0 m' := by
      intro x1575 h
      rw [e1577] at h
      obtain ⟨-, h⟩ := xg_e h
      obtain ⟨m1580, e1581, h⟩ := xs_e h
      have g2669 : xf_r fl_mm_addJoined m0 m1580 := xf_t g2668 (by rw [e1581]; exact xf_i rfl)
      clear e1581
      obtain rfl := Option.some.inj h
      exact g2669
    clear e1577
    by_cases c1582 : x1542 = 0
    · replace h := (if_pos c1582).symm.trans h
      exact q1578 (61 : Int32) h
    · replace h := (if_neg c1582).symm.trans h
      obtain ⟨-, h⟩ := xg_e h
      exact q1578 (m1571.1 42 a1.toNatClampNeg) h
  clear e1544
  obtain ⟨j1588, e1589, h⟩ := xj_e h
  have q1590 : ∀ (u1587 : Unit), j1588 u1587 = some m' → xf_r fl_mm_addJoined m0 m' := by
    intro u1587 h
    rw [e1589] at h
    exact q1545 (0 : Int32) h
  clear e1589
  by_cases c1591 : (60 : Int32) < (m0.1 42 a2.toNatClampNeg)
  · replace h := (if_pos c1591).symm.trans h
    exact q1590 () h
  · replace h := (if_neg c1591).symm.trans h
    obtain ⟨-, h⟩ := xg_e h
    by_cases c1593 : (60 : Int32) < (m0.1 42 a3.toNatClampNeg)
    · replace h := (if_pos c1593).symm.trans h
      exact q1590 () h
    · replace h := (if_neg c1593).symm.trans h
      exact q1545 (1 : Int32) h
def fl_mm_addAll : List Nat := [41, 42]
theorem mm_addAll_l3_fr {F : Nat} {a1600 : Int32} {a1601 : Int32} {a1602 : Int64} {k : xm_S → Option (xm_S)} {m0 m' : xm_S} 
    (hk : ∀ (m : xm_S), xf_r fl_mm_addAll m0 m → k m = some m' → xf_r fl_mm_addAll m0 m') : ∀ (fu : Nat) (a1603 : Int32) (m1599 : xm_S), xf_r fl_mm_addAll m0 m1599 → mm_addAll_l3 F a1600 a1601 a1602 k fu a1603 m1599 = some m' → xf_r fl_mm_addAll m0 m' := by
  intro fu
  induction fu with
  | zero => intro a1603 m1599 gg h; cases h
  | succ fu ih =>
    intro a1603 m1599 gg h
    rw [mm_addAll_l3] at h
    obtain ⟨-, h⟩ := xg_e h
    by_cases c1605 : (m1599.1 42 a1601.toNatClampNeg) ≤ a1603
    · replace h := (if_pos c1605).symm.trans h
      exact hk m1599 gg h
    · replace h := (if_neg c1605).symm.trans h
      obtain ⟨-, h⟩ := xg_e h
      by_cases c1607 : (60 : Int32) < (m1599.1 42 a1601.toNatClampNeg)
      · replace h := (if_pos c1607).symm.trans h
        exact hk m1599 gg h
      · replace h := (if_neg c1607).symm.trans h
        obtain ⟨-, h⟩ := xg_e h
        obtain ⟨m1610, e1611, h⟩ := xc_v_e h
        have g2670 : xf_r fl_mm_addAll m0 m1610 := xf_t gg (xf_s rfl (mm_addWay_fr e1611))
        exact ih (a1603 + (1 : Int32)) m1610 g2670 h
theorem mm_addAll_fr {F : Nat} {a1 : Int32} {a2 : Int32} {a3 : Int64} {m0 m' : xm_S} (h : mm_addAll F a1 a2 a3 m0 = some m') : xf_r fl_mm_addAll m0 m' := by
  unfold mm_addAll at h
  have gg : xf_r fl_mm_addAll m0 m0 := xf_0
  refine mm_addAll_l3_fr (fun m1613 g2671 h => ?_) F (0 : Int32) m0 gg h
  obtain ⟨-, h⟩ := xg_e h
  obtain ⟨j1619, e1620, h⟩ := xj_e h
  have q1621 : ∀ (x1618 : Int32), j1619 x1618 = some m' → xf_r fl_mm_addAll m0 m' := by
    intro x1618 h
    rw [e1620] at h
    obtain ⟨-, h⟩ := xg_e h
    obtain ⟨m1623, e1624, h⟩ := xs_e h
    have g2672 : xf_r fl_mm_addAll m0 m1623 := xf_t g2671 (by rw [e1624]; exact xf_i rfl)
    clear e1624
    obtain rfl := Option.some.inj h
    exact g2672
  clear e1620
  by_cases c1625 : (m1613.1 42 a2.toNatClampNeg) ≤ (60 : Int32)
  · replace h := (if_pos c1625).symm.trans h
    obtain ⟨-, h⟩ := xg_e h
    exact q1621 (m1613.1 42 a1.toNatClampNeg) h
  · replace h := (if_neg c1625).symm.trans h
    exact q1621 (61 : Int32) h
def fl_mm_waysOf : List Nat := [41, 42]
theorem mm_waysOf_fr {F : Nat} {a1 : Int32} {a2 : Int32} {m0 m' : xm_S} (h : mm_waysOf F a1 a2 m0 = some m') : xf_r fl_mm_waysOf m0 m' := by
  unfold mm_waysOf at h
  have gg : xf_r fl_mm_waysOf m0 m0 := xf_0
  obtain ⟨-, h⟩ := xg_e h
  obtain ⟨m1484, e1485, h⟩ := xs_e h
  have g2673 : xf_r fl_mm_waysOf m0 m1484 := xf_t gg (by rw [e1485]; exact xf_i rfl)
  clear e1485
  obtain ⟨-, h⟩ := xg_e h
  obtain ⟨-, h⟩ := xg_e h
  obtain ⟨-, h⟩ := xg_e h
  by_cases c1489 : (m1484.1 36 a1.toNatClampNeg) = (0 : Int32)
  · replace h := (if_pos c1489).symm.trans h
    obtain ⟨m1522, e1523, h⟩ := xc_v_e h
    have g2674 : xf_r fl_mm_waysOf m0 m1522 := xf_t g2673 (xf_s rfl (mm_addWay_fr e1523))
    obtain rfl := Option.some.inj h
    exact g2674
  replace h := (if_neg c1489).symm.trans h
  by_cases c1525 : (m1484.1 36 a1.toNatClampNeg) = (2 : Int32)
  · replace h := (if_pos c1525).symm.trans h
    by_cases c1526 : ((a2 >>> ((m1484.1 37 a1.toNatClampNeg) &&& 31)) &&& (1 : Int32)) = (1 : Int32)
    · replace h := (if_pos c1526).symm.trans h
      obtain ⟨m1528, e1529, h⟩ := xc_v_e h
      have g2675 : xf_r fl_mm_waysOf m0 m1528 := xf_t g2673 (xf_s rfl (mm_addWay_fr e1529))
      obtain rfl := Option.some.inj h
      exact g2675
    · replace h := (if_neg c1526).symm.trans h
      obtain rfl := Option.some.inj h
      exact g2673
  replace h := (if_neg c1525).symm.trans h
  by_cases c1531 : (m1484.1 36 a1.toNatClampNeg) = (3 : Int32)
  · replace h := (if_pos c1531).symm.trans h
    by_cases c1532 : ((a2 >>> ((m1484.1 37 a1.toNatClampNeg) &&& 31)) &&& (1 : Int32)) = 0
    · replace h := (if_pos c1532).symm.trans h
      obtain ⟨m1534, e1535, h⟩ := xc_v_e h
      have g2676 : xf_r fl_mm_waysOf m0 m1534 := xf_t g2673 (xf_s rfl (mm_addWay_fr e1535))
      obtain rfl := Option.some.inj h
      exact g2676
    · replace h := (if_neg c1532).symm.trans h
      obtain rfl := Option.some.inj h
      exact g2673
  replace h := (if_neg c1531).symm.trans h
  by_cases c1537 : (m1484.1 36 a1.toNatClampNeg) = (4 : Int32)
  · replace h := (if_pos c1537).symm.trans h
    obtain ⟨m1595, e1596, h⟩ := xc_v_e h
    have g2677 : xf_r fl_mm_waysOf m0 m1595 := xf_t g2673 (xf_s rfl (mm_addJoined_fr e1596))
    obtain rfl := Option.some.inj h
    exact g2677
  replace h := (if_neg c1537).symm.trans h
  by_cases c1598 : (m1484.1 36 a1.toNatClampNeg) = (5 : Int32)
  · replace h := (if_pos c1598).symm.trans h
    obtain ⟨m1628, e1629, h⟩ := xc_v_e h
    have g2678 : xf_r fl_mm_waysOf m0 m1628 := xf_t g2673 (xf_s rfl (mm_addAll_fr e1629))
    obtain ⟨m1632, e1633, h⟩ := xc_v_e h
    have g2679 : xf_r fl_mm_waysOf m0 m1632 := xf_t g2678 (xf_s rfl (mm_addAll_fr e1633))
    obtain rfl := Option.some.inj h
    exact g2679
  replace h := (if_neg c1598).symm.trans h
  by_cases c1635 : (m1484.1 36 a1.toNatClampNeg) = (6 : Int32)
  · replace h := (if_pos c1635).symm.trans h
    obtain ⟨m1637, e1638, h⟩ := xc_v_e h
    have g2680 : xf_r fl_mm_waysOf m0 m1637 := xf_t g2673 (xf_s rfl (mm_addWay_fr e1638))
    obtain ⟨-, h⟩ := xg_e h
    obtain ⟨j1645, e1646, h⟩ := xj_e h
    have q1647 : ∀ (x1644 : Int32), j1645 x1644 = some m' → xf_r fl_mm_waysOf m0 m' := by
      intro x1644 h
      rw [e1646] at h
      obtain ⟨-, h⟩ := xg_e h
      obtain ⟨m1649, e1650, h⟩ := xs_e h
      have g2681 : xf_r fl_mm_waysOf m0 m1649 := xf_t g2680 (by rw [e1650]; exact xf_i rfl)
      clear e1650
      obtain rfl := Option.some.inj h
      exact g2681
    clear e1646
    by_cases c1651 : (m1637.1 42 (m1484.1 37 a1.toNatClampNeg).toNatClampNeg) ≤ (60 : Int32)
    · replace h := (if_pos c1651).symm.trans h
      obtain ⟨-, h⟩ := xg_e h
      exact q1647 (m1637.1 42 a1.toNatClampNeg) h
    · replace h := (if_neg c1651).symm.trans h
      exact q1647 (61 : Int32) h
  replace h := (if_neg c1635).symm.trans h
  by_cases c1653 : (m1484.1 36 a1.toNatClampNeg) = (7 : Int32)
  · replace h := (if_pos c1653).symm.trans h
    obtain ⟨m1655, e1656, h⟩ := xc_v_e h
    have g2682 : xf_r fl_mm_waysOf m0 m1655 := xf_t g2673 (xf_s rfl (mm_addAll_fr e1656))
    obtain ⟨m1659, e1660, h⟩ := xc_v_e h
    have g2683 : xf_r fl_mm_waysOf m0 m1659 := xf_t g2682 (xf_s rfl (mm_addAll_fr e1660))
    obtain rfl := Option.some.inj h
    exact g2683
  replace h := (if_neg c1653).symm.trans h
  by_cases c1662 : (m1484.1 36 a1.toNatClampNeg) = (8 : Int32)
  · replace h := (if_pos c1662).symm.trans h
    obtain ⟨m1664, e1665, h⟩ := xc_v_e h
    have g2684 : xf_r fl_mm_waysOf m0 m1664 := xf_t g2673 (xf_s rfl (mm_addJoined_fr e1665))
    obtain ⟨m1668, e1669, h⟩ := xc_v_e h
    have g2685 : xf_r fl_mm_waysOf m0 m1668 := xf_t g2684 (xf_s rfl (mm_addAll_fr e1669))
    obtain rfl := Option.some.inj h
    exact g2685
  replace h := (if_neg c1662).symm.trans h
  have c1489z : (m1484.1 36 a1.toNatClampNeg).toInt ≠ 0 := fun q => c1489 (Int32.toInt_inj.mp (q.trans (by decide)))
  have c1525z : (m1484.1 36 a1.toNatClampNeg).toInt ≠ 2 := fun q => c1525 (Int32.toInt_inj.mp (q.trans (by decide)))
  have c1531z : (m1484.1 36 a1.toNatClampNeg).toInt ≠ 3 := fun q => c1531 (Int32.toInt_inj.mp (q.trans (by decide)))
  have c1537z : (m1484.1 36 a1.toNatClampNeg).toInt ≠ 4 := fun q => c1537 (Int32.toInt_inj.mp (q.trans (by decide)))
  have c1598z : (m1484.1 36 a1.toNatClampNeg).toInt ≠ 5 := fun q => c1598 (Int32.toInt_inj.mp (q.trans (by decide)))
  have c1635z : (m1484.1 36 a1.toNatClampNeg).toInt ≠ 6 := fun q => c1635 (Int32.toInt_inj.mp (q.trans (by decide)))
  have c1653z : (m1484.1 36 a1.toNatClampNeg).toInt ≠ 7 := fun q => c1653 (Int32.toInt_inj.mp (q.trans (by decide)))
  have c1662z : (m1484.1 36 a1.toNatClampNeg).toInt ≠ 8 := fun q => c1662 (Int32.toInt_inj.mp (q.trans (by decide)))
  by_cases c1671 : (m1484.1 36 a1.toNatClampNeg) = (1 : Int32)
  · obtain rfl := Option.some.inj h
    exact g2673
  have c1671z : (m1484.1 36 a1.toNatClampNeg).toInt ≠ 1 := fun q => c1671 (Int32.toInt_inj.mp (q.trans (by decide)))
  obtain rfl := Option.some.inj h
  exact g2673
def fl_mm_waysUpTo : List Nat := [41, 42]
theorem mm_waysUpTo_l2_fr {F : Nat} {a1479 : Int32} {a1480 : Int32} {k : xm_S → Option (xm_S)} {m0 m' : xm_S} 
    (hk : ∀ (m : xm_S), xf_r fl_mm_waysUpTo m0 m → k m = some m' → xf_r fl_mm_waysUpTo m0 m') : ∀ (fu : Nat) (a1481 : Int32) (m1478 : xm_S), xf_r fl_mm_waysUpTo m0 m1478 → mm_waysUpTo_l2 F a1479 a1480 k fu a1481 m1478 = some m' → xf_r fl_mm_waysUpTo m0 m' := by
  intro fu
  induction fu with
  | zero => intro a1481 m1478 gg h; cases h
  | succ fu ih =>
    intro a1481 m1478 gg h
    rw [mm_waysUpTo_l2] at h
    by_cases c1482 : a1479 < a1481
    · replace h := (if_pos c1482).symm.trans h
      exact hk m1478 gg h
    · replace h := (if_neg c1482).symm.trans h
      obtain ⟨m1673, e1674, h⟩ := xc_v_e h
      have g2686 : xf_r fl_mm_waysUpTo m0 m1673 := xf_t gg (xf_s rfl (mm_waysOf_fr e1674))
      exact ih (a1481 + (1 : Int32)) m1673 g2686 h
theorem mm_waysUpTo_fr {F : Nat} {a1 : Int32} {a2 : Int32} {m0 m' : xm_S} (h : mm_waysUpTo F a1 a2 m0 = some m') : xf_r fl_mm_waysUpTo m0 m' := by
  unfold mm_waysUpTo at h
  have gg : xf_r fl_mm_waysUpTo m0 m0 := xf_0
  refine mm_waysUpTo_l2_fr (fun m1676 g2687 h => ?_) F (0 : Int32) m0 gg h
  obtain rfl := Option.some.inj h
  exact g2687
def fl_mm_ways : List Nat := [41, 42]
theorem mm_ways_fr {F : Nat} {a1 : Int32} {a2 : Int32} {r : Int32} {m0 m' : xm_S} (h : mm_ways F a1 a2 m0 = some (r, m')) : xf_r fl_mm_ways m0 m' := by
  unfold mm_ways at h
  have gg : xf_r fl_mm_ways m0 m0 := xf_0
  by_cases c1677 : (mm_isFormula a1 m0) = 0
  · replace h := (if_pos c1677).symm.trans h
    obtain ⟨rfl, rfl⟩ := Prod.mk.inj (Option.some.inj h)
    exact gg
  · replace h := (if_neg c1677).symm.trans h
    by_cases c1678 : a2 < 0
    · replace h := (if_pos c1678).symm.trans h
      obtain ⟨rfl, rfl⟩ := Prod.mk.inj (Option.some.inj h)
      exact gg
    · replace h := (if_neg c1678).symm.trans h
      by_cases c1679 : a2 ≤ (15 : Int32)
      · replace h := (if_pos c1679).symm.trans h
        obtain ⟨m1681, e1682, h⟩ := xc_v_e h
        have g2688 : xf_r fl_mm_ways m0 m1681 := xf_t gg (xf_s rfl (mm_waysUpTo_fr e1682))
        obtain ⟨-, h⟩ := xg_e h
        by_cases c1685 : (m1681.1 42 a1.toNatClampNeg) ≤ (60 : Int32)
        · replace h := (if_pos c1685).symm.trans h
          obtain ⟨-, h⟩ := xg_e h
          obtain ⟨rfl, rfl⟩ := Prod.mk.inj (Option.some.inj h)
          exact g2688
        · replace h := (if_neg c1685).symm.trans h
          obtain ⟨rfl, rfl⟩ := Prod.mk.inj (Option.some.inj h)
          exact g2688
      · replace h := (if_neg c1679).symm.trans h
        obtain ⟨rfl, rfl⟩ := Prod.mk.inj (Option.some.inj h)
        exact gg
def fl_mm_findUntils : List Nat := [35, 49]
theorem mm_findUntils_l6_fr {F : Nat} {a1700 : Int32} {k : Int32 → xm_S → Option (xm_S)} {m0 m' : xm_S} 
    (hk : ∀ (z2 : Int32) (m : xm_S), xf_r fl_mm_findUntils m0 m → k z2 m = some m' → xf_r fl_mm_findUntils m0 m') : ∀ (fu : Nat) (a1701 : Int32) (a1702 : Int32) (m1699 : xm_S), xf_r fl_mm_findUntils m0 m1699 → mm_findUntils_l6 F a1700 k fu a1701 a1702 m1699 = some m' → xf_r fl_mm_findUntils m0 m' := by
  intro fu
  induction fu with
  | zero => intro a1701 a1702 m1699 gg h; cases h
  | succ fu ih =>
    intro a1701 a1702 m1699 gg h
    rw [mm_findUntils_l6] at h
    by_cases c1703 : a1702 < 0
    · replace h := (if_pos c1703).symm.trans h
      exact hk a1701 m1699 gg h
    · replace h := (if_neg c1703).symm.trans h
      obtain ⟨j1710, e1711, h⟩ := xj_e h
      have q1712 : ∀ (x1709 : Int32), j1710 x1709 = some m' → xf_r fl_mm_findUntils m0 m' := by
        intro x1709 h
        rw [e1711] at h
        by_cases c1713 : ((x1709 >>> (a1702 &&& 31)) &&& (1 : Int32)) = (1 : Int32)
        · replace h := (if_pos c1713).symm.trans h
          obtain ⟨-, h⟩ := xg_e h
          by_cases c1715 : (mm_hasTwo (m1699.1 36 a1702.toNatClampNeg)) = 0
          · replace h := (if_pos c1715).symm.trans h
            exact ih x1709 (a1702 + (-1 : Int32)) m1699 gg h
          · replace h := (if_neg c1715).symm.trans h
            obtain ⟨-, h⟩ := xg_e h
            exact ih (x1709 ||| ((1 : Int32) <<< ((m1699.1 38 a1702.toNatClampNeg) &&& 31))) (a1702 + (-1 : Int32)) m1699 gg h
        · replace h := (if_neg c1713).symm.trans h
          exact ih x1709 (a1702 + (-1 : Int32)) m1699 gg h
      clear e1711
      by_cases c1717 : ((a1701 >>> (a1702 &&& 31)) &&& (1 : Int32)) = (1 : Int32)
      · replace h := (if_pos c1717).symm.trans h
        obtain ⟨-, h⟩ := xg_e h
        by_cases c1719 : (m1699.1 36 a1702.toNatClampNeg) ≤ (3 : Int32)
        · replace h := (if_pos c1719).symm.trans h
          exact q1712 a1701 h
        · replace h := (if_neg c1719).symm.trans h
          obtain ⟨-, h⟩ := xg_e h
          exact q1712 (a1701 ||| ((1 : Int32) <<< ((m1699.1 37 a1702.toNatClampNeg) &&& 31))) h
      · replace h := (if_neg c1717).symm.trans h
        exact q1712 a1701 h
theorem mm_findUntils_l85_fr {F : Nat} {a1726 : Int32} {a1727 : Int32} {k : xm_S → Option (xm_S)} {m0 m' : xm_S} 
    (hk : ∀ (m : xm_S), xf_r fl_mm_findUntils m0 m → k m = some m' → xf_r fl_mm_findUntils m0 m') : ∀ (fu : Nat) (a1728 : Int32) (m1725 : xm_S), xf_r fl_mm_findUntils m0 m1725 → mm_findUntils_l85 F a1726 a1727 k fu a1728 m1725 = some m' → xf_r fl_mm_findUntils m0 m' := by
  intro fu
  induction fu with
  | zero => intro a1728 m1725 gg h; cases h
  | succ fu ih =>
    intro a1728 m1725 gg h
    rw [mm_findUntils_l85] at h
    by_cases c1729 : a1726 < a1728
    · replace h := (if_pos c1729).symm.trans h
      exact hk m1725 gg h
    · replace h := (if_neg c1729).symm.trans h
      by_cases c1730 : ((a1727 >>> (a1728 &&& 31)) &&& (1 : Int32)) = (1 : Int32)
      · replace h := (if_pos c1730).symm.trans h
        obtain ⟨-, h⟩ := xg_e h
        by_cases c1732 : (m1725.1 36 a1728.toNatClampNeg) = (7 : Int32)
        · replace h := (if_pos c1732).symm.trans h
          obtain ⟨-, h⟩ := xg_e h
          obtain ⟨m1734, e1735, h⟩ := xs_e h
          have g2689 : xf_r fl_mm_findUntils m0 m1734 := xf_t gg (by rw [e1735]; exact xf_i rfl)
          clear e1735
          obtain ⟨m1736, e1737, h⟩ := xs_e h
          have g2690 : xf_r fl_mm_findUntils m0 m1736 := xf_t g2689 (by rw [e1737]; exact xf_i rfl)
          clear e1737
          exact ih (a1728 + (1 : Int32)) m1736 g2690 h
        · replace h := (if_neg c1732).symm.trans h
          exact ih (a1728 + (1 : Int32)) m1725 gg h
      · replace h := (if_neg c1730).symm.trans h
        exact ih (a1728 + (1 : Int32)) m1725 gg h
theorem mm_findUntils_fr {F : Nat} {a1 : Int32} {m0 m' : xm_S} (h : mm_findUntils F a1 m0 = some m') : xf_r fl_mm_findUntils m0 m' := by
  unfold mm_findUntils at h
  have gg : xf_r fl_mm_findUntils m0 m0 := xf_0
  refine mm_findUntils_l6_fr (fun x1721 m1722 g2691 h => ?_) F ((1 : Int32) <<< (a1 &&& 31)) a1 m0 gg h
  obtain ⟨m1723, e1724, h⟩ := xs_e h
  have g2692 : xf_r fl_mm_findUntils m0 m1723 := xf_t g2691 (by rw [e1724]; exact xf_i rfl)
  clear e1724
  refine mm_findUntils_l85_fr (fun m1738 g2693 h => ?_) F (0 : Int32) m1723 g2692 h
  obtain rfl := Option.some.inj h
  exact g2693
def fl_mm_stateOf : List Nat := [35, 45, 46]
theorem mm_stateOf_l2_fr {F : Nat} {a1746 : Int32} {a1747 : Int32} {k : xm_S → Option (Int32 × xm_S)} {r : Int32} {m0 m' : xm_S} 
    (hk : ∀ (m : xm_S), xf_r fl_mm_stateOf m0 m → k m = some (r, m') → xf_r fl_mm_stateOf m0 m') : ∀ (fu : Nat) (a1748 : Int32) (m1745 : xm_S), xf_r fl_mm_stateOf m0 m1745 → mm_stateOf_l2 F a1746 a1747 k fu a1748 m1745 = some (r, m') → xf_r fl_mm_stateOf m0 m' := by
  intro fu
  induction fu with
  | zero => intro a1748 m1745 gg h; cases h
  | succ fu ih =>
    intro a1748 m1745 gg h
    rw [mm_stateOf_l2] at h
    by_cases c1749 : (m1745.1 35 11) ≤ a1748
    · replace h := (if_pos c1749).symm.trans h
      exact hk m1745 gg h
    · replace h := (if_neg c1749).symm.trans h
      obtain ⟨-, h⟩ := xg_e h
      by_cases c1751 : (m1745.1 45 a1748.toNatClampNeg) = a1746
      · replace h := (if_pos c1751).symm.trans h
        obtain ⟨-, h⟩ := xg_e h
        by_cases c1753 : (m1745.1 46 a1748.toNatClampNeg) = a1747
        · replace h := (if_pos c1753).symm.trans h
          obtain ⟨rfl, rfl⟩ := Prod.mk.inj (Option.some.inj h)
          exact gg
        · replace h := (if_neg c1753).symm.trans h
          exact ih (a1748 + (1 : Int32)) m1745 gg h
      · replace h := (if_neg c1751).symm.trans h
        exact ih (a1748 + (1 : Int32)) m1745 gg h
theorem mm_stateOf_fr {F : Nat} {a1 : Int32} {a2 : Int32} {r : Int32} {m0 m' : xm_S} (h : mm_stateOf F a1 a2 m0 = some (r, m')) : xf_r fl_mm_stateOf m0 m' := by
  unfold mm_stateOf at h
  have gg : xf_r fl_mm_stateOf m0 m0 := xf_0
  refine mm_stateOf_l2_fr (fun m1754 g2694 h => ?_) F (0 : Int32) m0 gg h
  obtain ⟨-, h⟩ := xg_e h
  obtain ⟨m1756, e1757, h⟩ := xs_e h
  have g2695 : xf_r fl_mm_stateOf m0 m1756 := xf_t g2694 (by rw [e1757]; exact xf_i rfl)
  clear e1757
  obtain ⟨-, h⟩ := xg_e h
  obtain ⟨m1759, e1760, h⟩ := xs_e h
  have g2696 : xf_r fl_mm_stateOf m0 m1759 := xf_t g2695 (by rw [e1760]; exact xf_i rfl)
  clear e1760
  obtain ⟨m1761, e1762, h⟩ := xs_e h
  have g2697 : xf_r fl_mm_stateOf m0 m1761 := xf_t g2696 (by rw [e1762]; exact xf_i rfl)
  clear e1762
  obtain ⟨rfl, rfl⟩ := Prod.mk.inj (Option.some.inj h)
  exact g2697
def fl_mm_keep : List Nat := [35, 44]
theorem mm_keep_l3_fr {F : Nat} {a1811 : Int32} {a1812 : Int64} {k : Int32 → xm_S → Option (xm_S)} {m0 m' : xm_S} 
    (hk : ∀ (z4 : Int32) (m : xm_S), xf_r fl_mm_keep m0 m → k z4 m = some m' → xf_r fl_mm_keep m0 m') : ∀ (fu : Nat) (a1813 : Int32) (m1810 : xm_S), xf_r fl_mm_keep m0 m1810 → mm_keep_l3 F a1811 a1812 k fu a1813 m1810 = some m' → xf_r fl_mm_keep m0 m' := by
  intro fu
  induction fu with
  | zero => intro a1813 m1810 gg h; cases h
  | succ fu ih =>
    intro a1813 m1810 gg h
    rw [mm_keep_l3] at h
    by_cases c1814 : a1811 ≤ a1813
    · replace h := (if_pos c1814).symm.trans h
      exact hk a1813 m1810 gg h
    · replace h := (if_neg c1814).symm.trans h
      obtain ⟨-, h⟩ := xg_e h
      by_cases c1816 : (lg_cmp (m1810.2 44 a1813.toNatClampNeg) a1812) = 0
      · replace h := (if_pos c1816).symm.trans h
        exact hk a1813 m1810 gg h
      · replace h := (if_neg c1816).symm.trans h
        exact ih (a1813 + (1 : Int32)) m1810 gg h
theorem mm_keep_fr {F : Nat} {a1 : Int32} {a2 : Int64} {m0 m' : xm_S} (h : mm_keep F a1 a2 m0 = some m') : xf_r fl_mm_keep m0 m' := by
  unfold mm_keep at h
  have gg : xf_r fl_mm_keep m0 m0 := xf_0
  refine mm_keep_l3_fr (fun x1817 m1818 g2698 h => ?_) F (0 : Int32) m0 gg h
  by_cases c1819 : a1 ≤ x1817
  · replace h := (if_pos c1819).symm.trans h
    obtain ⟨j1826, e1827, h⟩ := xj_e h
    have q1828 : ∀ (m1825 : xm_S), xf_r fl_mm_keep m0 m1825 → j1826 m1825 = some m' → xf_r fl_mm_keep m0 m' := by
      intro m1825 g2699 h
      rw [e1827] at h
      obtain ⟨m1829, e1830, h⟩ := xs_e h
      have g2700 : xf_r fl_mm_keep m0 m1829 := xf_t g2699 (by rw [e1830]; exact xf_i rfl)
      clear e1830
      obtain rfl := Option.some.inj h
      exact g2700
    clear e1827
    by_cases c1831 : (61 : Int32) ≤ a1
    · replace h := (if_pos c1831).symm.trans h
      exact q1828 m1818 g2698 h
    · replace h := (if_neg c1831).symm.trans h
      obtain ⟨-, h⟩ := xg_e h
      obtain ⟨m1833, e1834, h⟩ := xs_e h
      have g2701 : xf_r fl_mm_keep m0 m1833 := xf_t g2698 (by rw [e1834]; exact xf_l rfl)
      clear e1834
      exact q1828 m1833 g2701 h
  · replace h := (if_neg c1819).symm.trans h
    obtain rfl := Option.some.inj h
    exact g2698
