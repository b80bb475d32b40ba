/-! The instructions are those of the bytes (written by program). -/
def xm_dcb (cc : ByteArray) (e : xm_I) : Bool := match decode cc e.1 with
  | .ok (i, n) => decide (i = e.2.1) && (Nat.beq e.2.2 (e.1 + n) && (Nat.beq (xm_len i) 0 || Nat.beq n (xm_len i)))
  | _ => false
theorem xm_dcb_e {cc : ByteArray} {e : xm_I} (h : xm_dcb cc e = true) : xm_dec cc e := by
  unfold xm_dcb at h
  split at h
  · rename_i i n hd
    simp only [Bool.and_eq_true, Bool.or_eq_true, decide_eq_true_eq] at h
    obtain ⟨rfl, h2, h3⟩ := h
    exact ⟨n, hd, Nat.eq_of_beq_eq_true h2, h3.elim (fun q => Or.inl (Nat.eq_of_beq_eq_true q)) (fun q => Or.inr (Nat.eq_of_beq_eq_true q))⟩
  · cases h
theorem xm_dec_all {cc : ByteArray} {l : List (Nat × List xm_I)} (h : l.all (fun q => q.2.all (xm_dcb cc)) = true) : ∀ pc i, xm_tb pc l = some i → xm_dec cc (pc, i) := fun pc i hi => by
  obtain ⟨q, hq, he⟩ := xm_tb_mem hi
  exact xm_dcb_e (List.all_eq_true.mp (List.all_eq_true.mp h q hq) _ he)
set_option maxRecDepth 100000 in
theorem dc_0_0 : ((tb_0.drop 0).take 6).all (fun q => q.2.all (xm_dcb code)) = true := by decide +kernel
set_option maxRecDepth 100000 in
theorem dc_0_1 : ((tb_0.drop 6).take 6).all (fun q => q.2.all (xm_dcb code)) = true := by decide +kernel
set_option maxRecDepth 100000 in
theorem dc_0_2 : ((tb_0.drop 12).take 6).all (fun q => q.2.all (xm_dcb code)) = true := by decide +kernel
set_option maxRecDepth 100000 in
theorem dc_0_3 : ((tb_0.drop 18).take 6).all (fun q => q.2.all (xm_dcb code)) = true := by decide +kernel
set_option maxRecDepth 100000 in
theorem dc_0_4 : ((tb_0.drop 24).take 6).all (fun q => q.2.all (xm_dcb code)) = true := by decide +kernel
set_option maxRecDepth 100000 in
theorem dc_0_5 : ((tb_0.drop 30).take 6).all (fun q => q.2.all (xm_dcb code)) = true := by decide +kernel
set_option maxRecDepth 100000 in
theorem dc_0_6 : ((tb_0.drop 36).take 6).all (fun q => q.2.all (xm_dcb code)) = true := by decide +kernel
theorem dc_0 : tb_0.all (fun q => q.2.all (xm_dcb code)) = true := by
  have e : tb_0 = (tb_0.drop 0).take 6 ++ ((tb_0.drop 6).take 6 ++ ((tb_0.drop 12).take 6 ++ ((tb_0.drop 18).take 6 ++ ((tb_0.drop 24).take 6 ++ ((tb_0.drop 30).take 6 ++ ((tb_0.drop 36).take 6)))))) := rfl
  rw [e]
  simp only [List.all_append, Bool.and_eq_true]
  exact ⟨dc_0_0, ⟨dc_0_1, ⟨dc_0_2, ⟨dc_0_3, ⟨dc_0_4, ⟨dc_0_5, dc_0_6⟩⟩⟩⟩⟩⟩
set_option maxRecDepth 100000 in
theorem dc_1 : tb_1.all (fun q => q.2.all (xm_dcb prog_1_method_1_code)) = true := by decide +kernel
set_option maxRecDepth 100000 in
theorem dc_2 : tb_2.all (fun q => q.2.all (xm_dcb prog_3_method_1_code)) = true := by decide +kernel
set_option maxRecDepth 100000 in
theorem dc_3 : tb_3.all (fun q => q.2.all (xm_dcb prog_14_method_103_code)) = true := by decide +kernel
set_option maxRecDepth 100000 in
theorem dc_4 : tb_4.all (fun q => q.2.all (xm_dcb prog_8_method_1_code)) = true := by decide +kernel
set_option maxRecDepth 100000 in
theorem dc_5 : tb_5.all (fun q => q.2.all (xm_dcb prog_6_method_1_code)) = true := by decide +kernel
set_option maxRecDepth 100000 in
theorem dc_6 : tb_6.all (fun q => q.2.all (xm_dcb prog_5_method_1_code)) = true := by decide +kernel
set_option maxRecDepth 100000 in
theorem dc_7 : tb_7.all (fun q => q.2.all (xm_dcb prog_2_method_1_code)) = true := by decide +kernel
set_option maxRecDepth 100000 in
theorem dc_8 : tb_8.all (fun q => q.2.all (xm_dcb prog_4_method_1_code)) = true := by decide +kernel
set_option maxRecDepth 100000 in
theorem dc_9 : tb_9.all (fun q => q.2.all (xm_dcb prog_7_method_1_code)) = true := by decide +kernel
set_option maxRecDepth 100000 in
theorem dc_10 : tb_10.all (fun q => q.2.all (xm_dcb prog_1_method_2_code)) = true := by decide +kernel
set_option maxRecDepth 100000 in
theorem dc_11 : tb_11.all (fun q => q.2.all (xm_dcb prog_3_method_7_code)) = true := by decide +kernel
set_option maxRecDepth 100000 in
theorem dc_12 : tb_12.all (fun q => q.2.all (xm_dcb prog_3_method_2_code)) = true := by decide +kernel
set_option maxRecDepth 100000 in
theorem dc_13 : tb_13.all (fun q => q.2.all (xm_dcb prog_3_method_3_code)) = true := by decide +kernel
set_option maxRecDepth 100000 in
theorem dc_14 : tb_14.all (fun q => q.2.all (xm_dcb prog_3_method_5_code)) = true := by decide +kernel
set_option maxRecDepth 100000 in
theorem dc_15 : tb_15.all (fun q => q.2.all (xm_dcb prog_3_method_6_code)) = true := by decide +kernel
set_option maxRecDepth 100000 in
theorem dc_16 : tb_16.all (fun q => q.2.all (xm_dcb prog_3_method_8_code)) = true := by decide +kernel
set_option maxRecDepth 100000 in
theorem dc_17 : tb_17.all (fun q => q.2.all (xm_dcb prog_3_method_4_code)) = true := by decide +kernel
set_option maxRecDepth 100000 in
theorem dc_18 : tb_18.all (fun q => q.2.all (xm_dcb prog_1_method_3_code)) = true := by decide +kernel
set_option maxRecDepth 100000 in
theorem dc_19 : tb_19.all (fun q => q.2.all (xm_dcb prog_3_method_9_code)) = true := by decide +kernel
set_option maxRecDepth 100000 in
theorem dc_20 : tb_20.all (fun q => q.2.all (xm_dcb prog_1_method_4_code)) = true := by decide +kernel
set_option maxRecDepth 100000 in
theorem dc_21 : tb_21.all (fun q => q.2.all (xm_dcb prog_1_method_5_code)) = true := by decide +kernel
set_option maxRecDepth 100000 in
theorem dc_22 : tb_22.all (fun q => q.2.all (xm_dcb prog_8_method_2_code)) = true := by decide +kernel
set_option maxRecDepth 100000 in
theorem dc_23 : tb_23.all (fun q => q.2.all (xm_dcb prog_8_method_3_code)) = true := by decide +kernel
set_option maxRecDepth 100000 in
theorem dc_24 : tb_24.all (fun q => q.2.all (xm_dcb prog_3_method_10_code)) = true := by decide +kernel
set_option maxRecDepth 100000 in
theorem dc_25 : tb_25.all (fun q => q.2.all (xm_dcb prog_8_method_4_code)) = true := by decide +kernel
set_option maxRecDepth 100000 in
theorem dc_26 : tb_26.all (fun q => q.2.all (xm_dcb prog_8_method_5_code)) = true := by decide +kernel
set_option maxRecDepth 100000 in
theorem dc_27 : tb_27.all (fun q => q.2.all (xm_dcb prog_8_method_6_code)) = true := by decide +kernel
set_option maxRecDepth 100000 in
theorem dc_28 : tb_28.all (fun q => q.2.all (xm_dcb prog_8_method_7_code)) = true := by decide +kernel
set_option maxRecDepth 100000 in
theorem dc_29 : tb_29.all (fun q => q.2.all (xm_dcb prog_8_method_8_code)) = true := by decide +kernel
set_option maxRecDepth 100000 in
theorem dc_30 : tb_30.all (fun q => q.2.all (xm_dcb prog_8_method_9_code)) = true := by decide +kernel
set_option maxRecDepth 100000 in
theorem dc_31 : tb_31.all (fun q => q.2.all (xm_dcb prog_1_method_6_code)) = true := by decide +kernel
set_option maxRecDepth 100000 in
theorem dc_32 : tb_32.all (fun q => q.2.all (xm_dcb prog_6_method_4_code)) = true := by decide +kernel
set_option maxRecDepth 100000 in
theorem dc_33 : tb_33.all (fun q => q.2.all (xm_dcb prog_6_method_2_code)) = true := by decide +kernel
set_option maxRecDepth 100000 in
theorem dc_34 : tb_34.all (fun q => q.2.all (xm_dcb prog_6_method_6_code)) = true := by decide +kernel
