/-! The instructions are those of the bytes, on (written by program). -/
set_option maxRecDepth 100000 in
theorem dc_76 : tb_76.all (fun q => q.2.all (xm_dcb prog_7_method_2_code)) = true := by decide +kernel
set_option maxRecDepth 100000 in
theorem dc_77 : tb_77.all (fun q => q.2.all (xm_dcb prog_1_method_12_code)) = true := by decide +kernel
set_option maxRecDepth 100000 in
theorem dc_78 : tb_78.all (fun q => q.2.all (xm_dcb prog_1_method_11_code)) = true := by decide +kernel
set_option maxRecDepth 100000 in
theorem dc_79 : tb_79.all (fun q => q.2.all (xm_dcb prog_10_method_1_code)) = true := by decide +kernel
set_option maxRecDepth 100000 in
theorem dc_80 : tb_80.all (fun q => q.2.all (xm_dcb prog_10_method_5_code)) = true := by decide +kernel
set_option maxRecDepth 100000 in
theorem dc_81 : tb_81.all (fun q => q.2.all (xm_dcb prog_10_method_2_code)) = true := by decide +kernel
set_option maxRecDepth 100000 in
theorem dc_82 : tb_82.all (fun q => q.2.all (xm_dcb prog_10_method_3_code)) = true := by decide +kernel
set_option maxRecDepth 100000 in
theorem dc_83 : tb_83.all (fun q => q.2.all (xm_dcb prog_10_method_4_code)) = true := by decide +kernel
set_option maxRecDepth 100000 in
theorem dc_84_0 : ((tb_84.drop 0).take 6).all (fun q => q.2.all (xm_dcb prog_10_method_7_code)) = true := by decide +kernel
set_option maxRecDepth 100000 in
theorem dc_84_1 : ((tb_84.drop 6).take 6).all (fun q => q.2.all (xm_dcb prog_10_method_7_code)) = true := by decide +kernel
set_option maxRecDepth 100000 in
theorem dc_84_2 : ((tb_84.drop 12).take 6).all (fun q => q.2.all (xm_dcb prog_10_method_7_code)) = true := by decide +kernel
set_option maxRecDepth 100000 in
theorem dc_84_3 : ((tb_84.drop 18).take 6).all (fun q => q.2.all (xm_dcb prog_10_method_7_code)) = true := by decide +kernel
theorem dc_84 : tb_84.all (fun q => q.2.all (xm_dcb prog_10_method_7_code)) = true := by
  have e : tb_84 = (tb_84.drop 0).take 6 ++ ((tb_84.drop 6).take 6 ++ ((tb_84.drop 12).take 6 ++ ((tb_84.drop 18).take 6))) := rfl
  rw [e]
  simp only [List.all_append, Bool.and_eq_true]
  exact ⟨dc_84_0, ⟨dc_84_1, ⟨dc_84_2, dc_84_3⟩⟩⟩
set_option maxRecDepth 100000 in
theorem dc_85 : tb_85.all (fun q => q.2.all (xm_dcb prog_10_method_6_code)) = true := by decide +kernel
set_option maxRecDepth 100000 in
theorem dc_86 : tb_86.all (fun q => q.2.all (xm_dcb prog_10_method_8_code)) = true := by decide +kernel
set_option maxRecDepth 100000 in
theorem dc_87_0 : ((tb_87.drop 0).take 6).all (fun q => q.2.all (xm_dcb prog_10_method_12_code)) = true := by decide +kernel
set_option maxRecDepth 100000 in
theorem dc_87_1 : ((tb_87.drop 6).take 6).all (fun q => q.2.all (xm_dcb prog_10_method_12_code)) = true := by decide +kernel
set_option maxRecDepth 100000 in
theorem dc_87_2 : ((tb_87.drop 12).take 6).all (fun q => q.2.all (xm_dcb prog_10_method_12_code)) = true := by decide +kernel
set_option maxRecDepth 100000 in
theorem dc_87_3 : ((tb_87.drop 18).take 6).all (fun q => q.2.all (xm_dcb prog_10_method_12_code)) = true := by decide +kernel
set_option maxRecDepth 100000 in
theorem dc_87_4 : ((tb_87.drop 24).take 6).all (fun q => q.2.all (xm_dcb prog_10_method_12_code)) = true := by decide +kernel
theorem dc_87 : tb_87.all (fun q => q.2.all (xm_dcb prog_10_method_12_code)) = true := by
  have e : tb_87 = (tb_87.drop 0).take 6 ++ ((tb_87.drop 6).take 6 ++ ((tb_87.drop 12).take 6 ++ ((tb_87.drop 18).take 6 ++ ((tb_87.drop 24).take 6)))) := rfl
  rw [e]
  simp only [List.all_append, Bool.and_eq_true]
  exact ⟨dc_87_0, ⟨dc_87_1, ⟨dc_87_2, ⟨dc_87_3, dc_87_4⟩⟩⟩⟩
set_option maxRecDepth 100000 in
theorem dc_88 : tb_88.all (fun q => q.2.all (xm_dcb prog_10_method_9_code)) = true := by decide +kernel
set_option maxRecDepth 100000 in
theorem dc_89 : tb_89.all (fun q => q.2.all (xm_dcb prog_10_method_10_code)) = true := by decide +kernel
set_option maxRecDepth 100000 in
theorem dc_90 : tb_90.all (fun q => q.2.all (xm_dcb prog_10_method_11_code)) = true := by decide +kernel
set_option maxRecDepth 100000 in
theorem dc_91 : tb_91.all (fun q => q.2.all (xm_dcb prog_10_method_18_code)) = true := by decide +kernel
set_option maxRecDepth 100000 in
theorem dc_92 : tb_92.all (fun q => q.2.all (xm_dcb prog_10_method_17_code)) = true := by decide +kernel
set_option maxRecDepth 100000 in
theorem dc_93_0 : ((tb_93.drop 0).take 6).all (fun q => q.2.all (xm_dcb prog_10_method_16_code)) = true := by decide +kernel
set_option maxRecDepth 100000 in
theorem dc_93_1 : ((tb_93.drop 6).take 6).all (fun q => q.2.all (xm_dcb prog_10_method_16_code)) = true := by decide +kernel
set_option maxRecDepth 100000 in
theorem dc_93_2 : ((tb_93.drop 12).take 6).all (fun q => q.2.all (xm_dcb prog_10_method_16_code)) = true := by decide +kernel
theorem dc_93 : tb_93.all (fun q => q.2.all (xm_dcb prog_10_method_16_code)) = true := by
  have e : tb_93 = (tb_93.drop 0).take 6 ++ ((tb_93.drop 6).take 6 ++ ((tb_93.drop 12).take 6)) := rfl
  rw [e]
  simp only [List.all_append, Bool.and_eq_true]
  exact ⟨dc_93_0, ⟨dc_93_1, dc_93_2⟩⟩
set_option maxRecDepth 100000 in
theorem dc_94 : tb_94.all (fun q => q.2.all (xm_dcb prog_10_method_13_code)) = true := by decide +kernel
set_option maxRecDepth 100000 in
theorem dc_95 : tb_95.all (fun q => q.2.all (xm_dcb prog_10_method_15_code)) = true := by decide +kernel
set_option maxRecDepth 100000 in
theorem dc_96 : tb_96.all (fun q => q.2.all (xm_dcb prog_10_method_14_code)) = true := by decide +kernel
set_option maxRecDepth 100000 in
theorem dc_97 : tb_97.all (fun q => q.2.all (xm_dcb prog_10_method_25_code)) = true := by decide +kernel
set_option maxRecDepth 100000 in
theorem dc_98 : tb_98.all (fun q => q.2.all (xm_dcb prog_10_method_24_code)) = true := by decide +kernel
set_option maxRecDepth 100000 in
theorem dc_99 : tb_99.all (fun q => q.2.all (xm_dcb prog_10_method_21_code)) = true := by decide +kernel
set_option maxRecDepth 100000 in
theorem dc_100 : tb_100.all (fun q => q.2.all (xm_dcb prog_10_method_22_code)) = true := by decide +kernel
set_option maxRecDepth 100000 in
theorem dc_101 : tb_101.all (fun q => q.2.all (xm_dcb prog_10_method_20_code)) = true := by decide +kernel
