/-! The instructions are those of the bytes, on (written by program). -/
set_option maxRecDepth 100000 in
theorem dc_35 : tb_35.all (fun q => q.2.all (xm_dcb prog_5_method_2_code)) = true := by decide +kernel
set_option maxRecDepth 100000 in
theorem dc_36 : tb_36.all (fun q => q.2.all (xm_dcb prog_5_method_3_code)) = true := by decide +kernel
set_option maxRecDepth 100000 in
theorem dc_37 : tb_37.all (fun q => q.2.all (xm_dcb prog_6_method_7_code)) = true := by decide +kernel
set_option maxRecDepth 100000 in
theorem dc_38 : tb_38.all (fun q => q.2.all (xm_dcb prog_6_method_8_code)) = true := by decide +kernel
set_option maxRecDepth 100000 in
theorem dc_39 : tb_39.all (fun q => q.2.all (xm_dcb prog_5_method_4_code)) = true := by decide +kernel
set_option maxRecDepth 100000 in
theorem dc_40 : tb_40.all (fun q => q.2.all (xm_dcb prog_5_method_5_code)) = true := by decide +kernel
set_option maxRecDepth 100000 in
theorem dc_41 : tb_41.all (fun q => q.2.all (xm_dcb prog_6_method_5_code)) = true := by decide +kernel
set_option maxRecDepth 100000 in
theorem dc_42 : tb_42.all (fun q => q.2.all (xm_dcb prog_14_method_124_code)) = true := by decide +kernel
set_option maxRecDepth 100000 in
theorem dc_43 : tb_43.all (fun q => q.2.all (xm_dcb prog_12_method_69_code)) = true := by decide +kernel
set_option maxRecDepth 100000 in
theorem dc_44 : tb_44.all (fun q => q.2.all (xm_dcb prog_6_method_3_code)) = true := by decide +kernel
set_option maxRecDepth 100000 in
theorem dc_45 : tb_45.all (fun q => q.2.all (xm_dcb prog_1_method_7_code)) = true := by decide +kernel
set_option maxRecDepth 100000 in
theorem dc_46 : tb_46.all (fun q => q.2.all (xm_dcb prog_2_method_2_code)) = true := by decide +kernel
set_option maxRecDepth 100000 in
theorem dc_47 : tb_47.all (fun q => q.2.all (xm_dcb prog_2_method_3_code)) = true := by decide +kernel
set_option maxRecDepth 100000 in
theorem dc_48 : tb_48.all (fun q => q.2.all (xm_dcb prog_2_method_4_code)) = true := by decide +kernel
set_option maxRecDepth 100000 in
theorem dc_49 : tb_49.all (fun q => q.2.all (xm_dcb prog_6_method_9_code)) = true := by decide +kernel
set_option maxRecDepth 100000 in
theorem dc_50 : tb_50.all (fun q => q.2.all (xm_dcb prog_5_method_7_code)) = true := by decide +kernel
set_option maxRecDepth 100000 in
theorem dc_51 : tb_51.all (fun q => q.2.all (xm_dcb prog_2_method_5_code)) = true := by decide +kernel
set_option maxRecDepth 100000 in
theorem dc_52 : tb_52.all (fun q => q.2.all (xm_dcb prog_5_method_6_code)) = true := by decide +kernel
set_option maxRecDepth 100000 in
theorem dc_53 : tb_53.all (fun q => q.2.all (xm_dcb prog_2_method_6_code)) = true := by decide +kernel
set_option maxRecDepth 100000 in
theorem dc_54 : tb_54.all (fun q => q.2.all (xm_dcb prog_1_method_8_code)) = true := by decide +kernel
set_option maxRecDepth 100000 in
theorem dc_55 : tb_55.all (fun q => q.2.all (xm_dcb prog_7_method_3_code)) = true := by decide +kernel
set_option maxRecDepth 100000 in
theorem dc_56 : tb_56.all (fun q => q.2.all (xm_dcb prog_4_method_2_code)) = true := by decide +kernel
set_option maxRecDepth 100000 in
theorem dc_57 : tb_57.all (fun q => q.2.all (xm_dcb prog_4_method_4_code)) = true := by decide +kernel
set_option maxRecDepth 100000 in
theorem dc_58 : tb_58.all (fun q => q.2.all (xm_dcb prog_4_method_3_code)) = true := by decide +kernel
set_option maxRecDepth 100000 in
theorem dc_59 : tb_59.all (fun q => q.2.all (xm_dcb prog_4_method_6_code)) = true := by decide +kernel
set_option maxRecDepth 100000 in
theorem dc_60 : tb_60.all (fun q => q.2.all (xm_dcb prog_4_method_5_code)) = true := by decide +kernel
set_option maxRecDepth 100000 in
theorem dc_61 : tb_61.all (fun q => q.2.all (xm_dcb prog_4_method_7_code)) = true := by decide +kernel
set_option maxRecDepth 100000 in
theorem dc_62 : tb_62.all (fun q => q.2.all (xm_dcb prog_4_method_9_code)) = true := by decide +kernel
set_option maxRecDepth 100000 in
theorem dc_63 : tb_63.all (fun q => q.2.all (xm_dcb prog_4_method_10_code)) = true := by decide +kernel
set_option maxRecDepth 100000 in
theorem dc_64 : tb_64.all (fun q => q.2.all (xm_dcb prog_4_method_11_code)) = true := by decide +kernel
set_option maxRecDepth 100000 in
theorem dc_65 : tb_65.all (fun q => q.2.all (xm_dcb prog_4_method_14_code)) = true := by decide +kernel
set_option maxRecDepth 100000 in
theorem dc_66 : tb_66.all (fun q => q.2.all (xm_dcb prog_4_method_12_code)) = true := by decide +kernel
set_option maxRecDepth 100000 in
theorem dc_67 : tb_67.all (fun q => q.2.all (xm_dcb prog_4_method_8_code)) = true := by decide +kernel
set_option maxRecDepth 100000 in
theorem dc_68 : tb_68.all (fun q => q.2.all (xm_dcb prog_4_method_13_code)) = true := by decide +kernel
set_option maxRecDepth 100000 in
theorem dc_69 : tb_69.all (fun q => q.2.all (xm_dcb prog_7_method_4_code)) = true := by decide +kernel
set_option maxRecDepth 100000 in
theorem dc_70 : tb_70.all (fun q => q.2.all (xm_dcb prog_7_method_6_code)) = true := by decide +kernel
set_option maxRecDepth 100000 in
theorem dc_71 : tb_71.all (fun q => q.2.all (xm_dcb prog_7_method_8_code)) = true := by decide +kernel
set_option maxRecDepth 100000 in
theorem dc_72 : tb_72.all (fun q => q.2.all (xm_dcb prog_7_method_7_code)) = true := by decide +kernel
set_option maxRecDepth 100000 in
theorem dc_73 : tb_73.all (fun q => q.2.all (xm_dcb prog_7_method_5_code)) = true := by decide +kernel
set_option maxRecDepth 100000 in
theorem dc_74 : tb_74.all (fun q => q.2.all (xm_dcb prog_1_method_9_code)) = true := by decide +kernel
set_option maxRecDepth 100000 in
theorem dc_75 : tb_75.all (fun q => q.2.all (xm_dcb prog_1_method_10_code)) = true := by decide +kernel
