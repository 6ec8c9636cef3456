theorem zr_L_law_12 : ((zT_L_law.drop 480).take 40).all (zrow code) = true := by decide +kernel
theorem zr_L_law_13 : ((zT_L_law.drop 520).take 40).all (zrow code) = true := by decide +kernel
theorem zr_L_law_14 : ((zT_L_law.drop 560).take 40).all (zrow code) = true := by decide +kernel
theorem zr_L_law_15 : ((zT_L_law.drop 600).take 40).all (zrow code) = true := by decide +kernel
theorem zr_L_law_16 : ((zT_L_law.drop 640).take 40).all (zrow code) = true := by decide +kernel
theorem zr_L_law_17 : ((zT_L_law.drop 680).take 40).all (zrow code) = true := by decide +kernel
