theorem zr_L_law_0 : ((zT_L_law.drop 0).take 40).all (zrow code) = true := by decide +kernel
theorem zr_L_law_1 : ((zT_L_law.drop 40).take 40).all (zrow code) = true := by decide +kernel
theorem zr_L_law_2 : ((zT_L_law.drop 80).take 40).all (zrow code) = true := by decide +kernel
theorem zr_L_law_3 : ((zT_L_law.drop 120).take 40).all (zrow code) = true := by decide +kernel
theorem zr_L_law_4 : ((zT_L_law.drop 160).take 40).all (zrow code) = true := by decide +kernel
theorem zr_L_law_5 : ((zT_L_law.drop 200).take 40).all (zrow code) = true := by decide +kernel
