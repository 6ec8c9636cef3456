theorem zr_L_law_6 : ((zT_L_law.drop 240).take 40).all (zrow code) = true := by decide +kernel
theorem zr_L_law_7 : ((zT_L_law.drop 280).take 40).all (zrow code) = true := by decide +kernel
theorem zr_L_law_8 : ((zT_L_law.drop 320).take 40).all (zrow code) = true := by decide +kernel
theorem zr_L_law_9 : ((zT_L_law.drop 360).take 40).all (zrow code) = true := by decide +kernel
theorem zr_L_law_10 : ((zT_L_law.drop 400).take 40).all (zrow code) = true := by decide +kernel
theorem zr_L_law_11 : ((zT_L_law.drop 440).take 40).all (zrow code) = true := by decide +kernel
