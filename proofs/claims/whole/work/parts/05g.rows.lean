theorem zr_L_law_18 : ((zT_L_law.drop 720).take 40).all (zrow code) = true := by decide +kernel
theorem zr_L_law_19 : ((zT_L_law.drop 760).take 40).all (zrow code) = true := by decide +kernel
theorem zr_L_law_20 : ((zT_L_law.drop 800).take 40).all (zrow code) = true := by decide +kernel
theorem zr_L_law_21 : ((zT_L_law.drop 840).take 40).all (zrow code) = true := by decide +kernel
theorem zr_L_law_22 : ((zT_L_law.drop 880).take 40).all (zrow code) = true := by decide +kernel
theorem zr_L_law_23 : ((zT_L_law.drop 920).take 40).all (zrow code) = true := by decide +kernel
