theorem ck0_0 : ckl 0 0 (((cds.getD 0 []).drop 0).take 70) = true := by decide +kernel
theorem ck0_1 : ckl 0 70 (((cds.getD 0 []).drop 70).take 70) = true := by decide +kernel
theorem ck0_2 : ckl 0 140 (((cds.getD 0 []).drop 140).take 70) = true := by decide +kernel
theorem ck0_3 : ckl 0 210 (((cds.getD 0 []).drop 210).take 70) = true := by decide +kernel
theorem ck0_4 : ckl 0 280 (((cds.getD 0 []).drop 280).take 70) = true := by decide +kernel
theorem ck0_5 : ckl 0 350 (((cds.getD 0 []).drop 350).take 70) = true := by decide +kernel
theorem ck0_6 : ckl 0 420 (((cds.getD 0 []).drop 420).take 70) = true := by decide +kernel
theorem ck0_7 : ckl 0 490 (((cds.getD 0 []).drop 490).take 70) = true := by decide +kernel
