theorem ck0_8 : ckl 0 560 (((cds.getD 0 []).drop 560).take 70) = true := by decide +kernel
theorem ck0_9 : ckl 0 630 (((cds.getD 0 []).drop 630).take 70) = true := by decide +kernel
theorem ck0_10 : ckl 0 700 (((cds.getD 0 []).drop 700).take 70) = true := by decide +kernel
theorem ck0_11 : ckl 0 770 (((cds.getD 0 []).drop 770).take 70) = true := by decide +kernel
theorem ck0_12 : ckl 0 840 (((cds.getD 0 []).drop 840).take 70) = true := by decide +kernel
theorem ck0_13 : ckl 0 910 (((cds.getD 0 []).drop 910).take 70) = true := by decide +kernel
theorem ck0_14 : ckl 0 980 (((cds.getD 0 []).drop 980).take 70) = true := by decide +kernel
theorem ck0_15 : ckl 0 1050 (((cds.getD 0 []).drop 1050).take 70) = true := by decide +kernel
