theorem ra_lk1200 : ra_chkR ra_m253 1200 120 = true := by decide +kernel
theorem ra_lk1320 : ra_chkR ra_m253 1320 120 = true := by decide +kernel
theorem ra_lk1440 : ra_chkR ra_m253 1440 120 = true := by decide +kernel
theorem ra_lk1560 : ra_chkR ra_m253 1560 120 = true := by decide +kernel
theorem ra_lk1680 : ra_chkR ra_m253 1680 62 = true := by decide +kernel
