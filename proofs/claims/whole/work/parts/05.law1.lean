theorem ra_lk600 : ra_chkR ra_m253 600 120 = true := by decide +kernel
theorem ra_lk720 : ra_chkR ra_m253 720 120 = true := by decide +kernel
theorem ra_lk840 : ra_chkR ra_m253 840 120 = true := by decide +kernel
theorem ra_lk960 : ra_chkR ra_m253 960 120 = true := by decide +kernel
theorem ra_lk1080 : ra_chkR ra_m253 1080 120 = true := by decide +kernel
