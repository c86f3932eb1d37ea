theorem ra_lk0 : ra_chkR ra_m253 0 120 = true := by decide +kernel
theorem ra_lk120 : ra_chkR ra_m253 120 120 = true := by decide +kernel
theorem ra_lk240 : ra_chkR ra_m253 240 120 = true := by decide +kernel
theorem ra_lk360 : ra_chkR ra_m253 360 120 = true := by decide +kernel
theorem ra_lk480 : ra_chkR ra_m253 480 120 = true := by decide +kernel
