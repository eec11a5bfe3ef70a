set_option maxRecDepth 100000 in
theorem ze_0 : pg_0.all (zEOk 0) = true := by decide +kernel
set_option maxRecDepth 100000 in
theorem ze_1 : pg_1.all (zEOk 1) = true := by decide +kernel
set_option maxRecDepth 100000 in
theorem ze_2 : pg_2.all (zEOk 2) = true := by decide +kernel
set_option maxRecDepth 100000 in
theorem ze_3 : pg_3.all (zEOk 3) = true := by decide +kernel
set_option maxRecDepth 100000 in
theorem ze_4 : pg_4.all (zEOk 4) = true := by decide +kernel
set_option maxRecDepth 100000 in
theorem ze_5 : pg_5.all (zEOk 5) = true := by decide +kernel
set_option maxRecDepth 100000 in
theorem ze_6 : pg_6.all (zEOk 6) = true := by decide +kernel
set_option maxRecDepth 100000 in
theorem ze_7 : pg_7.all (zEOk 7) = true := by decide +kernel
set_option maxRecDepth 100000 in
theorem ze_8 : pg_8.all (zEOk 8) = true := by decide +kernel
set_option maxRecDepth 100000 in
theorem ze_9 : pg_9.all (zEOk 9) = true := by decide +kernel
set_option maxRecDepth 100000 in
theorem ze_10 : pg_10.all (zEOk 10) = true := by decide +kernel
set_option maxRecDepth 100000 in
theorem ze_11 : pg_11.all (zEOk 11) = true := by decide +kernel
set_option maxRecDepth 100000 in
theorem ze_12 : pg_12.all (zEOk 12) = true := by decide +kernel
set_option maxRecDepth 100000 in
theorem ze_13 : pg_13.all (zEOk 13) = true := by decide +kernel
set_option maxRecDepth 100000 in
theorem ze_14 : pg_14.all (zEOk 14) = true := by decide +kernel
set_option maxRecDepth 100000 in
theorem ze_15 : pg_15.all (zEOk 15) = true := by decide +kernel
set_option maxRecDepth 100000 in
theorem ze_16 : pg_16.all (zEOk 16) = true := by decide +kernel
set_option maxRecDepth 100000 in
theorem ze_17 : pg_17.all (zEOk 17) = true := by decide +kernel
set_option maxRecDepth 100000 in
theorem ze_18 : pg_18.all (zEOk 18) = true := by decide +kernel
set_option maxRecDepth 100000 in
theorem ze_19 : pg_19.all (zEOk 19) = true := by decide +kernel
set_option maxRecDepth 100000 in
theorem ze_20 : pg_20.all (zEOk 20) = true := by decide +kernel
set_option maxRecDepth 100000 in
theorem ze_21 : pg_21.all (zEOk 21) = true := by decide +kernel
set_option maxRecDepth 100000 in
theorem ze_22 : pg_22.all (zEOk 22) = true := by decide +kernel
set_option maxRecDepth 100000 in
theorem ze_23 : pg_23.all (zEOk 23) = true := by decide +kernel
set_option maxRecDepth 100000 in
theorem ze_24 : pg_24.all (zEOk 24) = true := by decide +kernel
set_option maxRecDepth 100000 in
theorem ze_25 : pg_25.all (zEOk 25) = true := by decide +kernel
set_option maxRecDepth 100000 in
theorem ze_26 : pg_26.all (zEOk 26) = true := by decide +kernel
set_option maxRecDepth 100000 in
theorem ze_27 : pg_27.all (zEOk 27) = true := by decide +kernel
set_option maxRecDepth 100000 in
theorem ze_28 : pg_28.all (zEOk 28) = true := by decide +kernel
set_option maxRecDepth 100000 in
theorem ze_29 : pg_29.all (zEOk 29) = true := by decide +kernel
set_option maxRecDepth 100000 in
theorem ze_30 : pg_30.all (zEOk 30) = true := by decide +kernel
set_option maxRecDepth 100000 in
theorem ze_31 : pg_31.all (zEOk 31) = true := by decide +kernel
set_option maxRecDepth 100000 in
theorem ze_32 : pg_32.all (zEOk 32) = true := by decide +kernel
set_option maxRecDepth 100000 in
theorem ze_33 : pg_33.all (zEOk 33) = true := by decide +kernel
set_option maxRecDepth 100000 in
theorem ze_34 : pg_34.all (zEOk 34) = true := by decide +kernel
set_option maxRecDepth 100000 in
theorem ze_35 : pg_35.all (zEOk 35) = true := by decide +kernel
set_option maxRecDepth 100000 in
theorem ze_36 : pg_36.all (zEOk 36) = true := by decide +kernel
set_option maxRecDepth 100000 in
theorem ze_37 : pg_37.all (zEOk 37) = true := by decide +kernel
set_option maxRecDepth 100000 in
theorem ze_38 : pg_38.all (zEOk 38) = true := by decide +kernel
set_option maxRecDepth 100000 in
theorem ze_39 : pg_39.all (zEOk 39) = true := by decide +kernel
set_option maxRecDepth 100000 in
theorem ze_40 : pg_40.all (zEOk 40) = true := by decide +kernel
set_option maxRecDepth 100000 in
theorem ze_41 : pg_41.all (zEOk 41) = true := by decide +kernel
set_option maxRecDepth 100000 in
theorem ze_42 : pg_42.all (zEOk 42) = true := by decide +kernel
set_option maxRecDepth 100000 in
theorem ze_43 : pg_43.all (zEOk 43) = true := by decide +kernel
set_option maxRecDepth 100000 in
theorem ze_44 : pg_44.all (zEOk 44) = true := by decide +kernel
