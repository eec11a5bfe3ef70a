set_option maxRecDepth 100000 in
theorem ze_45 : pg_45.all (zEOk 45) = true := by decide +kernel
set_option maxRecDepth 100000 in
theorem ze_46 : pg_46.all (zEOk 46) = true := by decide +kernel
set_option maxRecDepth 100000 in
theorem ze_47 : pg_47.all (zEOk 47) = true := by decide +kernel
set_option maxRecDepth 100000 in
theorem ze_48 : pg_48.all (zEOk 48) = true := by decide +kernel
set_option maxRecDepth 100000 in
theorem ze_49 : pg_49.all (zEOk 49) = true := by decide +kernel
set_option maxRecDepth 100000 in
theorem ze_50 : pg_50.all (zEOk 50) = true := by decide +kernel
set_option maxRecDepth 100000 in
theorem ze_51 : pg_51.all (zEOk 51) = true := by decide +kernel
set_option maxRecDepth 100000 in
theorem ze_52 : pg_52.all (zEOk 52) = true := by decide +kernel
set_option maxRecDepth 100000 in
theorem ze_53 : pg_53.all (zEOk 53) = true := by decide +kernel
set_option maxRecDepth 100000 in
theorem ze_54 : pg_54.all (zEOk 54) = true := by decide +kernel
set_option maxRecDepth 100000 in
theorem ze_55 : pg_55.all (zEOk 55) = true := by decide +kernel
set_option maxRecDepth 100000 in
theorem ze_56 : pg_56.all (zEOk 56) = true := by decide +kernel
set_option maxRecDepth 100000 in
theorem ze_57 : pg_57.all (zEOk 57) = true := by decide +kernel
set_option maxRecDepth 100000 in
theorem ze_58 : pg_58.all (zEOk 58) = true := by decide +kernel
set_option maxRecDepth 100000 in
theorem ze_59 : pg_59.all (zEOk 59) = true := by decide +kernel
set_option maxRecDepth 100000 in
theorem ze_60 : pg_60.all (zEOk 60) = true := by decide +kernel
set_option maxRecDepth 100000 in
theorem ze_61 : pg_61.all (zEOk 61) = true := by decide +kernel
set_option maxRecDepth 100000 in
theorem ze_62 : pg_62.all (zEOk 62) = true := by decide +kernel
set_option maxRecDepth 100000 in
theorem ze_63 : pg_63.all (zEOk 63) = true := by decide +kernel
set_option maxRecDepth 100000 in
theorem ze_64 : pg_64.all (zEOk 64) = true := by decide +kernel
set_option maxRecDepth 100000 in
theorem ze_65 : pg_65.all (zEOk 65) = true := by decide +kernel
set_option maxRecDepth 100000 in
theorem ze_66 : pg_66.all (zEOk 66) = true := by decide +kernel
set_option maxRecDepth 100000 in
theorem ze_67 : pg_67.all (zEOk 67) = true := by decide +kernel
set_option maxRecDepth 100000 in
theorem ze_68 : pg_68.all (zEOk 68) = true := by decide +kernel
set_option maxRecDepth 100000 in
theorem ze_69 : pg_69.all (zEOk 69) = true := by decide +kernel
set_option maxRecDepth 100000 in
theorem ze_70 : pg_70.all (zEOk 70) = true := by decide +kernel
set_option maxRecDepth 100000 in
theorem ze_71 : pg_71.all (zEOk 71) = true := by decide +kernel
set_option maxRecDepth 100000 in
theorem ze_72 : pg_72.all (zEOk 72) = true := by decide +kernel
set_option maxRecDepth 100000 in
theorem ze_73 : pg_73.all (zEOk 73) = true := by decide +kernel
set_option maxRecDepth 100000 in
theorem ze_74 : pg_74.all (zEOk 74) = true := by decide +kernel
set_option maxRecDepth 100000 in
theorem ze_75 : pg_75.all (zEOk 75) = true := by decide +kernel
set_option maxRecDepth 100000 in
theorem ze_76 : pg_76.all (zEOk 76) = true := by decide +kernel
set_option maxRecDepth 100000 in
theorem ze_77 : pg_77.all (zEOk 77) = true := by decide +kernel
set_option maxRecDepth 100000 in
theorem ze_78 : pg_78.all (zEOk 78) = true := by decide +kernel
set_option maxRecDepth 100000 in
theorem ze_79 : pg_79.all (zEOk 79) = true := by decide +kernel
set_option maxRecDepth 100000 in
theorem ze_80 : pg_80.all (zEOk 80) = true := by decide +kernel
set_option maxRecDepth 100000 in
theorem ze_81 : pg_81.all (zEOk 81) = true := by decide +kernel
set_option maxRecDepth 100000 in
theorem ze_82 : pg_82.all (zEOk 82) = true := by decide +kernel
set_option maxRecDepth 100000 in
theorem ze_83 : pg_83.all (zEOk 83) = true := by decide +kernel
set_option maxRecDepth 100000 in
theorem ze_84 : pg_84.all (zEOk 84) = true := by decide +kernel
set_option maxRecDepth 100000 in
theorem ze_85 : pg_85.all (zEOk 85) = true := by decide +kernel
set_option maxRecDepth 100000 in
theorem ze_86 : pg_86.all (zEOk 86) = true := by decide +kernel
set_option maxRecDepth 100000 in
theorem ze_87 : pg_87.all (zEOk 87) = true := by decide +kernel
set_option maxRecDepth 100000 in
theorem ze_88 : pg_88.all (zEOk 88) = true := by decide +kernel
set_option maxRecDepth 100000 in
theorem ze_89 : pg_89.all (zEOk 89) = true := by decide +kernel
