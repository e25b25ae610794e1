theorem z_lw_10 : z_okL "LongBoatsLaw" code 4 false (some .boolean) cd_Law_law 1000 cd_Law_law_10 = true := by decide +kernel
theorem z_lw_11 : z_okL "LongBoatsLaw" code 4 false (some .boolean) cd_Law_law 1100 cd_Law_law_11 = true := by decide +kernel
theorem z_lw_12 : z_okL "LongBoatsLaw" code 4 false (some .boolean) cd_Law_law 1200 cd_Law_law_12 = true := by decide +kernel
theorem z_lw_13 : z_okL "LongBoatsLaw" code 4 false (some .boolean) cd_Law_law 1300 cd_Law_law_13 = true := by decide +kernel
theorem z_lw_14 : z_okL "LongBoatsLaw" code 4 false (some .boolean) cd_Law_law 1400 cd_Law_law_14 = true := by decide +kernel
