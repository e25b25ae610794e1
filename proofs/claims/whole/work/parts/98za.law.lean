theorem z_lw_15 : z_okL "LongBoatsLaw" code 4 false (some .boolean) cd_Law_law 1500 cd_Law_law_15 = true := by decide +kernel
theorem z_lw_16 : z_okL "LongBoatsLaw" code 4 false (some .boolean) cd_Law_law 1600 cd_Law_law_16 = true := by decide +kernel
