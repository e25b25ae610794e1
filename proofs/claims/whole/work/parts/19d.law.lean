theorem z_lw_15 : z_okL "LongBoatsLaw" code 4 false (some .boolean) cd_Law_law 1500 cd_Law_law_15 = true := by decide +kernel
theorem z_lw_16 : z_okL "LongBoatsLaw" code 4 false (some .boolean) cd_Law_law 1600 cd_Law_law_16 = true := by decide +kernel
theorem z_lw_17 : z_okL "LongBoatsLaw" code 4 false (some .boolean) cd_Law_law 1700 cd_Law_law_17 = true := by decide +kernel
theorem z_lw_18 : z_okL "LongBoatsLaw" code 4 false (some .boolean) cd_Law_law 1800 cd_Law_law_18 = true := by decide +kernel
theorem z_lw_19 : z_okL "LongBoatsLaw" code 4 false (some .boolean) cd_Law_law 1900 cd_Law_law_19 = true := by decide +kernel
