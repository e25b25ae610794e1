theorem z_lw_20 : z_okL "LongBoatsLaw" code 4 false (some .boolean) cd_Law_law 2000 cd_Law_law_20 = true := by decide +kernel
theorem z_lw_21 : z_okL "LongBoatsLaw" code 4 false (some .boolean) cd_Law_law 2100 cd_Law_law_21 = true := by decide +kernel
theorem z_lw_22 : z_okL "LongBoatsLaw" code 4 false (some .boolean) cd_Law_law 2200 cd_Law_law_22 = true := by decide +kernel
theorem z_lw_23 : z_okL "LongBoatsLaw" code 4 false (some .boolean) cd_Law_law 2300 cd_Law_law_23 = true := by decide +kernel
theorem z_lw_24 : z_okL "LongBoatsLaw" code 4 false (some .boolean) cd_Law_law 2400 cd_Law_law_24 = true := by decide +kernel
