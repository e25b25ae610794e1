theorem z_lw_5 : z_okL "LongBoatsLaw" code 4 false (some .boolean) cd_Law_law 500 cd_Law_law_5 = true := by decide +kernel
theorem z_lw_6 : z_okL "LongBoatsLaw" code 4 false (some .boolean) cd_Law_law 600 cd_Law_law_6 = true := by decide +kernel
theorem z_lw_7 : z_okL "LongBoatsLaw" code 4 false (some .boolean) cd_Law_law 700 cd_Law_law_7 = true := by decide +kernel
theorem z_lw_8 : z_okL "LongBoatsLaw" code 4 false (some .boolean) cd_Law_law 800 cd_Law_law_8 = true := by decide +kernel
theorem z_lw_9 : z_okL "LongBoatsLaw" code 4 false (some .boolean) cd_Law_law 900 cd_Law_law_9 = true := by decide +kernel
