theorem z_lw_17 : z_okL "LongBoatsLaw" code 4 false (some .boolean) cd_Law_law 1700 cd_Law_law_17 = true := by decide +kernel
