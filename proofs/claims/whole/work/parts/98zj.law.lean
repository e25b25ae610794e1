theorem z_lw_25 : z_okL "LongBoatsLaw" code 4 false (some .boolean) cd_Law_law 2500 cd_Law_law_25 = true := by decide +kernel
