theorem z_lw_23 : z_okL "LongBoatsLaw" code 4 false (some .boolean) cd_Law_law 2300 cd_Law_law_23 = true := by decide +kernel
