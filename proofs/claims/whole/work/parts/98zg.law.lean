theorem z_lw_22 : z_okL "LongBoatsLaw" code 4 false (some .boolean) cd_Law_law 2200 cd_Law_law_22 = true := by decide +kernel
