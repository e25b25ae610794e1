theorem z_lw_21 : z_okL "LongBoatsLaw" code 4 false (some .boolean) cd_Law_law 2100 cd_Law_law_21 = true := by decide +kernel
