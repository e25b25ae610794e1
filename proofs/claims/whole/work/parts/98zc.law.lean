theorem z_lw_18 : z_okL "LongBoatsLaw" code 4 false (some .boolean) cd_Law_law 1800 cd_Law_law_18 = true := by decide +kernel
