theorem z_lw_20 : z_okL "LongBoatsLaw" code 4 false (some .boolean) cd_Law_law 2000 cd_Law_law_20 = true := by decide +kernel
