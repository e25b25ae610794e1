theorem z_lw_24 : z_okL "LongBoatsLaw" code 4 false (some .boolean) cd_Law_law 2400 cd_Law_law_24 = true := by decide +kernel
