theorem z_lw_19 : z_okL "LongBoatsLaw" code 4 false (some .boolean) cd_Law_law 1900 cd_Law_law_19 = true := by decide +kernel
