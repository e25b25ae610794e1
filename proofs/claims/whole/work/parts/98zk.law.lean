theorem z_lw_26 : z_okL "LongBoatsLaw" code 4 false (some .boolean) cd_Law_law 2600 cd_Law_law_26 = true := by decide +kernel
