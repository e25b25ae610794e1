theorem z_lw : z_okL "LongBoatsLaw" code 4 false (some .boolean) cd_Law_law 0 cd_Law_law = true := sorry
