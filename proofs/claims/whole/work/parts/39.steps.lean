theorem steps_all (Z : ZT) : Steps Z := sorry
