def rl (_ : SX) (_ : S6) : Prop := True
theorem rl_eqs : Eqs rl := sorry
theorem rl_init : rl z5 z6 := trivial
