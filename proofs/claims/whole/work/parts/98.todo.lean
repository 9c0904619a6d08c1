def RelT : KS → KS → Prop := fun _ _ => True
theorem sim_all : Sim RelT := sorry
theorem rel_init : RelT sX0 sM0 := trivial
