-- one call on both sides
def StI (Rl : ST → ST → Prop) (f g : ST → Option (Int32 × ST)) : Prop := ∀ SC SM : ST, Rl SC SM → ∃ (r : Int32) (SC' SM' : ST), f SC = some (r, SC') ∧ g SM = some (r, SM') ∧ Rl SC' SM'
def StL (Rl : ST → ST → Prop) (f g : ST → Option (Int64 × ST)) : Prop := ∀ SC SM : ST, Rl SC SM → ∃ (r : Int64) (SC' SM' : ST), f SC = some (r, SC') ∧ g SM = some (r, SM') ∧ Rl SC' SM'
