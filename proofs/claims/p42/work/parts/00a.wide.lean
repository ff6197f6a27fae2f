/-! this proof rests on the rest of the library too: its name first, so that a round knows at once -/
abbrev xz_atoms (own : String) (ic : Nat) (X : String) (ix : Nat) (rx : ByteArray) (names : List String) : List Cond := Bundle.ownAtomsX own ic X ix rx names
