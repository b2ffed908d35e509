def wRq : List (Nat × Nat) := [(66, 14), (76, 999)]
