def wLQE : List (Nat × Nat) := [(66, 14), (76, 999)] ++ bLT
