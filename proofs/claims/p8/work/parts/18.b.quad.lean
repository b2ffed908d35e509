/-! ===== quadrilaterals out of sets of points ===== -/
def mk (A : Nat → Nat × Nat × Nat) (k : Nat) : Nat := 2 ^ (A k).1 + 2 ^ (A k).2.1 + 2 ^ (A k).2.2
section QD
variable {t : Nat → Nat → Int} {p : Int} {m : Nat} {A : Nat → Nat × Nat × Nat} {i j k l : Nat}
end QD
