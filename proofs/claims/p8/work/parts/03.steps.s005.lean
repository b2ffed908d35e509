theorem am_set_i {c : List Value} {k : Nat} {v : Value} {x : Int32} (hk : k < c.length) (hv : amInt v = x) : (fun j => amInt ((c.set k v).getD j .null)) = upd (fun j => amInt (c.getD j .null)) k x := by
  funext j
  by_cases hj : j = k
  · subst hj
    simp [upd, hk, hv]
  · simp [upd, hj, List.getElem?_set, Ne.symm hj]
