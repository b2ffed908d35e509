theorem rqN_fr {hp hp1 : amH} {T : sT} {n : Nat} (h : rqN hp T n) (e : rN hp1 66 14 = rN hp 66 14) (F : ∀ i, rN hp1 76 i = rN hp 76 i) : rqN hp1 T n :=
  ⟨e.trans h.1, fun q hq => by rw [F, F, F, F]; exact h.2 q hq⟩
