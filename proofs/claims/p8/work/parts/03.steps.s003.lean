theorem amE_obj {dA : Nat → ClassId} {ad : Nat → Nat} {ci : Nat} {fs : List Value} (h : ci < 32) : amE dA ad (ci, fs) = .inr (ci, fs.map (amV ad)) := by
  unfold amE
  dsimp only
  rw [if_neg (by omega), if_neg (by omega), if_neg (by omega), if_neg (by omega)]
