/-! ===== ways by hand: calls that change the system (1) ===== -/
theorem lAt_pad : ∀ (L : List (Option Value)) (m k : Nat) (v : Value), lAt (L ++ List.replicate m none) k = some (some v) → lAt L k = some (some v)
  | [], m, k, v, e => by
    rcases lAt_rep m k (none : Option Value) with h | h <;> rw [List.nil_append, h] at e <;> cases e
  | c :: r, m, 0, v, e => e
  | c :: r, m, k + 1, v, e => lAt_pad r m k v e
theorem xpad (m : Nat) {M : amM} {pc d : Nat} {L : List (Option Value)} {st : List Value} {hp : amH} {Q : xQ} (hw : xV d M pc (L ++ List.replicate m none) st hp Q) : xV d M pc L st hp Q := xdrop (lAt_pad L m) hw
theorem u276 : bUp 0 am_m276.1 = true := by decide +kernel
theorem u269 : bUp 0 am_m269.1 = true := by decide +kernel
theorem u272 : bUp 0 am_m272.1 = true := by decide +kernel
theorem u278 : bUp 0 am_m278.1 = true := by decide +kernel
theorem u275 : bUp 0 am_m275.1 = true := by decide +kernel
