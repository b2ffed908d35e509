/-! ===== ways by hand: opposite points ===== -/
def ad (a b : Nat) : Nat := a &&& (b ^^^ 4294967295)
theorem nt_all : ∀ n : Fin 15, (ntF (Int32.ofNat (2 ^ (n : Nat)))).toInt = (n : Int) := by decide +kernel
theorem k_ntz {d : Nat} {hp : amH} {R : xQ} {x : Int32} {n : Nat} (hx : x.toInt = ((2 ^ n : Nat) : Int)) (hn : n < 15) (hR : ∀ z : Int32, z.toInt = (n : Int) → R (.inl (some (.int z))) hp) : xK d 342 [.int x] hp R := by
  refine ⟨am_m342, rfl, w_ntz (hR _ ?_)⟩
  have p2 : 2 ^ n < 2 ^ 15 := Nat.pow_lt_pow_right (by decide) hn
  have e : x = Int32.ofNat (2 ^ n) := by
    apply Int32.toInt_inj.mp
    rw [hx, Int32.toInt_ofNat_of_lt (by omega)]
  rw [e]
  exact nt_all ⟨n, hn⟩
