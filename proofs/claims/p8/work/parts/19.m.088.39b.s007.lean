theorem k_opE {d V q u : Nat} {T : sT} {hp : amH} {R : xQ} {a b : Int32} (hH : bHk 84 bTT hp) (hT : sOk V T) (hL : rlN hp T 225) (hQ : rqN hp T 42875) (hq : q < nQ T) (ha : a.toInt = (q : Int)) (hb : b.toInt = (u : Int)) (hu : u < 15) (ho : opL T (cQ2 T q) u = 2 ^ oppQ T (cQ2 T q) u) (hlt : oppQ T (cQ2 T q) u < 15)
    (hR : ∀ z : Int32, z.toInt = ((oppQ T (cQ2 T q) u : Nat) : Int) → R (.inl (some (.int z))) hp) : xK (d + 1) 219 [.ref 66, .int a, .int b] hp R := by
  have uU := qU_lt hT hq
  have p2 : 2 ^ u ≤ 2 ^ 15 := Nat.pow_le_pow_right (by decide) (by omega)
  refine xin (M := am_m219) rfl rfl rfl ?_
  refine xald 1 ⟨u219, _, rfl⟩ rfl rfl ?_
  refine xild 2 ⟨u219, _, rfl⟩ rfl rfl ?_
  refine xcall 5 [.ref 66, .int _] [] hH ⟨u219, _, rfl⟩ rfl rfl rfl rfl rfl (k_qpE hH hT hL hQ hq ha (fun z2 h2 => ⟨_, rfl, ?_⟩))
  refine xcst 6 (1) ⟨u219, _, rfl⟩ rfl (by decide) (fun z5 h5 => ?_)
  refine xild 7 ⟨u219, _, rfl⟩ rfl rfl ?_
  refine xshl 8 ⟨u219, _, rfl⟩ rfl ?_
  refine xcst 9 (-1) ⟨u219, _, rfl⟩ rfl (by decide) (fun z8 h8 => ?_)
  refine xxor 10 ⟨u219, _, rfl⟩ rfl ?_
  refine xand 11 ⟨u219, _, rfl⟩ rfl ?_
  have nn := i_nd h2 (i_shl h5 hb hu).1 uU (by omega) h8
  refine xist 12 ⟨u219, _, rfl⟩ rfl rfl ?_
  refine xcst 13 (0) ⟨u219, _, rfl⟩ rfl (by decide) (fun z12 h12 => ?_)
  refine xist2 15 ⟨u219, _, rfl⟩ rfl rfl ?_
  refine xpad 1 ?_
  exact l219E hH hT hL hQ hq ha hb hu ho hlt hR 4 0 _ _ _ h12 (by omega) nn
