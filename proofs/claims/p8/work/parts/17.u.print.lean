/-! ===== ways by hand: what is printed ===== -/
def wOut : List (Nat × Nat) := [(66, 32), (82, 999)]
theorem b3_bit : ∀ x y z p : Fin 15, x < y → y < z → (2 ^ (x : Nat) + 2 ^ (y : Nat) + 2 ^ (z : Nat)).testBit p = (p == x || p == y || p == z) := by decide +kernel
theorem u335 : bUp 0 am_m335.1 = true := by decide +kernel
theorem u336 : bUp 0 am_m336.1 = true := by decide +kernel
theorem u337 : bUp 0 am_m337.1 = true := by decide +kernel
theorem k_write {d : Nat} {hp : amH} {R : xQ} {c : Int32} {o : Nat} (hH : bHk 84 bTT hp) (hP : P0 hp) (ho : rN hp 66 32 = (o : Int)) (ho2 : o < 30) (hR : ∀ hp1, bHk 84 bTT hp1 → P0 hp1 → bFr wOut hp hp1 → rN hp1 66 32 = ((o + 1 : Nat) : Int) → R (.inl none) hp1) : xK d 335 [.ref 66, .int c] hp R := by
  refine xin (M := am_m335) rfl rfl rfl ?_
  have b1 := aMin c
  have b2 := aMax c
  refine xald 1 ⟨u335, _, rfl⟩ rfl rfl ?_
  refine xgetR 4 82 hH ⟨u335, _, rfl⟩ rfl rfl ?_
  refine xald 5 ⟨u335, _, rfl⟩ rfl rfl ?_
  refine xgetI 8 hH ⟨u335, _, rfl⟩ rfl rfl (fun z5 h5 => ?_)
  refine xild 9 ⟨u335, _, rfl⟩ rfl rfl ?_
  refine xiast 10 o hH ⟨u335, _, rfl⟩ rfl (by decide) rfl (by omega) (by omega) (by omega) (by omega) (fun hp9 hH9 U9 => ?_)
  refine xald 11 ⟨u335, _, rfl⟩ rfl rfl ?_
  refine xdup 12 ⟨u335, _, rfl⟩ rfl rfl ?_
  refine xgetI 15 hH9 ⟨u335, _, rfl⟩ rfl rfl (fun z12 h12 => ?_)
  have o12 : z12.toInt = (o : Int) := by rw [h12, rU_ne U9 (by omega), ho]
  refine xcst 16 (1) ⟨u335, _, rfl⟩ rfl (by decide) (fun z15 h15 => ?_)
  refine xadd 17 _ ⟨u335, _, rfl⟩ rfl rfl (by omega) (by omega) (fun z16 h16 => ?_)
  refine xputI 20 hH9 ⟨u335, _, rfl⟩ rfl rfl ⟨rfl, rfl⟩ (by omega) (by omega) (fun hp17 hH17 U17 => ?_)
  have hF : bFr wOut hp hp17 := (rU_fr U9 (bIn_all (by decide) o)).trans (rU_fr U17 (by decide))
  exact xretV ⟨u335, _, rfl⟩ rfl (hR hp17 hH17 (P0_W (W := wOut) (by decide) hF hP) hF (by rw [U17.1]; omega))
theorem k_wp {d : Nat} {hp : amH} {R : xQ} {c : Int32} {o : Nat} (hH : bHk 84 bTT hp) (hP : P0 hp) (ho : rN hp 66 32 = (o : Int)) (ho2 : o < 30) (c0 : 0 ≤ c.toInt) (c1 : c.toInt < 15) (hR : ∀ hp1, bHk 84 bTT hp1 → P0 hp1 → bFr wOut hp hp1 → rN hp1 66 32 = ((o + 1 : Nat) : Int) → R (.inl none) hp1) : xK (d + 1) 336 [.ref 66, .int c] hp R := by
  refine xin (M := am_m336) rfl rfl rfl ?_
  refine xald 1 ⟨u336, _, rfl⟩ rfl rfl ?_
  refine xild 2 ⟨u336, _, rfl⟩ rfl rfl ?_
  refine xbip 4 (10) ⟨u336, _, rfl⟩ rfl (by decide) (fun z2 h2 => ?_)
  refine xcmp_ge 7 ⟨u336, _, rfl⟩ rfl (fun c4 => ?_) (fun c4 => ?_)
  · refine xbip 16 (97) ⟨u336, _, rfl⟩ rfl (by decide) (fun z14 h14 => ?_)
    refine xild 17 ⟨u336, _, rfl⟩ rfl rfl ?_
    refine xadd 18 _ ⟨u336, _, rfl⟩ rfl rfl (by omega) (by omega) (fun z17 h17 => ?_)
    refine xbip 20 (10) ⟨u336, _, rfl⟩ rfl (by decide) (fun z18 h18 => ?_)
    refine xsub 21 _ ⟨u336, _, rfl⟩ rfl rfl (by omega) (by omega) (fun z20 h20 => ?_)
    refine xcall 24 [.ref 66, .int _] [] hH ⟨u336, _, rfl⟩ rfl rfl rfl rfl rfl (k_write hH hP (o := o) ho (by omega) (fun hp21 hH21 hP21 F21 O21 => ⟨_, rfl, ?_⟩))
    exact xretV ⟨u336, _, rfl⟩ rfl (hR _ hH21 hP21 F21 O21)
  · refine xbip 9 (48) ⟨u336, _, rfl⟩ rfl (by decide) (fun z7 h7 => ?_)
    refine xild 10 ⟨u336, _, rfl⟩ rfl rfl ?_
    refine xadd 11 _ ⟨u336, _, rfl⟩ rfl rfl (by omega) (by omega) (fun z10 h10 => ?_)
    refine xgoto ⟨u336, _, rfl⟩ ?_
    refine xcall 24 [.ref 66, .int _] [] hH ⟨u336, _, rfl⟩ rfl rfl rfl rfl rfl (k_write hH hP (o := o) ho (by omega) (fun hp21 hH21 hP21 F21 O21 => ⟨_, rfl, ?_⟩))
    exact xretV ⟨u336, _, rfl⟩ rfl (hR _ hH21 hP21 F21 O21)
def Ptc (A : Nat → Nat × Nat × Nat) (p t c : Nat) : Prop := ∃ L : List Nat, L.Nodup ∧ (∀ w ∈ L, w < 15 ∧ ¬ w = p ∧ ∃ k, k < t ∧ prA A k p w) ∧ L.length = 2 * c
theorem Ptc_n {A : Nat → Nat × Nat × Nat} {p t c : Nat} (h : Ptc A p t c) : Ptc A p (t + 1) c := by
  obtain ⟨L, h1, h2, h3⟩ := h
  refine ⟨L, h1, fun w hw => ?_, h3⟩
  obtain ⟨g1, g2, k, g3, g4⟩ := h2 w hw
  exact ⟨g1, g2, k, by omega, g4⟩
theorem Ptc_7 {A : Nat → Nat × Nat × Nat} {p t c : Nat} (h : Ptc A p t c) : 2 * c ≤ 15 := by
  obtain ⟨L, h1, h2, h3⟩ := h
  have := nd_len L (List.range 15) h1 (fun w hw => List.mem_range.mpr (h2 w hw).1)
  rw [List.length_range] at this
  omega
theorem Ptc_s {T : Nat → Nat → Int} {q : Int} {m : Nat} {A : Nat → Nat × Nat × Nat} {p t c : Nat} (hq : q ≤ 15) (hS : Sys T q m A) (ht : t < m) (h : Ptc A p t c) (hp : p = (A t).1 ∨ p = (A t).2.1 ∨ p = (A t).2.2) : Ptc A p (t + 1) (c + 1) := by
  obtain ⟨L, h1, h2, h3⟩ := h
  have hs := hS.2.1 t ht
  have key : ∀ u v : Nat, ¬ u = p → ¬ v = p → ¬ u = v → prA A t p u → prA A t p v → Ptc A p (t + 1) (c + 1) := by
    intro u v hu hv huv pu pv
    have no : ∀ w, prA A t p w → ¬ w ∈ L := by
      intro w pw hw
      obtain ⟨-, -, k, hk, pk⟩ := h2 w hw
      have := hS.2.2.2.1 k t p w (by omega) ht pk pw
      omega
    refine ⟨u :: v :: L, List.nodup_cons.mpr ⟨fun hm => ?_, List.nodup_cons.mpr ⟨no v pv, h1⟩⟩, fun w hw => ?_, by simp only [List.length_cons]; omega⟩
    · rcases List.mem_cons.mp hm with z | z
      · exact huv z
      · exact no u pu z
    · rcases List.mem_cons.mp hw with rfl | hw
      · exact ⟨by obtain ⟨-, -, z⟩ := pu; omega, hu, t, by omega, pu⟩
      · rcases List.mem_cons.mp hw with rfl | hw
        · exact ⟨by obtain ⟨-, -, z⟩ := pv; omega, hv, t, by omega, pv⟩
        · obtain ⟨g1, g2, k, g3, g4⟩ := h2 w hw
          exact ⟨g1, g2, k, by omega, g4⟩
  rcases hp with rfl | rfl | rfl
  · exact key (A t).2.1 (A t).2.2 (by omega) (by omega) (by omega) ⟨by omega, by omega, by omega⟩ ⟨by omega, by omega, by omega⟩
  · exact key (A t).1 (A t).2.2 (by omega) (by omega) (by omega) ⟨by omega, by omega, by omega⟩ ⟨by omega, by omega, by omega⟩
  · exact key (A t).1 (A t).2.1 (by omega) (by omega) (by omega) ⟨by omega, by omega, by omega⟩ ⟨by omega, by omega, by omega⟩
