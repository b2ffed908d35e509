/-- the switch can be made -/
theorem qd_ok {V : Nat} {T : sT} (hT : sOk V T) {n : Nat} (hn : n < 42875) (h : qdB T n = true) : tkOk T (qG T n) ∧ sOk V (uTs T (qG T n)) ∧ ptOk V (uTs T (qG T n)) (qC T n) ∧ sOk V (swQ T n) := by
  obtain ⟨hX, -, -, -⟩ := qd_X hT hn h
  obtain ⟨⟨bi, bj, bk, bl⟩, ⟨n12, n13, n14, n23, n24, n34⟩, -⟩ := id hX
  have h1 : tkOk T (qG T n) := tkOk_of (fun m hm => by
      unfold qG at hm
      simp only [List.mem_cons, List.not_mem_nil, or_false] at hm
      rcases hm with rfl | rfl | rfl | rfl
      · exact triM_m hT bi
      · exact triM_m hT bj
      · exact triM_m hT bk
      · exact triM_m hT bl) (by
      unfold qG
      refine ⟨fun b hb => ?_, fun b hb => ?_, fun b hb => ?_, fun b hb => absurd hb (by simp), trivial⟩
      · simp only [List.mem_cons, List.not_mem_nil, or_false] at hb
        rcases hb with rfl | rfl | rfl
        · exact sh_m hT bi bj n12
        · exact sh_m hT bi bk n13
        · exact sh_m hT bi bl n14
      · simp only [List.mem_cons, List.not_mem_nil, or_false] at hb
        rcases hb with rfl | rfl
        · exact sh_m hT bj bk n23
        · exact sh_m hT bj bl n24
      · simp only [List.mem_cons, List.not_mem_nil, or_false] at hb
        rcases hb with rfl
        exact sh_m hT bk bl n34)
  have h2 := sOk_uTs hT h1
  have h3 : ptOk V (uTs T (qG T n)) (qC T n) := by
    obtain ⟨p, a, b, c, d, e, ⟨lp, la, lb, lc, ld, le⟩, ⟨⟨k1, k2, k3, k4, k5⟩, ⟨k6, k7, k8, k9⟩, ⟨k10, k11, k12⟩, ⟨k13, k14⟩, k15⟩, eG, eC, -⟩ := qd_all hT hn h
    rw [eC]
    have go : ∀ u v, sPr p a b u v ∨ sPr p c d u v ∨ sPr a c e u v ∨ sPr b d e u v → uTs T (qG T n) u v = -1 := fun u v g => by
      rw [eG]
      rcases g with g | g | g | g
      · exact uTs_in (m := m3 p a b) (by simp) (in2_3.mpr g)
      · exact uTs_in (m := m3 p c d) (by simp) (in2_3.mpr g)
      · exact uTs_in (m := m3 a c e) (by simp) (in2_3.mpr g)
      · exact uTs_in (m := m3 b d e) (by simp) (in2_3.mpr g)
    refine ptOk_of (fun m hm => ?_) ?_
    · simp only [List.mem_cons, List.not_mem_nil, or_false] at hm
      rcases hm with rfl | rfl | rfl | rfl
      · exact freM_of h2 lc ld le k13 k15 k14 (fun u v g => go u v (sx_0 g))
      · exact freM_of h2 la lb le k6 k12 k9 (fun u v g => go u v (sx_1 g))
      · exact freM_of h2 lp lb ld k2 k11 k4 (fun u v g => go u v (sx_2 g))
      · exact freM_of h2 lp la lc k1 k7 k3 (fun u v g => go u v (sx_3 g))
    · refine ⟨fun m hm => ?_, fun m hm => ?_, fun m hm => ?_, fun b hb => absurd hb (by simp), trivial⟩
      · simp only [List.mem_cons, List.not_mem_nil, or_false] at hm
        rcases hm with rfl | rfl | rfl
        · exact sh_c (e := e) (fun w g q => by omega)
        · exact sh_c (e := d) (fun w g q => by omega)
        · exact sh_c (e := c) (fun w g q => by omega)
      · simp only [List.mem_cons, List.not_mem_nil, or_false] at hm
        rcases hm with rfl | rfl
        · exact sh_c (e := b) (fun w g q => by omega)
        · exact sh_c (e := a) (fun w g q => by omega)
      · simp only [List.mem_cons, List.not_mem_nil, or_false] at hm
        rcases hm with rfl
        exact sh_c (e := p) (fun w g q => by omega)
  exact ⟨h1, h2, h3, sOk_uPs h2 h3⟩
