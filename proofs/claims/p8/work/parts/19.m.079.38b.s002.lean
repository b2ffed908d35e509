theorem qd_sx {V : Nat} {T : sT} (hT : sOk V T) {i j k l : Nat} (h : X4 T i j k l) : ∃ p a b c d e : Nat, (p < V ∧ a < V ∧ b < V ∧ c < V ∧ d < V ∧ e < V) ∧ sxP p a b c d e ∧ (mN T i = m3 p a b ∧ mN T j = m3 p c d ∧ mN T k = m3 a c e ∧ mN T l = m3 b d e) ∧ T p a = (b : Int) ∧ T p c = (d : Int) ∧ T a c = (e : Int) ∧ T b d = (e : Int) := by
  obtain ⟨p, a, b, c, d, e, ⟨p1, a1, b1⟩, ⟨p2, c1, d1⟩, ⟨a2, c2, e1⟩, ⟨b2, d2, e2⟩, t1, t2, t3, t4, nbc⟩ := X4_pts hT h
  obtain ⟨⟨bi, bj, bk, bl⟩, ⟨n12, n13, n14, n23, n24, n34⟩, -⟩ := id h
  obtain ⟨b', eb, -, lp, la, lb, q1, q2, q3, -⟩ := li_s hT (u := p) (v := a) (by omega)
  obtain ⟨d', ed, -, -, lc, ld, r1, r2, r3, -⟩ := li_s hT (u := p) (v := c) (by omega)
  obtain ⟨e', ee, -, -, -, le, s1, s2, s3, -⟩ := li_s hT (u := a) (v := c) (by omega)
  obtain ⟨f', ef, -, -, -, -, v1, v2, v3, -⟩ := li_s hT (u := b) (v := d) (by omega)
  have hb : b' = b := by omega
  have hd : d' = d := by omega
  have he : e' = e := by omega
  have hf : f' = e := by omega
  subst hb
  subst hd
  subst he
  subst hf
  have nad : ¬ a = d' := fun z => by rw [← z] at d1; exact n12 (on_1 hT bi bj q1 p1 a1 p2 d1)
  have npe : ¬ p = f' := fun z => by rw [← z] at e1; exact n13 (on_1 hT bi bk q1 p1 a1 e1 a2)
  exact ⟨p, a, b', c, d', f', ⟨lp, la, lb, lc, ld, le⟩, ⟨⟨q1, q2, r1, r2, npe⟩, ⟨q3, s1, nad, s2⟩, ⟨nbc, v1, v2⟩, ⟨r3, s3⟩, v3⟩, ⟨mN_m3 hT bi p1 a1 b1 q1 q2 q3, mN_m3 hT bj p2 c1 d1 r1 r2 r3, mN_m3 hT bk a2 c2 e1 s1 s2 s3, mN_m3 hT bl b2 d2 e2 v1 v2 v3⟩, t1, t2, t3, t4⟩
