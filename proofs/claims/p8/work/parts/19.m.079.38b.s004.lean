theorem qd_X {V : Nat} {T : sT} (hT : sOk V T) {n : Nat} (hn : n < 42875) (h : qdB T n = true) : X4 T (n / 1225) (n / 35 % 35) (n % 35) (ql T n) ∧ (n / 1225 < n / 35 % 35 ∧ n / 35 % 35 < n % 35 ∧ n % 35 < ql T n) ∧ nmT T (qR T n) = (ql T n : Int) ∧ qR T n = mN T (ql T n) := by
  have e : n = n / 1225 * 1225 + (n / 35 % 35 * 35 + n % 35) := by
    have := Nat.div_div_eq_div_mul n 35 35
    omega
  rcases nm_lt (T := T) (qR T n) with z | ⟨t, t1, t2⟩
  · have h2 := of_decide_eq_true h
    omega
  · have el : ql T n = t := by show (nmT T (qR T n)).toNat = t; rw [t2, Int.toNat_natCast]
    rw [el]
    have hB : qdB T (n / 1225 * 1225 + (n / 35 % 35 * 35 + n % 35)) = true ∧ nmT T (qR T (n / 1225 * 1225 + (n / 35 % 35 * 35 + n % 35))) = (t : Int) := by rw [← e]; exact ⟨h, t2⟩
    obtain ⟨g1, g2⟩ := (qdB_X4 hT (l := t) (i := n / 1225) (j := n / 35 % 35) (k := n % 35) (by omega) (by omega) (by omega)).mp hB
    exact ⟨g1, g2, t2, (nm_inv t2).2.symm⟩
