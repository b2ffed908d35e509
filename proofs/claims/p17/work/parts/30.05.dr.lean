/-! ##### qtr ##### -/
section
/-! ===== sets by their codes and their ranks ===== -/
def vB (V n : Nat) : Bool := decide (n % 16 < n / 16 % 16 ∧ n / 16 % 16 < n / 256 ∧ n / 256 < V)
abbrev vN (V n : Nat) : Nat := (fL (vB V) n).length
/-- where the set of a code leads to -/
def fC (T : sT) (n : Nat) : Nat := nxV T (n % 16) (n / 16 % 16) (n / 256)
theorem vB_c {V x y z : Nat} (h15 : V ≤ 15) (h1 : x < y) (h2 : y < z) (h3 : z < V) : vB V (256 * z + 16 * y + x) = true := by
  unfold vB
  rw [decide_eq_true_iff]
  omega
theorem vB_x {V n : Nat} (h15 : V ≤ 15) (h : vB V n = true) : ∃ x y z : Nat, n = 256 * z + 16 * y + x ∧ x < y ∧ y < z ∧ z < V ∧ n < 4096 := by
  have h := of_decide_eq_true h
  exact ⟨n % 16, n / 16 % 16, n / 256, by omega, h.1, h.2.1, h.2.2, by omega⟩
theorem fC_c {T : sT} {x y z : Nat} (hx : x < 16) (hy : y < 16) : fC T (256 * z + 16 * y + x) = nxV T x y z := by
  unfold fC
  rw [show (256 * z + 16 * y + x) % 16 = x by omega, show (256 * z + 16 * y + x) / 16 % 16 = y by omega, show (256 * z + 16 * y + x) / 256 = z by omega]
theorem nx_s {V x y z : Nat} {T : sT} (hT : sOk V T) (hc : opC V T = 0) (h1 : x < y) (h2 : y < z) (h3 : z < V) : ∃ u v w : Nat, u < v ∧ v < w ∧ w < V ∧ nxV T x y z = 256 * w + 16 * v + u ∧ m3 (T y z).toNat (T x z).toNat (T x y).toNat = m3 u v w := by
  obtain ⟨p, q, r, ep, eq, er, lp, lq, lr, n1, n2, n3⟩ := nx_pts hT hc (show x < V by omega) (show y < V by omega) h3 (by omega) (by omega) (by omega)
  obtain ⟨u, v, w, s1, s2, s3, em, ec, -⟩ := set_s n1 n2 n3
  have lw : w < V := by have := (s3 w).mp (Or.inr (Or.inr rfl)); omega
  have en : nxV T x y z = cod p q r := by unfold nxV; rw [ep, eq, er]; rfl
  refine ⟨u, v, w, s1, s2, lw, by rw [en, ec, cod_s s1 s2], ?_⟩
  rw [ep, eq, er]
  exact em
theorem vB_f {V n : Nat} {T : sT} (hT : sOk V T) (hc : opC V T = 0) (h : vB V n = true) : vB V (fC T n) = true := by
  have h15 := hT.2.1
  obtain ⟨x, y, z, e, h1, h2, h3, -⟩ := vB_x h15 h
  obtain ⟨u, v, w, s1, s2, lw, en, -⟩ := nx_s hT hc h1 h2 h3
  rw [e, fC_c (by omega) (by omega), en]
  exact vB_c h15 s1 s2 lw
def tri (y : Nat) : Nat := y * (y - 1) / 2
def tet (z : Nat) : Nat := z * (z - 1) * (z - 2) / 6
theorem tri_s : ∀ y : Fin 17, tri (y.1 + 1) = tri y.1 + y.1 := by decide
theorem tet_s : ∀ z : Fin 17, tet (z.1 + 1) = tet z.1 + tri z.1 := by decide
theorem tet_b : ∀ z : Fin 16, tet z.1 ≤ 455 := by decide
theorem vN_x {V y z : Nat} (hy : y < 16) : ∀ i, i ≤ 16 → vN V (256 * z + 16 * y + i) = vN V (256 * z + 16 * y) + (if y < z ∧ z < V then min i y else 0)
  | 0, _ => by
    rw [Nat.zero_min]
    split <;> rfl
  | i + 1, hi => by
    have ih := vN_x (V := V) (z := z) hy i (by omega)
    by_cases g : vB V (256 * z + 16 * y + i) = true
    · have k := of_decide_eq_true g
      have e : vN V (256 * z + 16 * y + i + 1) = vN V (256 * z + 16 * y + i) + 1 := by
        show (fL (vB V) (256 * z + 16 * y + i + 1)).length = _
        rw [fL_add g, List.length_append, List.length_singleton]
      show vN V (256 * z + 16 * y + i + 1) = _
      rw [e, ih, if_pos (by omega), if_pos (by omega)]
      omega
    · have e : vN V (256 * z + 16 * y + i + 1) = vN V (256 * z + 16 * y + i) := by
        show (fL (vB V) (256 * z + 16 * y + i + 1)).length = _
        rw [fL_skip g]
      show vN V (256 * z + 16 * y + i + 1) = _
      rw [e, ih]
      by_cases q : y < z ∧ z < V
      · rw [if_pos q, if_pos q]
        have : ¬ i < y := fun w => g (by unfold vB; rw [decide_eq_true_iff]; omega)
        omega
      · rw [if_neg q, if_neg q]
theorem vN_y {V z : Nat} (hz : z < 16) : ∀ y, y ≤ 16 → vN V (256 * z + 16 * y) = vN V (256 * z) + (if z < V then tri (min y z) else 0)
  | 0, _ => by
    rw [Nat.zero_min]
    split <;> rfl
  | y + 1, hy => by
    have ih := vN_y (V := V) hz y (by omega)
    have s := vN_x (V := V) (z := z) (show y < 16 by omega) 16 (Nat.le_refl _)
    rw [show 256 * z + 16 * (y + 1) = 256 * z + 16 * y + 16 by omega, s, ih]
    by_cases q : z < V
    · rw [if_pos q, if_pos q]
      by_cases r : y < z
      · rw [if_pos ⟨r, q⟩, show min y z = y by omega, show min (y + 1) z = y + 1 by omega, tri_s ⟨y, by omega⟩]
        show _ + tri y + min 16 y = _ + (tri y + y)
        omega
      · rw [if_neg (fun w => r w.1), show min y z = z by omega, show min (y + 1) z = z by omega]
        rfl
    · rw [if_neg q, if_neg q, if_neg (fun w => q w.2)]
theorem vN_z {V : Nat} (h15 : V ≤ 15) : ∀ z, z ≤ 16 → vN V (256 * z) = tet (min z V)
  | 0, _ => by rw [Nat.zero_min]; rfl
  | z + 1, hz => by
    have ih := vN_z h15 z (by omega)
    have s := vN_y (V := V) (show z < 16 by omega) 16 (Nat.le_refl _)
    rw [show 256 * (z + 1) = 256 * z + 16 * 16 by omega, s, ih]
    by_cases q : z < V
    · rw [if_pos q, show min z V = z by omega, show min (z + 1) V = z + 1 by omega, show min 16 z = z by omega]
      exact (tet_s ⟨z, by omega⟩).symm
    · rw [if_neg q, show min z V = V by omega, show min (z + 1) V = V by omega]
      rfl
/-- the rank of a set: how many sets have a smaller code -/
theorem vN_c {V x y z : Nat} (h15 : V ≤ 15) (h1 : x < y) (h2 : y < z) (h3 : z < V) : vN V (256 * z + 16 * y + x) = tet z + tri y + x := by
  rw [vN_x (show y < 16 by omega) x (by omega), vN_y (show z < 16 by omega) y (by omega), vN_z h15 z (by omega), if_pos h3, if_pos ⟨h2, h3⟩, show min z V = z by omega, show min y z = y by omega, show min x y = x by omega]
theorem vN_end {V : Nat} (h15 : V ≤ 15) : vN V 4096 = tet V := by
  have := vN_z h15 16 (Nat.le_refl _)
  rwa [show min 16 V = V by omega] at this
theorem vN_455 {V : Nat} (h15 : V ≤ 15) : vN V 4096 ≤ 455 := by
  rw [vN_end h15]
  exact tet_b ⟨V, by omega⟩
theorem vN_lt {V c n : Nat} (h : vB V c = true) (hn : c < n) : vN V c < vN V n := by
  have e : vN V (c + 1) = vN V c + 1 := by
    show (fL (vB V) (c + 1)).length = _
    rw [fL_add h, List.length_append, List.length_singleton]
  have := fL_le (B := vB V) (show c + 1 ≤ n by omega)
  have this : vN V (c + 1) ≤ vN V n := this
  omega
theorem vN_inj {V c b : Nat} (h : vB V c = true) (hb : vB V b = true) (e : vN V c = vN V b) : c = b := by
  rcases Nat.lt_trichotomy c b with g | g | g
  · have := vN_lt h g; omega
  · exact g
  · have := vN_lt hb g; omega
/-- how many sets lead to one, of those of smaller codes -/
def arN (V : Nat) (T : sT) (c n : Nat) : Nat := sm (fun m => iv (vB V m = true ∧ fC T m = c)) n
theorem arN_le {V : Nat} {T : sT} {c : Nat} : ∀ n, arN V T c n ≤ vN V n
  | 0 => Nat.le_refl _
  | n + 1 => by
    have ih := arN_le (V := V) (T := T) (c := c) n
    have e : arN V T c (n + 1) = arN V T c n + iv (vB V n = true ∧ fC T n = c) := rfl
    have l : iv (vB V n = true ∧ fC T n = c) ≤ 1 := iv_le
    by_cases g : vB V n = true
    · have e2 : vN V (n + 1) = vN V n + 1 := by
        show (fL (vB V) (n + 1)).length = _
        rw [fL_add g, List.length_append, List.length_singleton]
      omega
    · have e2 : vN V (n + 1) = vN V n := by
        show (fL (vB V) (n + 1)).length = _
        rw [fL_skip g]
      rw [iv_f (p := vB V n = true ∧ fC T n = c) (fun w => g w.1)] at e
      omega
/-- the class's rows when the sets before a code are led -/
def trC (hp : amH) (V : Nat) (T : sT) (n : Nat) : Prop := rN hp 58 0 = ((vN V n : Nat) : Int) ∧ (∀ c, c < n → vB V c = true → rN hp 59 (vN V c) = ((vN V (fC T c) : Nat) : Int)) ∧ (∀ c, vB V c = true → rN hp 60 (vN V c) = ((arN V T c n : Nat) : Int)) ∧ ∀ r, r < 455 → rN hp 61 r = 0
theorem trC_1 {hp : amH} {V n : Nat} {T : sT} (h : ¬ vB V n = true) (C : trC hp V T n) : trC hp V T (n + 1) := by
  obtain ⟨c1, c2, c3, c4⟩ := C
  have e : vN V (n + 1) = vN V n := by
    show (fL (vB V) (n + 1)).length = _
    rw [fL_skip h]
  refine ⟨by rw [e]; exact c1, fun c hc hv => ?_, fun c hv => ?_, c4⟩
  · have : ¬ c = n := fun w => h (by rw [← w]; exact hv)
    exact c2 c (by omega) hv
  · have e2 : arN V T c (n + 1) = arN V T c n + iv (vB V n = true ∧ fC T n = c) := rfl
    rw [e2, iv_f (fun w => h w.1)]
    exact c3 c hv
theorem trC_no {hp : amH} {V n : Nat} {T : sT} (C : trC hp V T n) : ∀ k, (∀ j, n ≤ j → j < n + k → ¬ vB V j = true) → trC hp V T (n + k)
  | 0, _ => C
  | k + 1, h => trC_1 (h (n + k) (by omega) (by omega)) (trC_no C k (fun j h1 h2 => h j h1 (by omega)))
theorem trC_s {hp hp1 : amH} {V n t : Nat} {T : sT} (hT : sOk V T) (hc : opC V T = 0) (hb : vB V n = true) (C : trC hp V T n) (et : t = vN V (fC T n))
    (e0 : rN hp1 58 0 = ((vN V n + 1 : Nat) : Int)) (e1 : rN hp1 59 (vN V n) = (t : Int)) (e2 : ∀ r, ¬ r = vN V n → rN hp1 59 r = rN hp 59 r) (e3 : rN hp1 60 t = rN hp 60 t + 1) (e4 : ∀ r, ¬ r = t → rN hp1 60 r = rN hp 60 r) (e5 : ∀ r, rN hp1 61 r = rN hp 61 r) : trC hp1 V T (n + 1) := by
  obtain ⟨c1, c2, c3, c4⟩ := C
  have vf := vB_f hT hc hb
  have e : vN V (n + 1) = vN V n + 1 := by
    show (fL (vB V) (n + 1)).length = _
    rw [fL_add hb, List.length_append, List.length_singleton]
  refine ⟨by rw [e]; exact e0, fun c hcn hv => ?_, fun c hv => ?_, fun r hr => (e5 r).trans (c4 r hr)⟩
  · by_cases g : c = n
    · rw [g, e1, et]
    · rw [e2 _ (fun w => g (vN_inj hv hb w))]
      exact c2 c (by omega) hv
  · have e6 : arN V T c (n + 1) = arN V T c n + iv (vB V n = true ∧ fC T n = c) := rfl
    have k3 := c3 c hv
    by_cases g : fC T n = c
    · rw [iv_t (p := vB V n = true ∧ fC T n = c) ⟨hb, g⟩] at e6
      rw [g] at et
      rw [← et] at k3 ⊢
      rw [e3, k3, e6]
      omega
    · rw [iv_f (p := vB V n = true ∧ fC T n = c) (fun w => g w.2)] at e6
      rw [e4 _ (fun w => g (vN_inj vf hv (w.trans et).symm)), k3, e6]
      rfl
/-! ===== the class: a rank, a step, all of them ===== -/
theorem mulN {a b : Int} {m n : Nat} (ha : a = (m : Int)) (hb : b = (n : Int)) : a * b = ((m * n : Nat) : Int) := by rw [ha, hb]; rfl
theorem tet_f : ∀ z : Fin 15, z.1 * (z.1 - 1) ≤ 182 ∧ z.1 * (z.1 - 1) * (z.1 - 2) ≤ 2184 := by decide
theorem k_102E {d x y z : Nat} {hp : amH} {R : xQ} {s : Int32} (hH : bHk 84 bTT hp) (hs : s.toInt = ((m3 x y z : Nat) : Int)) (h1 : x < y) (h2 : y < z) (h3 : z < 15)
    (hR : ∀ r : Int32, r.toInt = ((tet z + tri y + x : Nat) : Int) → R (.inl (some (.int r))) hp) : xK (d + 1) 102 [.int s] hp R := by
  have u102 : bUp 0 am_m102.1 = true := by decide +kernel
  have ml : m3 x y z < 32768 := m3_lt (by omega) (by omega) (by omega)
  obtain ⟨e0, e1, e2⟩ := mem3 h1 h2 h3
  obtain ⟨A, eA⟩ : ∃ A, A = z * (z - 1) := ⟨_, rfl⟩
  obtain ⟨B, eB⟩ : ∃ B, B = A * (z - 2) := ⟨_, rfl⟩
  obtain ⟨C, eC⟩ : ∃ C, C = y * (y - 1) := ⟨_, rfl⟩
  have t1 : tet z = B / 6 := by rw [eB, eA]; rfl
  have t2 : tri y = C / 2 := by rw [eC]; rfl
  have bA : A ≤ 182 := by rw [eA]; exact (tet_f ⟨z, h3⟩).1
  have bB : B ≤ 2184 := by rw [eB, eA]; exact (tet_f ⟨z, h3⟩).2
  have bC : C ≤ 182 := by rw [eC]; exact (tet_f ⟨y, by omega⟩).1
  refine xin (M := am_m102) rfl rfl rfl ?_
  refine xild 1 ⟨u102, _, rfl⟩ rfl rfl ?_
  refine xcst 2 (0) ⟨u102, _, rfl⟩ rfl (by decide) (fun z1 h1 => ?_)
  refine xcallS 5 [.int _, .int _] [] hH ⟨u102, _, rfl⟩ rfl rfl rfl rfl rfl (k_mem hH (i := 0) hs ml (by omega) (fun z2 h2 => ⟨_, rfl, ?_⟩))
  rw [e0] at h2
  refine xist 6 ⟨u102, _, rfl⟩ rfl rfl ?_
  refine xild 7 ⟨u102, _, rfl⟩ rfl rfl ?_
  refine xcst 8 (1) ⟨u102, _, rfl⟩ rfl (by decide) (fun z7 h7 => ?_)
  refine xcallS 11 [.int _, .int _] [] hH ⟨u102, _, rfl⟩ rfl rfl rfl rfl rfl (k_mem hH (i := 1) hs ml (by omega) (fun z8 h8 => ⟨_, rfl, ?_⟩))
  rw [e1] at h8
  refine xist 12 ⟨u102, _, rfl⟩ rfl rfl ?_
  refine xild 13 ⟨u102, _, rfl⟩ rfl rfl ?_
  refine xcst 14 (2) ⟨u102, _, rfl⟩ rfl (by decide) (fun z13 h13 => ?_)
  refine xcallS 17 [.int _, .int _] [] hH ⟨u102, _, rfl⟩ rfl rfl rfl rfl rfl (k_mem hH (i := 2) hs ml (by omega) (fun z14 h14 => ⟨_, rfl, ?_⟩))
  rw [e2] at h14
  refine xist 18 ⟨u102, _, rfl⟩ rfl rfl ?_
  refine xild 19 ⟨u102, _, rfl⟩ rfl rfl ?_
  refine xild 20 ⟨u102, _, rfl⟩ rfl rfl ?_
  refine xcst 21 (1) ⟨u102, _, rfl⟩ rfl (by decide) (fun z20 h20 => ?_)
  refine xsub 22 _ ⟨u102, _, rfl⟩ rfl rfl (by omega) (by omega) (fun z21 h21 => ?_)
  refine xmul 23 (A : Int) ⟨u102, _, rfl⟩ rfl ((mulN (m := z) (n := z - 1) (by omega) (by omega)).trans (by rw [eA])) (by omega) (by omega) (fun z22 h22 => ?_)
  refine xild 24 ⟨u102, _, rfl⟩ rfl rfl ?_
  refine xcst 25 (2) ⟨u102, _, rfl⟩ rfl (by decide) (fun z24 h24 => ?_)
  refine xsub 26 _ ⟨u102, _, rfl⟩ rfl rfl (by omega) (by omega) (fun z25 h25 => ?_)
  refine xmul 27 (B : Int) ⟨u102, _, rfl⟩ rfl ((mulN (m := A) (n := z - 2) (by omega) (by omega)).trans (by rw [eB])) (by omega) (by omega) (fun z26 h26 => ?_)
  refine xbip 29 (6) ⟨u102, _, rfl⟩ rfl (by decide) (fun z27 h27 => ?_)
  refine xdiv 30 (Int32.toInt z26 / 6) ⟨u102, _, rfl⟩ rfl (by omega) (by omega) (by rw [h27]) (fun z29 h29 => ?_)
  refine xild 31 ⟨u102, _, rfl⟩ rfl rfl ?_
  refine xild 32 ⟨u102, _, rfl⟩ rfl rfl ?_
  refine xcst 33 (1) ⟨u102, _, rfl⟩ rfl (by decide) (fun z32 h32 => ?_)
  refine xsub 34 _ ⟨u102, _, rfl⟩ rfl rfl (by omega) (by omega) (fun z33 h33 => ?_)
  refine xmul 35 (C : Int) ⟨u102, _, rfl⟩ rfl ((mulN (m := y) (n := y - 1) (by omega) (by omega)).trans (by rw [eC])) (by omega) (by omega) (fun z34 h34 => ?_)
  refine xcst 36 (2) ⟨u102, _, rfl⟩ rfl (by decide) (fun z35 h35 => ?_)
  refine xdiv 37 (Int32.toInt z34 / 2) ⟨u102, _, rfl⟩ rfl (by omega) (by omega) (by rw [h35]) (fun z36 h36 => ?_)
  refine xadd 38 _ ⟨u102, _, rfl⟩ rfl rfl (by omega) (by omega) (fun z37 h37 => ?_)
  refine xild 39 ⟨u102, _, rfl⟩ rfl rfl ?_
  refine xadd 40 _ ⟨u102, _, rfl⟩ rfl rfl (by omega) (by omega) (fun z39 h39 => ?_)
  exact xret ⟨u102, _, rfl⟩ rfl (hR _ (by omega))
theorem k_101E {d s t : Nat} {hp : amH} {R : xQ} {a : Int32} (hH : bHk 84 bTT hp) (h0 : rN hp 58 0 = (s : Int)) (hs : s < 455) (ha : a.toInt = (t : Int)) (ht : t < 455) (h60 : 0 ≤ rN hp 60 t ∧ rN hp 60 t ≤ 455)
    (hR : ∀ hp1, bHk 84 bTT hp1 → bFx [58, 59, 60] hp hp1 → rN hp1 58 0 = ((s + 1 : Nat) : Int) → rN hp1 59 s = (t : Int) → (∀ r, ¬ r = s → rN hp1 59 r = rN hp 59 r) → rN hp1 60 t = rN hp 60 t + 1 → (∀ r, ¬ r = t → rN hp1 60 r = rN hp 60 r) → R (.inl none) hp1) : xK d 101 [.ref 58, .int a] hp R := by
  have u101 : bUp 0 am_m101.1 = true := by decide +kernel
  have et : a.toInt.toNat = t := by omega
  refine xin (M := am_m101) rfl rfl rfl ?_
  refine xald 1 ⟨u101, _, rfl⟩ rfl rfl ?_
  refine xgetC 4 hH ⟨u101, _, rfl⟩ rfl (by decide) (by decide) rfl rfl (by decide) (fun z1 h1 => ?_)
  refine xald 5 ⟨u101, _, rfl⟩ rfl rfl ?_
  refine xgetD 8 (59) hH ⟨u101, _, rfl⟩ rfl (by decide) (by decide) rfl rfl (by decide) ?_
  refine xlen 9 hH ⟨u101, _, rfl⟩ rfl (by decide) rfl (by decide) (by decide) (fun z8 h8 => ?_)
  refine xcmp_ge 12 ⟨u101, _, rfl⟩ rfl (fun c9 => ?_) (fun c9 => ?_)
  · omega
  · refine xild 13 ⟨u101, _, rfl⟩ rfl rfl ?_
    refine xif_lt 16 ⟨u101, _, rfl⟩ rfl (fun c13 => ?_) (fun c13 => ?_)
    · omega
    · refine xild 17 ⟨u101, _, rfl⟩ rfl rfl ?_
      refine xald 18 ⟨u101, _, rfl⟩ rfl rfl ?_
      refine xgetD 21 (60) hH ⟨u101, _, rfl⟩ rfl (by decide) (by decide) rfl rfl (by decide) ?_
      refine xlen 22 hH ⟨u101, _, rfl⟩ rfl (by decide) rfl (by decide) (by decide) (fun z21 h21 => ?_)
      refine xcmp_ge 25 ⟨u101, _, rfl⟩ rfl (fun c22 => ?_) (fun c22 => ?_)
      · omega
      · refine xald 26 ⟨u101, _, rfl⟩ rfl rfl ?_
        refine xgetD 29 (59) hH ⟨u101, _, rfl⟩ rfl (by decide) (by decide) rfl rfl (by decide) ?_
        refine xald 30 ⟨u101, _, rfl⟩ rfl rfl ?_
        refine xgetC 33 hH ⟨u101, _, rfl⟩ rfl (by decide) (by decide) rfl rfl (by decide) (fun z30 h30 => ?_)
        refine xild 34 ⟨u101, _, rfl⟩ rfl rfl ?_
        refine xiast 35 (z30).toInt.toNat hH ⟨u101, _, rfl⟩ rfl (by decide) rfl (by omega) (by omega) (by omega) (by omega) (fun hp34 hH34 U34 => ?_)
        have s34 := U34.1
        have w34 : rN hp34 60 t = rN hp 60 t := rU_ne U34 (by omega)
        have v34 : rN hp34 58 0 = (s : Int) := (rU_ne U34 (by omega)).trans h0
        rw [show z30.toInt.toNat = s by omega] at U34
        refine xald 36 ⟨u101, _, rfl⟩ rfl rfl ?_
        refine xgetD 39 (60) hH34 ⟨u101, _, rfl⟩ rfl (by decide) (by decide) rfl rfl (by decide) ?_
        refine xild 40 ⟨u101, _, rfl⟩ rfl rfl ?_
        refine xdup2 41 ⟨u101, _, rfl⟩ rfl rfl rfl ?_
        refine xiald 42 (a).toInt.toNat hH34 ⟨u101, _, rfl⟩ rfl (by decide) rfl (by omega) (by omega) (fun z41 h41 => ?_)
        rw [et, w34] at h41
        refine xcst 43 (1) ⟨u101, _, rfl⟩ rfl (by decide) (fun z42 h42 => ?_)
        refine xadd 44 _ ⟨u101, _, rfl⟩ rfl rfl (by omega) (by omega) (fun z43 h43 => ?_)
        refine xiast 45 (a).toInt.toNat hH34 ⟨u101, _, rfl⟩ rfl (by decide) rfl (by omega) (by omega) (by omega) (by omega) (fun hp44 hH44 U44 => ?_)
        have s44 := U44.1
        rw [et] at U44
        have v44 : rN hp44 58 0 = (s : Int) := (rU_ne U44 (by omega)).trans v34
        refine xald 46 ⟨u101, _, rfl⟩ rfl rfl ?_
        refine xdup 47 ⟨u101, _, rfl⟩ rfl rfl ?_
        refine xgetC 50 hH44 ⟨u101, _, rfl⟩ rfl (by decide) (by decide) rfl rfl (by decide) (fun z47 h47 => ?_)
        refine xcst 51 (1) ⟨u101, _, rfl⟩ rfl (by decide) (fun z50 h50 => ?_)
        refine xadd 52 _ ⟨u101, _, rfl⟩ rfl rfl (by omega) (by omega) (fun z51 h51 => ?_)
        refine xputC 55 hH44 ⟨u101, _, rfl⟩ rfl (by decide) (by decide) rfl rfl (by decide) ⟨rfl, rfl⟩ (by omega) (by omega) (fun hp52 hH52 U52 => ?_)
        have s52 := U52.1
        exact xretV ⟨u101, _, rfl⟩ rfl (hR _ hH52 (((bFx_U U34 (by simp)).trans (bFx_U U44 (by simp))).trans (bFx_U U52 (by simp))) (by rw [U52.1]; omega) (by rw [rU_ne U52 (by omega), rU_ne U44 (by omega), U34.1]; omega) (fun r hr => by rw [rU_ne U52 (by omega), rU_ne U44 (by omega), rU_ne U34 (by omega)]) (by rw [rU_ne U52 (by omega), U44.1]; omega) (fun r hr => by rw [rU_ne U52 (by omega), rU_ne U44 (by omega), rU_ne U34 (by omega)]))
theorem u100 : bUp 0 am_m100.1 = true := by decide +kernel
theorem l100x {d V : Nat} {T : sT} {hp0 : amH} {R : xQ} (hB0 : bdOk hp0 3 V T) (hc : opC V T = 0) {y z : Nat} {wy wz : Int32} (hy : wy.toInt = (y : Int)) (hz : wz.toInt = (z : Int)) (h2 : y < z) (h3 : z < V)
    (hQ : ∀ (wx : Int32) (hp : amH), bHk 84 bTT hp → bFx [58, 59, 60, 61] hp0 hp → trC hp V T (256 * z + 16 * (y + 1)) → xV (d + 3) am_m100 84 [some (.ref 58), some (.ref 3), some (.int wz), some (.int wy), some (.int wx)] [] hp R) :
    ∀ (jj x : Nat) (wx : Int32) (hp : amH), wx.toInt = (x : Int) → x + jj = y → bHk 84 bTT hp → bFx [58, 59, 60, 61] hp0 hp → trC hp V T (256 * z + 16 * y + x) → xV (d + 3) am_m100 54 [some (.ref 58), some (.ref 3), some (.int wz), some (.int wy), some (.int wx)] [] hp R := by
  intro jj
  induction jj with
  | zero =>
    intro x wx hp hx hj hH hF hC
    have hB : bdOk hp 3 V T := bdOk_fr hB0 (bFx_n hF (by simp)) (fun i => bFx_n hF (by simp)) (fun i => bFx_n hF (by simp))
    have hT := hB.2.1
    have h15 : V ≤ 15 := hT.2.1
    have b0 : rN hp 3 0 = (V : Int) := hB.1
    have ex : x = y := by omega
    subst ex
    have g := trC_no hC (16 - x) (fun j j1 j2 w => by have w := of_decide_eq_true w; omega)
    rw [show 256 * z + 16 * x + x + (16 - x) = 256 * z + 16 * (x + 1) by omega] at g
    refine xild2 56 ⟨u100, _, rfl⟩ rfl rfl ?_
    refine xild 57 ⟨u100, _, rfl⟩ rfl rfl ?_
    refine xcmp_ge 60 ⟨u100, _, rfl⟩ rfl (fun c57 => ?_) (fun c57 => ?_)
    · exact hQ _ _ hH hF g
    · omega
  | succ jj ih =>
    intro x wx hp hx hj hH hF hC
    have hB : bdOk hp 3 V T := bdOk_fr hB0 (bFx_n hF (by simp)) (fun i => bFx_n hF (by simp)) (fun i => bFx_n hF (by simp))
    have hT := hB.2.1
    have h15 : V ≤ 15 := hT.2.1
    have b0 : rN hp 3 0 = (V : Int) := hB.1
    have hb := vB_c h15 (show x < y by omega) h2 h3
    obtain ⟨u, v, w, s1, s2, lw, en, em⟩ := nx_s hT hc (show x < y by omega) h2 h3
    have ef : fC T (256 * z + 16 * y + x) = 256 * w + 16 * v + u := (fC_c (by omega) (by omega)).trans en
    have et : tet w + tri v + u = vN V (fC T (256 * z + 16 * y + x)) := by rw [ef, vN_c h15 s1 s2 lw]
    have l1 := vN_lt hb (show 256 * z + 16 * y + x < 4096 by omega)
    have l2 := vN_lt (vB_f hT hc hb) (show fC T (256 * z + 16 * y + x) < 4096 by omega)
    have l3 := vN_455 h15
    have k3 := hC.2.2.1 _ (vB_f hT hc hb)
    have k4 := arN_le (V := V) (T := T) (c := fC T (256 * z + 16 * y + x)) (256 * z + 16 * y + x)
    have k0 := hC.1
    rw [← et] at k3 l2
    refine xild2 56 ⟨u100, _, rfl⟩ rfl rfl ?_
    refine xild 57 ⟨u100, _, rfl⟩ rfl rfl ?_
    refine xcmp_ge 60 ⟨u100, _, rfl⟩ rfl (fun c57 => ?_) (fun c57 => ?_)
    · omega
    · refine xald 61 ⟨u100, _, rfl⟩ rfl rfl ?_
      refine xald 62 ⟨u100, _, rfl⟩ rfl rfl ?_
      refine xild2 64 ⟨u100, _, rfl⟩ rfl rfl ?_
      refine xild 65 ⟨u100, _, rfl⟩ rfl rfl ?_
      refine xild 66 ⟨u100, _, rfl⟩ rfl rfl ?_
      refine xcallS 69 [.int _, .int _, .int _] [.ref 3, .ref 58] hH ⟨u100, _, rfl⟩ rfl rfl rfl rfl rfl (k_three (x := x) (y := y) (z := z) hx hy hz (by omega) (by omega) (by omega) (fun z66 h66 => ⟨_, rfl, ?_⟩))
      refine xcallC 72 (o := 3) [.int _] [.ref 58] hH ⟨u100, _, rfl⟩ rfl rfl (by decide) rfl (by decide) rfl ⟨rfl, rfl, rfl, rfl⟩ rfl (k_28E hH hB hc h66 (by omega) h2 h3 (fun z69 h69 => ⟨_, rfl, ?_⟩))
      rw [em] at h69
      refine xcallS 75 [.int _] [.ref 58] hH ⟨u100, _, rfl⟩ rfl rfl rfl rfl rfl (k_102E hH h69 s1 s2 (by omega) (fun z72 h72 => ⟨_, rfl, ?_⟩))
      refine xcallC 78 (o := 58) [.int _] [] hH ⟨u100, _, rfl⟩ rfl rfl (by decide) rfl (by decide) rfl ⟨rfl, rfl, rfl, rfl⟩ rfl (k_101E (s := vN V (256 * z + 16 * y + x)) (t := tet w + tri v + u) hH k0 (by omega) h72 (by omega) (by omega) (fun hp75 hH75 F75 a75 b75 c75 d75 e75 => ⟨_, rfl, ?_⟩))
      have C75 := trC_s hT hc hb hC et a75 b75 c75 d75 e75 (fun r => bFx_n F75 (by simp))
      refine xinc 81 (1) ⟨u100, _, rfl⟩ rfl rfl rfl (by decide) (by omega) (by omega) (fun z78 h78 => ?_)
      refine xgoto ⟨u100, _, rfl⟩ ?_
      exact ih (x + 1) _ _ (by omega) (by omega) hH75 (hF.trans (F75.mono (by simp; omega))) C75
theorem l100y {d V : Nat} {T : sT} {hp0 : amH} {R : xQ} (hB0 : bdOk hp0 3 V T) (hc : opC V T = 0) {z : Nat} {wz : Int32} (hz : wz.toInt = (z : Int)) (h3 : z < V)
    (hQ : ∀ (wy : Int32) (v4 : Option Value) (hp : amH), bHk 84 bTT hp → bFx [58, 59, 60, 61] hp0 hp → trC hp V T (256 * (z + 1)) → xV (d + 3) am_m100 90 [some (.ref 58), some (.ref 3), some (.int wz), some (.int wy), v4] [] hp R) :
    ∀ (jj y : Nat) (wy : Int32) (v4 : Option Value) (hp : amH), wy.toInt = (y : Int) → y + jj = z → bHk 84 bTT hp → bFx [58, 59, 60, 61] hp0 hp → trC hp V T (256 * z + 16 * y) → xV (d + 3) am_m100 46 [some (.ref 58), some (.ref 3), some (.int wz), some (.int wy), v4] [] hp R := by
  intro jj
  induction jj with
  | zero =>
    intro y wy v4 hp hy hj hH hF hC
    have hB : bdOk hp 3 V T := bdOk_fr hB0 (bFx_n hF (by simp)) (fun i => bFx_n hF (by simp)) (fun i => bFx_n hF (by simp))
    have hT := hB.2.1
    have h15 : V ≤ 15 := hT.2.1
    have b0 : rN hp 3 0 = (V : Int) := hB.1
    have g := trC_no hC (256 - 16 * y) (fun j j1 j2 w => by have w := of_decide_eq_true w; omega)
    rw [show 256 * z + 16 * y + (256 - 16 * y) = 256 * (z + 1) by omega] at g
    refine xild 47 ⟨u100, _, rfl⟩ rfl rfl ?_
    refine xild 48 ⟨u100, _, rfl⟩ rfl rfl ?_
    refine xcmp_ge 51 ⟨u100, _, rfl⟩ rfl (fun c48 => ?_) (fun c48 => ?_)
    · exact hQ _ _ _ hH hF g
    · omega
  | succ jj ih =>
    intro y wy v4 hp hy hj hH hF hC
    have hB : bdOk hp 3 V T := bdOk_fr hB0 (bFx_n hF (by simp)) (fun i => bFx_n hF (by simp)) (fun i => bFx_n hF (by simp))
    have hT := hB.2.1
    have h15 : V ≤ 15 := hT.2.1
    have b0 : rN hp 3 0 = (V : Int) := hB.1
    refine xild 47 ⟨u100, _, rfl⟩ rfl rfl ?_
    refine xild 48 ⟨u100, _, rfl⟩ rfl rfl ?_
    refine xcmp_ge 51 ⟨u100, _, rfl⟩ rfl (fun c48 => ?_) (fun c48 => ?_)
    · omega
    · refine xcst 52 (0) ⟨u100, _, rfl⟩ rfl (by decide) (fun z51 h51 => ?_)
      refine xist2 54 ⟨u100, _, rfl⟩ rfl rfl ?_
      refine l100x hB0 hc hy hz (by omega) h3 (fun xx hp9 g0 g1 r1 => ?_) y 0 _ _ h51 (by omega) hH hF hC
      refine xinc 87 (1) ⟨u100, _, rfl⟩ rfl rfl rfl (by decide) (by omega) (by omega) (fun z84 h84 => ?_)
      refine xgoto ⟨u100, _, rfl⟩ ?_
      exact ih (y + 1) _ _ _ (by omega) (by omega) g0 g1 r1
theorem l100z {d V : Nat} {T : sT} {hp0 : amH} {R : xQ} (hB0 : bdOk hp0 3 V T) (hc : opC V T = 0)
    (hR : ∀ hp : amH, bHk 84 bTT hp → bFx [58, 59, 60, 61] hp0 hp → trC hp V T 4096 → R (.inl none) hp) :
    ∀ (jj z : Nat) (wz : Int32) (v3 v4 : Option Value) (hp : amH), wz.toInt = (z : Int) → z + jj = V → 2 ≤ z → bHk 84 bTT hp → bFx [58, 59, 60, 61] hp0 hp → trC hp V T (256 * z) → xV (d + 3) am_m100 36 [some (.ref 58), some (.ref 3), some (.int wz), v3, v4] [] hp R := by
  intro jj
  induction jj with
  | zero =>
    intro z wz v3 v4 hp hz hj h2 hH hF hC
    have hB : bdOk hp 3 V T := bdOk_fr hB0 (bFx_n hF (by simp)) (fun i => bFx_n hF (by simp)) (fun i => bFx_n hF (by simp))
    have hT := hB.2.1
    have h15 : V ≤ 15 := hT.2.1
    have b0 : rN hp 3 0 = (V : Int) := hB.1
    have g := trC_no hC (4096 - 256 * z) (fun j j1 j2 w => by have w := of_decide_eq_true w; omega)
    rw [show 256 * z + (4096 - 256 * z) = 4096 by omega] at g
    refine xild 37 ⟨u100, _, rfl⟩ rfl rfl ?_
    refine xald 38 ⟨u100, _, rfl⟩ rfl rfl ?_
    refine xgetC 41 hH ⟨u100, _, rfl⟩ rfl (by decide) (by decide) rfl rfl (by decide) (fun z38 h38 => ?_)
    refine xcmp_ge 44 ⟨u100, _, rfl⟩ rfl (fun c41 => ?_) (fun c41 => ?_)
    · exact xretV ⟨u100, _, rfl⟩ rfl (hR _ hH hF g)
    · omega
  | succ jj ih =>
    intro z wz v3 v4 hp hz hj h2 hH hF hC
    have hB : bdOk hp 3 V T := bdOk_fr hB0 (bFx_n hF (by simp)) (fun i => bFx_n hF (by simp)) (fun i => bFx_n hF (by simp))
    have hT := hB.2.1
    have h15 : V ≤ 15 := hT.2.1
    have b0 : rN hp 3 0 = (V : Int) := hB.1
    have g := trC_no hC 16 (fun j j1 j2 w => by have w := of_decide_eq_true w; omega)
    refine xild 37 ⟨u100, _, rfl⟩ rfl rfl ?_
    refine xald 38 ⟨u100, _, rfl⟩ rfl rfl ?_
    refine xgetC 41 hH ⟨u100, _, rfl⟩ rfl (by decide) (by decide) rfl rfl (by decide) (fun z38 h38 => ?_)
    refine xcmp_ge 44 ⟨u100, _, rfl⟩ rfl (fun c41 => ?_) (fun c41 => ?_)
    · omega
    · refine xcst 45 (1) ⟨u100, _, rfl⟩ rfl (by decide) (fun z44 h44 => ?_)
      refine xist 46 ⟨u100, _, rfl⟩ rfl rfl ?_
      refine l100y hB0 hc hz (by omega) (fun xy v4 hp9 g0 g1 r1 => ?_) (z - 1) 1 _ _ _ h44 (by omega) hH hF g
      refine xinc 93 (1) ⟨u100, _, rfl⟩ rfl rfl rfl (by decide) (by omega) (by omega) (fun z90 h90 => ?_)
      refine xgoto ⟨u100, _, rfl⟩ ?_
      exact ih (z + 1) _ _ _ _ (by omega) (by omega) (by omega) g0 g1 r1
theorem l100a {d : Nat} {hp0 : amH} {R : xQ} {v3 v4 : Option Value}
    (hQ : ∀ (wi : Int32) (hp : amH), bHk 84 bTT hp → bFx [60, 61] hp0 hp → (∀ r, r < 455 → rN hp 60 r = 0 ∧ rN hp 61 r = 0) → xV (d + 3) am_m100 34 [some (.ref 58), some (.ref 3), some (.int wi), v3, v4] [] hp R) :
    ∀ (jj i : Nat) (wi : Int32) (hp : amH), wi.toInt = (i : Int) → i + jj = 455 → bHk 84 bTT hp → bFx [60, 61] hp0 hp → (∀ r, r < i → rN hp 60 r = 0 ∧ rN hp 61 r = 0) → xV (d + 3) am_m100 7 [some (.ref 58), some (.ref 3), some (.int wi), v3, v4] [] hp R := by
  intro jj
  induction jj with
  | zero =>
    intro i wi hp hi hj hH hF hC
    have ei : i = 455 := by omega
    rw [ei] at hC
    refine xild 8 ⟨u100, _, rfl⟩ rfl rfl ?_
    refine xsip 11 (455) ⟨u100, _, rfl⟩ rfl (by decide) (fun z8 h8 => ?_)
    refine xcmp_ge 14 ⟨u100, _, rfl⟩ rfl (fun c11 => ?_) (fun c11 => ?_)
    · exact hQ _ _ hH hF hC
    · omega
  | succ jj ih =>
    intro i wi hp hi hj hH hF hC
    refine xild 8 ⟨u100, _, rfl⟩ rfl rfl ?_
    refine xsip 11 (455) ⟨u100, _, rfl⟩ rfl (by decide) (fun z8 h8 => ?_)
    refine xcmp_ge 14 ⟨u100, _, rfl⟩ rfl (fun c11 => ?_) (fun c11 => ?_)
    · omega
    · refine xald 15 ⟨u100, _, rfl⟩ rfl rfl ?_
      refine xgetD 18 (60) hH ⟨u100, _, rfl⟩ rfl (by decide) (by decide) rfl rfl (by decide) ?_
      refine xild 19 ⟨u100, _, rfl⟩ rfl rfl ?_
      refine xcst 20 (0) ⟨u100, _, rfl⟩ rfl (by decide) (fun z19 h19 => ?_)
      refine xiast 21 (wi).toInt.toNat hH ⟨u100, _, rfl⟩ rfl (by decide) rfl (by omega) (by omega) (by omega) (by omega) (fun hp20 hH20 U20 => ?_)
      have s20 := U20.1
      refine xald 22 ⟨u100, _, rfl⟩ rfl rfl ?_
      refine xgetD 25 (61) hH20 ⟨u100, _, rfl⟩ rfl (by decide) (by decide) rfl rfl (by decide) ?_
      refine xild 26 ⟨u100, _, rfl⟩ rfl rfl ?_
      refine xcst 27 (0) ⟨u100, _, rfl⟩ rfl (by decide) (fun z26 h26 => ?_)
      refine xiast 28 (wi).toInt.toNat hH20 ⟨u100, _, rfl⟩ rfl (by decide) rfl (by omega) (by omega) (by omega) (by omega) (fun hp27 hH27 U27 => ?_)
      have s27 := U27.1
      refine xinc 31 (1) ⟨u100, _, rfl⟩ rfl rfl rfl (by decide) (by omega) (by omega) (fun z28 h28 => ?_)
      refine xgoto ⟨u100, _, rfl⟩ ?_
      rw [show wi.toInt.toNat = i by omega] at U20 U27
      exact ih (i + 1) _ _ (by omega) (by omega) hH27 ((hF.trans (bFx_U U20 (by simp))).trans (bFx_U U27 (by simp))) (fun r hr => by
        by_cases q : r = i
        · rw [q, U27.1, rU_ne U27 (by omega), U20.1]
          exact ⟨h19, h26⟩
        · rw [rU_ne U27 (by omega), rU_ne U20 (by omega), rU_ne U27 (by omega), rU_ne U20 (by omega)]
          exact hC r (by omega))
/-- the class gathers the trains -/
theorem k_100E {d V : Nat} {T : sT} {hp : amH} {R : xQ} (hH : bHk 84 bTT hp) (hB : bdOk hp 3 V T) (hc : opC V T = 0)
    (hR : ∀ hp1 : amH, bHk 84 bTT hp1 → bFx [58, 59, 60, 61] hp hp1 → trC hp1 V T 4096 → R (.inl none) hp1) : xK (d + 3) 100 [.ref 58, .ref 3] hp R := by
  have hT := hB.2.1
  have h15 : V ≤ 15 := hT.2.1
  have h03 := hT.1
  refine xin (M := am_m100) rfl rfl rfl ?_
  refine xald 1 ⟨u100, _, rfl⟩ rfl rfl ?_
  refine xcst 2 (0) ⟨u100, _, rfl⟩ rfl (by decide) (fun z1 h1 => ?_)
  refine xputC 5 hH ⟨u100, _, rfl⟩ rfl (by decide) (by decide) rfl rfl (by decide) ⟨rfl, rfl⟩ (by omega) (by omega) (fun hp2 hH2 U2 => ?_)
  have s2 := U2.1
  refine xcst 6 (0) ⟨u100, _, rfl⟩ rfl (by decide) (fun z5 h5 => ?_)
  refine xist 7 ⟨u100, _, rfl⟩ rfl rfl ?_
  refine xpad 2 ?_
  refine l100a (fun xi hp9 g0 g1 r1 => ?_) 455 0 _ _ h5 (by omega) hH2 bFx.refl (fun r hr => by omega)
  refine xcst 35 (2) ⟨u100, _, rfl⟩ rfl (by decide) (fun z34 h34 => ?_)
  refine xist 36 ⟨u100, _, rfl⟩ rfl rfl ?_
  have C0 : trC hp9 V T 0 := ⟨by rw [bFx_n g1 (by simp), U2.1]; exact h1, fun c hc => by omega, fun c hv => (r1 _ (by have := vN_lt hv (vB_x h15 hv).choose_spec.choose_spec.choose_spec.2.2.2.2; have := vN_455 h15; omega)).1, fun r hr => (r1 r hr).2⟩
  have C2 := trC_no C0 512 (fun j j1 j2 w => by have w := of_decide_eq_true w; omega)
  exact l100z hB hc hR (V - 2) 2 _ _ _ hp9 h34 (by omega) (by omega) g0 ((bFx_U U2 (by simp)).trans (g1.mono (by simp; omega))) C2
theorem u103 : bUp 0 am_m103.1 = true := by decide +kernel
theorem k_103E {d r s : Nat} {hp : amH} {R : xQ} {a : Int32} (hH : bHk 84 bTT hp) (h0 : rN hp 58 0 = (s : Int)) (hs : s ≤ 455) (ha : a.toInt = (r : Int)) (hr : r < s)
    (hR : ∀ z : Int32, z.toInt = rN hp 60 r → R (.inl (some (.int z))) hp) : xK d 103 [.ref 58, .int a] hp R := by
  have et : a.toInt.toNat = r := by omega
  refine xin (M := am_m103) rfl rfl rfl ?_
  refine xild 1 ⟨u103, _, rfl⟩ rfl rfl ?_
  refine xif_lt 4 ⟨u103, _, rfl⟩ rfl (fun c1 => ?_) (fun c1 => ?_)
  · omega
  · refine xild 5 ⟨u103, _, rfl⟩ rfl rfl ?_
    refine xald 6 ⟨u103, _, rfl⟩ rfl rfl ?_
    refine xgetC 9 hH ⟨u103, _, rfl⟩ rfl (by decide) (by decide) rfl rfl (by decide) (fun z6 h6 => ?_)
    refine xcmp_ge 12 ⟨u103, _, rfl⟩ rfl (fun c9 => ?_) (fun c9 => ?_)
    · omega
    · refine xald 13 ⟨u103, _, rfl⟩ rfl rfl ?_
      refine xgetD 16 (60) hH ⟨u103, _, rfl⟩ rfl (by decide) (by decide) rfl rfl (by decide) ?_
      refine xild 17 ⟨u103, _, rfl⟩ rfl rfl ?_
      refine xiald 18 (a).toInt.toNat hH ⟨u103, _, rfl⟩ rfl (by decide) rfl (by omega) (by omega) (fun z17 h17 => ?_)
      refine xgoto ⟨u103, _, rfl⟩ ?_
      exact xret ⟨u103, _, rfl⟩ rfl (hR _ (by rw [h17, et]))
theorem u104 : bUp 0 am_m104.1 = true := by decide +kernel
theorem k_104E {d r s : Nat} {hp : amH} {R : xQ} {a : Int32} (hH : bHk 84 bTT hp) (h0 : rN hp 58 0 = (s : Int)) (hs : s ≤ 455) (ha : a.toInt = (r : Int)) (hr : r < s)
    (hR : ∀ z : Int32, z.toInt = rN hp 59 r → R (.inl (some (.int z))) hp) : xK d 104 [.ref 58, .int a] hp R := by
  have et : a.toInt.toNat = r := by omega
  refine xin (M := am_m104) rfl rfl rfl ?_
  refine xild 1 ⟨u104, _, rfl⟩ rfl rfl ?_
  refine xif_lt 4 ⟨u104, _, rfl⟩ rfl (fun c1 => ?_) (fun c1 => ?_)
  · omega
  · refine xild 5 ⟨u104, _, rfl⟩ rfl rfl ?_
    refine xald 6 ⟨u104, _, rfl⟩ rfl rfl ?_
    refine xgetC 9 hH ⟨u104, _, rfl⟩ rfl (by decide) (by decide) rfl rfl (by decide) (fun z6 h6 => ?_)
    refine xcmp_ge 12 ⟨u104, _, rfl⟩ rfl (fun c9 => ?_) (fun c9 => ?_)
    · omega
    · refine xald 13 ⟨u104, _, rfl⟩ rfl rfl ?_
      refine xgetD 16 (59) hH ⟨u104, _, rfl⟩ rfl (by decide) (by decide) rfl rfl (by decide) ?_
      refine xild 17 ⟨u104, _, rfl⟩ rfl rfl ?_
      refine xiald 18 (a).toInt.toNat hH ⟨u104, _, rfl⟩ rfl (by decide) rfl (by omega) (by omega) (fun z17 h17 => ?_)
      refine xgoto ⟨u104, _, rfl⟩ ?_
      exact xret ⟨u104, _, rfl⟩ rfl (hR _ (by rw [h17, et]))
theorem u105 : bUp 0 am_m105.1 = true := by decide +kernel
theorem k_105E {d r s : Nat} {hp : amH} {R : xQ} {a : Int32} (hH : bHk 84 bTT hp) (h0 : rN hp 58 0 = (s : Int)) (hs : s ≤ 455) (ha : a.toInt = (r : Int)) (hr : r < s)
    (hR : ∀ z : Int32, z.toInt = rN hp 61 r → R (.inl (some (.int z))) hp) : xK d 105 [.ref 58, .int a] hp R := by
  have et : a.toInt.toNat = r := by omega
  refine xin (M := am_m105) rfl rfl rfl ?_
  refine xild 1 ⟨u105, _, rfl⟩ rfl rfl ?_
  refine xif_lt 4 ⟨u105, _, rfl⟩ rfl (fun c1 => ?_) (fun c1 => ?_)
  · omega
  · refine xild 5 ⟨u105, _, rfl⟩ rfl rfl ?_
    refine xald 6 ⟨u105, _, rfl⟩ rfl rfl ?_
    refine xgetC 9 hH ⟨u105, _, rfl⟩ rfl (by decide) (by decide) rfl rfl (by decide) (fun z6 h6 => ?_)
    refine xcmp_ge 12 ⟨u105, _, rfl⟩ rfl (fun c9 => ?_) (fun c9 => ?_)
    · omega
    · refine xald 13 ⟨u105, _, rfl⟩ rfl rfl ?_
      refine xgetD 16 (61) hH ⟨u105, _, rfl⟩ rfl (by decide) (by decide) rfl rfl (by decide) ?_
      refine xild 17 ⟨u105, _, rfl⟩ rfl rfl ?_
      refine xiald 18 (a).toInt.toNat hH ⟨u105, _, rfl⟩ rfl (by decide) rfl (by omega) (by omega) (fun z17 h17 => ?_)
      refine xgoto ⟨u105, _, rfl⟩ ?_
      exact xret ⟨u105, _, rfl⟩ rfl (hR _ (by rw [h17, et]))
theorem k_106E {d r s : Nat} {hp : amH} {R : xQ} {a b : Int32} (hH : bHk 84 bTT hp) (h0 : rN hp 58 0 = (s : Int)) (hs : s ≤ 455) (ha : a.toInt = (r : Int)) (hr : r < s)
    (hR : ∀ hp1, bHk 84 bTT hp1 → rU hp hp1 61 r b.toInt → R (.inl none) hp1) : xK d 106 [.ref 58, .int a, .int b] hp R := by
  have u106 : bUp 0 am_m106.1 = true := by decide +kernel
  have et : a.toInt.toNat = r := by omega
  have mb := aMax b
  refine xin (M := am_m106) rfl rfl rfl ?_
  refine xild 1 ⟨u106, _, rfl⟩ rfl rfl ?_
  refine xif_lt 4 ⟨u106, _, rfl⟩ rfl (fun c1 => ?_) (fun c1 => ?_)
  · omega
  · refine xild 5 ⟨u106, _, rfl⟩ rfl rfl ?_
    refine xald 6 ⟨u106, _, rfl⟩ rfl rfl ?_
    refine xgetC 9 hH ⟨u106, _, rfl⟩ rfl (by decide) (by decide) rfl rfl (by decide) (fun z6 h6 => ?_)
    refine xcmp_ge 12 ⟨u106, _, rfl⟩ rfl (fun c9 => ?_) (fun c9 => ?_)
    · omega
    · refine xald 13 ⟨u106, _, rfl⟩ rfl rfl ?_
      refine xgetD 16 (61) hH ⟨u106, _, rfl⟩ rfl (by decide) (by decide) rfl rfl (by decide) ?_
      refine xild 17 ⟨u106, _, rfl⟩ rfl rfl ?_
      refine xild 18 ⟨u106, _, rfl⟩ rfl rfl ?_
      refine xiast 19 (a).toInt.toNat hH ⟨u106, _, rfl⟩ rfl (by decide) rfl (by omega) (by omega) (by omega) (by omega) (fun hp18 hH18 U18 => ?_)
      have s18 := U18.1
      rw [et] at U18
      exact xretV ⟨u106, _, rfl⟩ rfl (hR _ hH18 U18)
end
/-! ##### qfg ##### -/
section
/-! ===== walks from set to set ===== -/
def itF (F : Nat → Nat) : Nat → Nat → Nat
  | 0, c => c
  | n + 1, c => F (itF F n c)
theorem itF_add {F : Nat → Nat} {m c : Nat} : ∀ n, itF F (n + m) c = itF F n (itF F m c)
  | 0 => by rw [Nat.zero_add]; rfl
  | n + 1 => by
    rw [show n + 1 + m = n + m + 1 by omega]
    show F (itF F (n + m) c) = F (itF F n (itF F m c))
    rw [itF_add n]
theorem itF_1 {F : Nat → Nat} {n c : Nat} : itF F n (F c) = itF F (n + 1) c := (itF_add (F := F) (m := 1) (c := c) n).symm
theorem itF_B {V c : Nat} {T : sT} (hT : sOk V T) (hc : opC V T = 0) (h : vB V c = true) : ∀ n, vB V (itF (fC T) n c) = true
  | 0 => h
  | n + 1 => vB_f hT hc (itF_B hT hc h n)
theorem itF_per {F : Nat → Nat} {p c : Nat} (h : itF F p c = c) (k : Nat) : ∀ m, itF F (k + p * m) c = itF F k c
  | 0 => rfl
  | m + 1 => by
    rw [show k + p * (m + 1) = k + p * m + p by rw [Nat.mul_succ]; omega, itF_add, h, itF_per h k m]
/-- two of the first steps lead to one set -/
theorem fg_rep {V c : Nat} {T : sT} (hT : sOk V T) (hc : opC V T = 0) (h : vB V c = true) : ∃ i j, i < j ∧ j ≤ vN V 4096 ∧ itF (fC T) i c = itF (fC T) j c := by
  have h15 := hT.2.1
  have lt : ∀ k, vN V (itF (fC T) k c) < vN V 4096 := fun k => by
    have b := itF_B hT hc h k
    obtain ⟨x, y, z, e, -, -, -, l⟩ := vB_x h15 b
    exact vN_lt b l
  apply Classical.byContradiction
  intro hn
  have g := nd_len ((List.range (vN V 4096 + 1)).map (fun k => vN V (itF (fC T) k c))) (List.range (vN V 4096)) (nd_rng _ _ (fun i j hij hj e => hn ⟨i, j, hij, by omega, vN_inj (itF_B hT hc h i) (itF_B hT hc h j) e⟩)) (fun s hs => by
    obtain ⟨k, -, rfl⟩ := List.mem_map.mp hs
    exact List.mem_range.mpr (lt k))
  rw [List.length_map, List.length_range, List.length_range] at g
  omega
/-- the least number of steps, beyond k, that come back -/
def pdS (F : Nat → Nat) (c : Nat) : Nat → Nat → Nat
  | 0, _ => 0
  | f + 1, k => if itF F (k + 1) c = c then k + 1 else pdS F c f (k + 1)
theorem pdS_s {F : Nat → Nat} {c : Nat} : ∀ f k, (∀ j, 0 < j → j ≤ k → ¬ itF F j c = c) → (pdS F c f k = 0 ∧ ∀ j, 0 < j → j ≤ k + f → ¬ itF F j c = c) ∨ (0 < pdS F c f k ∧ pdS F c f k ≤ k + f ∧ itF F (pdS F c f k) c = c ∧ ∀ j, 0 < j → j < pdS F c f k → ¬ itF F j c = c)
  | 0, k, h => Or.inl ⟨rfl, h⟩
  | f + 1, k, h => by
    by_cases g : itF F (k + 1) c = c
    · have e : pdS F c (f + 1) k = k + 1 := if_pos g
      rw [e]
      exact Or.inr ⟨by omega, by omega, g, fun j j1 j2 => h j j1 (by omega)⟩
    · have e : pdS F c (f + 1) k = pdS F c f (k + 1) := if_neg g
      rw [e]
      have ih := pdS_s (F := F) (c := c) f (k + 1) (fun j j1 j2 => by
        by_cases q : j = k + 1
        · rw [q]; exact g
        · exact h j j1 (by omega))
      rw [show k + 1 + f = k + (f + 1) by omega] at ih
      exact ih
/-- the size of the round of a set, 0 if it is in none -/
abbrev pd (T : sT) (c : Nat) : Nat := pdS (fC T) c 456 0
theorem pd_s {T : sT} {c : Nat} : (pd T c = 0 ∧ ∀ j, 0 < j → j ≤ 456 → ¬ itF (fC T) j c = c) ∨ (0 < pd T c ∧ pd T c ≤ 456 ∧ itF (fC T) (pd T c) c = c ∧ ∀ j, 0 < j → j < pd T c → ¬ itF (fC T) j c = c) := by
  have h := pdS_s (F := fC T) (c := c) 456 0 (fun j j1 j2 => by omega)
  rwa [Nat.zero_add] at h
theorem pd_pos {T : sT} {c n : Nat} (h1 : 0 < n) (h2 : n ≤ 456) (h : itF (fC T) n c = c) : 0 < pd T c ∧ pd T c ≤ n := by
  rcases pd_s (T := T) (c := c) with ⟨-, q⟩ | ⟨q1, q2, q3, q4⟩
  · exact absurd h (q n h1 h2)
  · refine ⟨q1, Classical.byContradiction (fun w => q4 n h1 (by omega) h)⟩
theorem pd_it {T : sT} {c : Nat} (h : 0 < pd T c) : itF (fC T) (pd T c) c = c ∧ ∀ j, 0 < j → j < pd T c → ¬ itF (fC T) j c = c := by
  rcases pd_s (T := T) (c := c) with ⟨q, -⟩ | ⟨-, -, q3, q4⟩
  · omega
  · exact ⟨q3, q4⟩
theorem pd_N {V c : Nat} {T : sT} (hT : sOk V T) (hc : opC V T = 0) (h : vB V c = true) (hp : 0 < pd T c) : pd T c ≤ vN V 4096 := by
  obtain ⟨i, j, hij, hj, e⟩ := fg_rep hT hc h
  have h455 := vN_455 hT.2.1
  have p1 := (pd_it hp).1
  have m1 : i ≤ pd T c * i := Nat.le_mul_of_pos_left i hp
  have a : itF (fC T) (pd T c * i - i + i) c = itF (fC T) (pd T c * i - i + j) c := by rw [itF_add, itF_add, e]
  have b := itF_per p1 0 i
  have d := itF_per p1 (j - i) i
  rw [Nat.zero_add] at b
  rw [show pd T c * i - i + i = pd T c * i by omega, show pd T c * i - i + j = j - i + pd T c * i by omega, b, d] at a
  have k := pd_pos (T := T) (c := c) (n := j - i) (by omega) (by omega) a.symm
  omega
theorem pd_F {T : sT} {c : Nat} (h : 0 < pd T c) (hl : pd T c ≤ 455) : 0 < pd T (fC T c) ∧ pd T (fC T c) = pd T c := by
  have p1 := (pd_it h).1
  have a : itF (fC T) (pd T c) (fC T c) = fC T c := by
    rw [itF_1]
    show fC T (itF (fC T) (pd T c) c) = _
    rw [p1]
  have k := pd_pos h (by omega) a
  refine ⟨k.1, ?_⟩
  have p2 := (pd_it k.1).1
  obtain ⟨m, em⟩ : ∃ m, pd T c = m + 1 := ⟨pd T c - 1, by omega⟩
  have b : itF (fC T) m (fC T c) = c := by
    rw [itF_1, ← em]
    exact p1
  have d : itF (fC T) (pd T (fC T c)) c = c := by
    have w : itF (fC T) (pd T (fC T c)) (itF (fC T) m (fC T c)) = itF (fC T) m (itF (fC T) (pd T (fC T c)) (fC T c)) := by rw [← itF_add, ← itF_add, Nat.add_comm]
    rw [p2, b] at w
    exact w
  have q := pd_pos k.1 (by omega) d
  omega
theorem pd_its {V c : Nat} {T : sT} (hT : sOk V T) (hc : opC V T = 0) (h : vB V c = true) (hp : 0 < pd T c) : ∀ n, 0 < pd T (itF (fC T) n c) ∧ pd T (itF (fC T) n c) = pd T c
  | 0 => ⟨hp, rfl⟩
  | n + 1 => by
    have ih := pd_its hT hc h hp n
    have l := pd_N hT hc h hp
    have h455 := vN_455 hT.2.1
    have k := pd_F ih.1 (by omega)
    exact ⟨k.1, k.2.trans ih.2⟩
/-- after as many steps as there are sets the walk is in its round -/
theorem pd_end {V c : Nat} {T : sT} (hT : sOk V T) (hc : opC V T = 0) (h : vB V c = true) : 0 < pd T (itF (fC T) (vN V 4096) c) := by
  obtain ⟨i, j, hij, hj, e⟩ := fg_rep hT hc h
  have h455 := vN_455 hT.2.1
  have a : itF (fC T) (j - i) (itF (fC T) i c) = itF (fC T) i c := by rw [← itF_add, show j - i + i = j by omega]; exact e.symm
  have k := pd_pos (T := T) (by omega) (by omega) a
  have q := (pd_its hT hc (itF_B hT hc h i) k.1 (vN V 4096 - i)).1
  rwa [← itF_add, show vN V 4096 - i + i = vN V 4096 by omega] at q
/-- steps within a round are different as long as they are fewer than its size -/
theorem pd_dif {T : sT} {c i j : Nat} (h : 0 < pd T c) (hij : i < j) (hj : j < pd T c) : ¬ itF (fC T) i c = itF (fC T) j c := by
  intro e
  obtain ⟨p1, p2⟩ := pd_it h
  have a : itF (fC T) (pd T c - j + i) c = itF (fC T) (pd T c - j + j) c := by rw [itF_add, itF_add, e]
  rw [show pd T c - j + j = pd T c by omega, p1] at a
  exact p2 _ (by omega) (by omega) a
/-- all steps are among the first of the round -/
theorem pd_mod {T : sT} {c : Nat} (h : 0 < pd T c) (n : Nat) : itF (fC T) n c = itF (fC T) (n % pd T c) c := by
  have p1 := (pd_it h).1
  have := itF_per p1 (n % pd T c) (n / pd T c)
  rwa [Nat.mod_add_div] at this
/-- a set that is in a round is reached again from each set behind it -/
theorem pd_back {V c : Nat} {T : sT} (hT : sOk V T) (hc : opC V T = 0) (h : vB V c = true) (hp : 0 < pd T c) (n : Nat) : ∃ k, k < pd T c ∧ itF (fC T) k (itF (fC T) n c) = c := by
  have e := pd_mod hp n
  have ml := Nat.mod_lt n hp
  refine ⟨(pd T c - n % pd T c) % pd T c, Nat.mod_lt _ hp, ?_⟩
  have q := (pd_its hT hc h hp n)
  have m := pd_mod q.1 (pd T c - n % pd T c)
  rw [q.2] at m
  rw [← m, e, ← itF_add, show pd T c - n % pd T c + n % pd T c = pd T c by omega]
  exact (pd_it hp).1
end
/-! ##### qrd ##### -/
section
/-! ===== marks of walks ===== -/
def mkW (F : Nat → Nat) (e : Nat) (s : Int) (mk : Nat → Int) : Nat → Nat → Int
  | 0, b => mk b
  | l + 1, b => if b = itF F l e then s else mkW F e s mk l b
theorem mkW_1 {F : Nat → Nat} {e b : Nat} {s : Int} {mk : Nat → Int} : ∀ l, (∃ k, k < l ∧ itF F k e = b) → mkW F e s mk l b = s
  | 0, h => by
    obtain ⟨k, hk, -⟩ := h
    omega
  | l + 1, h => by
    show (if b = itF F l e then s else mkW F e s mk l b) = s
    by_cases g : b = itF F l e
    · rw [if_pos g]
    · rw [if_neg g]
      obtain ⟨k, hk, ek⟩ := h
      refine mkW_1 l ⟨k, ?_, ek⟩
      have : ¬ k = l := fun w => g (by rw [← ek, w])
      omega
theorem mkW_0 {F : Nat → Nat} {e b : Nat} {s : Int} {mk : Nat → Int} : ∀ l, (∀ k, k < l → ¬ itF F k e = b) → mkW F e s mk l b = mk b
  | 0, _ => rfl
  | l + 1, h => by
    show (if b = itF F l e then s else mkW F e s mk l b) = _
    rw [if_neg (fun w => h l (Nat.lt_succ_self l) w.symm)]
    exact mkW_0 l (fun k hk => h k (by omega))
/-- the class's trains with marks -/
def trM (hp : amH) (V : Nat) (T : sT) (mk : Nat → Int) : Prop := rN hp 58 0 = ((vN V 4096 : Nat) : Int) ∧ (∀ c, vB V c = true → rN hp 59 (vN V c) = ((vN V (fC T c) : Nat) : Int)) ∧ ∀ c, vB V c = true → rN hp 61 (vN V c) = mk c
theorem vN_4 {V c : Nat} (h15 : V ≤ 15) (h : vB V c = true) : vN V c < vN V 4096 := by
  obtain ⟨x, y, z, -, -, -, -, l⟩ := vB_x h15 h
  exact vN_lt h l
theorem trM_C {hp : amH} {V : Nat} {T : sT} (h15 : V ≤ 15) (C : trC hp V T 4096) : trM hp V T (fun _ => 0) := by
  refine ⟨C.1, fun c hv => ?_, fun c hv => ?_⟩
  · obtain ⟨x, y, z, -, -, -, -, l⟩ := vB_x h15 hv
    exact C.2.1 c l hv
  · have a := vN_4 h15 hv
    have b := vN_455 h15
    exact C.2.2.2 _ (by omega)
theorem trM_U {hp hp1 : amH} {V c : Nat} {T : sT} {mk mk1 : Nat → Int} {s : Int} (hv : vB V c = true) (M : trM hp V T mk) (U : rU hp hp1 61 (vN V c) s) (h : ∀ b, mk1 b = if b = c then s else mk b) : trM hp1 V T mk1 := by
  refine ⟨by rw [rU_ne U (by omega)]; exact M.1, fun b hb => by rw [rU_ne U (by omega)]; exact M.2.1 b hb, fun b hb => ?_⟩
  rw [h]
  by_cases g : b = c
  · rw [if_pos g, g]; exact U.1
  · rw [if_neg g, rU_ne U (fun w => g (vN_inj hb hv w.2))]; exact M.2.2 b hb
/-- how many steps lead into the round -/
def tlS (T : sT) (c : Nat) : Nat → Nat → Nat
  | 0, k => k
  | f + 1, k => if 0 < pd T (itF (fC T) k c) then k else tlS T c f (k + 1)
theorem tlS_s {T : sT} {c n : Nat} (hn : 0 < pd T (itF (fC T) n c)) : ∀ f k, k ≤ n → n < k + f → (∀ j, j < k → pd T (itF (fC T) j c) = 0) → k ≤ tlS T c f k ∧ tlS T c f k ≤ n ∧ 0 < pd T (itF (fC T) (tlS T c f k) c) ∧ ∀ j, j < tlS T c f k → pd T (itF (fC T) j c) = 0
  | 0, k, h1, h2, _ => by omega
  | f + 1, k, h1, h2, h3 => by
    by_cases g : 0 < pd T (itF (fC T) k c)
    · have e : tlS T c (f + 1) k = k := if_pos g
      rw [e]
      exact ⟨Nat.le_refl _, h1, g, h3⟩
    · have e : tlS T c (f + 1) k = tlS T c f (k + 1) := if_neg g
      rw [e]
      have hk : ¬ k = n := fun w => g (by rw [w]; exact hn)
      have ih := tlS_s hn f (k + 1) (by omega) (by omega) (fun j hj => by
        by_cases q : j = k
        · rw [q]; omega
        · exact h3 j (by omega))
      exact ⟨by omega, ih.2⟩
abbrev tl (T : sT) (c : Nat) : Nat := tlS T c 457 0
theorem tl_s {V c : Nat} {T : sT} (hT : sOk V T) (hc : opC V T = 0) (h : vB V c = true) : tl T c ≤ vN V 4096 ∧ 0 < pd T (itF (fC T) (tl T c) c) ∧ ∀ j, j < tl T c → pd T (itF (fC T) j c) = 0 := by
  have h455 := vN_455 hT.2.1
  exact (tlS_s (pd_end hT hc h) 457 0 (Nat.zero_le _) (by omega) (fun j hj => by omega)).2
/-- the set of its round to which the class comes, and its round's size -/
abbrev eN (V : Nat) (T : sT) (c : Nat) : Nat := itF (fC T) (vN V 4096) c
theorem pd_tl {V c : Nat} {T : sT} (hT : sOk V T) (hc : opC V T = 0) (h : vB V c = true) : pd T (itF (fC T) (tl T c) c) = pd T (eN V T c) := by
  obtain ⟨t1, t2, t3⟩ := tl_s hT hc h
  have q := (pd_its hT hc (itF_B hT hc h (tl T c)) t2 (vN V 4096 - tl T c)).2
  rw [← itF_add, show vN V 4096 - tl T c + tl T c = vN V 4096 by omega] at q
  exact q.symm
/-! ===== the class ===== -/
theorem u107 : bUp 0 am_m107.1 = true := by decide +kernel
theorem l107a {d V c : Nat} {T : sT} {mk : Nat → Int} {hp : amH} {R : xQ} {a : Int32} (hH : bHk 84 bTT hp) (hT : sOk V T) (hc : opC V T = 0) (hM : trM hp V T mk) (hv : vB V c = true)
    (hQ : ∀ wat wi : Int32, wat.toInt = ((vN V (eN V T c) : Nat) : Int) → xV (d + 1) am_m107 24 [some (.ref 58), some (.int a), some (.int wat), some (.int wi)] [] hp R) :
    ∀ (jj i : Nat) (wat wi : Int32), wi.toInt = (i : Int) → i + jj = vN V 4096 → wat.toInt = ((vN V (itF (fC T) i c) : Nat) : Int) → xV (d + 1) am_m107 4 [some (.ref 58), some (.int a), some (.int wat), some (.int wi)] [] hp R := by
  have h15 := hT.2.1
  have h455 := vN_455 h15
  have m0 := hM.1
  intro jj
  induction jj with
  | zero =>
    intro i wat wi hi hj hw
    have ei : i = vN V 4096 := by omega
    rw [ei] at hw
    refine xild 5 ⟨u107, _, rfl⟩ rfl rfl ?_
    refine xald 6 ⟨u107, _, rfl⟩ rfl rfl ?_
    refine xgetC 9 hH ⟨u107, _, rfl⟩ rfl (by decide) (by decide) rfl rfl (by decide) (fun z6 h6 => ?_)
    refine xcmp_ge 12 ⟨u107, _, rfl⟩ rfl (fun c9 => ?_) (fun c9 => ?_)
    · exact hQ _ _ hw
    · omega
  | succ jj ih =>
    intro i wat wi hi hj hw
    have bi := itF_B hT hc hv i
    have li := vN_4 h15 bi
    refine xild 5 ⟨u107, _, rfl⟩ rfl rfl ?_
    refine xald 6 ⟨u107, _, rfl⟩ rfl rfl ?_
    refine xgetC 9 hH ⟨u107, _, rfl⟩ rfl (by decide) (by decide) rfl rfl (by decide) (fun z6 h6 => ?_)
    refine xcmp_ge 12 ⟨u107, _, rfl⟩ rfl (fun c9 => ?_) (fun c9 => ?_)
    · omega
    · refine xald 13 ⟨u107, _, rfl⟩ rfl rfl ?_
      refine xild 14 ⟨u107, _, rfl⟩ rfl rfl ?_
      refine xcallC 17 (o := 58) [.int _] [] hH ⟨u107, _, rfl⟩ rfl rfl (by decide) rfl (by decide) rfl ⟨rfl, rfl, rfl, rfl⟩ rfl (k_104E (r := vN V (itF (fC T) i c)) hH m0 h455 hw li (fun z14 h14 => ⟨_, rfl, ?_⟩))
      rw [hM.2.1 _ bi] at h14
      refine xist 18 ⟨u107, _, rfl⟩ rfl rfl ?_
      refine xinc 21 (1) ⟨u107, _, rfl⟩ rfl rfl rfl (by decide) (by omega) (by omega) (fun z18 h18 => ?_)
      refine xgoto ⟨u107, _, rfl⟩ ?_
      exact ih (i + 1) _ _ (by omega) (by omega) h14
theorem l107b {d V e : Nat} {T : sT} {hp0 : amH} {R : xQ} {a : Int32} (hT : sOk V T) (hc : opC V T = 0) (hv : vB V e = true) (hp : 0 < pd T e)
    (hR : ∀ (z : Int32) hp1, bHk 84 bTT hp1 → bFx [61] hp0 hp1 → trM hp1 V T (mkW (fC T) e 1 (fun _ => 0) (pd T e)) → z.toInt = ((pd T e : Nat) : Int) → R (.inl (some (.int z))) hp1) :
    ∀ (jj l : Nat) (wat wl : Int32) (hp1 : amH), wl.toInt = (l : Int) → l + jj = pd T e → wat.toInt = ((vN V (itF (fC T) l e) : Nat) : Int) → bHk 84 bTT hp1 → bFx [61] hp0 hp1 → trM hp1 V T (mkW (fC T) e 1 (fun _ => 0) l) → xV (d + 1) am_m107 26 [some (.ref 58), some (.int a), some (.int wat), some (.int wl)] [] hp1 R := by
  have h15 := hT.2.1
  have h455 := vN_455 h15
  have pN := pd_N hT hc hv hp
  intro jj
  induction jj with
  | zero =>
    intro l wat wl hp1 hl hj hw hH hF hM
    have m0 := hM.1
    have el : l = pd T e := by omega
    have bi := itF_B hT hc hv l
    have li := vN_4 h15 bi
    have me := hM.2.2 _ bi
    rw [mkW_1 l ⟨0, by omega, by rw [el, (pd_it hp).1]; rfl⟩] at me
    rw [el] at hM
    refine xild 27 ⟨u107, _, rfl⟩ rfl rfl ?_
    refine xald 28 ⟨u107, _, rfl⟩ rfl rfl ?_
    refine xgetC 31 hH ⟨u107, _, rfl⟩ rfl (by decide) (by decide) rfl rfl (by decide) (fun z28 h28 => ?_)
    refine xcmp_ge 34 ⟨u107, _, rfl⟩ rfl (fun c31 => ?_) (fun c31 => ?_)
    · refine xild 61 ⟨u107, _, rfl⟩ rfl rfl ?_
      exact xret ⟨u107, _, rfl⟩ rfl (hR _ _ hH hF hM (by omega))
    · refine xald 35 ⟨u107, _, rfl⟩ rfl rfl ?_
      refine xild 36 ⟨u107, _, rfl⟩ rfl rfl ?_
      refine xcallC 39 (o := 58) [.int _] [] hH ⟨u107, _, rfl⟩ rfl rfl (by decide) rfl (by decide) rfl ⟨rfl, rfl, rfl, rfl⟩ rfl (k_105E (r := vN V (itF (fC T) l e)) hH m0 h455 hw li (fun z36 h36 => ⟨_, rfl, ?_⟩))
      rw [me] at h36
      refine xif_ne 42 ⟨u107, _, rfl⟩ rfl (fun c39 => ?_) (fun c39 => ?_)
      · refine xild 61 ⟨u107, _, rfl⟩ rfl rfl ?_
        exact xret ⟨u107, _, rfl⟩ rfl (hR _ _ hH hF hM (by omega))
      · omega
  | succ jj ih =>
    intro l wat wl hp1 hl hj hw hH hF hM
    have m0 := hM.1
    have bi := itF_B hT hc hv l
    have li := vN_4 h15 bi
    have me := hM.2.2 _ bi
    rw [mkW_0 l (fun k hk w => pd_dif hp hk (by omega) w)] at me
    refine xild 27 ⟨u107, _, rfl⟩ rfl rfl ?_
    refine xald 28 ⟨u107, _, rfl⟩ rfl rfl ?_
    refine xgetC 31 hH ⟨u107, _, rfl⟩ rfl (by decide) (by decide) rfl rfl (by decide) (fun z28 h28 => ?_)
    refine xcmp_ge 34 ⟨u107, _, rfl⟩ rfl (fun c31 => ?_) (fun c31 => ?_)
    · omega
    · refine xald 35 ⟨u107, _, rfl⟩ rfl rfl ?_
      refine xild 36 ⟨u107, _, rfl⟩ rfl rfl ?_
      refine xcallC 39 (o := 58) [.int _] [] hH ⟨u107, _, rfl⟩ rfl rfl (by decide) rfl (by decide) rfl ⟨rfl, rfl, rfl, rfl⟩ rfl (k_105E (r := vN V (itF (fC T) l e)) hH m0 h455 hw li (fun z36 h36 => ⟨_, rfl, ?_⟩))
      rw [me] at h36
      refine xif_ne 42 ⟨u107, _, rfl⟩ rfl (fun c39 => ?_) (fun c39 => ?_)
      · omega
      · refine xald 43 ⟨u107, _, rfl⟩ rfl rfl ?_
        refine xild 44 ⟨u107, _, rfl⟩ rfl rfl ?_
        refine xcst 45 (1) ⟨u107, _, rfl⟩ rfl (by decide) (fun z44 h44 => ?_)
        refine xcallC 48 (o := 58) [.int _, .int _] [] hH ⟨u107, _, rfl⟩ rfl rfl (by decide) rfl (by decide) rfl ⟨rfl, rfl, rfl, rfl⟩ rfl (k_106E (r := vN V (itF (fC T) l e)) hH m0 h455 hw li (fun hp45 hH45 U45 => ⟨_, rfl, ?_⟩))
        rw [h44] at U45
        have M45 : trM hp45 V T (mkW (fC T) e 1 (fun _ => 0) (l + 1)) := trM_U bi hM U45 (fun b => rfl)
        have m1 := M45.1
        refine xald 49 ⟨u107, _, rfl⟩ rfl rfl ?_
        refine xild 50 ⟨u107, _, rfl⟩ rfl rfl ?_
        refine xcallC 53 (o := 58) [.int _] [] hH45 ⟨u107, _, rfl⟩ rfl rfl (by decide) rfl (by decide) rfl ⟨rfl, rfl, rfl, rfl⟩ rfl (k_104E (r := vN V (itF (fC T) l e)) hH45 m1 h455 hw li (fun z50 h50 => ⟨_, rfl, ?_⟩))
        rw [M45.2.1 _ bi] at h50
        refine xist 54 ⟨u107, _, rfl⟩ rfl rfl ?_
        refine xinc 57 (1) ⟨u107, _, rfl⟩ rfl rfl rfl (by decide) (by omega) (by omega) (fun z54 h54 => ?_)
        refine xgoto ⟨u107, _, rfl⟩ ?_
        exact ih (l + 1) _ _ _ (by omega) (by omega) h50 hH45 (hF.trans (bFx_U U45 (by simp))) M45
theorem k_107E {d V c : Nat} {T : sT} {hp : amH} {R : xQ} {a : Int32} (hH : bHk 84 bTT hp) (hT : sOk V T) (hc : opC V T = 0) (hM : trM hp V T (fun _ => 0)) (hv : vB V c = true) (ha : a.toInt = ((vN V c : Nat) : Int))
    (hR : ∀ (z : Int32) hp1, bHk 84 bTT hp1 → bFx [61] hp hp1 → trM hp1 V T (mkW (fC T) (eN V T c) 1 (fun _ => 0) (pd T (eN V T c))) → z.toInt = ((pd T (eN V T c) : Nat) : Int) → R (.inl (some (.int z))) hp1) : xK (d + 1) 107 [.ref 58, .int a] hp R := by
  refine xin (M := am_m107) rfl rfl rfl ?_
  refine xild 1 ⟨u107, _, rfl⟩ rfl rfl ?_
  refine xist 2 ⟨u107, _, rfl⟩ rfl rfl ?_
  refine xcst 3 (0) ⟨u107, _, rfl⟩ rfl (by decide) (fun z2 h2 => ?_)
  refine xist 4 ⟨u107, _, rfl⟩ rfl rfl ?_
  refine l107a hH hT hc hM hv (fun xa xi r1 => ?_) (vN V 4096) 0 _ _ h2 (by omega) ha
  refine xcst 25 (0) ⟨u107, _, rfl⟩ rfl (by decide) (fun z24 h24 => ?_)
  refine xist 26 ⟨u107, _, rfl⟩ rfl rfl ?_
  exact l107b hT hc (itF_B hT hc hv _) (pd_end hT hc hv) hR (pd T (eN V T c)) 0 _ _ hp h24 (by omega) r1 hH bFx.refl hM
theorem mk_tl {V c t : Nat} {T : sT} (hT : sOk V T) (hc : opC V T = 0) (hv : vB V c = true) (ht : t ≤ vN V 4096) : (0 < pd T (itF (fC T) t c) → mkW (fC T) (eN V T c) 1 (fun _ => 0) (pd T (eN V T c)) (itF (fC T) t c) = 1) ∧ (pd T (itF (fC T) t c) = 0 → mkW (fC T) (eN V T c) 1 (fun _ => 0) (pd T (eN V T c)) (itF (fC T) t c) = 0) := by
  have be := itF_B hT hc hv (vN V 4096)
  have pe := pd_end hT hc hv
  constructor
  · intro h
    refine mkW_1 _ ?_
    obtain ⟨k, k1, k2⟩ := pd_back hT hc (itF_B hT hc hv t) h (vN V 4096 - t)
    have q := (pd_its hT hc (itF_B hT hc hv t) h (vN V 4096 - t)).2
    rw [← itF_add, show vN V 4096 - t + t = vN V 4096 by omega] at k2 q
    exact ⟨k, by rw [q]; exact k1, k2⟩
  · intro h
    refine mkW_0 _ (fun k hk w => ?_)
    have q := (pd_its hT hc be pe k).1
    rw [w] at q
    omega
theorem u108 : bUp 0 am_m108.1 = true := by decide +kernel
theorem l108E {d V c : Nat} {T : sT} {hp : amH} {R : xQ} {a : Int32} (hH : bHk 84 bTT hp) (hT : sOk V T) (hc : opC V T = 0) (hv : vB V c = true) (hM : trM hp V T (mkW (fC T) (eN V T c) 1 (fun _ => 0) (pd T (eN V T c))))
    (hR : ∀ z : Int32, z.toInt = ((tl T c : Nat) : Int) → R (.inl (some (.int z))) hp) :
    ∀ (jj t : Nat) (wat wt : Int32), wt.toInt = (t : Int) → t + jj = tl T c → wat.toInt = ((vN V (itF (fC T) t c) : Nat) : Int) → xV (d + 2) am_m108 10 [some (.ref 58), some (.int a), some (.int wat), some (.int wt)] [] hp R := by
  have h15 := hT.2.1
  have h455 := vN_455 h15
  have m0 := hM.1
  obtain ⟨t1, t2, t3⟩ := tl_s hT hc hv
  intro jj
  induction jj with
  | zero =>
    intro t wat wt ht hj hw
    have et : t = tl T c := by omega
    have bi := itF_B hT hc hv t
    have li := vN_4 h15 bi
    have me := hM.2.2 _ bi
    rw [(mk_tl hT hc hv (show t ≤ vN V 4096 by omega)).1 (by rw [et]; exact t2)] at me
    refine xild 11 ⟨u108, _, rfl⟩ rfl rfl ?_
    refine xald 12 ⟨u108, _, rfl⟩ rfl rfl ?_
    refine xgetC 15 hH ⟨u108, _, rfl⟩ rfl (by decide) (by decide) rfl rfl (by decide) (fun z12 h12 => ?_)
    refine xcmp_ge 18 ⟨u108, _, rfl⟩ rfl (fun c15 => ?_) (fun c15 => ?_)
    · refine xild 39 ⟨u108, _, rfl⟩ rfl rfl ?_
      exact xret ⟨u108, _, rfl⟩ rfl (hR _ (by omega))
    · refine xald 19 ⟨u108, _, rfl⟩ rfl rfl ?_
      refine xild 20 ⟨u108, _, rfl⟩ rfl rfl ?_
      refine xcallC 23 (o := 58) [.int _] [] hH ⟨u108, _, rfl⟩ rfl rfl (by decide) rfl (by decide) rfl ⟨rfl, rfl, rfl, rfl⟩ rfl (k_105E (r := vN V (itF (fC T) t c)) hH m0 h455 hw li (fun z20 h20 => ⟨_, rfl, ?_⟩))
      rw [me] at h20
      refine xif_ne 26 ⟨u108, _, rfl⟩ rfl (fun c23 => ?_) (fun c23 => ?_)
      · refine xild 39 ⟨u108, _, rfl⟩ rfl rfl ?_
        exact xret ⟨u108, _, rfl⟩ rfl (hR _ (by omega))
      · omega
  | succ jj ih =>
    intro t wat wt ht hj hw
    have bi := itF_B hT hc hv t
    have li := vN_4 h15 bi
    have me := hM.2.2 _ bi
    rw [(mk_tl hT hc hv (show t ≤ vN V 4096 by omega)).2 (t3 t (by omega))] at me
    refine xild 11 ⟨u108, _, rfl⟩ rfl rfl ?_
    refine xald 12 ⟨u108, _, rfl⟩ rfl rfl ?_
    refine xgetC 15 hH ⟨u108, _, rfl⟩ rfl (by decide) (by decide) rfl rfl (by decide) (fun z12 h12 => ?_)
    refine xcmp_ge 18 ⟨u108, _, rfl⟩ rfl (fun c15 => ?_) (fun c15 => ?_)
    · omega
    · refine xald 19 ⟨u108, _, rfl⟩ rfl rfl ?_
      refine xild 20 ⟨u108, _, rfl⟩ rfl rfl ?_
      refine xcallC 23 (o := 58) [.int _] [] hH ⟨u108, _, rfl⟩ rfl rfl (by decide) rfl (by decide) rfl ⟨rfl, rfl, rfl, rfl⟩ rfl (k_105E (r := vN V (itF (fC T) t c)) hH m0 h455 hw li (fun z20 h20 => ⟨_, rfl, ?_⟩))
      rw [me] at h20
      refine xif_ne 26 ⟨u108, _, rfl⟩ rfl (fun c23 => ?_) (fun c23 => ?_)
      · omega
      · refine xald 27 ⟨u108, _, rfl⟩ rfl rfl ?_
        refine xild 28 ⟨u108, _, rfl⟩ rfl rfl ?_
        refine xcallC 31 (o := 58) [.int _] [] hH ⟨u108, _, rfl⟩ rfl rfl (by decide) rfl (by decide) rfl ⟨rfl, rfl, rfl, rfl⟩ rfl (k_104E (r := vN V (itF (fC T) t c)) hH m0 h455 hw li (fun z28 h28 => ⟨_, rfl, ?_⟩))
        rw [hM.2.1 _ bi] at h28
        refine xist 32 ⟨u108, _, rfl⟩ rfl rfl ?_
        refine xinc 35 (1) ⟨u108, _, rfl⟩ rfl rfl rfl (by decide) (by omega) (by omega) (fun z32 h32 => ?_)
        refine xgoto ⟨u108, _, rfl⟩ ?_
        exact ih (t + 1) _ _ (by omega) (by omega) h28
theorem k_108E {d V c : Nat} {T : sT} {hp : amH} {R : xQ} {a : Int32} (hH : bHk 84 bTT hp) (hT : sOk V T) (hc : opC V T = 0) (hM : trM hp V T (fun _ => 0)) (hv : vB V c = true) (ha : a.toInt = ((vN V c : Nat) : Int))
    (hR : ∀ (z : Int32) hp1, bHk 84 bTT hp1 → bFx [61] hp hp1 → z.toInt = ((tl T c : Nat) : Int) → R (.inl (some (.int z))) hp1) : xK (d + 2) 108 [.ref 58, .int a] hp R := by
  refine xin (M := am_m108) rfl rfl rfl ?_
  refine xald 1 ⟨u108, _, rfl⟩ rfl rfl ?_
  refine xild 2 ⟨u108, _, rfl⟩ rfl rfl ?_
  refine xcallC 5 (o := 58) [.int _] [] hH ⟨u108, _, rfl⟩ rfl rfl (by decide) rfl (by decide) rfl ⟨rfl, rfl, rfl, rfl⟩ rfl (k_107E hH hT hc hM hv ha (fun z2 hp2 hH2 F2 M2 h2 => ⟨_, rfl, ?_⟩))
  refine xpop 6 ⟨u108, _, rfl⟩ rfl rfl ?_
  refine xild 7 ⟨u108, _, rfl⟩ rfl rfl ?_
  refine xist 8 ⟨u108, _, rfl⟩ rfl rfl ?_
  refine xcst 9 (0) ⟨u108, _, rfl⟩ rfl (by decide) (fun z8 h8 => ?_)
  refine xist 10 ⟨u108, _, rfl⟩ rfl rfl ?_
  exact l108E hH2 hT hc hv M2 (fun z e => hR z hp2 hH2 F2 e) (tl T c) 0 _ _ h8 (by omega) ha
/-! ===== the reference ===== -/
theorem cd_n {V c : Nat} {T : sT} (hT : sOk V T) (h : vB V c = true) : ∃ x y z : Nat, c = 256 * z + 16 * y + x ∧ x < y ∧ y < z ∧ z < V ∧ fC T c = nxV T x y z := by
  have h15 := hT.2.1
  obtain ⟨x, y, z, e, h1, h2, h3, -⟩ := vB_x h15 h
  exact ⟨x, y, z, e, h1, h2, h3, by rw [e]; exact fC_c (by omega) (by omega)⟩
theorem k_311F {d V c : Nat} {T : sT} {hp : amH} {R : xQ} {a : Int32} (hH : bHk 84 bTT hp) (hB : rdOk hp V T) (hc : opC V T = 0) (hv : vB V c = true) (ha : a.toInt = (c : Int))
    (hR : ∀ r : Int32, r.toInt = ((fC T c : Nat) : Int) → R (.inl (some (.int r))) hp) : xK (d + 2) 311 [.ref 66, .int a] hp R := by
  obtain ⟨x, y, z, e, h1, h2, h3, ef⟩ := cd_n hB.2.1 hv
  rw [e] at ha
  rw [ef] at hR
  exact k_311E hH hB hc ha h1 h2 h3 hR
theorem u313E : bUp 0 am_m313.1 = true := by decide +kernel
theorem l313E {d V c : Nat} {T : sT} {hp : amH} {R : xQ} {a : Int32} (hH : bHk 84 bTT hp) (hB : rdOk hp V T) (hc : opC V T = 0) (hv : vB V c = true) (ha : a.toInt = (c : Int))
    (hR : ∀ z : Int32, z.toInt = ((pd T c : Nat) : Int) → R (.inl (some (.int z))) hp) :
    ∀ (jj n : Nat) (wat wn : Int32), wn.toInt = (n : Int) → n + jj = 456 → 0 < n → wat.toInt = ((itF (fC T) n c : Nat) : Int) → (∀ j, 0 < j → j < n → ¬ itF (fC T) j c = c) → xV (d + 3) am_m313 8 [some (.ref 66), some (.int a), some (.int wat), some (.int wn)] [] hp R := by
  have hT := hB.2.1
  have hit : ∀ n : Nat, 0 < n → n ≤ 456 → (∀ j, 0 < j → j < n → ¬ itF (fC T) j c = c) → itF (fC T) n c = c → pd T c = n := fun n h1 h2 h3 h4 => by
    have k := pd_pos h1 h2 h4
    have p := (pd_it k.1).1
    apply Classical.byContradiction
    intro w
    exact h3 (pd T c) k.1 (by omega) p
  intro jj
  induction jj with
  | zero =>
    intro n wat wn hn hj h0 hw hl
    have en : n = 456 := by omega
    have bi := itF_B hT hc hv n
    refine xild 9 ⟨u313E, _, rfl⟩ rfl rfl ?_
    refine xild 10 ⟨u313E, _, rfl⟩ rfl rfl ?_
    refine xcmp_eq 13 ⟨u313E, _, rfl⟩ rfl (fun c10 => ?_) (fun c10 => ?_)
    · refine xild 33 ⟨u313E, _, rfl⟩ rfl rfl ?_
      refine xild 34 ⟨u313E, _, rfl⟩ rfl rfl ?_
      refine xcmp_ne 37 ⟨u313E, _, rfl⟩ rfl (fun c34 => ?_) (fun c34 => ?_)
      · refine xcst 42 (0) ⟨u313E, _, rfl⟩ rfl (by decide) (fun z41 h41 => ?_)
        exact xret ⟨u313E, _, rfl⟩ rfl (hR _ (by
          rcases pd_s (T := T) (c := c) with ⟨q, -⟩ | ⟨q1, q2, q3, -⟩
          · rw [q]; exact h41
          · exfalso
            by_cases w : pd T c = n
            · rw [w] at q3; omega
            · exact hl _ q1 (by omega) q3))
      · refine xild 38 ⟨u313E, _, rfl⟩ rfl rfl ?_
        refine xgoto ⟨u313E, _, rfl⟩ ?_
        exact xret ⟨u313E, _, rfl⟩ rfl (hR _ (by rw [hit n h0 (by omega) hl (by omega)]; exact hn))
    · refine xild 14 ⟨u313E, _, rfl⟩ rfl rfl ?_
      refine xsip 17 (455) ⟨u313E, _, rfl⟩ rfl (by decide) (fun z14 h14 => ?_)
      refine xcmp_gt 20 ⟨u313E, _, rfl⟩ rfl (fun c17 => ?_) (fun c17 => ?_)
      · refine xild 33 ⟨u313E, _, rfl⟩ rfl rfl ?_
        refine xild 34 ⟨u313E, _, rfl⟩ rfl rfl ?_
        refine xcmp_ne 37 ⟨u313E, _, rfl⟩ rfl (fun c34 => ?_) (fun c34 => ?_)
        · refine xcst 42 (0) ⟨u313E, _, rfl⟩ rfl (by decide) (fun z41 h41 => ?_)
          exact xret ⟨u313E, _, rfl⟩ rfl (hR _ (by
            rcases pd_s (T := T) (c := c) with ⟨q, -⟩ | ⟨q1, q2, q3, -⟩
            · rw [q]; exact h41
            · exfalso
              by_cases w : pd T c = n
              · rw [w] at q3; omega
              · exact hl _ q1 (by omega) q3))
        · refine xild 38 ⟨u313E, _, rfl⟩ rfl rfl ?_
          refine xgoto ⟨u313E, _, rfl⟩ ?_
          exact xret ⟨u313E, _, rfl⟩ rfl (hR _ (by rw [hit n h0 (by omega) hl (by omega)]; exact hn))
      · omega
  | succ jj ih =>
    intro n wat wn hn hj h0 hw hl
    have bi := itF_B hT hc hv n
    refine xild 9 ⟨u313E, _, rfl⟩ rfl rfl ?_
    refine xild 10 ⟨u313E, _, rfl⟩ rfl rfl ?_
    refine xcmp_eq 13 ⟨u313E, _, rfl⟩ rfl (fun c10 => ?_) (fun c10 => ?_)
    · refine xild 33 ⟨u313E, _, rfl⟩ rfl rfl ?_
      refine xild 34 ⟨u313E, _, rfl⟩ rfl rfl ?_
      refine xcmp_ne 37 ⟨u313E, _, rfl⟩ rfl (fun c34 => ?_) (fun c34 => ?_)
      · omega
      · refine xild 38 ⟨u313E, _, rfl⟩ rfl rfl ?_
        refine xgoto ⟨u313E, _, rfl⟩ ?_
        exact xret ⟨u313E, _, rfl⟩ rfl (hR _ (by rw [hit n h0 (by omega) hl (by omega)]; exact hn))
    · refine xild 14 ⟨u313E, _, rfl⟩ rfl rfl ?_
      refine xsip 17 (455) ⟨u313E, _, rfl⟩ rfl (by decide) (fun z14 h14 => ?_)
      refine xcmp_gt 20 ⟨u313E, _, rfl⟩ rfl (fun c17 => ?_) (fun c17 => ?_)
      · omega
      · refine xald 21 ⟨u313E, _, rfl⟩ rfl rfl ?_
        refine xild 22 ⟨u313E, _, rfl⟩ rfl rfl ?_
        refine xcall 25 [.ref 66, .int _] [] hH ⟨u313E, _, rfl⟩ rfl rfl rfl rfl rfl (k_311F hH hB hc bi hw (fun z22 h22 => ⟨_, rfl, ?_⟩))
        refine xist 26 ⟨u313E, _, rfl⟩ rfl rfl ?_
        refine xinc 29 (1) ⟨u313E, _, rfl⟩ rfl rfl rfl (by decide) (by omega) (by omega) (fun z26 h26 => ?_)
        refine xgoto ⟨u313E, _, rfl⟩ ?_
        exact ih (n + 1) _ _ (by omega) (by omega) (by omega) h22 (fun j j1 j2 => by
          by_cases q : j = n
          · rw [q]; omega
          · exact hl j j1 (by omega))
/-- the reference's size of a round -/
theorem k_313E {d V c : Nat} {T : sT} {hp : amH} {R : xQ} {a : Int32} (hH : bHk 84 bTT hp) (hB : rdOk hp V T) (hc : opC V T = 0) (hv : vB V c = true) (ha : a.toInt = (c : Int))
    (hR : ∀ z : Int32, z.toInt = ((pd T c : Nat) : Int) → R (.inl (some (.int z))) hp) : xK (d + 3) 313 [.ref 66, .int a] hp R := by
  refine xin (M := am_m313) rfl rfl rfl ?_
  refine xald 1 ⟨u313E, _, rfl⟩ rfl rfl ?_
  refine xild 2 ⟨u313E, _, rfl⟩ rfl rfl ?_
  refine xcall 5 [.ref 66, .int _] [] hH ⟨u313E, _, rfl⟩ rfl rfl rfl rfl rfl (k_311F hH hB hc hv ha (fun z2 h2 => ⟨_, rfl, ?_⟩))
  refine xist 6 ⟨u313E, _, rfl⟩ rfl rfl ?_
  refine xcst 7 (1) ⟨u313E, _, rfl⟩ rfl (by decide) (fun z6 h6 => ?_)
  refine xist 8 ⟨u313E, _, rfl⟩ rfl rfl ?_
  exact l313E hH hB hc hv ha hR 455 1 _ _ h6 (by omega) (by omega) h2 (fun j j1 j2 => by omega)
end
/-! ##### q40 ##### -/
section
/-! ===== trainsTo on both sides ===== -/
theorem u151 : bUp 0 am_m151.1 = true := by decide +kernel
theorem k_151E {d V n : Nat} {h : Nat → sR} {sv : Option sR} {T : sT} {ty : Nat → Int} {hp : amH} {R : xQ} {a b c : Int32} (hH : bHk 84 bTT hp) (hS : clS hp (V, T, ty) n h sv)
    (hT : ∀ E hp1, bHk 84 bTT hp1 → cF hp hp1 → clS hp1 (V, T, ty) n h sv → ¬ gTn V T a.toInt b.toInt c.toInt = 0 → ((gTn V T a.toInt b.toInt c.toInt = 1 ∧ E = 1) ∨ (gTn V T a.toInt b.toInt c.toInt = 2 ∧ E = 0) ∨ (gTn V T a.toInt b.toInt c.toInt = 3 ∧ E = 2)) → R (.inr E) hp1)
    (hR : ∀ (z : Int32) hp1, bHk 84 bTT hp1 → cF hp hp1 → gTn V T a.toInt b.toInt c.toInt = 0 → clS hp1 (V, T, ty) n h sv → z.toInt = ((arN V T (cod a.toInt.toNat b.toInt.toNat c.toInt.toNat) 4096 : Nat) : Int) → R (.inl (some (.int z))) hp1) : xK (d + 6) 151 [.ref 0, .int a, .int b, .int c] hp R := by
  have hB : bdOk hp 3 V T := hS.1
  have b0 : rN hp 3 0 = (V : Int) := hB.1
  have hL : lsN hp 3 T 225 := hS.2.1
  have b1 : rN hp 3 1 = (((trL T 225).length : Nat) : Int) := hL.1
  have hT0 : sOk V T := hB.2.1
  have h15 : V ≤ 15 := hT0.2.1
  have l35 : (trL T 225).length ≤ 35 := trL_35 hT0 225
  have nq0 : rN hp 49 0 = ((nQ T : Nat) : Int) := hS.2.2.1.1
  refine xin (M := am_m151) rfl rfl rfl ?_
  refine xald 1 ⟨u151, _, rfl⟩ rfl rfl ?_
  refine xild 2 ⟨u151, _, rfl⟩ rfl rfl ?_
  refine xild 3 ⟨u151, _, rfl⟩ rfl rfl ?_
  refine xild 4 ⟨u151, _, rfl⟩ rfl rfl ?_
  refine xcallT 7 (o := 0) [.int _, .int _, .int _] [] hH ⟨u151, _, rfl⟩ rfl rfl (by decide) rfl (by decide) rfl ⟨rfl, rfl, rfl, rfl⟩ rfl (k_183E hH hB (fun g4 => Or.inl ⟨_, rfl, ?_⟩) (fun g4 => Or.inr ⟨_, rfl, rfl, hT _ hp hH cF.refl hS (by omega) (Or.inl ⟨g4, rfl⟩)⟩) (fun g4 => Or.inr ⟨_, rfl, rfl, hT _ hp hH cF.refl hS (by omega) (Or.inr (Or.inl ⟨g4, rfl⟩))⟩) (fun g4 => Or.inr ⟨_, rfl, rfl, hT _ hp hH cF.refl hS (by omega) (Or.inr (Or.inr ⟨g4, rfl⟩))⟩))
  have k4 := gSet_0.mp (gTn_0.mp g4).1
  have c4 := (gTn_0.mp g4).2
  obtain ⟨x, y, z, s1, s2, s3, em, ec, -⟩ := set_s (a := a.toInt.toNat) (b := b.toInt.toNat) (c := c.toInt.toNat) (by omega) (by omega) (by omega)
  have lz : z < V := by have := (s3 z).mp (Or.inr (Or.inr rfl)); omega
  have ek : cod a.toInt.toNat b.toInt.toNat c.toInt.toNat = 256 * z + 16 * y + x := ec.trans (cod_s s1 s2)
  have hv : vB V (256 * z + 16 * y + x) = true := vB_c h15 s1 s2 lz
  have hr : vN V (256 * z + 16 * y + x) = tet z + tri y + x := vN_c h15 s1 s2 lz
  have hl := vN_lt hv (show 256 * z + 16 * y + x < 4096 by omega)
  have h455 := vN_455 h15
  refine xald 8 ⟨u151, _, rfl⟩ rfl rfl ?_
  refine xgetD 11 (58) hH ⟨u151, _, rfl⟩ rfl (by decide) (by decide) rfl rfl (by decide) ?_
  refine xald 12 ⟨u151, _, rfl⟩ rfl rfl ?_
  refine xgetD 15 (3) hH ⟨u151, _, rfl⟩ rfl (by decide) (by decide) rfl rfl (by decide) ?_
  refine xcallC 18 (o := 58) [.ref 3] [] hH ⟨u151, _, rfl⟩ rfl rfl (by decide) rfl (by decide) rfl ⟨rfl, rfl, rfl, rfl⟩ rfl (k_100E hH hB c4 (fun hp15 hH15 F15 C15 => ⟨_, rfl, ?_⟩))
  have S15 := clS_8 hS (fun c k hc => F15 c k (by simp; omega))
  have G15 : cF hp hp15 := cF_x F15 (by simp)
  have o15 := C15.1
  refine xald 19 ⟨u151, _, rfl⟩ rfl rfl ?_
  refine xgetD 22 (58) hH15 ⟨u151, _, rfl⟩ rfl (by decide) (by decide) rfl rfl (by decide) ?_
  refine xild 23 ⟨u151, _, rfl⟩ rfl rfl ?_
  refine xild 24 ⟨u151, _, rfl⟩ rfl rfl ?_
  refine xild 25 ⟨u151, _, rfl⟩ rfl rfl ?_
  refine xcallS 28 [.int _, .int _, .int _] [.ref 58] hH15 ⟨u151, _, rfl⟩ rfl rfl rfl rfl rfl (k_three (x := a.toInt.toNat) (y := b.toInt.toNat) (z := c.toInt.toNat) (by omega) (by omega) (by omega) (by omega) (by omega) (by omega) (fun z25 h25 => ⟨_, rfl, ?_⟩))
  rw [em] at h25
  refine xcallS 31 [.int _] [.ref 58] hH15 ⟨u151, _, rfl⟩ rfl rfl rfl rfl rfl (k_102E hH15 h25 s1 s2 (by omega) (fun z28 h28 => ⟨_, rfl, ?_⟩))
  rw [← hr] at h28
  refine xcallC 34 (o := 58) [.int _] [] hH15 ⟨u151, _, rfl⟩ rfl rfl (by decide) rfl (by decide) rfl ⟨rfl, rfl, rfl, rfl⟩ rfl (k_103E (r := vN V (256 * z + 16 * y + x)) hH15 o15 h455 h28 hl (fun z31 h31 => ⟨_, rfl, ?_⟩))
  rw [C15.2.2.1 _ hv] at h31
  exact xret ⟨u151, _, rfl⟩ rfl (hR _ _ hH15 G15 g4 S15 (by rw [ek]; exact h31))
theorem ar_no {V : Nat} {T : sT} {k : Nat} (n : Nat) : ∀ j, (∀ m, n ≤ m → m < n + j → ¬ vB V m = true) → arN V T k (n + j) = arN V T k n
  | 0, _ => rfl
  | j + 1, h => by
    rw [← ar_no n j (fun m h1 h2 => h m h1 (by omega))]
    have e : arN V T k (n + j + 1) = arN V T k (n + j) + iv (vB V (n + j) = true ∧ fC T (n + j) = k) := rfl
    show arN V T k (n + j + 1) = _
    rw [e, iv_f (fun w => h (n + j) (by omega) (by omega) w.1)]
    rfl
theorem ar_455 {V : Nat} {T : sT} {k n : Nat} (h15 : V ≤ 15) (hn : n ≤ 4096) : arN V T k n ≤ 455 := by
  have a := arN_le (V := V) (T := T) (c := k) n
  have b := fL_le (B := vB V) hn
  have c := vN_455 h15
  have b : vN V n ≤ vN V 4096 := b
  omega
theorem u312E : bUp 0 am_m312.1 = true := by decide +kernel
theorem l312Ex {d V k : Nat} {T : sT} {hp : amH} {R : xQ} {c : Int32} (hH : bHk 84 bTT hp) (hB : rdOk hp V T) (hc : opC V T = 0) (hk : c.toInt = (k : Int)) {z y : Nat} {wz wy : Int32} (hz : wz.toInt = (z : Int)) (hy : wy.toInt = (y : Int)) (h2 : y < z) (h3 : z < V)
    (hQ : ∀ w wx : Int32, w.toInt = ((arN V T k (256 * z + 16 * (y + 1)) : Nat) : Int) → xV (d + 3) am_m312 61 [some (.ref 66), some (.int c), some (.int w), some (.int wz), some (.int wy), some (.int wx)] [] hp R) :
    ∀ (jj x : Nat) (w wx : Int32), wx.toInt = (x : Int) → x + jj = y → w.toInt = ((arN V T k (256 * z + 16 * y + x) : Nat) : Int) → xV (d + 3) am_m312 24 [some (.ref 66), some (.int c), some (.int w), some (.int wz), some (.int wy), some (.int wx)] [] hp R := by
  have hT := hB.2.1
  have h15 : V ≤ 15 := hT.2.1
  have b0 : rN hp 67 0 = (V : Int) := hB.1
  have h455 := vN_455 h15
  intro jj
  induction jj with
  | zero =>
    intro x w wx hx hj hw
    have ex : x = y := by omega
    subst ex
    have g := ar_no (V := V) (T := T) (k := k) (256 * z + 16 * x + x) (16 - x) (fun j j1 j2 w => by have w := of_decide_eq_true w; omega)
    rw [show 256 * z + 16 * x + x + (16 - x) = 256 * z + 16 * (x + 1) by omega] at g
    refine xild2 26 ⟨u312E, _, rfl⟩ rfl rfl ?_
    refine xild2 28 ⟨u312E, _, rfl⟩ rfl rfl ?_
    refine xcmp_ge 31 ⟨u312E, _, rfl⟩ rfl (fun c28 => ?_) (fun c28 => ?_)
    · exact hQ _ _ (by rw [g]; exact hw)
    · omega
  | succ jj ih =>
    intro x w wx hx hj hw
    have hb := vB_c h15 (show x < y by omega) h2 h3
    have e9 : arN V T k (256 * z + 16 * y + x + 1) = arN V T k (256 * z + 16 * y + x) + iv (vB V (256 * z + 16 * y + x) = true ∧ fC T (256 * z + 16 * y + x) = k) := rfl
    have b9 := ar_455 (T := T) (k := k) h15 (show 256 * z + 16 * y + x ≤ 4096 by omega)
    have ef : fC T (256 * z + 16 * y + x) = nxV T x y z := fC_c (by omega) (by omega)
    have ec : cod z y x = 256 * z + 16 * y + x := by unfold cod; omega
    refine xild2 26 ⟨u312E, _, rfl⟩ rfl rfl ?_
    refine xild2 28 ⟨u312E, _, rfl⟩ rfl rfl ?_
    refine xcmp_ge 31 ⟨u312E, _, rfl⟩ rfl (fun c28 => ?_) (fun c28 => ?_)
    · omega
    · refine xild 32 ⟨u312E, _, rfl⟩ rfl rfl ?_
      refine xald 33 ⟨u312E, _, rfl⟩ rfl rfl ?_
      refine xild 34 ⟨u312E, _, rfl⟩ rfl rfl ?_
      refine xild2 36 ⟨u312E, _, rfl⟩ rfl rfl ?_
      refine xild2 38 ⟨u312E, _, rfl⟩ rfl rfl ?_
      refine xcallS 41 [.int _, .int _, .int _] [.ref 66, .int _] hH ⟨u312E, _, rfl⟩ rfl rfl rfl rfl rfl (k_310E hH (x := z) (y := y) (z := x) hz hy hx (by omega) (by omega) (by omega) (fun z38 h38 => ⟨_, rfl, ?_⟩))
      rw [ec] at h38
      refine xcall 44 [.ref 66, .int _] [.int _] hH ⟨u312E, _, rfl⟩ rfl rfl rfl rfl rfl (k_311E hH hB hc h38 (by omega) h2 h3 (fun z41 h41 => ⟨_, rfl, ?_⟩))
      rw [← ef] at h41
      refine xild 45 ⟨u312E, _, rfl⟩ rfl rfl ?_
      refine xcmp_ne 48 ⟨u312E, _, rfl⟩ rfl (fun c45 => ?_) (fun c45 => ?_)
      · refine xcst 53 (0) ⟨u312E, _, rfl⟩ rfl (by decide) (fun z52 h52 => ?_)
        refine xadd 54 _ ⟨u312E, _, rfl⟩ rfl rfl (by omega) (by omega) (fun z53 h53 => ?_)
        refine xist 55 ⟨u312E, _, rfl⟩ rfl rfl ?_
        refine xinc 58 (1) ⟨u312E, _, rfl⟩ rfl rfl rfl (by decide) (by omega) (by omega) (fun z55 h55 => ?_)
        refine xgoto ⟨u312E, _, rfl⟩ ?_
        rw [iv_f (p := vB V (256 * z + 16 * y + x) = true ∧ fC T (256 * z + 16 * y + x) = k) (fun w => by have w := w.2; omega)] at e9
        exact ih (x + 1) _ _ (by omega) (by omega) (by show _ = ((arN V T k (256 * z + 16 * y + x + 1) : Nat) : Int); omega)
      · refine xcst 49 (1) ⟨u312E, _, rfl⟩ rfl (by decide) (fun z48 h48 => ?_)
        refine xgoto ⟨u312E, _, rfl⟩ ?_
        refine xadd 54 _ ⟨u312E, _, rfl⟩ rfl rfl (by omega) (by omega) (fun z53 h53 => ?_)
        refine xist 55 ⟨u312E, _, rfl⟩ rfl rfl ?_
        refine xinc 58 (1) ⟨u312E, _, rfl⟩ rfl rfl rfl (by decide) (by omega) (by omega) (fun z55 h55 => ?_)
        refine xgoto ⟨u312E, _, rfl⟩ ?_
        rw [iv_t (p := vB V (256 * z + 16 * y + x) = true ∧ fC T (256 * z + 16 * y + x) = k) ⟨hb, by omega⟩] at e9
        exact ih (x + 1) _ _ (by omega) (by omega) (by show _ = ((arN V T k (256 * z + 16 * y + x + 1) : Nat) : Int); omega)
theorem l312Ey {d V k : Nat} {T : sT} {hp : amH} {R : xQ} {c : Int32} (hH : bHk 84 bTT hp) (hB : rdOk hp V T) (hc : opC V T = 0) (hk : c.toInt = (k : Int)) {z : Nat} {wz : Int32} (hz : wz.toInt = (z : Int)) (h3 : z < V)
    (hQ : ∀ (w wy : Int32) (v5 : Option Value), w.toInt = ((arN V T k (256 * (z + 1)) : Nat) : Int) → xV (d + 3) am_m312 67 [some (.ref 66), some (.int c), some (.int w), some (.int wz), some (.int wy), v5] [] hp R) :
    ∀ (jj y : Nat) (w wy : Int32) (v5 : Option Value), wy.toInt = (y : Int) → y + jj = z → w.toInt = ((arN V T k (256 * z + 16 * y) : Nat) : Int) → xV (d + 3) am_m312 15 [some (.ref 66), some (.int c), some (.int w), some (.int wz), some (.int wy), v5] [] hp R := by
  have hT := hB.2.1
  have h15 : V ≤ 15 := hT.2.1
  have b0 : rN hp 67 0 = (V : Int) := hB.1
  have h455 := vN_455 h15
  intro jj
  induction jj with
  | zero =>
    intro y w wy v5 hy hj hw
    have g := ar_no (V := V) (T := T) (k := k) (256 * z + 16 * y) (256 - 16 * y) (fun j j1 j2 w => by have w := of_decide_eq_true w; omega)
    rw [show 256 * z + 16 * y + (256 - 16 * y) = 256 * (z + 1) by omega] at g
    refine xild2 17 ⟨u312E, _, rfl⟩ rfl rfl ?_
    refine xild 18 ⟨u312E, _, rfl⟩ rfl rfl ?_
    refine xcmp_ge 21 ⟨u312E, _, rfl⟩ rfl (fun c18 => ?_) (fun c18 => ?_)
    · exact hQ _ _ _ (by rw [g]; exact hw)
    · omega
  | succ jj ih =>
    intro y w wy v5 hy hj hw
    refine xild2 17 ⟨u312E, _, rfl⟩ rfl rfl ?_
    refine xild 18 ⟨u312E, _, rfl⟩ rfl rfl ?_
    refine xcmp_ge 21 ⟨u312E, _, rfl⟩ rfl (fun c18 => ?_) (fun c18 => ?_)
    · omega
    · refine xcst 22 (0) ⟨u312E, _, rfl⟩ rfl (by decide) (fun z21 h21 => ?_)
      refine xist2 24 ⟨u312E, _, rfl⟩ rfl rfl ?_
      refine l312Ex hH hB hc hk hz hy (by omega) h3 (fun w1 xx r1 => ?_) y 0 _ _ h21 (by omega) hw
      refine xinc 64 (1) ⟨u312E, _, rfl⟩ rfl rfl rfl (by decide) (by omega) (by omega) (fun z61 h61 => ?_)
      refine xgoto ⟨u312E, _, rfl⟩ ?_
      exact ih (y + 1) _ _ _ (by omega) (by omega) r1
theorem l312Ez {d V k : Nat} {T : sT} {hp : amH} {R : xQ} {c : Int32} (hH : bHk 84 bTT hp) (hB : rdOk hp V T) (hc : opC V T = 0) (hk : c.toInt = (k : Int))
    (hR : ∀ w : Int32, w.toInt = ((arN V T k 4096 : Nat) : Int) → R (.inl (some (.int w))) hp) :
    ∀ (jj z : Nat) (w wz : Int32) (v4 v5 : Option Value), wz.toInt = (z : Int) → z + jj = V → w.toInt = ((arN V T k (256 * z) : Nat) : Int) → xV (d + 3) am_m312 4 [some (.ref 66), some (.int c), some (.int w), some (.int wz), v4, v5] [] hp R := by
  have hT := hB.2.1
  have h15 : V ≤ 15 := hT.2.1
  have b0 : rN hp 67 0 = (V : Int) := hB.1
  have h455 := vN_455 h15
  intro jj
  induction jj with
  | zero =>
    intro z w wz v4 v5 hz hj hw
    have g := ar_no (V := V) (T := T) (k := k) (256 * z) (4096 - 256 * z) (fun j j1 j2 w => by have w := of_decide_eq_true w; omega)
    rw [show 256 * z + (4096 - 256 * z) = 4096 by omega] at g
    refine xild 5 ⟨u312E, _, rfl⟩ rfl rfl ?_
    refine xald 6 ⟨u312E, _, rfl⟩ rfl rfl ?_
    refine xcall 9 [.ref 66] [.int _] hH ⟨u312E, _, rfl⟩ rfl rfl rfl rfl rfl (k_points hH (fun z6 h6 => ⟨_, rfl, ?_⟩))
    refine xcmp_ge 12 ⟨u312E, _, rfl⟩ rfl (fun c9 => ?_) (fun c9 => ?_)
    · refine xild 74 ⟨u312E, _, rfl⟩ rfl rfl ?_
      exact xret ⟨u312E, _, rfl⟩ rfl (hR _ (by rw [g]; exact hw))
    · omega
  | succ jj ih =>
    intro z w wz v4 v5 hz hj hw
    refine xild 5 ⟨u312E, _, rfl⟩ rfl rfl ?_
    refine xald 6 ⟨u312E, _, rfl⟩ rfl rfl ?_
    refine xcall 9 [.ref 66] [.int _] hH ⟨u312E, _, rfl⟩ rfl rfl rfl rfl rfl (k_points hH (fun z6 h6 => ⟨_, rfl, ?_⟩))
    refine xcmp_ge 12 ⟨u312E, _, rfl⟩ rfl (fun c9 => ?_) (fun c9 => ?_)
    · omega
    · refine xcst 13 (0) ⟨u312E, _, rfl⟩ rfl (by decide) (fun z12 h12 => ?_)
      refine xist2 15 ⟨u312E, _, rfl⟩ rfl rfl ?_
      refine l312Ey hH hB hc hk hz (by omega) (fun w1 xy v5 r1 => ?_) z 0 _ _ _ h12 (by omega) hw
      refine xinc 70 (1) ⟨u312E, _, rfl⟩ rfl rfl rfl (by decide) (by omega) (by omega) (fun z67 h67 => ?_)
      refine xgoto ⟨u312E, _, rfl⟩ ?_
      exact ih (z + 1) _ _ _ _ (by omega) (by omega) r1
theorem k_312E {d V k : Nat} {T : sT} {hp : amH} {R : xQ} {c : Int32} (hH : bHk 84 bTT hp) (hB : rdOk hp V T) (hc : opC V T = 0) (hk : c.toInt = (k : Int))
    (hR : ∀ w : Int32, w.toInt = ((arN V T k 4096 : Nat) : Int) → R (.inl (some (.int w))) hp) : xK (d + 3) 312 [.ref 66, .int c] hp R := by
  refine xin (M := am_m312) rfl rfl rfl ?_
  refine xcst 1 (0) ⟨u312E, _, rfl⟩ rfl (by decide) (fun z0 h0 => ?_)
  refine xist 2 ⟨u312E, _, rfl⟩ rfl rfl ?_
  refine xcst 3 (0) ⟨u312E, _, rfl⟩ rfl (by decide) (fun z2 h2 => ?_)
  refine xist 4 ⟨u312E, _, rfl⟩ rfl rfl ?_
  refine xpad 2 ?_
  exact l312Ez hH hB hc hk hR V 0 _ _ _ _ h2 (by omega) h0
theorem k_315E {d V n : Nat} {h : Nat → sR} {sv : Option sR} {T : sT} {ty : Nat → Int} {hp : amH} {R : xQ} {a b c : Int32} (hH : bHk 84 bTT hp) (hP : P0 hp) (hS : rfS hp (V, T, ty) n h sv)
    (hR : ∀ (z : Int32) hp1, bHk 84 bTT hp1 → P0 hp1 → bFr wM hp hp1 → rN hp1 66 7 = gTn V T a.toInt b.toInt c.toInt → ((¬ gTn V T a.toInt b.toInt c.toInt = 0 ∧ rfS hp1 (V, T, ty) n h sv) ∨ (gTn V T a.toInt b.toInt c.toInt = 0 ∧ rfS hp1 (V, T, ty) n h sv ∧ z.toInt = ((arN V T (cod a.toInt.toNat b.toInt.toNat c.toInt.toNat) 4096 : Nat) : Int))) → R (.inl (some (.int z))) hp1) : xK (d + 8) 315 [.ref 66, .int a, .int b, .int c] hp R := by
  have hB : rdOk hp V T := rowOk_rd hS.1
  have b0 : rN hp 67 0 = (V : Int) := hB.1
  have hT0 : sOk V T := hB.2.1
  have h15 : V ≤ 15 := hT0.2.1
  have l35 : (trL T 225).length ≤ 35 := trL_35 hT0 225
  refine xin (M := am_m315) rfl rfl rfl ?_
  refine xald 1 ⟨u315, _, rfl⟩ rfl rfl ?_
  refine xild 2 ⟨u315, _, rfl⟩ rfl rfl ?_
  refine xild 3 ⟨u315, _, rfl⟩ rfl rfl ?_
  refine xild 4 ⟨u315, _, rfl⟩ rfl rfl ?_
  refine xcall 7 [.ref 66, .int _, .int _, .int _] [] hH ⟨u315, _, rfl⟩ rfl rfl rfl rfl rfl (k_309E hH hP hS (fun z4 hp4 hH4 P4 F4 S4 t4 o4 => ⟨_, rfl, ?_⟩))
  refine xif_eq 10 ⟨u315, _, rfl⟩ rfl (fun c7 => ?_) (fun c7 => ?_)
  · have g4 : gTn V T a.toInt b.toInt c.toInt = 0 := by omega
    have k4 := gSet_0.mp (gTn_0.mp g4).1
    have c4 := (gTn_0.mp g4).2
    refine xald 15 ⟨u315, _, rfl⟩ rfl rfl ?_
    refine xild 16 ⟨u315, _, rfl⟩ rfl rfl ?_
    refine xild 17 ⟨u315, _, rfl⟩ rfl rfl ?_
    refine xild 18 ⟨u315, _, rfl⟩ rfl rfl ?_
    refine xcallS 21 [.int _, .int _, .int _] [.ref 66] hH4 ⟨u315, _, rfl⟩ rfl rfl rfl rfl rfl (k_310E hH4 (x := a.toInt.toNat) (y := b.toInt.toNat) (z := c.toInt.toNat) (by omega) (by omega) (by omega) (by omega) (by omega) (by omega) (fun z18 h18 => ⟨_, rfl, ?_⟩))
    refine xcall 24 [.ref 66, .int _] [] hH4 ⟨u315, _, rfl⟩ rfl rfl rfl rfl rfl (k_312E hH4 (show rdOk hp4 V T from rowOk_rd S4.1) c4 h18 (fun z21 h21 => ⟨_, rfl, ?_⟩))
    exact xret ⟨u315, _, rfl⟩ rfl (hR _ hp4 hH4 P4 (bFr_sub F4 (by decide)) t4 (Or.inr ⟨g4, S4, h21⟩))
  · refine xcst 11 (0) ⟨u315, _, rfl⟩ rfl (by decide) (fun z10 h10 => ?_)
    refine xgoto ⟨u315, _, rfl⟩ ?_
    exact xret ⟨u315, _, rfl⟩ rfl (hR _ hp4 hH4 P4 (bFr_sub F4 (by decide)) t4 (Or.inl ⟨by omega, S4⟩))
theorem h372E {d : Nat} {hp : amH} {R : cQ} {x1 x2 x3 : Int32} {V n : Nat} {h : Nat → sR} {sv : Option sR} {T : sT} {ty : Nat → Int} (hI : lawI hp) (c : clS hp (V, T, ty) n h sv) (r : rfS hp (V, T, ty) n h sv)
    (hR : ∀ (z : Int32) hp1 mc ms, lawI hp1 → rfS hp1 (V, T, ty) n h sv → z.toInt = gTn V T x1.toInt x2.toInt x3.toInt → ((¬ gTn V T x1.toInt x2.toInt x3.toInt = 0 ∧ clS hp1 (V, T, ty) n h sv) ∨ (gTn V T x1.toInt x2.toInt x3.toInt = 0 ∧ clS hp1 (V, T, ty) n h sv ∧ rJ hp1 83 0 = ((arN V T (cod x1.toInt.toNat x2.toInt.toNat x3.toInt.toNat) 4096 : Nat) : Int))) → mc ≤ 1 → ms ≤ 6 → R (.inl (some (.int z))) hp1 mc ms) : cK (d + 20) 372 [.ref 0, .int x1, .int x2, .int x3, .ref 83] hp R := by
  refine cin (M := am_m372) rfl rfl rfl ?_
  refine cald2 2 ⟨u372J, _, rfl⟩ rfl rfl ?_
  refine ccst 3 (0) ⟨u372J, _, rfl⟩ rfl (by decide) (fun z2 h2 => ?_)
  refine cald 4 ⟨u372J, _, rfl⟩ rfl rfl ?_
  refine cild 5 ⟨u372J, _, rfl⟩ rfl rfl ?_
  refine cild 6 ⟨u372J, _, rfl⟩ rfl rfl ?_
  refine cild 7 ⟨u372J, _, rfl⟩ rfl rfl ?_
  refine ccall (kd := 0) (t := 3) [.ref 0, .int _, .int _, .int _] [.int _, .ref 83] hI.1 ⟨u372J, _, rfl⟩ (Or.inl ⟨_, rfl, rfl, by decide, by decide⟩) rfl rfl rfl ⟨rfl, rfl, rfl⟩ rfl (recv0 hI.1 _) rfl (qKE (Φ := fun z hp1 => bHk 84 bTT hp1 ∧ cF hp hp1 ∧ gTn V T x1.toInt x2.toInt x3.toInt = 0 ∧ clS hp1 (V, T, ty) n h sv ∧ z.toInt = ((arN V T (cod x1.toInt.toNat x2.toInt.toNat x3.toInt.toNat) 4096 : Nat) : Int)) (Ψ := fun E hp1 => lawI hp1 ∧ rfS hp1 (V, T, ty) n h sv ∧ clS hp1 (V, T, ty) n h sv ∧ ¬ gTn V T x1.toInt x2.toInt x3.toInt = 0 ∧ ((gTn V T x1.toInt x2.toInt x3.toInt = 1 ∧ E = 1) ∨ (gTn V T x1.toInt x2.toInt x3.toInt = 2 ∧ E = 0) ∨ (gTn V T x1.toInt x2.toInt x3.toInt = 3 ∧ E = 2))) (fun R g1 g2 => k_151E (d := d + 13) hI.1 c (fun E hp1 b1 b2 b3 e1 e2 => g2 E hp1 ⟨law_cl hI b1 b2, cF_rf b2 r, b3, e1, e2⟩) (fun z hp1 a1 a2 a3 a4 a5 => g1 z hp1 ⟨a1, a2, a3, a4, a5⟩)) (fun z hp1 φ => Or.inl ⟨_, rfl, ?_⟩) (fun E hp1 ψ => Or.inr ?_))
  · refine ci2lE 11 ⟨u372J, _, rfl⟩ rfl (fun w hw => ?_)
    refine clastE 12 φ.1 ⟨u372J, _, rfl⟩ rfl h2 (fun hp2 hH2 F2 J2 => ?_)
    refine cgoto ⟨u372J, _, rfl⟩ ?_
    refine ccst 28 (0) ⟨u372J, _, rfl⟩ rfl (by decide) (fun z9 h9 => ?_)
    exact cret ⟨u372J, _, rfl⟩ (Or.inl rfl) (hR _ _ _ _ (lawI_83 (law_cl hI φ.1 φ.2.1) hH2 F2) (rf_83 F2 (cF_rf φ.2.1 r)) (by rw [φ.2.2.1]; exact h9) (Or.inr ⟨φ.2.2.1, cl_83 F2 φ.2.2.2.1, by rw [J2, hw]; exact φ.2.2.2.2⟩) (by decide) (by decide))
  · obtain ⟨ψ0, ψr, ψc, ψ1, ψ2⟩ := ψ
    rcases ψ2 with ⟨ce, rfl⟩ | ⟨ce, rfl⟩ | ⟨ce, rfl⟩
    · refine ⟨1, 15, 5, 17, rfl, rfl, rfl, rfl, ?_⟩
      refine ccst 18 (1) ⟨u372J, _, rfl⟩ rfl (by decide) (fun z9 h9 => ?_)
      exact cret ⟨u372J, _, rfl⟩ (Or.inl rfl) (hR _ _ _ _ ψ0 ψr (by rw [ce]; exact h9) (Or.inl ⟨ψ1, ψc⟩) (by decide) (by decide))
    · refine ⟨0, 19, 5, 21, rfl, rfl, rfl, rfl, ?_⟩
      refine ccst 22 (2) ⟨u372J, _, rfl⟩ rfl (by decide) (fun z9 h9 => ?_)
      exact cret ⟨u372J, _, rfl⟩ (Or.inl rfl) (hR _ _ _ _ ψ0 ψr (by rw [ce]; exact h9) (Or.inl ⟨ψ1, ψc⟩) (by decide) (by decide))
    · refine ⟨2, 23, 5, 25, rfl, rfl, rfl, rfl, ?_⟩
      refine ccst 26 (3) ⟨u372J, _, rfl⟩ rfl (by decide) (fun z9 h9 => ?_)
      exact cret ⟨u372J, _, rfl⟩ (Or.inl rfl) (hR _ _ _ _ ψ0 ψr (by rw [ce]; exact h9) (Or.inl ⟨ψ1, ψc⟩) (by decide) (by decide))
end
/-! ##### q41 ##### -/
section
/-! ===== tail on both sides ===== -/
theorem u152 : bUp 0 am_m152.1 = true := by decide +kernel
theorem k_152E {d V n : Nat} {h : Nat → sR} {sv : Option sR} {T : sT} {ty : Nat → Int} {hp : amH} {R : xQ} {a b c : Int32} (hH : bHk 84 bTT hp) (hS : clS hp (V, T, ty) n h sv)
    (hT : ∀ E hp1, bHk 84 bTT hp1 → cF hp hp1 → clS hp1 (V, T, ty) n h sv → ¬ gTn V T a.toInt b.toInt c.toInt = 0 → ((gTn V T a.toInt b.toInt c.toInt = 1 ∧ E = 1) ∨ (gTn V T a.toInt b.toInt c.toInt = 2 ∧ E = 0) ∨ (gTn V T a.toInt b.toInt c.toInt = 3 ∧ E = 2)) → R (.inr E) hp1)
    (hR : ∀ (z : Int32) hp1, bHk 84 bTT hp1 → cF hp hp1 → gTn V T a.toInt b.toInt c.toInt = 0 → clS hp1 (V, T, ty) n h sv → z.toInt = ((tl T (cod a.toInt.toNat b.toInt.toNat c.toInt.toNat) : Nat) : Int) → R (.inl (some (.int z))) hp1) : xK (d + 6) 152 [.ref 0, .int a, .int b, .int c] hp R := by
  have hB : bdOk hp 3 V T := hS.1
  have b0 : rN hp 3 0 = (V : Int) := hB.1
  have hL : lsN hp 3 T 225 := hS.2.1
  have b1 : rN hp 3 1 = (((trL T 225).length : Nat) : Int) := hL.1
  have hT0 : sOk V T := hB.2.1
  have h15 : V ≤ 15 := hT0.2.1
  have l35 : (trL T 225).length ≤ 35 := trL_35 hT0 225
  have nq0 : rN hp 49 0 = ((nQ T : Nat) : Int) := hS.2.2.1.1
  refine xin (M := am_m152) rfl rfl rfl ?_
  refine xald 1 ⟨u152, _, rfl⟩ rfl rfl ?_
  refine xild 2 ⟨u152, _, rfl⟩ rfl rfl ?_
  refine xild 3 ⟨u152, _, rfl⟩ rfl rfl ?_
  refine xild 4 ⟨u152, _, rfl⟩ rfl rfl ?_
  refine xcallT 7 (o := 0) [.int _, .int _, .int _] [] hH ⟨u152, _, rfl⟩ rfl rfl (by decide) rfl (by decide) rfl ⟨rfl, rfl, rfl, rfl⟩ rfl (k_183E hH hB (fun g4 => Or.inl ⟨_, rfl, ?_⟩) (fun g4 => Or.inr ⟨_, rfl, rfl, hT _ hp hH cF.refl hS (by omega) (Or.inl ⟨g4, rfl⟩)⟩) (fun g4 => Or.inr ⟨_, rfl, rfl, hT _ hp hH cF.refl hS (by omega) (Or.inr (Or.inl ⟨g4, rfl⟩))⟩) (fun g4 => Or.inr ⟨_, rfl, rfl, hT _ hp hH cF.refl hS (by omega) (Or.inr (Or.inr ⟨g4, rfl⟩))⟩))
  have k4 := gSet_0.mp (gTn_0.mp g4).1
  have c4 := (gTn_0.mp g4).2
  obtain ⟨x, y, z, s1, s2, s3, em, ec, -⟩ := set_s (a := a.toInt.toNat) (b := b.toInt.toNat) (c := c.toInt.toNat) (by omega) (by omega) (by omega)
  have lz : z < V := by have := (s3 z).mp (Or.inr (Or.inr rfl)); omega
  have ek : cod a.toInt.toNat b.toInt.toNat c.toInt.toNat = 256 * z + 16 * y + x := ec.trans (cod_s s1 s2)
  have hv : vB V (256 * z + 16 * y + x) = true := vB_c h15 s1 s2 lz
  have hr : vN V (256 * z + 16 * y + x) = tet z + tri y + x := vN_c h15 s1 s2 lz
  have hl := vN_lt hv (show 256 * z + 16 * y + x < 4096 by omega)
  have h455 := vN_455 h15
  refine xald 8 ⟨u152, _, rfl⟩ rfl rfl ?_
  refine xgetD 11 (58) hH ⟨u152, _, rfl⟩ rfl (by decide) (by decide) rfl rfl (by decide) ?_
  refine xald 12 ⟨u152, _, rfl⟩ rfl rfl ?_
  refine xgetD 15 (3) hH ⟨u152, _, rfl⟩ rfl (by decide) (by decide) rfl rfl (by decide) ?_
  refine xcallC 18 (o := 58) [.ref 3] [] hH ⟨u152, _, rfl⟩ rfl rfl (by decide) rfl (by decide) rfl ⟨rfl, rfl, rfl, rfl⟩ rfl (k_100E hH hB c4 (fun hp15 hH15 F15 C15 => ⟨_, rfl, ?_⟩))
  have S15 := clS_8 hS (fun c k hc => F15 c k (by simp; omega))
  have G15 : cF hp hp15 := cF_x F15 (by simp)
  have o15 := C15.1
  refine xald 19 ⟨u152, _, rfl⟩ rfl rfl ?_
  refine xgetD 22 (58) hH15 ⟨u152, _, rfl⟩ rfl (by decide) (by decide) rfl rfl (by decide) ?_
  refine xild 23 ⟨u152, _, rfl⟩ rfl rfl ?_
  refine xild 24 ⟨u152, _, rfl⟩ rfl rfl ?_
  refine xild 25 ⟨u152, _, rfl⟩ rfl rfl ?_
  refine xcallS 28 [.int _, .int _, .int _] [.ref 58] hH15 ⟨u152, _, rfl⟩ rfl rfl rfl rfl rfl (k_three (x := a.toInt.toNat) (y := b.toInt.toNat) (z := c.toInt.toNat) (by omega) (by omega) (by omega) (by omega) (by omega) (by omega) (fun z25 h25 => ⟨_, rfl, ?_⟩))
  rw [em] at h25
  refine xcallS 31 [.int _] [.ref 58] hH15 ⟨u152, _, rfl⟩ rfl rfl rfl rfl rfl (k_102E hH15 h25 s1 s2 (by omega) (fun z28 h28 => ⟨_, rfl, ?_⟩))
  rw [← hr] at h28
  refine xcallC 34 (o := 58) [.int _] [] hH15 ⟨u152, _, rfl⟩ rfl rfl (by decide) rfl (by decide) rfl ⟨rfl, rfl, rfl, rfl⟩ rfl (k_108E (c := 256 * z + 16 * y + x) hH15 hT0 c4 (trM_C h15 C15) hv h28 (fun z31 hp31 hH31 F31 h31 => ⟨_, rfl, ?_⟩))
  exact xret ⟨u152, _, rfl⟩ rfl (hR _ hp31 hH31 (G15.trans (cF_x F31 (by simp))) g4 (clS_8 S15 (fun c k hc => F31 c k (by simp; omega))) (by rw [ek]; exact h31))
theorem u316E : bUp 0 am_m316.1 = true := by decide +kernel
theorem l316E {d V k : Nat} {T : sT} {hp : amH} {R : xQ} {a b c : Int32} (hH : bHk 84 bTT hp) (hB : rdOk hp V T) (hc : opC V T = 0) (hv : vB V k = true)
    (hR : ∀ z : Int32, z.toInt = ((tl T k : Nat) : Int) → R (.inl (some (.int z))) hp) :
    ∀ (jj t : Nat) (wat wn : Int32), t + jj = tl T k → wat.toInt = ((itF (fC T) t k : Nat) : Int) → wn.toInt = (t : Int) → xV (d + 4) am_m316 23 [some (.ref 66), some (.int a), some (.int b), some (.int c), some (.int wn), some (.int wat)] [] hp R := by
  have hT := hB.2.1
  have h455 := vN_455 hT.2.1
  obtain ⟨t1, t2, t3⟩ := tl_s hT hc hv
  intro jj
  induction jj with
  | zero =>
    intro t wat wn hj hw hn
    have et : t = tl T k := by omega
    have bi := itF_B hT hc hv t
    rw [← et] at t2
    refine xald 24 ⟨u316E, _, rfl⟩ rfl rfl ?_
    refine xild2 26 ⟨u316E, _, rfl⟩ rfl rfl ?_
    refine xcall 29 [.ref 66, .int _] [] hH ⟨u316E, _, rfl⟩ rfl rfl rfl rfl rfl (k_313E hH hB hc bi hw (fun z26 h26 => ⟨_, rfl, ?_⟩))
    refine xif_ne 32 ⟨u316E, _, rfl⟩ rfl (fun c29 => ?_) (fun c29 => ?_)
    · refine xild2 48 ⟨u316E, _, rfl⟩ rfl rfl ?_
      exact xret ⟨u316E, _, rfl⟩ rfl (hR _ (by rw [← et]; exact hn))
    · omega
  | succ jj ih =>
    intro t wat wn hj hw hn
    have bi := itF_B hT hc hv t
    have t3 := t3 t (by omega)
    refine xald 24 ⟨u316E, _, rfl⟩ rfl rfl ?_
    refine xild2 26 ⟨u316E, _, rfl⟩ rfl rfl ?_
    refine xcall 29 [.ref 66, .int _] [] hH ⟨u316E, _, rfl⟩ rfl rfl rfl rfl rfl (k_313E hH hB hc bi hw (fun z26 h26 => ⟨_, rfl, ?_⟩))
    refine xif_ne 32 ⟨u316E, _, rfl⟩ rfl (fun c29 => ?_) (fun c29 => ?_)
    · omega
    · refine xinc 35 (1) ⟨u316E, _, rfl⟩ rfl rfl rfl (by decide) (by omega) (by omega) (fun z32 h32 => ?_)
      refine xald 36 ⟨u316E, _, rfl⟩ rfl rfl ?_
      refine xild2 38 ⟨u316E, _, rfl⟩ rfl rfl ?_
      refine xcall 41 [.ref 66, .int _] [] hH ⟨u316E, _, rfl⟩ rfl rfl rfl rfl rfl (k_311F hH hB hc bi hw (fun z38 h38 => ⟨_, rfl, ?_⟩))
      refine xist2 43 ⟨u316E, _, rfl⟩ rfl rfl ?_
      refine xgoto ⟨u316E, _, rfl⟩ ?_
      exact ih (t + 1) _ _ (by omega) h38 (by omega)
theorem k_316E {d V n : Nat} {h : Nat → sR} {sv : Option sR} {T : sT} {ty : Nat → Int} {hp : amH} {R : xQ} {a b c : Int32} (hH : bHk 84 bTT hp) (hP : P0 hp) (hS : rfS hp (V, T, ty) n h sv)
    (hR : ∀ (z : Int32) hp1, bHk 84 bTT hp1 → P0 hp1 → bFr wM hp hp1 → rN hp1 66 7 = gTn V T a.toInt b.toInt c.toInt → ((¬ gTn V T a.toInt b.toInt c.toInt = 0 ∧ rfS hp1 (V, T, ty) n h sv) ∨ (gTn V T a.toInt b.toInt c.toInt = 0 ∧ rfS hp1 (V, T, ty) n h sv ∧ z.toInt = ((tl T (cod a.toInt.toNat b.toInt.toNat c.toInt.toNat) : Nat) : Int))) → R (.inl (some (.int z))) hp1) : xK (d + 8) 316 [.ref 66, .int a, .int b, .int c] hp R := by
  have hB : rdOk hp V T := rowOk_rd hS.1
  have b0 : rN hp 67 0 = (V : Int) := hB.1
  have hT0 : sOk V T := hB.2.1
  have h15 : V ≤ 15 := hT0.2.1
  have l35 : (trL T 225).length ≤ 35 := trL_35 hT0 225
  refine xin (M := am_m316) rfl rfl rfl ?_
  refine xald 1 ⟨u316, _, rfl⟩ rfl rfl ?_
  refine xild 2 ⟨u316, _, rfl⟩ rfl rfl ?_
  refine xild 3 ⟨u316, _, rfl⟩ rfl rfl ?_
  refine xild 4 ⟨u316, _, rfl⟩ rfl rfl ?_
  refine xcall 7 [.ref 66, .int _, .int _, .int _] [] hH ⟨u316, _, rfl⟩ rfl rfl rfl rfl rfl (k_309E hH hP hS (fun z4 hp4 hH4 P4 F4 S4 t4 o4 => ⟨_, rfl, ?_⟩))
  refine xif_eq 10 ⟨u316, _, rfl⟩ rfl (fun c7 => ?_) (fun c7 => ?_)
  · have g4 : gTn V T a.toInt b.toInt c.toInt = 0 := by omega
    have k4 := gSet_0.mp (gTn_0.mp g4).1
    have c4 := (gTn_0.mp g4).2
    obtain ⟨x, y, z, s1, s2, s3, -, ec, -⟩ := set_s (a := a.toInt.toNat) (b := b.toInt.toNat) (c := c.toInt.toNat) (by omega) (by omega) (by omega)
    have lz : z < V := by have := (s3 z).mp (Or.inr (Or.inr rfl)); omega
    have ek : cod a.toInt.toNat b.toInt.toNat c.toInt.toNat = 256 * z + 16 * y + x := ec.trans (cod_s s1 s2)
    have hv : vB V (cod a.toInt.toNat b.toInt.toNat c.toInt.toNat) = true := by rw [ek]; exact vB_c h15 s1 s2 lz
    obtain ⟨t1, t2, t3⟩ := tl_s hT0 c4 hv
    refine xcst 13 (0) ⟨u316, _, rfl⟩ rfl (by decide) (fun z12 h12 => ?_)
    refine xist2 15 ⟨u316, _, rfl⟩ rfl rfl ?_
    refine xild 16 ⟨u316, _, rfl⟩ rfl rfl ?_
    refine xild 17 ⟨u316, _, rfl⟩ rfl rfl ?_
    refine xild 18 ⟨u316, _, rfl⟩ rfl rfl ?_
    refine xcallS 21 [.int _, .int _, .int _] [] hH4 ⟨u316, _, rfl⟩ rfl rfl rfl rfl rfl (k_310E hH4 (x := a.toInt.toNat) (y := b.toInt.toNat) (z := c.toInt.toNat) (by omega) (by omega) (by omega) (by omega) (by omega) (by omega) (fun z18 h18 => ⟨_, rfl, ?_⟩))
    refine xist2 23 ⟨u316, _, rfl⟩ rfl rfl ?_
    exact l316E hH4 (show rdOk hp4 V T from rowOk_rd S4.1) c4 hv (fun z e => hR z hp4 hH4 P4 (bFr_sub F4 (by decide)) t4 (Or.inr ⟨g4, S4, e⟩)) (tl T (cod a.toInt.toNat b.toInt.toNat c.toInt.toNat)) 0 _ _ (by omega) h18 h12
  · refine xcst 11 (0) ⟨u316, _, rfl⟩ rfl (by decide) (fun z10 h10 => ?_)
    exact xret ⟨u316, _, rfl⟩ rfl (hR _ hp4 hH4 P4 (bFr_sub F4 (by decide)) t4 (Or.inl ⟨by omega, S4⟩))
theorem h373E {d : Nat} {hp : amH} {R : cQ} {x1 x2 x3 : Int32} {V n : Nat} {h : Nat → sR} {sv : Option sR} {T : sT} {ty : Nat → Int} (hI : lawI hp) (c : clS hp (V, T, ty) n h sv) (r : rfS hp (V, T, ty) n h sv)
    (hR : ∀ (z : Int32) hp1 mc ms, lawI hp1 → rfS hp1 (V, T, ty) n h sv → z.toInt = gTn V T x1.toInt x2.toInt x3.toInt → ((¬ gTn V T x1.toInt x2.toInt x3.toInt = 0 ∧ clS hp1 (V, T, ty) n h sv) ∨ (gTn V T x1.toInt x2.toInt x3.toInt = 0 ∧ clS hp1 (V, T, ty) n h sv ∧ rJ hp1 83 0 = ((tl T (cod x1.toInt.toNat x2.toInt.toNat x3.toInt.toNat) : Nat) : Int))) → mc ≤ 1 → ms ≤ 6 → R (.inl (some (.int z))) hp1 mc ms) : cK (d + 20) 373 [.ref 0, .int x1, .int x2, .int x3, .ref 83] hp R := by
  refine cin (M := am_m373) rfl rfl rfl ?_
  refine cald2 2 ⟨u373J, _, rfl⟩ rfl rfl ?_
  refine ccst 3 (0) ⟨u373J, _, rfl⟩ rfl (by decide) (fun z2 h2 => ?_)
  refine cald 4 ⟨u373J, _, rfl⟩ rfl rfl ?_
  refine cild 5 ⟨u373J, _, rfl⟩ rfl rfl ?_
  refine cild 6 ⟨u373J, _, rfl⟩ rfl rfl ?_
  refine cild 7 ⟨u373J, _, rfl⟩ rfl rfl ?_
  refine ccall (kd := 0) (t := 3) [.ref 0, .int _, .int _, .int _] [.int _, .ref 83] hI.1 ⟨u373J, _, rfl⟩ (Or.inl ⟨_, rfl, rfl, by decide, by decide⟩) rfl rfl rfl ⟨rfl, rfl, rfl⟩ rfl (recv0 hI.1 _) rfl (qKE (Φ := fun z hp1 => bHk 84 bTT hp1 ∧ cF hp hp1 ∧ gTn V T x1.toInt x2.toInt x3.toInt = 0 ∧ clS hp1 (V, T, ty) n h sv ∧ z.toInt = ((tl T (cod x1.toInt.toNat x2.toInt.toNat x3.toInt.toNat) : Nat) : Int)) (Ψ := fun E hp1 => lawI hp1 ∧ rfS hp1 (V, T, ty) n h sv ∧ clS hp1 (V, T, ty) n h sv ∧ ¬ gTn V T x1.toInt x2.toInt x3.toInt = 0 ∧ ((gTn V T x1.toInt x2.toInt x3.toInt = 1 ∧ E = 1) ∨ (gTn V T x1.toInt x2.toInt x3.toInt = 2 ∧ E = 0) ∨ (gTn V T x1.toInt x2.toInt x3.toInt = 3 ∧ E = 2))) (fun R g1 g2 => k_152E (d := d + 13) hI.1 c (fun E hp1 b1 b2 b3 e1 e2 => g2 E hp1 ⟨law_cl hI b1 b2, cF_rf b2 r, b3, e1, e2⟩) (fun z hp1 a1 a2 a3 a4 a5 => g1 z hp1 ⟨a1, a2, a3, a4, a5⟩)) (fun z hp1 φ => Or.inl ⟨_, rfl, ?_⟩) (fun E hp1 ψ => Or.inr ?_))
  · refine ci2lE 11 ⟨u373J, _, rfl⟩ rfl (fun w hw => ?_)
    refine clastE 12 φ.1 ⟨u373J, _, rfl⟩ rfl h2 (fun hp2 hH2 F2 J2 => ?_)
    refine cgoto ⟨u373J, _, rfl⟩ ?_
    refine ccst 28 (0) ⟨u373J, _, rfl⟩ rfl (by decide) (fun z9 h9 => ?_)
    exact cret ⟨u373J, _, rfl⟩ (Or.inl rfl) (hR _ _ _ _ (lawI_83 (law_cl hI φ.1 φ.2.1) hH2 F2) (rf_83 F2 (cF_rf φ.2.1 r)) (by rw [φ.2.2.1]; exact h9) (Or.inr ⟨φ.2.2.1, cl_83 F2 φ.2.2.2.1, by rw [J2, hw]; exact φ.2.2.2.2⟩) (by decide) (by decide))
  · obtain ⟨ψ0, ψr, ψc, ψ1, ψ2⟩ := ψ
    rcases ψ2 with ⟨ce, rfl⟩ | ⟨ce, rfl⟩ | ⟨ce, rfl⟩
    · refine ⟨1, 15, 5, 17, rfl, rfl, rfl, rfl, ?_⟩
      refine ccst 18 (1) ⟨u373J, _, rfl⟩ rfl (by decide) (fun z9 h9 => ?_)
      exact cret ⟨u373J, _, rfl⟩ (Or.inl rfl) (hR _ _ _ _ ψ0 ψr (by rw [ce]; exact h9) (Or.inl ⟨ψ1, ψc⟩) (by decide) (by decide))
    · refine ⟨0, 19, 5, 21, rfl, rfl, rfl, rfl, ?_⟩
      refine ccst 22 (2) ⟨u373J, _, rfl⟩ rfl (by decide) (fun z9 h9 => ?_)
      exact cret ⟨u373J, _, rfl⟩ (Or.inl rfl) (hR _ _ _ _ ψ0 ψr (by rw [ce]; exact h9) (Or.inl ⟨ψ1, ψc⟩) (by decide) (by decide))
    · refine ⟨2, 23, 5, 25, rfl, rfl, rfl, rfl, ?_⟩
      refine ccst 26 (3) ⟨u373J, _, rfl⟩ rfl (by decide) (fun z9 h9 => ?_)
      exact cret ⟨u373J, _, rfl⟩ (Or.inl rfl) (hR _ _ _ _ ψ0 ψr (by rw [ce]; exact h9) (Or.inl ⟨ψ1, ψc⟩) (by decide) (by decide))
end
/-! ##### q42 ##### -/
section
/-! ===== roundOf on both sides ===== -/
theorem u153 : bUp 0 am_m153.1 = true := by decide +kernel
theorem k_153E {d V n : Nat} {h : Nat → sR} {sv : Option sR} {T : sT} {ty : Nat → Int} {hp : amH} {R : xQ} {a b c : Int32} (hH : bHk 84 bTT hp) (hS : clS hp (V, T, ty) n h sv)
    (hT : ∀ E hp1, bHk 84 bTT hp1 → cF hp hp1 → clS hp1 (V, T, ty) n h sv → ¬ gTn V T a.toInt b.toInt c.toInt = 0 → ((gTn V T a.toInt b.toInt c.toInt = 1 ∧ E = 1) ∨ (gTn V T a.toInt b.toInt c.toInt = 2 ∧ E = 0) ∨ (gTn V T a.toInt b.toInt c.toInt = 3 ∧ E = 2)) → R (.inr E) hp1)
    (hR : ∀ (z : Int32) hp1, bHk 84 bTT hp1 → cF hp hp1 → gTn V T a.toInt b.toInt c.toInt = 0 → clS hp1 (V, T, ty) n h sv → z.toInt = ((pd T (eN V T (cod a.toInt.toNat b.toInt.toNat c.toInt.toNat)) : Nat) : Int) → R (.inl (some (.int z))) hp1) : xK (d + 6) 153 [.ref 0, .int a, .int b, .int c] hp R := by
  have hB : bdOk hp 3 V T := hS.1
  have b0 : rN hp 3 0 = (V : Int) := hB.1
  have hL : lsN hp 3 T 225 := hS.2.1
  have b1 : rN hp 3 1 = (((trL T 225).length : Nat) : Int) := hL.1
  have hT0 : sOk V T := hB.2.1
  have h15 : V ≤ 15 := hT0.2.1
  have l35 : (trL T 225).length ≤ 35 := trL_35 hT0 225
  have nq0 : rN hp 49 0 = ((nQ T : Nat) : Int) := hS.2.2.1.1
  refine xin (M := am_m153) rfl rfl rfl ?_
  refine xald 1 ⟨u153, _, rfl⟩ rfl rfl ?_
  refine xild 2 ⟨u153, _, rfl⟩ rfl rfl ?_
  refine xild 3 ⟨u153, _, rfl⟩ rfl rfl ?_
  refine xild 4 ⟨u153, _, rfl⟩ rfl rfl ?_
  refine xcallT 7 (o := 0) [.int _, .int _, .int _] [] hH ⟨u153, _, rfl⟩ rfl rfl (by decide) rfl (by decide) rfl ⟨rfl, rfl, rfl, rfl⟩ rfl (k_183E hH hB (fun g4 => Or.inl ⟨_, rfl, ?_⟩) (fun g4 => Or.inr ⟨_, rfl, rfl, hT _ hp hH cF.refl hS (by omega) (Or.inl ⟨g4, rfl⟩)⟩) (fun g4 => Or.inr ⟨_, rfl, rfl, hT _ hp hH cF.refl hS (by omega) (Or.inr (Or.inl ⟨g4, rfl⟩))⟩) (fun g4 => Or.inr ⟨_, rfl, rfl, hT _ hp hH cF.refl hS (by omega) (Or.inr (Or.inr ⟨g4, rfl⟩))⟩))
  have k4 := gSet_0.mp (gTn_0.mp g4).1
  have c4 := (gTn_0.mp g4).2
  obtain ⟨x, y, z, s1, s2, s3, em, ec, -⟩ := set_s (a := a.toInt.toNat) (b := b.toInt.toNat) (c := c.toInt.toNat) (by omega) (by omega) (by omega)
  have lz : z < V := by have := (s3 z).mp (Or.inr (Or.inr rfl)); omega
  have ek : cod a.toInt.toNat b.toInt.toNat c.toInt.toNat = 256 * z + 16 * y + x := ec.trans (cod_s s1 s2)
  have hv : vB V (256 * z + 16 * y + x) = true := vB_c h15 s1 s2 lz
  have hr : vN V (256 * z + 16 * y + x) = tet z + tri y + x := vN_c h15 s1 s2 lz
  have hl := vN_lt hv (show 256 * z + 16 * y + x < 4096 by omega)
  have h455 := vN_455 h15
  refine xald 8 ⟨u153, _, rfl⟩ rfl rfl ?_
  refine xgetD 11 (58) hH ⟨u153, _, rfl⟩ rfl (by decide) (by decide) rfl rfl (by decide) ?_
  refine xald 12 ⟨u153, _, rfl⟩ rfl rfl ?_
  refine xgetD 15 (3) hH ⟨u153, _, rfl⟩ rfl (by decide) (by decide) rfl rfl (by decide) ?_
  refine xcallC 18 (o := 58) [.ref 3] [] hH ⟨u153, _, rfl⟩ rfl rfl (by decide) rfl (by decide) rfl ⟨rfl, rfl, rfl, rfl⟩ rfl (k_100E hH hB c4 (fun hp15 hH15 F15 C15 => ⟨_, rfl, ?_⟩))
  have S15 := clS_8 hS (fun c k hc => F15 c k (by simp; omega))
  have G15 : cF hp hp15 := cF_x F15 (by simp)
  have o15 := C15.1
  refine xald 19 ⟨u153, _, rfl⟩ rfl rfl ?_
  refine xgetD 22 (58) hH15 ⟨u153, _, rfl⟩ rfl (by decide) (by decide) rfl rfl (by decide) ?_
  refine xild 23 ⟨u153, _, rfl⟩ rfl rfl ?_
  refine xild 24 ⟨u153, _, rfl⟩ rfl rfl ?_
  refine xild 25 ⟨u153, _, rfl⟩ rfl rfl ?_
  refine xcallS 28 [.int _, .int _, .int _] [.ref 58] hH15 ⟨u153, _, rfl⟩ rfl rfl rfl rfl rfl (k_three (x := a.toInt.toNat) (y := b.toInt.toNat) (z := c.toInt.toNat) (by omega) (by omega) (by omega) (by omega) (by omega) (by omega) (fun z25 h25 => ⟨_, rfl, ?_⟩))
  rw [em] at h25
  refine xcallS 31 [.int _] [.ref 58] hH15 ⟨u153, _, rfl⟩ rfl rfl rfl rfl rfl (k_102E hH15 h25 s1 s2 (by omega) (fun z28 h28 => ⟨_, rfl, ?_⟩))
  rw [← hr] at h28
  refine xcallC 34 (o := 58) [.int _] [] hH15 ⟨u153, _, rfl⟩ rfl rfl (by decide) rfl (by decide) rfl ⟨rfl, rfl, rfl, rfl⟩ rfl (k_107E (c := 256 * z + 16 * y + x) hH15 hT0 c4 (trM_C h15 C15) hv h28 (fun z31 hp31 hH31 F31 M31 h31 => ⟨_, rfl, ?_⟩))
  exact xret ⟨u153, _, rfl⟩ rfl (hR _ hp31 hH31 (G15.trans (cF_x F31 (by simp))) g4 (clS_8 S15 (fun c k hc => F31 c k (by simp; omega))) (by rw [ek]; exact h31))
theorem u317E : bUp 0 am_m317.1 = true := by decide +kernel
theorem l317E {d V k : Nat} {T : sT} {hp : amH} {R : xQ} {a b c : Int32} (hH : bHk 84 bTT hp) (hB : rdOk hp V T) (hc : opC V T = 0) (hv : vB V k = true)
    (hR : ∀ z : Int32, z.toInt = ((pd T (eN V T k) : Nat) : Int) → R (.inl (some (.int z))) hp) :
    ∀ (jj t : Nat) (wat : Int32), t + jj = tl T k → wat.toInt = ((itF (fC T) t k : Nat) : Int) → xV (d + 4) am_m317 20 [some (.ref 66), some (.int a), some (.int b), some (.int c), some (.int wat)] [] hp R := by
  have hT := hB.2.1
  have h455 := vN_455 hT.2.1
  obtain ⟨t1, t2, t3⟩ := tl_s hT hc hv
  intro jj
  induction jj with
  | zero =>
    intro t wat hj hw
    have et : t = tl T k := by omega
    have bi := itF_B hT hc hv t
    rw [← et] at t2
    refine xald 21 ⟨u317E, _, rfl⟩ rfl rfl ?_
    refine xild2 23 ⟨u317E, _, rfl⟩ rfl rfl ?_
    refine xcall 26 [.ref 66, .int _] [] hH ⟨u317E, _, rfl⟩ rfl rfl rfl rfl rfl (k_313E hH hB hc bi hw (fun z23 h23 => ⟨_, rfl, ?_⟩))
    refine xif_ne 29 ⟨u317E, _, rfl⟩ rfl (fun c26 => ?_) (fun c26 => ?_)
    · refine xald 41 ⟨u317E, _, rfl⟩ rfl rfl ?_
      refine xild2 43 ⟨u317E, _, rfl⟩ rfl rfl ?_
      refine xcall 46 [.ref 66, .int _] [] hH ⟨u317E, _, rfl⟩ rfl rfl rfl rfl rfl (k_313E hH hB hc bi hw (fun z43 h43 => ⟨_, rfl, ?_⟩))
      exact xret ⟨u317E, _, rfl⟩ rfl (hR _ (by rw [← pd_tl hT hc hv, ← et]; exact h43))
    · omega
  | succ jj ih =>
    intro t wat hj hw
    have bi := itF_B hT hc hv t
    have t3 := t3 t (by omega)
    refine xald 21 ⟨u317E, _, rfl⟩ rfl rfl ?_
    refine xild2 23 ⟨u317E, _, rfl⟩ rfl rfl ?_
    refine xcall 26 [.ref 66, .int _] [] hH ⟨u317E, _, rfl⟩ rfl rfl rfl rfl rfl (k_313E hH hB hc bi hw (fun z23 h23 => ⟨_, rfl, ?_⟩))
    refine xif_ne 29 ⟨u317E, _, rfl⟩ rfl (fun c26 => ?_) (fun c26 => ?_)
    · omega
    · refine xald 30 ⟨u317E, _, rfl⟩ rfl rfl ?_
      refine xild2 32 ⟨u317E, _, rfl⟩ rfl rfl ?_
      refine xcall 35 [.ref 66, .int _] [] hH ⟨u317E, _, rfl⟩ rfl rfl rfl rfl rfl (k_311F hH hB hc bi hw (fun z32 h32 => ⟨_, rfl, ?_⟩))
      refine xist2 37 ⟨u317E, _, rfl⟩ rfl rfl ?_
      refine xgoto ⟨u317E, _, rfl⟩ ?_
      exact ih (t + 1) _ (by omega) h32
theorem k_317E {d V n : Nat} {h : Nat → sR} {sv : Option sR} {T : sT} {ty : Nat → Int} {hp : amH} {R : xQ} {a b c : Int32} (hH : bHk 84 bTT hp) (hP : P0 hp) (hS : rfS hp (V, T, ty) n h sv)
    (hR : ∀ (z : Int32) hp1, bHk 84 bTT hp1 → P0 hp1 → bFr wM hp hp1 → rN hp1 66 7 = gTn V T a.toInt b.toInt c.toInt → ((¬ gTn V T a.toInt b.toInt c.toInt = 0 ∧ rfS hp1 (V, T, ty) n h sv) ∨ (gTn V T a.toInt b.toInt c.toInt = 0 ∧ rfS hp1 (V, T, ty) n h sv ∧ z.toInt = ((pd T (eN V T (cod a.toInt.toNat b.toInt.toNat c.toInt.toNat)) : Nat) : Int))) → R (.inl (some (.int z))) hp1) : xK (d + 8) 317 [.ref 66, .int a, .int b, .int c] hp R := by
  have hB : rdOk hp V T := rowOk_rd hS.1
  have b0 : rN hp 67 0 = (V : Int) := hB.1
  have hT0 : sOk V T := hB.2.1
  have h15 : V ≤ 15 := hT0.2.1
  have l35 : (trL T 225).length ≤ 35 := trL_35 hT0 225
  refine xin (M := am_m317) rfl rfl rfl ?_
  refine xald 1 ⟨u317, _, rfl⟩ rfl rfl ?_
  refine xild 2 ⟨u317, _, rfl⟩ rfl rfl ?_
  refine xild 3 ⟨u317, _, rfl⟩ rfl rfl ?_
  refine xild 4 ⟨u317, _, rfl⟩ rfl rfl ?_
  refine xcall 7 [.ref 66, .int _, .int _, .int _] [] hH ⟨u317, _, rfl⟩ rfl rfl rfl rfl rfl (k_309E hH hP hS (fun z4 hp4 hH4 P4 F4 S4 t4 o4 => ⟨_, rfl, ?_⟩))
  refine xif_eq 10 ⟨u317, _, rfl⟩ rfl (fun c7 => ?_) (fun c7 => ?_)
  · have g4 : gTn V T a.toInt b.toInt c.toInt = 0 := by omega
    have k4 := gSet_0.mp (gTn_0.mp g4).1
    have c4 := (gTn_0.mp g4).2
    obtain ⟨x, y, z, s1, s2, s3, -, ec, -⟩ := set_s (a := a.toInt.toNat) (b := b.toInt.toNat) (c := c.toInt.toNat) (by omega) (by omega) (by omega)
    have lz : z < V := by have := (s3 z).mp (Or.inr (Or.inr rfl)); omega
    have ek : cod a.toInt.toNat b.toInt.toNat c.toInt.toNat = 256 * z + 16 * y + x := ec.trans (cod_s s1 s2)
    have hv : vB V (cod a.toInt.toNat b.toInt.toNat c.toInt.toNat) = true := by rw [ek]; exact vB_c h15 s1 s2 lz
    obtain ⟨t1, t2, t3⟩ := tl_s hT0 c4 hv
    refine xild 13 ⟨u317, _, rfl⟩ rfl rfl ?_
    refine xild 14 ⟨u317, _, rfl⟩ rfl rfl ?_
    refine xild 15 ⟨u317, _, rfl⟩ rfl rfl ?_
    refine xcallS 18 [.int _, .int _, .int _] [] hH4 ⟨u317, _, rfl⟩ rfl rfl rfl rfl rfl (k_310E hH4 (x := a.toInt.toNat) (y := b.toInt.toNat) (z := c.toInt.toNat) (by omega) (by omega) (by omega) (by omega) (by omega) (by omega) (fun z15 h15r => ⟨_, rfl, ?_⟩))
    refine xist2 20 ⟨u317, _, rfl⟩ rfl rfl ?_
    exact l317E hH4 (show rdOk hp4 V T from rowOk_rd S4.1) c4 hv (fun z e => hR z hp4 hH4 P4 (bFr_sub F4 (by decide)) t4 (Or.inr ⟨g4, S4, e⟩)) (tl T (cod a.toInt.toNat b.toInt.toNat c.toInt.toNat)) 0 _ (by omega) h15r
  · refine xcst 11 (0) ⟨u317, _, rfl⟩ rfl (by decide) (fun z10 h10 => ?_)
    exact xret ⟨u317, _, rfl⟩ rfl (hR _ hp4 hH4 P4 (bFr_sub F4 (by decide)) t4 (Or.inl ⟨by omega, S4⟩))
theorem h374E {d : Nat} {hp : amH} {R : cQ} {x1 x2 x3 : Int32} {V n : Nat} {h : Nat → sR} {sv : Option sR} {T : sT} {ty : Nat → Int} (hI : lawI hp) (c : clS hp (V, T, ty) n h sv) (r : rfS hp (V, T, ty) n h sv)
    (hR : ∀ (z : Int32) hp1 mc ms, lawI hp1 → rfS hp1 (V, T, ty) n h sv → z.toInt = gTn V T x1.toInt x2.toInt x3.toInt → ((¬ gTn V T x1.toInt x2.toInt x3.toInt = 0 ∧ clS hp1 (V, T, ty) n h sv) ∨ (gTn V T x1.toInt x2.toInt x3.toInt = 0 ∧ clS hp1 (V, T, ty) n h sv ∧ rJ hp1 83 0 = ((pd T (eN V T (cod x1.toInt.toNat x2.toInt.toNat x3.toInt.toNat)) : Nat) : Int))) → mc ≤ 1 → ms ≤ 6 → R (.inl (some (.int z))) hp1 mc ms) : cK (d + 20) 374 [.ref 0, .int x1, .int x2, .int x3, .ref 83] hp R := by
  refine cin (M := am_m374) rfl rfl rfl ?_
  refine cald2 2 ⟨u374J, _, rfl⟩ rfl rfl ?_
  refine ccst 3 (0) ⟨u374J, _, rfl⟩ rfl (by decide) (fun z2 h2 => ?_)
  refine cald 4 ⟨u374J, _, rfl⟩ rfl rfl ?_
  refine cild 5 ⟨u374J, _, rfl⟩ rfl rfl ?_
  refine cild 6 ⟨u374J, _, rfl⟩ rfl rfl ?_
  refine cild 7 ⟨u374J, _, rfl⟩ rfl rfl ?_
  refine ccall (kd := 0) (t := 3) [.ref 0, .int _, .int _, .int _] [.int _, .ref 83] hI.1 ⟨u374J, _, rfl⟩ (Or.inl ⟨_, rfl, rfl, by decide, by decide⟩) rfl rfl rfl ⟨rfl, rfl, rfl⟩ rfl (recv0 hI.1 _) rfl (qKE (Φ := fun z hp1 => bHk 84 bTT hp1 ∧ cF hp hp1 ∧ gTn V T x1.toInt x2.toInt x3.toInt = 0 ∧ clS hp1 (V, T, ty) n h sv ∧ z.toInt = ((pd T (eN V T (cod x1.toInt.toNat x2.toInt.toNat x3.toInt.toNat)) : Nat) : Int)) (Ψ := fun E hp1 => lawI hp1 ∧ rfS hp1 (V, T, ty) n h sv ∧ clS hp1 (V, T, ty) n h sv ∧ ¬ gTn V T x1.toInt x2.toInt x3.toInt = 0 ∧ ((gTn V T x1.toInt x2.toInt x3.toInt = 1 ∧ E = 1) ∨ (gTn V T x1.toInt x2.toInt x3.toInt = 2 ∧ E = 0) ∨ (gTn V T x1.toInt x2.toInt x3.toInt = 3 ∧ E = 2))) (fun R g1 g2 => k_153E (d := d + 13) hI.1 c (fun E hp1 b1 b2 b3 e1 e2 => g2 E hp1 ⟨law_cl hI b1 b2, cF_rf b2 r, b3, e1, e2⟩) (fun z hp1 a1 a2 a3 a4 a5 => g1 z hp1 ⟨a1, a2, a3, a4, a5⟩)) (fun z hp1 φ => Or.inl ⟨_, rfl, ?_⟩) (fun E hp1 ψ => Or.inr ?_))
  · refine ci2lE 11 ⟨u374J, _, rfl⟩ rfl (fun w hw => ?_)
    refine clastE 12 φ.1 ⟨u374J, _, rfl⟩ rfl h2 (fun hp2 hH2 F2 J2 => ?_)
    refine cgoto ⟨u374J, _, rfl⟩ ?_
    refine ccst 28 (0) ⟨u374J, _, rfl⟩ rfl (by decide) (fun z9 h9 => ?_)
    exact cret ⟨u374J, _, rfl⟩ (Or.inl rfl) (hR _ _ _ _ (lawI_83 (law_cl hI φ.1 φ.2.1) hH2 F2) (rf_83 F2 (cF_rf φ.2.1 r)) (by rw [φ.2.2.1]; exact h9) (Or.inr ⟨φ.2.2.1, cl_83 F2 φ.2.2.2.1, by rw [J2, hw]; exact φ.2.2.2.2⟩) (by decide) (by decide))
  · obtain ⟨ψ0, ψr, ψc, ψ1, ψ2⟩ := ψ
    rcases ψ2 with ⟨ce, rfl⟩ | ⟨ce, rfl⟩ | ⟨ce, rfl⟩
    · refine ⟨1, 15, 5, 17, rfl, rfl, rfl, rfl, ?_⟩
      refine ccst 18 (1) ⟨u374J, _, rfl⟩ rfl (by decide) (fun z9 h9 => ?_)
      exact cret ⟨u374J, _, rfl⟩ (Or.inl rfl) (hR _ _ _ _ ψ0 ψr (by rw [ce]; exact h9) (Or.inl ⟨ψ1, ψc⟩) (by decide) (by decide))
    · refine ⟨0, 19, 5, 21, rfl, rfl, rfl, rfl, ?_⟩
      refine ccst 22 (2) ⟨u374J, _, rfl⟩ rfl (by decide) (fun z9 h9 => ?_)
      exact cret ⟨u374J, _, rfl⟩ (Or.inl rfl) (hR _ _ _ _ ψ0 ψr (by rw [ce]; exact h9) (Or.inl ⟨ψ1, ψc⟩) (by decide) (by decide))
    · refine ⟨2, 23, 5, 25, rfl, rfl, rfl, rfl, ?_⟩
      refine ccst 26 (3) ⟨u374J, _, rfl⟩ rfl (by decide) (fun z9 h9 => ?_)
      exact cret ⟨u374J, _, rfl⟩ (Or.inl rfl) (hR _ _ _ _ ψ0 ψr (by rw [ce]; exact h9) (Or.inl ⟨ψ1, ψc⟩) (by decide) (by decide))
end
/-! ##### q43 ##### -/
section
/-! ===== trainProfile on both sides ===== -/
/-- how many sets before a code are of a kind -/
def pfG (V : Nat) (P : Nat → Prop) [DecidablePred P] (n : Nat) : Nat := sm (fun m => iv (vB V m = true ∧ P m)) n
theorem pf_no {V : Nat} {P : Nat → Prop} [DecidablePred P] (n : Nat) : ∀ j, (∀ m, n ≤ m → m < n + j → ¬ vB V m = true) → pfG V P (n + j) = pfG V P n
  | 0, _ => rfl
  | j + 1, h => by
    rw [← pf_no n j (fun m h1 h2 => h m h1 (by omega))]
    have e : pfG V P (n + j + 1) = pfG V P (n + j) + iv (vB V (n + j) = true ∧ P (n + j)) := rfl
    show pfG V P (n + j + 1) = _
    rw [e, iv_f (fun w => h (n + j) (by omega) (by omega) w.1)]
    rfl
theorem pf_le {V : Nat} {P : Nat → Prop} [DecidablePred P] : ∀ n, pfG V P n ≤ vN V n
  | 0 => Nat.le_refl _
  | n + 1 => by
    have ih := pf_le (V := V) (P := P) n
    have e : pfG V P (n + 1) = pfG V P n + iv (vB V n = true ∧ P n) := rfl
    have l : iv (vB V n = true ∧ P n) ≤ 1 := iv_le
    by_cases g : vB V n = true
    · have e2 : vN V (n + 1) = vN V n + 1 := by
        show (fL (vB V) (n + 1)).length = _
        rw [fL_add g, List.length_append, List.length_singleton]
      omega
    · have e2 : vN V (n + 1) = vN V n := by
        show (fL (vB V) (n + 1)).length = _
        rw [fL_skip g]
      rw [iv_f (p := vB V n = true ∧ P n) (fun w => g w.1)] at e
      omega
theorem pf_455 {V n : Nat} {P : Nat → Prop} [DecidablePred P] (h15 : V ≤ 15) (hn : n ≤ 4096) : pfG V P n ≤ 455 := by
  have a := pf_le (V := V) (P := P) n
  have b := fL_le (B := vB V) hn
  have c := vN_455 h15
  have b : vN V n ≤ vN V 4096 := b
  omega
theorem pf_S {V : Nat} {P : Nat → Prop} [DecidablePred P] : sm (fun q => iv (P ((fL (vB V) 4096).getD q 0))) (fL (vB V) 4096).length = pfG V P 4096 := by
  have e := cP_smL (h := fun x => decide (P x)) (fL (vB V) 4096)
  have e2 := fL_cP (B := vB V) (h := fun x => decide (P x)) 4096
  unfold pfG
  rw [sm_ext (g := fun i => iv (vB V i = true ∧ decide (P i) = true)) 4096 (fun i _ => iv_eq (by rw [decide_eq_true_iff])), ← e2, e]
  exact sm_ext _ (fun i _ => iv_eq (by rw [decide_eq_true_iff]))
def gCm (V : Nat) (T : sT) : Int := if opC V T = 0 then 0 else 1
theorem gCm_0 {V : Nat} {T : sT} : gCm V T = 0 ↔ opC V T = 0 := by
  unfold gCm
  split
  · next h => exact ⟨fun _ => h, fun _ => rfl⟩
  · next h => exact ⟨fun w => absurd w (by decide), fun w => absurd w h⟩
theorem gCm_1 {V : Nat} {T : sT} (h : ¬ opC V T = 0) : gCm V T = 1 := if_neg h
/-- the reference asks whether the system is complete -/
theorem ic_0 {V : Nat} {T : sT} {z : Int32} (h : z.toInt = icV V T) : (¬ z.toInt = 0 → opC V T = 0) ∧ (z.toInt = 0 → ¬ opC V T = 0) := by
  unfold icV at h
  split at h
  · next g => exact ⟨fun _ => g, fun w => by omega⟩
  · next g => exact ⟨fun w => by omega, fun _ => g⟩
abbrev tpN (V : Nat) (T : sT) (s : Int) (n : Nat) : Nat := pfG V (fun m => ((arN V T m 4096 : Nat) : Int) = s) n
theorem u109 : bUp 0 am_m109.1 = true := by decide +kernel
theorem l109E {d V : Nat} {T : sT} {hp : amH} {R : xQ} {a : Int32} (hH : bHk 84 bTT hp) (h15 : V ≤ 15) (C : trC hp V T 4096)
    (hR : ∀ z : Int32, z.toInt = ((tpN V T a.toInt 4096 : Nat) : Int) → R (.inl (some (.int z))) hp) :
    ∀ (jj i : Nat) (w wi : Int32), wi.toInt = (i : Int) → i + jj = vN V 4096 → w.toInt = ((sm (fun q => iv (((arN V T ((fL (vB V) 4096).getD q 0) 4096 : Nat) : Int) = a.toInt)) i : Nat) : Int) → xV (d + 1) am_m109 4 [some (.ref 58), some (.int a), some (.int w), some (.int wi)] [] hp R := by
  have h455 := vN_455 h15
  have o0 := C.1
  intro jj
  induction jj with
  | zero =>
    intro i w wi hi hj hw
    have ei : i = (fL (vB V) 4096).length := by show i = vN V 4096; omega
    rw [ei, pf_S (P := fun m => ((arN V T m 4096 : Nat) : Int) = a.toInt)] at hw
    refine xild 5 ⟨u109, _, rfl⟩ rfl rfl ?_
    refine xald 6 ⟨u109, _, rfl⟩ rfl rfl ?_
    refine xgetC 9 hH ⟨u109, _, rfl⟩ rfl (by decide) (by decide) rfl rfl (by decide) (fun z6 h6 => ?_)
    refine xcmp_ge 12 ⟨u109, _, rfl⟩ rfl (fun c9 => ?_) (fun c9 => ?_)
    · refine xild 31 ⟨u109, _, rfl⟩ rfl rfl ?_
      exact xret ⟨u109, _, rfl⟩ rfl (hR _ hw)
    · omega
  | succ jj ih =>
    intro i w wi hi hj hw
    obtain ⟨g1, g2, g3⟩ := fL_get (B := vB V) 4096 i (show i < vN V 4096 by omega)
    have g3 : vN V ((fL (vB V) 4096).getD i 0) = i := g3
    have k3 := C.2.2.1 _ g1
    rw [g3] at k3
    have e3 : sm (fun q => iv (((arN V T ((fL (vB V) 4096).getD q 0) 4096 : Nat) : Int) = a.toInt)) (i + 1) = sm (fun q => iv (((arN V T ((fL (vB V) 4096).getD q 0) 4096 : Nat) : Int) = a.toInt)) i + iv (((arN V T ((fL (vB V) 4096).getD i 0) 4096 : Nat) : Int) = a.toInt) := rfl
    have kl := dg_leC (f := fun q => iv (((arN V T ((fL (vB V) 4096).getD q 0) 4096 : Nat) : Int) = a.toInt)) (fun i => iv_le) i
    refine xild 5 ⟨u109, _, rfl⟩ rfl rfl ?_
    refine xald 6 ⟨u109, _, rfl⟩ rfl rfl ?_
    refine xgetC 9 hH ⟨u109, _, rfl⟩ rfl (by decide) (by decide) rfl rfl (by decide) (fun z6 h6 => ?_)
    refine xcmp_ge 12 ⟨u109, _, rfl⟩ rfl (fun c9 => ?_) (fun c9 => ?_)
    · omega
    · refine xald 13 ⟨u109, _, rfl⟩ rfl rfl ?_
      refine xild 14 ⟨u109, _, rfl⟩ rfl rfl ?_
      refine xcallC 17 (o := 58) [.int _] [] hH ⟨u109, _, rfl⟩ rfl rfl (by decide) rfl (by decide) rfl ⟨rfl, rfl, rfl, rfl⟩ rfl (k_103E (r := i) hH o0 h455 hi (by omega) (fun z14 h14 => ⟨_, rfl, ?_⟩))
      rw [k3] at h14
      refine xild 18 ⟨u109, _, rfl⟩ rfl rfl ?_
      refine xcmp_ne 21 ⟨u109, _, rfl⟩ rfl (fun c18 => ?_) (fun c18 => ?_)
      · refine xinc 27 (1) ⟨u109, _, rfl⟩ rfl rfl rfl (by decide) (by omega) (by omega) (fun z24 h24 => ?_)
        refine xgoto ⟨u109, _, rfl⟩ ?_
        rw [iv_f (p := ((arN V T ((fL (vB V) 4096).getD i 0) 4096 : Nat) : Int) = a.toInt) (by omega)] at e3
        exact ih (i + 1) _ _ (by omega) (by omega) (by omega)
      · refine xinc 24 (1) ⟨u109, _, rfl⟩ rfl rfl rfl (by decide) (by omega) (by omega) (fun z21 h21 => ?_)
        refine xinc 27 (1) ⟨u109, _, rfl⟩ rfl rfl rfl (by decide) (by omega) (by omega) (fun z24 h24 => ?_)
        refine xgoto ⟨u109, _, rfl⟩ ?_
        rw [iv_t (p := ((arN V T ((fL (vB V) 4096).getD i 0) 4096 : Nat) : Int) = a.toInt) (by omega)] at e3
        exact ih (i + 1) _ _ (by omega) (by omega) (by omega)
theorem k_109E {d V : Nat} {T : sT} {hp : amH} {R : xQ} {a : Int32} (hH : bHk 84 bTT hp) (h15 : V ≤ 15) (C : trC hp V T 4096)
    (hR : ∀ z : Int32, z.toInt = ((tpN V T a.toInt 4096 : Nat) : Int) → R (.inl (some (.int z))) hp) : xK (d + 1) 109 [.ref 58, .int a] hp R := by
  refine xin (M := am_m109) rfl rfl rfl ?_
  refine xcst 1 (0) ⟨u109, _, rfl⟩ rfl (by decide) (fun z0 h0 => ?_)
  refine xist 2 ⟨u109, _, rfl⟩ rfl rfl ?_
  refine xcst 3 (0) ⟨u109, _, rfl⟩ rfl (by decide) (fun z2 h2 => ?_)
  refine xist 4 ⟨u109, _, rfl⟩ rfl rfl ?_
  exact l109E hH h15 C hR (vN V 4096) 0 _ _ h2 (by omega) h0
theorem u154 : bUp 0 am_m154.1 = true := by decide +kernel
theorem k_154E {d V n : Nat} {h : Nat → sR} {sv : Option sR} {T : sT} {ty : Nat → Int} {hp : amH} {R : xQ} {a : Int32} (hH : bHk 84 bTT hp) (hS : clS hp (V, T, ty) n h sv)
    (hT : ∀ E hp1, bHk 84 bTT hp1 → cF hp hp1 → clS hp1 (V, T, ty) n h sv → ¬ gCm V T = 0 → ((gCm V T = 1 ∧ E = 2)) → R (.inr E) hp1)
    (hR : ∀ (z : Int32) hp1, bHk 84 bTT hp1 → cF hp hp1 → gCm V T = 0 → clS hp1 (V, T, ty) n h sv → z.toInt = ((tpN V T a.toInt 4096 : Nat) : Int) → R (.inl (some (.int z))) hp1) : xK (d + 6) 154 [.ref 0, .int a] hp R := by
  have hB : bdOk hp 3 V T := hS.1
  have b0 : rN hp 3 0 = (V : Int) := hB.1
  have hL : lsN hp 3 T 225 := hS.2.1
  have b1 : rN hp 3 1 = (((trL T 225).length : Nat) : Int) := hL.1
  have hT0 : sOk V T := hB.2.1
  have h15 : V ≤ 15 := hT0.2.1
  have l35 : (trL T 225).length ≤ 35 := trL_35 hT0 225
  have nq0 : rN hp 49 0 = ((nQ T : Nat) : Int) := hS.2.2.1.1
  refine xin (M := am_m154) rfl rfl rfl ?_
  refine xald 1 ⟨u154, _, rfl⟩ rfl rfl ?_
  refine xcallT 4 (o := 0) [] [] hH ⟨u154, _, rfl⟩ rfl rfl (by decide) rfl (by decide) rfl ⟨rfl, rfl, rfl, rfl⟩ rfl (k_182E hH hB (fun k1 => Or.inl ⟨_, rfl, ?_⟩) (fun k1 => Or.inr ⟨_, rfl, rfl, hT _ hp hH cF.refl hS (by rw [gCm_1 k1]; decide) (⟨gCm_1 k1, rfl⟩)⟩))
  have c4 := k1
  refine xald 5 ⟨u154, _, rfl⟩ rfl rfl ?_
  refine xgetD 8 (58) hH ⟨u154, _, rfl⟩ rfl (by decide) (by decide) rfl rfl (by decide) ?_
  refine xald 9 ⟨u154, _, rfl⟩ rfl rfl ?_
  refine xgetD 12 (3) hH ⟨u154, _, rfl⟩ rfl (by decide) (by decide) rfl rfl (by decide) ?_
  refine xcallC 15 (o := 58) [.ref 3] [] hH ⟨u154, _, rfl⟩ rfl rfl (by decide) rfl (by decide) rfl ⟨rfl, rfl, rfl, rfl⟩ rfl (k_100E hH hB c4 (fun hp12 hH12 F12 C12 => ⟨_, rfl, ?_⟩))
  have S12 := clS_8 hS (fun c k hc => F12 c k (by simp; omega))
  have G12 : cF hp hp12 := cF_x F12 (by simp)
  have o12 := C12.1
  refine xald 16 ⟨u154, _, rfl⟩ rfl rfl ?_
  refine xgetD 19 (58) hH12 ⟨u154, _, rfl⟩ rfl (by decide) (by decide) rfl rfl (by decide) ?_
  refine xild 20 ⟨u154, _, rfl⟩ rfl rfl ?_
  refine xcallC 23 (o := 58) [.int _] [] hH12 ⟨u154, _, rfl⟩ rfl rfl (by decide) rfl (by decide) rfl ⟨rfl, rfl, rfl, rfl⟩ rfl (k_109E hH12 h15 C12 (fun z20 h20 => ⟨_, rfl, ?_⟩))
  exact xret ⟨u154, _, rfl⟩ rfl (hR _ _ hH12 G12 (gCm_0.mpr c4) S12 h20)
theorem u318E : bUp 0 am_m318.1 = true := by decide +kernel
theorem l318Ex {d V : Nat} {T : sT} {hp : amH} {R : xQ} {a : Int32} (hH : bHk 84 bTT hp) (hB : rdOk hp V T) (hc : opC V T = 0) {z y : Nat} {wz wy : Int32} (hz : wz.toInt = (z : Int)) (hy : wy.toInt = (y : Int)) (h2 : y < z) (h3 : z < V)
    (hQ : ∀ w wx : Int32, w.toInt = ((tpN V T a.toInt (256 * z + 16 * (y + 1)) : Nat) : Int) → xV (d + 4) am_m318 88 [some (.ref 66), some (.int a), some (.int w), some (.int wz), some (.int wy), some (.int wx)] [] hp R) :
    ∀ (jj x : Nat) (w wx : Int32), wx.toInt = (x : Int) → x + jj = y → w.toInt = ((tpN V T a.toInt (256 * z + 16 * y + x) : Nat) : Int) → xV (d + 4) am_m318 51 [some (.ref 66), some (.int a), some (.int w), some (.int wz), some (.int wy), some (.int wx)] [] hp R := by
  have hT := hB.2.1
  have h15 : V ≤ 15 := hT.2.1
  have b0 : rN hp 67 0 = (V : Int) := hB.1
  have h455 := vN_455 h15
  intro jj
  induction jj with
  | zero =>
    intro x w wx hx hj hw
    have ex : x = y := by omega
    subst ex
    have g := pf_no (V := V) (P := (fun m => ((arN V T m 4096 : Nat) : Int) = a.toInt)) (256 * z + 16 * x + x) (16 - x) (fun j j1 j2 w => by have w := of_decide_eq_true w; omega)
    rw [show 256 * z + 16 * x + x + (16 - x) = 256 * z + 16 * (x + 1) by omega] at g
    refine xild2 53 ⟨u318E, _, rfl⟩ rfl rfl ?_
    refine xild2 55 ⟨u318E, _, rfl⟩ rfl rfl ?_
    refine xcmp_ge 58 ⟨u318E, _, rfl⟩ rfl (fun c55 => ?_) (fun c55 => ?_)
    · exact hQ _ _ (by rw [g]; exact hw)
    · omega
  | succ jj ih =>
    intro x w wx hx hj hw
    have hb := vB_c h15 (show x < y by omega) h2 h3
    have e9 : tpN V T a.toInt (256 * z + 16 * y + x + 1) = tpN V T a.toInt (256 * z + 16 * y + x) + iv (vB V (256 * z + 16 * y + x) = true ∧ (fun m => ((arN V T m 4096 : Nat) : Int) = a.toInt) (256 * z + 16 * y + x)) := rfl
    have b9 := pf_455 (P := (fun m => ((arN V T m 4096 : Nat) : Int) = a.toInt)) h15 (show 256 * z + 16 * y + x ≤ 4096 by omega)
    have ec : cod z y x = 256 * z + 16 * y + x := by unfold cod; omega
    refine xild2 53 ⟨u318E, _, rfl⟩ rfl rfl ?_
    refine xild2 55 ⟨u318E, _, rfl⟩ rfl rfl ?_
    refine xcmp_ge 58 ⟨u318E, _, rfl⟩ rfl (fun c55 => ?_) (fun c55 => ?_)
    · omega
    · refine xild 59 ⟨u318E, _, rfl⟩ rfl rfl ?_
      refine xald 60 ⟨u318E, _, rfl⟩ rfl rfl ?_
      refine xild 61 ⟨u318E, _, rfl⟩ rfl rfl ?_
      refine xild2 63 ⟨u318E, _, rfl⟩ rfl rfl ?_
      refine xild2 65 ⟨u318E, _, rfl⟩ rfl rfl ?_
      refine xcallS 68 [.int _, .int _, .int _] [.ref 66, .int _] hH ⟨u318E, _, rfl⟩ rfl rfl rfl rfl rfl (k_310E hH (x := z) (y := y) (z := x) hz hy hx (by omega) (by omega) (by omega) (fun z65 h65 => ⟨_, rfl, ?_⟩))
      rw [ec] at h65
      refine xcall 71 [.ref 66, .int _] [.int _] hH ⟨u318E, _, rfl⟩ rfl rfl rfl rfl rfl (k_312E hH hB hc h65 (fun z68 h68 => ⟨_, rfl, ?_⟩))
      refine xild 72 ⟨u318E, _, rfl⟩ rfl rfl ?_
      refine xcmp_ne 75 ⟨u318E, _, rfl⟩ rfl (fun c72 => ?_) (fun c72 => ?_)
      · refine xcst 80 (0) ⟨u318E, _, rfl⟩ rfl (by decide) (fun z79 h79 => ?_)
        refine xadd 81 _ ⟨u318E, _, rfl⟩ rfl rfl (by omega) (by omega) (fun z80 h80 => ?_)
        refine xist 82 ⟨u318E, _, rfl⟩ rfl rfl ?_
        refine xinc 85 (1) ⟨u318E, _, rfl⟩ rfl rfl rfl (by decide) (by omega) (by omega) (fun z82 h82 => ?_)
        refine xgoto ⟨u318E, _, rfl⟩ ?_
        rw [iv_f (p := vB V (256 * z + 16 * y + x) = true ∧ (fun m => ((arN V T m 4096 : Nat) : Int) = a.toInt) (256 * z + 16 * y + x)) (fun w => by have w : ((arN V T (256 * z + 16 * y + x) 4096 : Nat) : Int) = a.toInt := w.2; omega)] at e9
        exact ih (x + 1) _ _ (by omega) (by omega) (by show _ = ((tpN V T a.toInt (256 * z + 16 * y + x + 1) : Nat) : Int); omega)
      · refine xcst 76 (1) ⟨u318E, _, rfl⟩ rfl (by decide) (fun z75 h75 => ?_)
        refine xgoto ⟨u318E, _, rfl⟩ ?_
        refine xadd 81 _ ⟨u318E, _, rfl⟩ rfl rfl (by omega) (by omega) (fun z80 h80 => ?_)
        refine xist 82 ⟨u318E, _, rfl⟩ rfl rfl ?_
        refine xinc 85 (1) ⟨u318E, _, rfl⟩ rfl rfl rfl (by decide) (by omega) (by omega) (fun z82 h82 => ?_)
        refine xgoto ⟨u318E, _, rfl⟩ ?_
        rw [iv_t (p := vB V (256 * z + 16 * y + x) = true ∧ (fun m => ((arN V T m 4096 : Nat) : Int) = a.toInt) (256 * z + 16 * y + x)) ⟨hb, by show _ = _; omega⟩] at e9
        exact ih (x + 1) _ _ (by omega) (by omega) (by show _ = ((tpN V T a.toInt (256 * z + 16 * y + x + 1) : Nat) : Int); omega)
theorem l318Ey {d V : Nat} {T : sT} {hp : amH} {R : xQ} {a : Int32} (hH : bHk 84 bTT hp) (hB : rdOk hp V T) (hc : opC V T = 0) {z : Nat} {wz : Int32} (hz : wz.toInt = (z : Int)) (h3 : z < V)
    (hQ : ∀ (w wy : Int32) (v5 : Option Value), w.toInt = ((tpN V T a.toInt (256 * (z + 1)) : Nat) : Int) → xV (d + 4) am_m318 94 [some (.ref 66), some (.int a), some (.int w), some (.int wz), some (.int wy), v5] [] hp R) :
    ∀ (jj y : Nat) (w wy : Int32) (v5 : Option Value), wy.toInt = (y : Int) → y + jj = z → w.toInt = ((tpN V T a.toInt (256 * z + 16 * y) : Nat) : Int) → xV (d + 4) am_m318 42 [some (.ref 66), some (.int a), some (.int w), some (.int wz), some (.int wy), v5] [] hp R := by
  have hT := hB.2.1
  have h15 : V ≤ 15 := hT.2.1
  have b0 : rN hp 67 0 = (V : Int) := hB.1
  have h455 := vN_455 h15
  intro jj
  induction jj with
  | zero =>
    intro y w wy v5 hy hj hw
    have g := pf_no (V := V) (P := (fun m => ((arN V T m 4096 : Nat) : Int) = a.toInt)) (256 * z + 16 * y) (256 - 16 * y) (fun j j1 j2 w => by have w := of_decide_eq_true w; omega)
    rw [show 256 * z + 16 * y + (256 - 16 * y) = 256 * (z + 1) by omega] at g
    refine xild2 44 ⟨u318E, _, rfl⟩ rfl rfl ?_
    refine xild 45 ⟨u318E, _, rfl⟩ rfl rfl ?_
    refine xcmp_ge 48 ⟨u318E, _, rfl⟩ rfl (fun c45 => ?_) (fun c45 => ?_)
    · exact hQ _ _ _ (by rw [g]; exact hw)
    · omega
  | succ jj ih =>
    intro y w wy v5 hy hj hw
    refine xild2 44 ⟨u318E, _, rfl⟩ rfl rfl ?_
    refine xild 45 ⟨u318E, _, rfl⟩ rfl rfl ?_
    refine xcmp_ge 48 ⟨u318E, _, rfl⟩ rfl (fun c45 => ?_) (fun c45 => ?_)
    · omega
    · refine xcst 49 (0) ⟨u318E, _, rfl⟩ rfl (by decide) (fun z48 h48 => ?_)
      refine xist2 51 ⟨u318E, _, rfl⟩ rfl rfl ?_
      refine l318Ex hH hB hc hz hy (by omega) h3 (fun w1 xx r1 => ?_) y 0 _ _ h48 (by omega) hw
      refine xinc 91 (1) ⟨u318E, _, rfl⟩ rfl rfl rfl (by decide) (by omega) (by omega) (fun z88 h88 => ?_)
      refine xgoto ⟨u318E, _, rfl⟩ ?_
      exact ih (y + 1) _ _ _ (by omega) (by omega) r1
theorem l318Ez {d V : Nat} {T : sT} {hp : amH} {R : xQ} {a : Int32} (hH : bHk 84 bTT hp) (hB : rdOk hp V T) (hc : opC V T = 0)
    (hR : ∀ w : Int32, w.toInt = ((tpN V T a.toInt 4096 : Nat) : Int) → R (.inl (some (.int w))) hp) :
    ∀ (jj z : Nat) (w wz : Int32) (v4 v5 : Option Value), wz.toInt = (z : Int) → z + jj = V → w.toInt = ((tpN V T a.toInt (256 * z) : Nat) : Int) → xV (d + 4) am_m318 31 [some (.ref 66), some (.int a), some (.int w), some (.int wz), v4, v5] [] hp R := by
  have hT := hB.2.1
  have h15 : V ≤ 15 := hT.2.1
  have b0 : rN hp 67 0 = (V : Int) := hB.1
  have h455 := vN_455 h15
  intro jj
  induction jj with
  | zero =>
    intro z w wz v4 v5 hz hj hw
    have g := pf_no (V := V) (P := (fun m => ((arN V T m 4096 : Nat) : Int) = a.toInt)) (256 * z) (4096 - 256 * z) (fun j j1 j2 w => by have w := of_decide_eq_true w; omega)
    rw [show 256 * z + (4096 - 256 * z) = 4096 by omega] at g
    refine xild 32 ⟨u318E, _, rfl⟩ rfl rfl ?_
    refine xald 33 ⟨u318E, _, rfl⟩ rfl rfl ?_
    refine xcall 36 [.ref 66] [.int _] hH ⟨u318E, _, rfl⟩ rfl rfl rfl rfl rfl (k_points hH (fun z33 h33 => ⟨_, rfl, ?_⟩))
    refine xcmp_ge 39 ⟨u318E, _, rfl⟩ rfl (fun c36 => ?_) (fun c36 => ?_)
    · refine xild 101 ⟨u318E, _, rfl⟩ rfl rfl ?_
      exact xret ⟨u318E, _, rfl⟩ rfl (hR _ (by rw [g]; exact hw))
    · omega
  | succ jj ih =>
    intro z w wz v4 v5 hz hj hw
    refine xild 32 ⟨u318E, _, rfl⟩ rfl rfl ?_
    refine xald 33 ⟨u318E, _, rfl⟩ rfl rfl ?_
    refine xcall 36 [.ref 66] [.int _] hH ⟨u318E, _, rfl⟩ rfl rfl rfl rfl rfl (k_points hH (fun z33 h33 => ⟨_, rfl, ?_⟩))
    refine xcmp_ge 39 ⟨u318E, _, rfl⟩ rfl (fun c36 => ?_) (fun c36 => ?_)
    · omega
    · refine xcst 40 (0) ⟨u318E, _, rfl⟩ rfl (by decide) (fun z39 h39 => ?_)
      refine xist2 42 ⟨u318E, _, rfl⟩ rfl rfl ?_
      refine l318Ey hH hB hc hz (by omega) (fun w1 xy v5 r1 => ?_) z 0 _ _ _ h39 (by omega) hw
      refine xinc 97 (1) ⟨u318E, _, rfl⟩ rfl rfl rfl (by decide) (by omega) (by omega) (fun z94 h94 => ?_)
      refine xgoto ⟨u318E, _, rfl⟩ ?_
      exact ih (z + 1) _ _ _ _ (by omega) (by omega) r1
theorem k_318E {d V n : Nat} {h : Nat → sR} {sv : Option sR} {T : sT} {ty : Nat → Int} {hp : amH} {R : xQ} {a : Int32} (hH : bHk 84 bTT hp) (hP : P0 hp) (hS : rfS hp (V, T, ty) n h sv)
    (hR : ∀ (z : Int32) hp1, bHk 84 bTT hp1 → P0 hp1 → bFr wM hp hp1 → rN hp1 66 7 = gCm V T → ((¬ gCm V T = 0 ∧ rfS hp1 (V, T, ty) n h sv) ∨ (gCm V T = 0 ∧ rfS hp1 (V, T, ty) n h sv ∧ z.toInt = ((tpN V T a.toInt 4096 : Nat) : Int))) → R (.inl (some (.int z))) hp1) : xK (d + 9) 318 [.ref 66, .int a] hp R := by
  have hB : rdOk hp V T := rowOk_rd hS.1
  have b0 : rN hp 67 0 = (V : Int) := hB.1
  have hT0 : sOk V T := hB.2.1
  have h15 : V ≤ 15 := hT0.2.1
  have l35 : (trL T 225).length ≤ 35 := trL_35 hT0 225
  refine xin (M := am_m318) rfl rfl rfl ?_
  refine xald 1 ⟨u318, _, rfl⟩ rfl rfl ?_
  refine xcst 2 (0) ⟨u318, _, rfl⟩ rfl (by decide) (fun z1 h1 => ?_)
  refine xputI 5 hH ⟨u318, _, rfl⟩ rfl rfl ⟨rfl, rfl⟩ (by omega) (by omega) (fun hp2 hH2 U2 => ?_)
  have s2 := U2.1
  have S2 := rfS_W (W := [(66, 7)]) hS (rU_fr U2 rfl) (fun _ => rfl) rfl rfl (fun _ => rfl) (fun _ => rfl)
  have P2 := P0_W (W := [(66, 7)]) (by decide) (rU_fr U2 rfl) hP
  refine xald 6 ⟨u318, _, rfl⟩ rfl rfl ?_
  refine xald 7 ⟨u318, _, rfl⟩ rfl rfl ?_
  refine xcall 10 [.ref 66] [.ref 66] hH2 ⟨u318, _, rfl⟩ rfl rfl rfl rfl rfl (k_262E hH2 P2 (show rdOk hp2 V T from rowOk_rd S2.1) (fun z7 hp7 hH7 F7 B7 L7 h7 => ⟨_, rfl, ?_⟩))
  have S7 := rfS_W S2 F7 (fun _ => rfl) rfl rfl (fun _ => rfl) (fun _ => rfl)
  have P7 : P0 hp7 := P0_W (W := bLT) (by decide) F7 P2
  have t7 : rN hp7 66 7 = 0 := (r_fr F7 rfl).trans (by rw [U2.1]; exact h1)
  have G7 : bFr wM hp hp7 := (rU_fr U2 (by decide)).trans (bFr_sub F7 (by decide))
  have i7 := ic_0 h7
  refine xif_ne 13 ⟨u318, _, rfl⟩ rfl (fun c10 => ?_) (fun c10 => ?_)
  · have c4 : opC V T = 0 := i7.1 (by omega)
    have g0 : gCm V T = 0 := gCm_0.mpr c4
    refine xcst 18 (0) ⟨u318, _, rfl⟩ rfl (by decide) (fun z17 h17 => ?_)
    refine xcst 19 (1) ⟨u318, _, rfl⟩ rfl (by decide) (fun z18 h18 => ?_)
    refine xcall 22 [.ref 66, .int _, .int _] [] hH7 ⟨u318, _, rfl⟩ rfl rfl rfl rfl rfl (k_failsE hH7 (by omega) (fun hp19 hH19 V19 => ⟨_, rfl, ?_⟩))
    refine xif_eq 25 ⟨u318, _, rfl⟩ rfl (fun c22 => ?_) (fun c22 => ?_)
    · obtain rfl : hp7 = hp19 := by
        rcases V19 with ⟨q1, e⟩ | ⟨q1, -⟩
        · exact e.symm
        · omega
      refine xcst 28 (0) ⟨u318, _, rfl⟩ rfl (by decide) (fun z27 h27 => ?_)
      refine xist 29 ⟨u318, _, rfl⟩ rfl rfl ?_
      refine xcst 30 (0) ⟨u318, _, rfl⟩ rfl (by decide) (fun z29 h29 => ?_)
      refine xist 31 ⟨u318, _, rfl⟩ rfl rfl ?_
      refine xpad 2 ?_
      exact l318Ez hH7 (show rdOk hp7 V T from rowOk_rd S7.1) c4 (fun z e => hR z hp7 hH7 P7 G7 (by rw [t7, g0]) (Or.inr ⟨g0, S7, e⟩)) V 0 _ _ _ _ h29 (by omega) h27
    · rcases V19 with ⟨q1, -⟩ | ⟨q1, -⟩ <;> omega
  · have n4 : ¬ opC V T = 0 := i7.2 (by omega)
    have g1 : gCm V T = 1 := gCm_1 n4
    refine xcst 14 (1) ⟨u318, _, rfl⟩ rfl (by decide) (fun z13 h13 => ?_)
    refine xgoto ⟨u318, _, rfl⟩ ?_
    refine xcst 19 (1) ⟨u318, _, rfl⟩ rfl (by decide) (fun z18 h18 => ?_)
    refine xcall 22 [.ref 66, .int _, .int _] [] hH7 ⟨u318, _, rfl⟩ rfl rfl rfl rfl rfl (k_failsE hH7 (by omega) (fun hp19 hH19 V19 => ⟨_, rfl, ?_⟩))
    refine xif_eq 25 ⟨u318, _, rfl⟩ rfl (fun c22 => ?_) (fun c22 => ?_)
    · rcases V19 with ⟨q1, -⟩ | ⟨q1, -⟩ <;> omega
    · refine xcst 26 (0) ⟨u318, _, rfl⟩ rfl (by decide) (fun z25 h25 => ?_)
      rcases V19 with ⟨q1, -⟩ | ⟨q1, U⟩
      · omega
      · exact xret ⟨u318, _, rfl⟩ rfl (hR _ hp19 hH19 (P0_W (W := [(66, 7)]) (by decide) (rU_fr U rfl) P7) (G7.trans (rU_fr U (by decide))) (by rw [U.1, g1]; omega) (Or.inl ⟨by rw [g1]; decide, rfS_W (W := [(66, 7)]) S7 (rU_fr U rfl) (fun _ => rfl) rfl rfl (fun _ => rfl) (fun _ => rfl)⟩))
theorem h375E {d : Nat} {hp : amH} {R : cQ} {x1 : Int32} {V n : Nat} {h : Nat → sR} {sv : Option sR} {T : sT} {ty : Nat → Int} (hI : lawI hp) (c : clS hp (V, T, ty) n h sv) (r : rfS hp (V, T, ty) n h sv)
    (hR : ∀ (z : Int32) hp1 mc ms, lawI hp1 → rfS hp1 (V, T, ty) n h sv → z.toInt = gCm V T → ((¬ gCm V T = 0 ∧ clS hp1 (V, T, ty) n h sv) ∨ (gCm V T = 0 ∧ clS hp1 (V, T, ty) n h sv ∧ rJ hp1 83 0 = ((tpN V T x1.toInt 4096 : Nat) : Int))) → mc ≤ 1 → ms ≤ 6 → R (.inl (some (.int z))) hp1 mc ms) : cK (d + 20) 375 [.ref 0, .int x1, .ref 83] hp R := by
  refine cin (M := am_m375) rfl rfl rfl ?_
  refine cald 1 ⟨u375J, _, rfl⟩ rfl rfl ?_
  refine ccst 2 (0) ⟨u375J, _, rfl⟩ rfl (by decide) (fun z1 h1 => ?_)
  refine cald 3 ⟨u375J, _, rfl⟩ rfl rfl ?_
  refine cild 4 ⟨u375J, _, rfl⟩ rfl rfl ?_
  refine ccall (kd := 0) (t := 1) [.ref 0, .int _] [.int _, .ref 83] hI.1 ⟨u375J, _, rfl⟩ (Or.inl ⟨_, rfl, rfl, by decide, by decide⟩) rfl rfl rfl ⟨rfl, rfl, rfl⟩ rfl (recv0 hI.1 _) rfl (qKE (Φ := fun z hp1 => bHk 84 bTT hp1 ∧ cF hp hp1 ∧ gCm V T = 0 ∧ clS hp1 (V, T, ty) n h sv ∧ z.toInt = ((tpN V T x1.toInt 4096 : Nat) : Int)) (Ψ := fun E hp1 => lawI hp1 ∧ rfS hp1 (V, T, ty) n h sv ∧ clS hp1 (V, T, ty) n h sv ∧ ¬ gCm V T = 0 ∧ ((gCm V T = 1 ∧ E = 2))) (fun R g1 g2 => k_154E (d := d + 13) hI.1 c (fun E hp1 b1 b2 b3 e1 e2 => g2 E hp1 ⟨law_cl hI b1 b2, cF_rf b2 r, b3, e1, e2⟩) (fun z hp1 a1 a2 a3 a4 a5 => g1 z hp1 ⟨a1, a2, a3, a4, a5⟩)) (fun z hp1 φ => Or.inl ⟨_, rfl, ?_⟩) (fun E hp1 ψ => Or.inr ?_))
  · refine ci2lE 8 ⟨u375J, _, rfl⟩ rfl (fun w hw => ?_)
    refine clastE 9 φ.1 ⟨u375J, _, rfl⟩ rfl h1 (fun hp2 hH2 F2 J2 => ?_)
    refine cgoto ⟨u375J, _, rfl⟩ ?_
    refine ccst 16 (0) ⟨u375J, _, rfl⟩ rfl (by decide) (fun z9 h9 => ?_)
    exact cret ⟨u375J, _, rfl⟩ (Or.inl rfl) (hR _ _ _ _ (lawI_83 (law_cl hI φ.1 φ.2.1) hH2 F2) (rf_83 F2 (cF_rf φ.2.1 r)) (by rw [φ.2.2.1]; exact h9) (Or.inr ⟨φ.2.2.1, cl_83 F2 φ.2.2.2.1, by rw [J2, hw]; exact φ.2.2.2.2⟩) (by decide) (by decide))
  · obtain ⟨ψ0, ψr, ψc, ψ1, ψ2⟩ := ψ
    obtain ⟨ce, rfl⟩ := ψ2
    refine ⟨2, 12, 3, 13, rfl, rfl, rfl, rfl, ?_⟩
    refine ccst 14 (1) ⟨u375J, _, rfl⟩ rfl (by decide) (fun z9 h9 => ?_)
    exact cret ⟨u375J, _, rfl⟩ (Or.inl rfl) (hR _ _ _ _ ψ0 ψr (by rw [ce]; exact h9) (Or.inl ⟨ψ1, ψc⟩) (by decide) (by decide))
end
/-! ##### q44 ##### -/
section
/-! ===== rounds on both sides ===== -/
/-- whether a set is the smallest of its round -/
def bR (T : sT) (m : Nat) : Bool := decide (0 < pd T m ∧ ∀ j, j < pd T m → m ≤ itF (fC T) j m)
theorem bR_s {T : sT} {m : Nat} : bR T m = true ↔ (0 < pd T m ∧ ∀ j, j < pd T m → m ≤ itF (fC T) j m) := decide_eq_true_iff
/-- the smallest of its round is below all that it leads to -/
theorem bR_all {T : sT} {m : Nat} (h : bR T m = true) (n : Nat) : m ≤ itF (fC T) n m := by
  obtain ⟨h1, h2⟩ := bR_s.mp h
  rw [pd_mod h1 n]
  exact h2 _ (Nat.mod_lt _ h1)
theorem amin (f : Nat → Nat) : ∀ p, 0 < p → ∃ k, k < p ∧ ∀ l, l < p → f k ≤ f l
  | 0, h => by omega
  | 1, _ => ⟨0, by omega, fun l hl => by rw [show l = 0 by omega]; exact Nat.le_refl _⟩
  | p + 2, _ => by
    obtain ⟨k, k1, k2⟩ := amin f (p + 1) (by omega)
    by_cases g : f k ≤ f (p + 1)
    · refine ⟨k, by omega, fun l hl => ?_⟩
      by_cases q : l = p + 1
      · rw [q]; exact g
      · exact k2 l (by omega)
    · refine ⟨p + 1, by omega, fun l hl => ?_⟩
      by_cases q : l = p + 1
      · rw [q]; exact Nat.le_refl _
      · have := k2 l (by omega)
        omega
/-- each round has a smallest set -/
theorem bR_ex {V e : Nat} {T : sT} (hT : sOk V T) (hc : opC V T = 0) (hv : vB V e = true) (hp : 0 < pd T e) : ∃ k, k < pd T e ∧ bR T (itF (fC T) k e) = true := by
  obtain ⟨k, k1, k2⟩ := amin (fun n => itF (fC T) n e) (pd T e) hp
  have q := pd_its hT hc hv hp k
  refine ⟨k, k1, bR_s.mpr ⟨q.1, fun j _ => ?_⟩⟩
  rw [← itF_add, pd_mod hp (j + k)]
  exact k2 _ (Nat.mod_lt _ hp)
theorem mkW_c {F : Nat → Nat} {e b : Nat} {s : Int} {mk : Nat → Int} (l : Nat) : ((∃ k, k < l ∧ itF F k e = b) ∧ mkW F e s mk l b = s) ∨ ((∀ k, k < l → ¬ itF F k e = b) ∧ mkW F e s mk l b = mk b) := by
  by_cases h : ∃ k, k < l ∧ itF F k e = b
  · exact Or.inl ⟨h, mkW_1 l h⟩
  · have h : ∀ k, k < l → ¬ itF F k e = b := fun k hk w => h ⟨k, hk, w⟩
    exact Or.inr ⟨h, mkW_0 l h⟩
/-- what holds when the walks from the first i sets are marked -/
def rdI (V : Nat) (T : sT) (i : Nat) (mk : Nat → Int) (f : Nat) : Prop := (∀ b, vB V b = true → 0 ≤ mk b ∧ mk b ≤ (i : Int)) ∧ (∀ b, vB V b = true → ¬ mk b = 0 → ¬ mk (fC T b) = 0) ∧ (∀ b, vB V b = true → vN V b < i → ¬ mk b = 0) ∧ f = pfG V (fun m => bR T m = true ∧ ¬ mk m = 0) 4096
theorem rdI_it {V i f : Nat} {T : sT} {mk : Nat → Int} (hT : sOk V T) (hc : opC V T = 0) (I : rdI V T i mk f) {b : Nat} (hb : vB V b = true) (h : ¬ mk b = 0) : ∀ n, ¬ mk (itF (fC T) n b) = 0
  | 0 => h
  | n + 1 => I.2.1 _ (itF_B hT hc hb n) (rdI_it hT hc I hb h n)
theorem rdI_s {V i f c s : Nat} {T : sT} {mk : Nat → Int} {z : Bool} (hT : sOk V T) (hc : opC V T = 0) (I : rdI V T i mk f) (hv : vB V c = true) (hi : vN V c = i)
    (h0 : ∀ k, k < s → mk (itF (fC T) k c) = 0) (hs : ¬ mkW (fC T) c ((i + 1 : Nat) : Int) mk s (itF (fC T) s c) = 0)
    (hz : z = true ↔ (0 < s ∧ mkW (fC T) c ((i + 1 : Nat) : Int) mk s (itF (fC T) s c) = ((i + 1 : Nat) : Int))) : rdI V T (i + 1) (mkW (fC T) c ((i + 1 : Nat) : Int) mk s) (f + if z = true then 1 else 0) := by
  have h15 := hT.2.1
  obtain ⟨i1, i2, i3, i4⟩ := I
  have I : rdI V T i mk f := ⟨i1, i2, i3, i4⟩
  refine ⟨fun b hb => ?_, fun b hb hm => ?_, fun b hb hl => ?_, ?_⟩
  · have a := i1 b hb
    rcases mkW_c (F := fC T) (e := c) (b := b) (s := ((i + 1 : Nat) : Int)) (mk := mk) s with ⟨-, e⟩ | ⟨-, e⟩ <;> rw [e] <;> omega
  · rcases mkW_c (F := fC T) (e := c) (b := b) (s := ((i + 1 : Nat) : Int)) (mk := mk) s with ⟨⟨k, k1, k2⟩, e⟩ | ⟨g, e⟩
    · have en : fC T b = itF (fC T) (k + 1) c := by rw [← k2]; rfl
      by_cases q : k + 1 = s
      · rw [en, q]; exact hs
      · rw [mkW_1 s ⟨k + 1, by omega, en.symm⟩]; omega
    · rw [e] at hm
      have m2 := i2 b hb hm
      rw [mkW_0 s (fun k hk w => m2 (by rw [← w]; exact h0 k hk))]
      exact m2
  · rcases mkW_c (F := fC T) (e := c) (b := b) (s := ((i + 1 : Nat) : Int)) (mk := mk) s with ⟨-, e⟩ | ⟨g, e⟩
    · rw [e]; omega
    · by_cases q : vN V b = i
      · have eb : b = c := vN_inj hb hv (q.trans hi.symm)
        have s0 : s = 0 := by
          apply Classical.byContradiction
          intro w
          exact g 0 (by omega) eb.symm
        rw [s0] at hs ⊢
        rw [eb]
        exact hs
      · rw [e]; exact i3 b hb (by omega)
  · have pw : ∀ m0 : Nat, (∀ m, vB V m = true → (bR T m = true ∧ ¬ mkW (fC T) c ((i + 1 : Nat) : Int) mk s m = 0 ↔ (bR T m = true ∧ ¬ mk m = 0) ∨ (m = m0 ∧ z = true))) → (z = true → vB V m0 = true ∧ mk m0 = 0) → f + (if z = true then 1 else 0) = pfG V (fun m => bR T m = true ∧ ¬ mkW (fC T) c ((i + 1 : Nat) : Int) mk s m = 0) 4096 := by
      intro m0 hm hz0
      cases z with
      | false =>
        rw [i4]
        show pfG V _ 4096 + 0 = _
        rw [Nat.add_zero]
        refine sm_ext _ (fun m _ => iv_eq ⟨fun w => ⟨w.1, (hm m w.1).mpr (Or.inl w.2)⟩, fun w => ⟨w.1, ((hm m w.1).mp w.2).resolve_right (fun u => by cases u.2)⟩⟩)
      | true =>
        obtain ⟨v0, k0⟩ := hz0 rfl
        have l0 : m0 < 4096 := by
          obtain ⟨x, y, w, -, -, -, -, l⟩ := vB_x h15 v0
          exact l
        have one : sm (fun m => iv (m = m0)) 4096 = 1 := sm_one l0 (iv_t rfl) (fun m _ hne => iv_f hne)
        rw [i4]
        show pfG V _ 4096 + 1 = _
        rw [← one]
        unfold pfG
        rw [← sm_add]
        refine sm_ext _ (fun m _ => ?_)
        by_cases e : m = m0
        · rw [iv_t (p := m = m0) e, iv_f (p := vB V m = true ∧ bR T m = true ∧ ¬ mk m = 0) (fun w => w.2.2 (by rw [e]; exact k0)), iv_t ⟨by rw [e]; exact v0, (hm m (by rw [e]; exact v0)).mpr (Or.inr ⟨e, rfl⟩)⟩]
        · rw [iv_f (p := m = m0) e, Nat.add_zero]
          exact iv_eq ⟨fun w => ⟨w.1, (hm m w.1).mpr (Or.inl w.2)⟩, fun w => ⟨w.1, ((hm m w.1).mp w.2).resolve_right (fun u => e u.1)⟩⟩
    -- what was marked before stays marked
    have keep : ∀ m, ¬ mk m = 0 → ¬ mkW (fC T) c ((i + 1 : Nat) : Int) mk s m = 0 := fun m w => by
      rcases mkW_c (F := fC T) (e := c) (b := m) (s := ((i + 1 : Nat) : Int)) (mk := mk) s with ⟨-, e⟩ | ⟨-, e⟩ <;> rw [e]
      · omega
      · exact w
    by_cases hr : z = true
    · obtain ⟨s0, e0⟩ := hz.mp hr
      -- the walk met itself
      have meet : ∃ j, j < s ∧ itF (fC T) j c = itF (fC T) s c := by
        rcases mkW_c (F := fC T) (e := c) (b := itF (fC T) s c) (s := ((i + 1 : Nat) : Int)) (mk := mk) s with ⟨g, -⟩ | ⟨-, e⟩
        · exact g
        · have := (i1 _ (itF_B hT hc hv s)).2
          rw [← e, e0] at this
          omega
      obtain ⟨j, j1, j2⟩ := meet
      have ve := itF_B hT hc hv j
      have ep : itF (fC T) (s - j) (itF (fC T) j c) = itF (fC T) j c := by rw [← itF_add, show s - j + j = s by omega]; exact j2.symm
      have h455 := vN_455 h15
      have pe : 0 < pd T (itF (fC T) j c) ∧ pd T (itF (fC T) j c) ≤ s - j := by
        rcases pd_s (T := T) (c := itF (fC T) j c) with ⟨q, q2⟩ | ⟨q1, -, q3, q4⟩
        · exfalso
          obtain ⟨a, b, ab, bN, eab⟩ := fg_rep hT hc ve
          -- the walk from e comes back in s - j steps, so it does in few
          have back : ∃ t, itF (fC T) t (itF (fC T) a (itF (fC T) j c)) = itF (fC T) j c := by
            refine ⟨(s - j) * (a + 1) - a, ?_⟩
            have m1 : a + 1 ≤ (s - j) * (a + 1) := Nat.le_mul_of_pos_left _ (by omega)
            rw [← itF_add, show (s - j) * (a + 1) - a + a = 0 + (s - j) * (a + 1) by omega]
            exact itF_per ep 0 (a + 1)
          obtain ⟨t, et⟩ := back
          have r : itF (fC T) (b - a) (itF (fC T) j c) = itF (fC T) j c := by
            have w : itF (fC T) t (itF (fC T) (b - a) (itF (fC T) a (itF (fC T) j c))) = itF (fC T) (b - a) (itF (fC T) t (itF (fC T) a (itF (fC T) j c))) := by rw [← itF_add, ← itF_add, Nat.add_comm]
            rw [et, ← itF_add (n := b - a) (m := a), show b - a + a = b by omega, ← eab, et] at w
            exact w.symm
          exact q2 (b - a) (by omega) (by omega) r
        · exact ⟨q1, Classical.byContradiction (fun w => q4 (s - j) (by omega) (by omega) ep)⟩
      obtain ⟨k, k1, k2⟩ := bR_ex hT hc ve pe.1
      have new : itF (fC T) k (itF (fC T) j c) = itF (fC T) (k + j) c := (itF_add k).symm
      refine pw (itF (fC T) k (itF (fC T) j c)) (fun m hm => ⟨fun w => ?_, fun w => ?_⟩) (fun _ => ⟨itF_B hT hc ve k, by rw [new]; exact h0 _ (by omega)⟩)
      · by_cases u : mk m = 0
        · right
          refine ⟨?_, hr⟩
          rcases mkW_c (F := fC T) (e := c) (b := m) (s := ((i + 1 : Nat) : Int)) (mk := mk) s with ⟨⟨k', k3, k4⟩, -⟩ | ⟨-, e⟩
          · have pm := (bR_s.mp w.1).1
            -- m and e are in one round
            have on : ∃ t, itF (fC T) t (itF (fC T) j c) = m := by
              by_cases le : j ≤ k'
              · exact ⟨k' - j, by rw [← itF_add, show k' - j + j = k' by omega]; exact k4⟩
              · obtain ⟨t, -, t2⟩ := pd_back hT hc hm pm (j - k')
                refine ⟨t, ?_⟩
                rw [← k4, ← itF_add (n := j - k') (m := k'), show j - k' + k' = j by omega, k4] at t2
                exact t2
            obtain ⟨t, et⟩ := on
            have a1 : itF (fC T) k (itF (fC T) j c) ≤ m := by
              obtain ⟨t', -, t2⟩ := pd_back hT hc ve pe.1 k
              have := bR_all k2 (t + t')
              rwa [itF_add, t2, et] at this
            have a2 : m ≤ itF (fC T) k (itF (fC T) j c) := by
              obtain ⟨t', -, t2⟩ := pd_back hT hc ve pe.1 t
              have := bR_all w.1 (k + t')
              rw [itF_add] at this
              rw [et] at t2
              rwa [t2] at this
            omega
          · exact absurd (e.trans u) w.2
        · exact Or.inl ⟨w.1, u⟩
      · rcases w with w | ⟨w, -⟩
        · exact ⟨w.1, keep m w.2⟩
        · rw [w]
          refine ⟨k2, ?_⟩
          rw [mkW_1 s ⟨k + j, by omega, new.symm⟩]
          omega
    · -- the walk met nothing of its own: no new round
      refine pw 0 (fun m hm => ⟨fun w => ?_, fun w => ?_⟩) (fun u => absurd u hr)
      · left
        refine ⟨w.1, fun u => ?_⟩
        rcases mkW_c (F := fC T) (e := c) (b := m) (s := ((i + 1 : Nat) : Int)) (mk := mk) s with ⟨⟨k, k3, k4⟩, -⟩ | ⟨-, e⟩
        · have pm := (bR_s.mp w.1).1
          have old : ¬ mk (itF (fC T) s c) = 0 := by
            rcases mkW_c (F := fC T) (e := c) (b := itF (fC T) s c) (s := ((i + 1 : Nat) : Int)) (mk := mk) s with ⟨-, e⟩ | ⟨-, e⟩
            · exact absurd (hz.mpr ⟨by omega, e⟩) hr
            · rw [e] at hs; exact hs
          obtain ⟨t, -, t2⟩ := pd_back hT hc hm pm (s - k)
          have q := rdI_it hT hc I (itF_B hT hc hv s) old t
          rw [← k4, ← itF_add (n := s - k) (m := k), show s - k + k = s by omega, k4] at t2
          rw [t2] at q
          exact q u
        · exact absurd (e.trans u) w.2
      · rcases w with w | ⟨-, w⟩
        · exact ⟨w.1, keep m w.2⟩
        · exact absurd w hr
theorem u111 : bUp 0 am_m111.1 = true := by decide +kernel
theorem l111E {d V c i f : Nat} {T : sT} {mk : Nat → Int} {hp0 : amH} {R : xQ} {a b : Int32} (hT : sOk V T) (hc : opC V T = 0) (I : rdI V T i mk f) (hv : vB V c = true) (hi : vN V c = i) (hb : b.toInt = ((i + 1 : Nat) : Int))
    (hR : ∀ (z : Int32) (y : Bool) (mk1 : Nat → Int) hp1, bHk 84 bTT hp1 → bFx [61] hp0 hp1 → trM hp1 V T mk1 → rdI V T (i + 1) mk1 (f + if y = true then 1 else 0) → z.toInt = (if y = true then 1 else 0) → R (.inl (some (.int z))) hp1) :
    ∀ (jj l : Nat) (wat wl : Int32) (hp1 : amH), wl.toInt = (l : Int) → l + jj = vN V 4096 → wat.toInt = ((vN V (itF (fC T) l c) : Nat) : Int) → bHk 84 bTT hp1 → bFx [61] hp0 hp1 → trM hp1 V T (mkW (fC T) c ((i + 1 : Nat) : Int) mk l) → (∀ k, k < l → mk (itF (fC T) k c) = 0) → (∀ k m, k < m → m < l → ¬ itF (fC T) k c = itF (fC T) m c) → xV (d + 1) am_m111 5 [some (.ref 58), some (.int a), some (.int b), some (.int wat), some (.int wl)] [] hp1 R := by
  have h15 := hT.2.1
  have h455 := vN_455 h15
  have fin : ∀ (l : Nat) (wat wl : Int32) (hp1 : amH), wl.toInt = (l : Int) → wat.toInt = ((vN V (itF (fC T) l c) : Nat) : Int) → bHk 84 bTT hp1 → bFx [61] hp0 hp1 → trM hp1 V T (mkW (fC T) c ((i + 1 : Nat) : Int) mk l) → (∀ k, k < l → mk (itF (fC T) k c) = 0) → ¬ mkW (fC T) c ((i + 1 : Nat) : Int) mk l (itF (fC T) l c) = 0 → xV (d + 1) am_m111 40 [some (.ref 58), some (.int a), some (.int b), some (.int wat), some (.int wl)] [] hp1 R := by
    intro l wat wl hp1 hl hw hH hF hM h0 hs
    have m0 := hM.1
    have bi := itF_B hT hc hv l
    have li := vN_4 h15 bi
    have me := hM.2.2 _ bi
    refine xild2 42 ⟨u111, _, rfl⟩ rfl rfl ?_
    refine xif_le 45 ⟨u111, _, rfl⟩ rfl (fun c42 => ?_) (fun c42 => ?_)
    · refine xcst 59 (0) ⟨u111, _, rfl⟩ rfl (by decide) (fun z58 h58 => ?_)
      exact xretB ⟨u111, _, rfl⟩ rfl (by omega) (hR _ false _ _ hH hF hM (rdI_s hT hc I hv hi h0 hs ⟨fun u => by cases u, fun u => by omega⟩) h58)
    · refine xald 46 ⟨u111, _, rfl⟩ rfl rfl ?_
      refine xild 47 ⟨u111, _, rfl⟩ rfl rfl ?_
      refine xcallC 50 (o := 58) [.int _] [] hH ⟨u111, _, rfl⟩ rfl rfl (by decide) rfl (by decide) rfl ⟨rfl, rfl, rfl, rfl⟩ rfl (k_105E (r := vN V (itF (fC T) l c)) hH m0 h455 hw li (fun z47 h47 => ⟨_, rfl, ?_⟩))
      rw [me] at h47
      refine xild 51 ⟨u111, _, rfl⟩ rfl rfl ?_
      refine xcmp_ne 54 ⟨u111, _, rfl⟩ rfl (fun c51 => ?_) (fun c51 => ?_)
      · refine xcst 59 (0) ⟨u111, _, rfl⟩ rfl (by decide) (fun z58 h58 => ?_)
        exact xretB ⟨u111, _, rfl⟩ rfl (by omega) (hR _ false _ _ hH hF hM (rdI_s hT hc I hv hi h0 hs ⟨fun u => by cases u, fun u => by omega⟩) h58)
      · refine xcst 55 (1) ⟨u111, _, rfl⟩ rfl (by decide) (fun z54 h54 => ?_)
        refine xgoto ⟨u111, _, rfl⟩ ?_
        exact xretB ⟨u111, _, rfl⟩ rfl (by omega) (hR _ true _ _ hH hF hM (rdI_s hT hc I hv hi h0 hs ⟨fun _ => ⟨by omega, by omega⟩, fun _ => rfl⟩) h54)
  intro jj
  induction jj with
  | zero =>
    intro l wat wl hp1 hl hj hw hH hF hM h0 hd
    have m0 := hM.1
    have eN : l = vN V 4096 := by omega
    have hs : ¬ mkW (fC T) c ((i + 1 : Nat) : Int) mk l (itF (fC T) l c) = 0 := by
      obtain ⟨p, q, pq1, qN, e⟩ := fg_rep hT hc hv
      have hq : q = l := by
        apply Classical.byContradiction
        intro w
        exact hd p q pq1 (by omega) e
      rw [mkW_1 l ⟨p, by omega, by rw [e, hq]⟩]
      omega
    refine xild2 7 ⟨u111, _, rfl⟩ rfl rfl ?_
    refine xald 8 ⟨u111, _, rfl⟩ rfl rfl ?_
    refine xgetC 11 hH ⟨u111, _, rfl⟩ rfl (by decide) (by decide) rfl rfl (by decide) (fun z8 h8 => ?_)
    refine xcmp_ge 14 ⟨u111, _, rfl⟩ rfl (fun c11 => ?_) (fun c11 => ?_)
    · exact fin l _ _ _ hl hw hH hF hM h0 hs
    · omega
  | succ jj ih =>
    intro l wat wl hp1 hl hj hw hH hF hM h0 hd
    have m0 := hM.1
    have bi := itF_B hT hc hv l
    have li := vN_4 h15 bi
    have me := hM.2.2 _ bi
    refine xild2 7 ⟨u111, _, rfl⟩ rfl rfl ?_
    refine xald 8 ⟨u111, _, rfl⟩ rfl rfl ?_
    refine xgetC 11 hH ⟨u111, _, rfl⟩ rfl (by decide) (by decide) rfl rfl (by decide) (fun z8 h8 => ?_)
    refine xcmp_ge 14 ⟨u111, _, rfl⟩ rfl (fun c11 => ?_) (fun c11 => ?_)
    · omega
    · refine xald 15 ⟨u111, _, rfl⟩ rfl rfl ?_
      refine xild 16 ⟨u111, _, rfl⟩ rfl rfl ?_
      refine xcallC 19 (o := 58) [.int _] [] hH ⟨u111, _, rfl⟩ rfl rfl (by decide) rfl (by decide) rfl ⟨rfl, rfl, rfl, rfl⟩ rfl (k_105E (r := vN V (itF (fC T) l c)) hH m0 h455 hw li (fun z16 h16 => ⟨_, rfl, ?_⟩))
      rw [me] at h16
      refine xif_ne 22 ⟨u111, _, rfl⟩ rfl (fun c19 => ?_) (fun c19 => ?_)
      · exact fin l _ _ _ hl hw hH hF hM h0 (by omega)
      · have free : (∀ k, k < l → ¬ itF (fC T) k c = itF (fC T) l c) ∧ mk (itF (fC T) l c) = 0 := by
          rcases mkW_c (F := fC T) (e := c) (b := itF (fC T) l c) (s := ((i + 1 : Nat) : Int)) (mk := mk) l with ⟨-, e⟩ | ⟨g, e⟩
          · rw [e] at h16; omega
          · exact ⟨g, by rw [e] at h16; omega⟩
        refine xald 23 ⟨u111, _, rfl⟩ rfl rfl ?_
        refine xild 24 ⟨u111, _, rfl⟩ rfl rfl ?_
        refine xild 25 ⟨u111, _, rfl⟩ rfl rfl ?_
        refine xcallC 28 (o := 58) [.int _, .int _] [] hH ⟨u111, _, rfl⟩ rfl rfl (by decide) rfl (by decide) rfl ⟨rfl, rfl, rfl, rfl⟩ rfl (k_106E (r := vN V (itF (fC T) l c)) hH m0 h455 hw li (fun hp25 hH25 U25 => ⟨_, rfl, ?_⟩))
        rw [hb] at U25
        have M25 : trM hp25 V T (mkW (fC T) c ((i + 1 : Nat) : Int) mk (l + 1)) := trM_U bi hM U25 (fun b => rfl)
        have m1 := M25.1
        refine xald 29 ⟨u111, _, rfl⟩ rfl rfl ?_
        refine xild 30 ⟨u111, _, rfl⟩ rfl rfl ?_
        refine xcallC 33 (o := 58) [.int _] [] hH25 ⟨u111, _, rfl⟩ rfl rfl (by decide) rfl (by decide) rfl ⟨rfl, rfl, rfl, rfl⟩ rfl (k_104E (r := vN V (itF (fC T) l c)) hH25 m1 h455 hw li (fun z30 h30 => ⟨_, rfl, ?_⟩))
        rw [M25.2.1 _ bi] at h30
        refine xist 34 ⟨u111, _, rfl⟩ rfl rfl ?_
        refine xinc 37 (1) ⟨u111, _, rfl⟩ rfl rfl rfl (by decide) (by omega) (by omega) (fun z34 h34 => ?_)
        refine xgoto ⟨u111, _, rfl⟩ ?_
        exact ih (l + 1) _ _ _ (by omega) (by omega) h30 hH25 (hF.trans (bFx_U U25 (by simp))) M25 (fun k hk => by
          by_cases q : k = l
          · rw [q]; exact free.2
          · exact h0 k (by omega)) (fun k m hk hm => by
          by_cases q : m = l
          · rw [q]; exact free.1 k (by omega)
          · exact hd k m hk (by omega))
theorem k_111E {d V c i f : Nat} {T : sT} {mk : Nat → Int} {hp : amH} {R : xQ} {a b : Int32} (hH : bHk 84 bTT hp) (hT : sOk V T) (hc : opC V T = 0) (hM : trM hp V T mk) (I : rdI V T i mk f) (hv : vB V c = true) (hi : vN V c = i) (ha : a.toInt = (i : Int)) (hb : b.toInt = ((i + 1 : Nat) : Int))
    (hR : ∀ (z : Int32) (y : Bool) (mk1 : Nat → Int) hp1, bHk 84 bTT hp1 → bFx [61] hp hp1 → trM hp1 V T mk1 → rdI V T (i + 1) mk1 (f + if y = true then 1 else 0) → z.toInt = (if y = true then 1 else 0) → R (.inl (some (.int z))) hp1) : xK (d + 1) 111 [.ref 58, .int a, .int b] hp R := by
  refine xin (M := am_m111) rfl rfl rfl ?_
  refine xild 1 ⟨u111, _, rfl⟩ rfl rfl ?_
  refine xist 2 ⟨u111, _, rfl⟩ rfl rfl ?_
  refine xcst 3 (0) ⟨u111, _, rfl⟩ rfl (by decide) (fun z2 h2 => ?_)
  refine xist2 5 ⟨u111, _, rfl⟩ rfl rfl ?_
  exact l111E hT hc I hv hi hb hR (vN V 4096) 0 _ _ hp h2 (by omega) (by rw [ha, ← hi]; rfl) hH bFx.refl hM (fun k hk => by omega) (fun k m hk hm => by omega)
theorem u110 : bUp 0 am_m110.1 = true := by decide +kernel
theorem l110E {d V : Nat} {T : sT} {hp0 : amH} {R : xQ} (hT : sOk V T) (hc : opC V T = 0)
    (hR : ∀ (z : Int32) hp1, bHk 84 bTT hp1 → bFx [61] hp0 hp1 → z.toInt = ((pfG V (fun m => bR T m = true) 4096 : Nat) : Int) → R (.inl (some (.int z))) hp1) :
    ∀ (jj i f : Nat) (mk : Nat → Int) (w wi : Int32) (hp1 : amH), wi.toInt = (i : Int) → i + jj = vN V 4096 → w.toInt = (f : Int) → bHk 84 bTT hp1 → bFx [61] hp0 hp1 → trM hp1 V T mk → rdI V T i mk f → xV (d + 2) am_m110 4 [some (.ref 58), some (.int w), some (.int wi)] [] hp1 R := by
  have h15 := hT.2.1
  have h455 := vN_455 h15
  intro jj
  induction jj with
  | zero =>
    intro i f mk w wi hp1 hi hj hw hH hF hM I
    have m0 := hM.1
    have ef : f = pfG V (fun m => bR T m = true) 4096 := by
      rw [I.2.2.2]
      refine sm_ext _ (fun m _ => iv_eq ⟨fun u => ⟨u.1, u.2.1⟩, fun u => ⟨u.1, u.2, I.2.2.1 m u.1 (by have := vN_4 h15 u.1; omega)⟩⟩)
    refine xild 5 ⟨u110, _, rfl⟩ rfl rfl ?_
    refine xald 6 ⟨u110, _, rfl⟩ rfl rfl ?_
    refine xgetC 9 hH ⟨u110, _, rfl⟩ rfl (by decide) (by decide) rfl rfl (by decide) (fun z6 h6 => ?_)
    refine xcmp_ge 12 ⟨u110, _, rfl⟩ rfl (fun c9 => ?_) (fun c9 => ?_)
    · refine xild 33 ⟨u110, _, rfl⟩ rfl rfl ?_
      exact xret ⟨u110, _, rfl⟩ rfl (hR _ _ hH hF (by rw [← ef]; exact hw))
    · omega
  | succ jj ih =>
    intro i f mk w wi hp1 hi hj hw hH hF hM I
    have m0 := hM.1
    obtain ⟨g1, g2, g3⟩ := fL_get (B := vB V) 4096 i (show i < vN V 4096 by omega)
    have g3 : vN V ((fL (vB V) 4096).getD i 0) = i := g3
    have fb : f ≤ 455 := by
      rw [I.2.2.2]
      exact pf_455 h15 (Nat.le_refl _)
    refine xild 5 ⟨u110, _, rfl⟩ rfl rfl ?_
    refine xald 6 ⟨u110, _, rfl⟩ rfl rfl ?_
    refine xgetC 9 hH ⟨u110, _, rfl⟩ rfl (by decide) (by decide) rfl rfl (by decide) (fun z6 h6 => ?_)
    refine xcmp_ge 12 ⟨u110, _, rfl⟩ rfl (fun c9 => ?_) (fun c9 => ?_)
    · omega
    · refine xald 13 ⟨u110, _, rfl⟩ rfl rfl ?_
      refine xild 14 ⟨u110, _, rfl⟩ rfl rfl ?_
      refine xild 15 ⟨u110, _, rfl⟩ rfl rfl ?_
      refine xcst 16 (1) ⟨u110, _, rfl⟩ rfl (by decide) (fun z15 h15 => ?_)
      refine xadd 17 _ ⟨u110, _, rfl⟩ rfl rfl (by omega) (by omega) (fun z16 h16 => ?_)
      refine xcallC 20 (o := 58) [.int _, .int _] [] hH ⟨u110, _, rfl⟩ rfl rfl (by decide) rfl (by decide) rfl ⟨rfl, rfl, rfl, rfl⟩ rfl (k_111E (c := (fL (vB V) 4096).getD i 0) hH hT hc hM I g1 g3 hi (by omega) (fun z17 y17 k17 hp17 hH17 F17 M17 J17 h17 => ⟨_, rfl, ?_⟩))
      refine xif_eq 23 ⟨u110, _, rfl⟩ rfl (fun c20 => ?_) (fun c20 => ?_)
      · refine xinc 29 (1) ⟨u110, _, rfl⟩ rfl rfl rfl (by decide) (by omega) (by omega) (fun z26 h26 => ?_)
        refine xgoto ⟨u110, _, rfl⟩ ?_
        have ey : y17 = false := by
          cases y17
          · rfl
          · rw [if_pos rfl] at h17; omega
        rw [ey] at J17
        exact ih (i + 1) f k17 _ _ _ (by omega) (by omega) (by omega) hH17 (hF.trans F17) M17 J17
      · refine xinc 26 (1) ⟨u110, _, rfl⟩ rfl rfl rfl (by decide) (by omega) (by omega) (fun z23 h23 => ?_)
        refine xinc 29 (1) ⟨u110, _, rfl⟩ rfl rfl rfl (by decide) (by omega) (by omega) (fun z26 h26 => ?_)
        refine xgoto ⟨u110, _, rfl⟩ ?_
        have ey : y17 = true := by
          cases y17
          · rw [if_neg (by decide)] at h17; omega
          · rfl
        rw [ey] at J17
        exact ih (i + 1) (f + 1) k17 _ _ _ (by omega) (by omega) (by omega) hH17 (hF.trans F17) M17 J17
theorem k_110E {d V : Nat} {T : sT} {hp : amH} {R : xQ} (hH : bHk 84 bTT hp) (hT : sOk V T) (hc : opC V T = 0) (hM : trM hp V T (fun _ => 0))
    (hR : ∀ (z : Int32) hp1, bHk 84 bTT hp1 → bFx [61] hp hp1 → z.toInt = ((pfG V (fun m => bR T m = true) 4096 : Nat) : Int) → R (.inl (some (.int z))) hp1) : xK (d + 2) 110 [.ref 58] hp R := by
  have I0 : rdI V T 0 (fun _ => 0) 0 := ⟨fun b _ => ⟨Int.le_refl _, Int.le_refl _⟩, fun b _ h => absurd rfl h, fun b _ h => by omega, (sm_none (fun m _ => iv_f (fun w => w.2.2 rfl))).symm⟩
  refine xin (M := am_m110) rfl rfl rfl ?_
  refine xcst 1 (0) ⟨u110, _, rfl⟩ rfl (by decide) (fun z0 h0 => ?_)
  refine xist 2 ⟨u110, _, rfl⟩ rfl rfl ?_
  refine xcst 3 (0) ⟨u110, _, rfl⟩ rfl (by decide) (fun z2 h2 => ?_)
  refine xist 4 ⟨u110, _, rfl⟩ rfl rfl ?_
  exact l110E hT hc hR (vN V 4096) 0 0 _ _ _ hp h2 (by omega) h0 hH bFx.refl hM I0
theorem u155 : bUp 0 am_m155.1 = true := by decide +kernel
theorem k_155E {d V n : Nat} {h : Nat → sR} {sv : Option sR} {T : sT} {ty : Nat → Int} {hp : amH} {R : xQ} (hH : bHk 84 bTT hp) (hS : clS hp (V, T, ty) n h sv)
    (hT : ∀ E hp1, bHk 84 bTT hp1 → cF hp hp1 → clS hp1 (V, T, ty) n h sv → ¬ gCm V T = 0 → ((gCm V T = 1 ∧ E = 2)) → R (.inr E) hp1)
    (hR : ∀ (z : Int32) hp1, bHk 84 bTT hp1 → cF hp hp1 → gCm V T = 0 → clS hp1 (V, T, ty) n h sv → z.toInt = ((pfG V (fun m => bR T m = true) 4096 : Nat) : Int) → R (.inl (some (.int z))) hp1) : xK (d + 6) 155 [.ref 0] hp R := by
  have hB : bdOk hp 3 V T := hS.1
  have b0 : rN hp 3 0 = (V : Int) := hB.1
  have hL : lsN hp 3 T 225 := hS.2.1
  have b1 : rN hp 3 1 = (((trL T 225).length : Nat) : Int) := hL.1
  have hT0 : sOk V T := hB.2.1
  have h15 : V ≤ 15 := hT0.2.1
  have l35 : (trL T 225).length ≤ 35 := trL_35 hT0 225
  have nq0 : rN hp 49 0 = ((nQ T : Nat) : Int) := hS.2.2.1.1
  refine xin (M := am_m155) rfl rfl rfl ?_
  refine xald 1 ⟨u155, _, rfl⟩ rfl rfl ?_
  refine xcallT 4 (o := 0) [] [] hH ⟨u155, _, rfl⟩ rfl rfl (by decide) rfl (by decide) rfl ⟨rfl, rfl, rfl, rfl⟩ rfl (k_182E hH hB (fun k1 => Or.inl ⟨_, rfl, ?_⟩) (fun k1 => Or.inr ⟨_, rfl, rfl, hT _ hp hH cF.refl hS (by rw [gCm_1 k1]; decide) (⟨gCm_1 k1, rfl⟩)⟩))
  have c4 := k1
  refine xald 5 ⟨u155, _, rfl⟩ rfl rfl ?_
  refine xgetD 8 (58) hH ⟨u155, _, rfl⟩ rfl (by decide) (by decide) rfl rfl (by decide) ?_
  refine xald 9 ⟨u155, _, rfl⟩ rfl rfl ?_
  refine xgetD 12 (3) hH ⟨u155, _, rfl⟩ rfl (by decide) (by decide) rfl rfl (by decide) ?_
  refine xcallC 15 (o := 58) [.ref 3] [] hH ⟨u155, _, rfl⟩ rfl rfl (by decide) rfl (by decide) rfl ⟨rfl, rfl, rfl, rfl⟩ rfl (k_100E hH hB c4 (fun hp12 hH12 F12 C12 => ⟨_, rfl, ?_⟩))
  have S12 := clS_8 hS (fun c k hc => F12 c k (by simp; omega))
  have G12 : cF hp hp12 := cF_x F12 (by simp)
  have o12 := C12.1
  refine xald 16 ⟨u155, _, rfl⟩ rfl rfl ?_
  refine xgetD 19 (58) hH12 ⟨u155, _, rfl⟩ rfl (by decide) (by decide) rfl rfl (by decide) ?_
  refine xcallC 22 (o := 58) [] [] hH12 ⟨u155, _, rfl⟩ rfl rfl (by decide) rfl (by decide) rfl ⟨rfl, rfl, rfl, rfl⟩ rfl (k_110E hH12 hT0 c4 (trM_C h15 C12) (fun z19 hp19 hH19 F19 h19 => ⟨_, rfl, ?_⟩))
  exact xret ⟨u155, _, rfl⟩ rfl (hR _ hp19 hH19 (G12.trans (cF_x F19 (by simp))) (gCm_0.mpr c4) (clS_8 S12 (fun c k hc => F19 c k (by simp; omega))) h19)
theorem u319E : bUp 0 am_m319.1 = true := by decide +kernel
theorem l319E {d V c : Nat} {T : sT} {hp : amH} {R : xQ} {a : Int32} (hH : bHk 84 bTT hp) (hB : rdOk hp V T) (hc : opC V T = 0) (hv : vB V c = true) (ha : a.toInt = (c : Int)) (hp0 : 0 < pd T c)
    (hR : ∀ z : Int32, ((z.toInt = 1 ∧ bR T c = true) ∨ (z.toInt = 0 ∧ ¬ bR T c = true)) → R (.inl (some (.int z))) hp) :
    ∀ (jj j : Nat) (wat : Int32), j + jj = pd T c → 0 < j → wat.toInt = ((itF (fC T) j c : Nat) : Int) → (∀ i, i < j → c ≤ itF (fC T) i c) → xV (d + 4) am_m319 16 [some (.ref 66), some (.int a), some (.int wat)] [] hp R := by
  have hT := hB.2.1
  obtain ⟨p1, p2⟩ := pd_it hp0
  intro jj
  induction jj with
  | zero =>
    intro j wat hj h0 hw hl
    have ej : j = pd T c := by omega
    have e1 : itF (fC T) j c = c := by rw [ej]; exact p1
    refine xild 17 ⟨u319E, _, rfl⟩ rfl rfl ?_
    refine xild 18 ⟨u319E, _, rfl⟩ rfl rfl ?_
    refine xcmp_eq 21 ⟨u319E, _, rfl⟩ rfl (fun c18 => ?_) (fun c18 => ?_)
    · refine xcst 38 (1) ⟨u319E, _, rfl⟩ rfl (by decide) (fun z37 h37 => ?_)
      exact xretB ⟨u319E, _, rfl⟩ rfl (by omega) (hR _ (Or.inl ⟨by omega, bR_s.mpr ⟨hp0, fun i hi => hl i (by omega)⟩⟩))
    · omega
  | succ jj ih =>
    intro j wat hj h0 hw hl
    have bi := itF_B hT hc hv j
    have ne := p2 j h0 (by omega)
    refine xild 17 ⟨u319E, _, rfl⟩ rfl rfl ?_
    refine xild 18 ⟨u319E, _, rfl⟩ rfl rfl ?_
    refine xcmp_eq 21 ⟨u319E, _, rfl⟩ rfl (fun c18 => ?_) (fun c18 => ?_)
    · omega
    · refine xild 22 ⟨u319E, _, rfl⟩ rfl rfl ?_
      refine xild 23 ⟨u319E, _, rfl⟩ rfl rfl ?_
      refine xcmp_ge 26 ⟨u319E, _, rfl⟩ rfl (fun c23 => ?_) (fun c23 => ?_)
      · refine xald 29 ⟨u319E, _, rfl⟩ rfl rfl ?_
        refine xild 30 ⟨u319E, _, rfl⟩ rfl rfl ?_
        refine xcall 33 [.ref 66, .int _] [] hH ⟨u319E, _, rfl⟩ rfl rfl rfl rfl rfl (k_311F hH hB hc bi hw (fun z30 h30 => ⟨_, rfl, ?_⟩))
        refine xist 34 ⟨u319E, _, rfl⟩ rfl rfl ?_
        refine xgoto ⟨u319E, _, rfl⟩ ?_
        exact ih (j + 1) _ (by omega) (by omega) h30 (fun i hi => by
          by_cases q : i = j
          · rw [q]; omega
          · exact hl i (by omega))
      · refine xcst 27 (0) ⟨u319E, _, rfl⟩ rfl (by decide) (fun z26 h26 => ?_)
        exact xretB ⟨u319E, _, rfl⟩ rfl (by omega) (hR _ (Or.inr ⟨by omega, fun w => by have := bR_all w j; omega⟩))
theorem k_319E {d V c : Nat} {T : sT} {hp : amH} {R : xQ} {a : Int32} (hH : bHk 84 bTT hp) (hB : rdOk hp V T) (hc : opC V T = 0) (hv : vB V c = true) (ha : a.toInt = (c : Int))
    (hR : ∀ z : Int32, ((z.toInt = 1 ∧ bR T c = true) ∨ (z.toInt = 0 ∧ ¬ bR T c = true)) → R (.inl (some (.int z))) hp) : xK (d + 4) 319 [.ref 66, .int a] hp R := by
  refine xin (M := am_m319) rfl rfl rfl ?_
  refine xald 1 ⟨u319E, _, rfl⟩ rfl rfl ?_
  refine xild 2 ⟨u319E, _, rfl⟩ rfl rfl ?_
  refine xcall 5 [.ref 66, .int _] [] hH ⟨u319E, _, rfl⟩ rfl rfl rfl rfl rfl (k_313E hH hB hc hv ha (fun z2 h2 => ⟨_, rfl, ?_⟩))
  refine xif_ne 8 ⟨u319E, _, rfl⟩ rfl (fun c5 => ?_) (fun c5 => ?_)
  · refine xald 11 ⟨u319E, _, rfl⟩ rfl rfl ?_
    refine xild 12 ⟨u319E, _, rfl⟩ rfl rfl ?_
    refine xcall 15 [.ref 66, .int _] [] hH ⟨u319E, _, rfl⟩ rfl rfl rfl rfl rfl (k_311F hH hB hc hv ha (fun z12 h12 => ⟨_, rfl, ?_⟩))
    refine xist 16 ⟨u319E, _, rfl⟩ rfl rfl ?_
    exact l319E hH hB hc hv ha (by omega) hR (pd T c - 1) 1 _ (by omega) (by omega) h12 (fun i hi => by rw [show i = 0 by omega]; exact Nat.le_refl _)
  · refine xcst 9 (0) ⟨u319E, _, rfl⟩ rfl (by decide) (fun z8 h8 => ?_)
    exact xretB ⟨u319E, _, rfl⟩ rfl (by omega) (hR _ (Or.inr ⟨h8, fun w => by have := (bR_s.mp w).1; omega⟩))
theorem u320E : bUp 0 am_m320.1 = true := by decide +kernel
theorem l320Ex {d V : Nat} {T : sT} {hp : amH} {R : xQ} (hH : bHk 84 bTT hp) (hB : rdOk hp V T) (hc : opC V T = 0) {z y : Nat} {wz wy : Int32} (hz : wz.toInt = (z : Int)) (hy : wy.toInt = (y : Int)) (h2 : y < z) (h3 : z < V)
    (hQ : ∀ w wx : Int32, w.toInt = ((pfG V (fun m => bR T m = true) (256 * z + 16 * (y + 1)) : Nat) : Int) → xV (d + 5) am_m320 83 [some (.ref 66), some (.int w), some (.int wz), some (.int wy), some (.int wx)] [] hp R) :
    ∀ (jj x : Nat) (w wx : Int32), wx.toInt = (x : Int) → x + jj = y → w.toInt = ((pfG V (fun m => bR T m = true) (256 * z + 16 * y + x) : Nat) : Int) → xV (d + 5) am_m320 49 [some (.ref 66), some (.int w), some (.int wz), some (.int wy), some (.int wx)] [] hp R := by
  have hT := hB.2.1
  have h15 : V ≤ 15 := hT.2.1
  have b0 : rN hp 67 0 = (V : Int) := hB.1
  have h455 := vN_455 h15
  intro jj
  induction jj with
  | zero =>
    intro x w wx hx hj hw
    have ex : x = y := by omega
    subst ex
    have g := pf_no (V := V) (P := (fun m => bR T m = true)) (256 * z + 16 * x + x) (16 - x) (fun j j1 j2 w => by have w := of_decide_eq_true w; omega)
    rw [show 256 * z + 16 * x + x + (16 - x) = 256 * z + 16 * (x + 1) by omega] at g
    refine xild2 51 ⟨u320E, _, rfl⟩ rfl rfl ?_
    refine xild 52 ⟨u320E, _, rfl⟩ rfl rfl ?_
    refine xcmp_ge 55 ⟨u320E, _, rfl⟩ rfl (fun c52 => ?_) (fun c52 => ?_)
    · exact hQ _ _ (by rw [g]; exact hw)
    · omega
  | succ jj ih =>
    intro x w wx hx hj hw
    have hb := vB_c h15 (show x < y by omega) h2 h3
    have e9 : pfG V (fun m => bR T m = true) (256 * z + 16 * y + x + 1) = pfG V (fun m => bR T m = true) (256 * z + 16 * y + x) + iv (vB V (256 * z + 16 * y + x) = true ∧ (fun m => bR T m = true) (256 * z + 16 * y + x)) := rfl
    have b9 := pf_455 (P := (fun m => bR T m = true)) h15 (show 256 * z + 16 * y + x ≤ 4096 by omega)
    have ec : cod z y x = 256 * z + 16 * y + x := by unfold cod; omega
    refine xild2 51 ⟨u320E, _, rfl⟩ rfl rfl ?_
    refine xild 52 ⟨u320E, _, rfl⟩ rfl rfl ?_
    refine xcmp_ge 55 ⟨u320E, _, rfl⟩ rfl (fun c52 => ?_) (fun c52 => ?_)
    · omega
    · refine xild 56 ⟨u320E, _, rfl⟩ rfl rfl ?_
      refine xald 57 ⟨u320E, _, rfl⟩ rfl rfl ?_
      refine xild 58 ⟨u320E, _, rfl⟩ rfl rfl ?_
      refine xild 59 ⟨u320E, _, rfl⟩ rfl rfl ?_
      refine xild2 61 ⟨u320E, _, rfl⟩ rfl rfl ?_
      refine xcallS 64 [.int _, .int _, .int _] [.ref 66, .int _] hH ⟨u320E, _, rfl⟩ rfl rfl rfl rfl rfl (k_310E hH (x := z) (y := y) (z := x) hz hy hx (by omega) (by omega) (by omega) (fun z61 h61 => ⟨_, rfl, ?_⟩))
      rw [ec] at h61
      refine xcall 67 [.ref 66, .int _] [.int _] hH ⟨u320E, _, rfl⟩ rfl rfl rfl rfl rfl (k_319E hH hB hc hb h61 (fun z64 h64 => ⟨_, rfl, ?_⟩))
      refine xif_eq 70 ⟨u320E, _, rfl⟩ rfl (fun c67 => ?_) (fun c67 => ?_)
      · refine xcst 75 (0) ⟨u320E, _, rfl⟩ rfl (by decide) (fun z74 h74 => ?_)
        refine xadd 76 _ ⟨u320E, _, rfl⟩ rfl rfl (by omega) (by omega) (fun z75 h75 => ?_)
        refine xist 77 ⟨u320E, _, rfl⟩ rfl rfl ?_
        refine xinc 80 (1) ⟨u320E, _, rfl⟩ rfl rfl rfl (by decide) (by omega) (by omega) (fun z77 h77 => ?_)
        refine xgoto ⟨u320E, _, rfl⟩ ?_
        have y9 : ¬ bR T (256 * z + 16 * y + x) = true := by
          rcases h64 with ⟨u, -⟩ | ⟨-, u⟩
          · omega
          · exact u
        rw [iv_f (p := vB V (256 * z + 16 * y + x) = true ∧ (fun m => bR T m = true) (256 * z + 16 * y + x)) (fun w => y9 w.2)] at e9
        exact ih (x + 1) _ _ (by omega) (by omega) (by show _ = ((pfG V (fun m => bR T m = true) (256 * z + 16 * y + x + 1) : Nat) : Int); omega)
      · refine xcst 71 (1) ⟨u320E, _, rfl⟩ rfl (by decide) (fun z70 h70 => ?_)
        refine xgoto ⟨u320E, _, rfl⟩ ?_
        refine xadd 76 _ ⟨u320E, _, rfl⟩ rfl rfl (by omega) (by omega) (fun z75 h75 => ?_)
        refine xist 77 ⟨u320E, _, rfl⟩ rfl rfl ?_
        refine xinc 80 (1) ⟨u320E, _, rfl⟩ rfl rfl rfl (by decide) (by omega) (by omega) (fun z77 h77 => ?_)
        refine xgoto ⟨u320E, _, rfl⟩ ?_
        have y9 : bR T (256 * z + 16 * y + x) = true := by
          rcases h64 with ⟨-, u⟩ | ⟨u, -⟩
          · exact u
          · omega
        rw [iv_t (p := vB V (256 * z + 16 * y + x) = true ∧ (fun m => bR T m = true) (256 * z + 16 * y + x)) ⟨hb, y9⟩] at e9
        exact ih (x + 1) _ _ (by omega) (by omega) (by show _ = ((pfG V (fun m => bR T m = true) (256 * z + 16 * y + x + 1) : Nat) : Int); omega)
theorem l320Ey {d V : Nat} {T : sT} {hp : amH} {R : xQ} (hH : bHk 84 bTT hp) (hB : rdOk hp V T) (hc : opC V T = 0) {z : Nat} {wz : Int32} (hz : wz.toInt = (z : Int)) (h3 : z < V)
    (hQ : ∀ (w wy : Int32) (v5 : Option Value), w.toInt = ((pfG V (fun m => bR T m = true) (256 * (z + 1)) : Nat) : Int) → xV (d + 5) am_m320 89 [some (.ref 66), some (.int w), some (.int wz), some (.int wy), v5] [] hp R) :
    ∀ (jj y : Nat) (w wy : Int32) (v5 : Option Value), wy.toInt = (y : Int) → y + jj = z → w.toInt = ((pfG V (fun m => bR T m = true) (256 * z + 16 * y) : Nat) : Int) → xV (d + 5) am_m320 41 [some (.ref 66), some (.int w), some (.int wz), some (.int wy), v5] [] hp R := by
  have hT := hB.2.1
  have h15 : V ≤ 15 := hT.2.1
  have b0 : rN hp 67 0 = (V : Int) := hB.1
  have h455 := vN_455 h15
  intro jj
  induction jj with
  | zero =>
    intro y w wy v5 hy hj hw
    have g := pf_no (V := V) (P := (fun m => bR T m = true)) (256 * z + 16 * y) (256 - 16 * y) (fun j j1 j2 w => by have w := of_decide_eq_true w; omega)
    rw [show 256 * z + 16 * y + (256 - 16 * y) = 256 * (z + 1) by omega] at g
    refine xild 42 ⟨u320E, _, rfl⟩ rfl rfl ?_
    refine xild 43 ⟨u320E, _, rfl⟩ rfl rfl ?_
    refine xcmp_ge 46 ⟨u320E, _, rfl⟩ rfl (fun c43 => ?_) (fun c43 => ?_)
    · exact hQ _ _ _ (by rw [g]; exact hw)
    · omega
  | succ jj ih =>
    intro y w wy v5 hy hj hw
    refine xild 42 ⟨u320E, _, rfl⟩ rfl rfl ?_
    refine xild 43 ⟨u320E, _, rfl⟩ rfl rfl ?_
    refine xcmp_ge 46 ⟨u320E, _, rfl⟩ rfl (fun c43 => ?_) (fun c43 => ?_)
    · omega
    · refine xcst 47 (0) ⟨u320E, _, rfl⟩ rfl (by decide) (fun z46 h46 => ?_)
      refine xist2 49 ⟨u320E, _, rfl⟩ rfl rfl ?_
      refine l320Ex hH hB hc hz hy (by omega) h3 (fun w1 xx r1 => ?_) y 0 _ _ h46 (by omega) hw
      refine xinc 86 (1) ⟨u320E, _, rfl⟩ rfl rfl rfl (by decide) (by omega) (by omega) (fun z83 h83 => ?_)
      refine xgoto ⟨u320E, _, rfl⟩ ?_
      exact ih (y + 1) _ _ _ (by omega) (by omega) r1
theorem l320Ez {d V : Nat} {T : sT} {hp : amH} {R : xQ} (hH : bHk 84 bTT hp) (hB : rdOk hp V T) (hc : opC V T = 0)
    (hR : ∀ w : Int32, w.toInt = ((pfG V (fun m => bR T m = true) 4096 : Nat) : Int) → R (.inl (some (.int w))) hp) :
    ∀ (jj z : Nat) (w wz : Int32) (v4 v5 : Option Value), wz.toInt = (z : Int) → z + jj = V → w.toInt = ((pfG V (fun m => bR T m = true) (256 * z) : Nat) : Int) → xV (d + 5) am_m320 31 [some (.ref 66), some (.int w), some (.int wz), v4, v5] [] hp R := by
  have hT := hB.2.1
  have h15 : V ≤ 15 := hT.2.1
  have b0 : rN hp 67 0 = (V : Int) := hB.1
  have h455 := vN_455 h15
  intro jj
  induction jj with
  | zero =>
    intro z w wz v4 v5 hz hj hw
    have g := pf_no (V := V) (P := (fun m => bR T m = true)) (256 * z) (4096 - 256 * z) (fun j j1 j2 w => by have w := of_decide_eq_true w; omega)
    rw [show 256 * z + (4096 - 256 * z) = 4096 by omega] at g
    refine xild 32 ⟨u320E, _, rfl⟩ rfl rfl ?_
    refine xald 33 ⟨u320E, _, rfl⟩ rfl rfl ?_
    refine xcall 36 [.ref 66] [.int _] hH ⟨u320E, _, rfl⟩ rfl rfl rfl rfl rfl (k_points hH (fun z33 h33 => ⟨_, rfl, ?_⟩))
    refine xcmp_ge 39 ⟨u320E, _, rfl⟩ rfl (fun c36 => ?_) (fun c36 => ?_)
    · refine xild 96 ⟨u320E, _, rfl⟩ rfl rfl ?_
      exact xret ⟨u320E, _, rfl⟩ rfl (hR _ (by rw [g]; exact hw))
    · omega
  | succ jj ih =>
    intro z w wz v4 v5 hz hj hw
    refine xild 32 ⟨u320E, _, rfl⟩ rfl rfl ?_
    refine xald 33 ⟨u320E, _, rfl⟩ rfl rfl ?_
    refine xcall 36 [.ref 66] [.int _] hH ⟨u320E, _, rfl⟩ rfl rfl rfl rfl rfl (k_points hH (fun z33 h33 => ⟨_, rfl, ?_⟩))
    refine xcmp_ge 39 ⟨u320E, _, rfl⟩ rfl (fun c36 => ?_) (fun c36 => ?_)
    · omega
    · refine xcst 40 (0) ⟨u320E, _, rfl⟩ rfl (by decide) (fun z39 h39 => ?_)
      refine xist 41 ⟨u320E, _, rfl⟩ rfl rfl ?_
      refine l320Ey hH hB hc hz (by omega) (fun w1 xy v5 r1 => ?_) z 0 _ _ _ h39 (by omega) hw
      refine xinc 92 (1) ⟨u320E, _, rfl⟩ rfl rfl rfl (by decide) (by omega) (by omega) (fun z89 h89 => ?_)
      refine xgoto ⟨u320E, _, rfl⟩ ?_
      exact ih (z + 1) _ _ _ _ (by omega) (by omega) r1
theorem k_320E {d V n : Nat} {h : Nat → sR} {sv : Option sR} {T : sT} {ty : Nat → Int} {hp : amH} {R : xQ} (hH : bHk 84 bTT hp) (hP : P0 hp) (hS : rfS hp (V, T, ty) n h sv)
    (hR : ∀ (z : Int32) hp1, bHk 84 bTT hp1 → P0 hp1 → bFr wM hp hp1 → rN hp1 66 7 = gCm V T → ((¬ gCm V T = 0 ∧ rfS hp1 (V, T, ty) n h sv) ∨ (gCm V T = 0 ∧ rfS hp1 (V, T, ty) n h sv ∧ z.toInt = ((pfG V (fun m => bR T m = true) 4096 : Nat) : Int))) → R (.inl (some (.int z))) hp1) : xK (d + 9) 320 [.ref 66] hp R := by
  have hB : rdOk hp V T := rowOk_rd hS.1
  have b0 : rN hp 67 0 = (V : Int) := hB.1
  have hT0 : sOk V T := hB.2.1
  have h15 : V ≤ 15 := hT0.2.1
  have l35 : (trL T 225).length ≤ 35 := trL_35 hT0 225
  refine xin (M := am_m320) rfl rfl rfl ?_
  refine xald 1 ⟨u320, _, rfl⟩ rfl rfl ?_
  refine xcst 2 (0) ⟨u320, _, rfl⟩ rfl (by decide) (fun z1 h1 => ?_)
  refine xputI 5 hH ⟨u320, _, rfl⟩ rfl rfl ⟨rfl, rfl⟩ (by omega) (by omega) (fun hp2 hH2 U2 => ?_)
  have s2 := U2.1
  have S2 := rfS_W (W := [(66, 7)]) hS (rU_fr U2 rfl) (fun _ => rfl) rfl rfl (fun _ => rfl) (fun _ => rfl)
  have P2 := P0_W (W := [(66, 7)]) (by decide) (rU_fr U2 rfl) hP
  refine xald 6 ⟨u320, _, rfl⟩ rfl rfl ?_
  refine xald 7 ⟨u320, _, rfl⟩ rfl rfl ?_
  refine xcall 10 [.ref 66] [.ref 66] hH2 ⟨u320, _, rfl⟩ rfl rfl rfl rfl rfl (k_262E hH2 P2 (show rdOk hp2 V T from rowOk_rd S2.1) (fun z7 hp7 hH7 F7 B7 L7 h7 => ⟨_, rfl, ?_⟩))
  have S7 := rfS_W S2 F7 (fun _ => rfl) rfl rfl (fun _ => rfl) (fun _ => rfl)
  have P7 : P0 hp7 := P0_W (W := bLT) (by decide) F7 P2
  have t7 : rN hp7 66 7 = 0 := (r_fr F7 rfl).trans (by rw [U2.1]; exact h1)
  have G7 : bFr wM hp hp7 := (rU_fr U2 (by decide)).trans (bFr_sub F7 (by decide))
  have i7 := ic_0 h7
  refine xif_ne 13 ⟨u320, _, rfl⟩ rfl (fun c10 => ?_) (fun c10 => ?_)
  · have c4 : opC V T = 0 := i7.1 (by omega)
    have g0 : gCm V T = 0 := gCm_0.mpr c4
    refine xcst 18 (0) ⟨u320, _, rfl⟩ rfl (by decide) (fun z17 h17 => ?_)
    refine xcst 19 (1) ⟨u320, _, rfl⟩ rfl (by decide) (fun z18 h18 => ?_)
    refine xcall 22 [.ref 66, .int _, .int _] [] hH7 ⟨u320, _, rfl⟩ rfl rfl rfl rfl rfl (k_failsE hH7 (by omega) (fun hp19 hH19 V19 => ⟨_, rfl, ?_⟩))
    refine xif_eq 25 ⟨u320, _, rfl⟩ rfl (fun c22 => ?_) (fun c22 => ?_)
    · obtain rfl : hp7 = hp19 := by
        rcases V19 with ⟨q1, e⟩ | ⟨q1, -⟩
        · exact e.symm
        · omega
      refine xcst 28 (0) ⟨u320, _, rfl⟩ rfl (by decide) (fun z27 h27 => ?_)
      refine xist 29 ⟨u320, _, rfl⟩ rfl rfl ?_
      refine xcst 30 (0) ⟨u320, _, rfl⟩ rfl (by decide) (fun z29 h29 => ?_)
      refine xist 31 ⟨u320, _, rfl⟩ rfl rfl ?_
      refine xpad 2 ?_
      exact l320Ez hH7 (show rdOk hp7 V T from rowOk_rd S7.1) c4 (fun z e => hR z hp7 hH7 P7 G7 (by rw [t7, g0]) (Or.inr ⟨g0, S7, e⟩)) V 0 _ _ _ _ h29 (by omega) h27
    · rcases V19 with ⟨q1, -⟩ | ⟨q1, -⟩ <;> omega
  · have n4 : ¬ opC V T = 0 := i7.2 (by omega)
    have g1 : gCm V T = 1 := gCm_1 n4
    refine xcst 14 (1) ⟨u320, _, rfl⟩ rfl (by decide) (fun z13 h13 => ?_)
    refine xgoto ⟨u320, _, rfl⟩ ?_
    refine xcst 19 (1) ⟨u320, _, rfl⟩ rfl (by decide) (fun z18 h18 => ?_)
    refine xcall 22 [.ref 66, .int _, .int _] [] hH7 ⟨u320, _, rfl⟩ rfl rfl rfl rfl rfl (k_failsE hH7 (by omega) (fun hp19 hH19 V19 => ⟨_, rfl, ?_⟩))
    refine xif_eq 25 ⟨u320, _, rfl⟩ rfl (fun c22 => ?_) (fun c22 => ?_)
    · rcases V19 with ⟨q1, -⟩ | ⟨q1, -⟩ <;> omega
    · refine xcst 26 (0) ⟨u320, _, rfl⟩ rfl (by decide) (fun z25 h25 => ?_)
      rcases V19 with ⟨q1, -⟩ | ⟨q1, U⟩
      · omega
      · exact xret ⟨u320, _, rfl⟩ rfl (hR _ hp19 hH19 (P0_W (W := [(66, 7)]) (by decide) (rU_fr U rfl) P7) (G7.trans (rU_fr U (by decide))) (by rw [U.1, g1]; omega) (Or.inl ⟨by rw [g1]; decide, rfS_W (W := [(66, 7)]) S7 (rU_fr U rfl) (fun _ => rfl) rfl rfl (fun _ => rfl) (fun _ => rfl)⟩))
theorem h376E {d : Nat} {hp : amH} {R : cQ} {V n : Nat} {h : Nat → sR} {sv : Option sR} {T : sT} {ty : Nat → Int} (hI : lawI hp) (c : clS hp (V, T, ty) n h sv) (r : rfS hp (V, T, ty) n h sv)
    (hR : ∀ (z : Int32) hp1 mc ms, lawI hp1 → rfS hp1 (V, T, ty) n h sv → z.toInt = gCm V T → ((¬ gCm V T = 0 ∧ clS hp1 (V, T, ty) n h sv) ∨ (gCm V T = 0 ∧ clS hp1 (V, T, ty) n h sv ∧ rJ hp1 83 0 = ((pfG V (fun m => bR T m = true) 4096 : Nat) : Int))) → mc ≤ 1 → ms ≤ 6 → R (.inl (some (.int z))) hp1 mc ms) : cK (d + 20) 376 [.ref 0, .ref 83] hp R := by
  refine cin (M := am_m376) rfl rfl rfl ?_
  refine cald 1 ⟨u376J, _, rfl⟩ rfl rfl ?_
  refine ccst 2 (0) ⟨u376J, _, rfl⟩ rfl (by decide) (fun z1 h1 => ?_)
  refine cald 3 ⟨u376J, _, rfl⟩ rfl rfl ?_
  refine ccall (kd := 0) (t := 1) [.ref 0] [.int _, .ref 83] hI.1 ⟨u376J, _, rfl⟩ (Or.inl ⟨_, rfl, rfl, by decide, by decide⟩) rfl rfl rfl ⟨rfl, rfl, rfl⟩ rfl (recv0 hI.1 _) rfl (qKE (Φ := fun z hp1 => bHk 84 bTT hp1 ∧ cF hp hp1 ∧ gCm V T = 0 ∧ clS hp1 (V, T, ty) n h sv ∧ z.toInt = ((pfG V (fun m => bR T m = true) 4096 : Nat) : Int)) (Ψ := fun E hp1 => lawI hp1 ∧ rfS hp1 (V, T, ty) n h sv ∧ clS hp1 (V, T, ty) n h sv ∧ ¬ gCm V T = 0 ∧ ((gCm V T = 1 ∧ E = 2))) (fun R g1 g2 => k_155E (d := d + 13) hI.1 c (fun E hp1 b1 b2 b3 e1 e2 => g2 E hp1 ⟨law_cl hI b1 b2, cF_rf b2 r, b3, e1, e2⟩) (fun z hp1 a1 a2 a3 a4 a5 => g1 z hp1 ⟨a1, a2, a3, a4, a5⟩)) (fun z hp1 φ => Or.inl ⟨_, rfl, ?_⟩) (fun E hp1 ψ => Or.inr ?_))
  · refine ci2lE 7 ⟨u376J, _, rfl⟩ rfl (fun w hw => ?_)
    refine clastE 8 φ.1 ⟨u376J, _, rfl⟩ rfl h1 (fun hp2 hH2 F2 J2 => ?_)
    refine cgoto ⟨u376J, _, rfl⟩ ?_
    refine ccst 15 (0) ⟨u376J, _, rfl⟩ rfl (by decide) (fun z9 h9 => ?_)
    exact cret ⟨u376J, _, rfl⟩ (Or.inl rfl) (hR _ _ _ _ (lawI_83 (law_cl hI φ.1 φ.2.1) hH2 F2) (rf_83 F2 (cF_rf φ.2.1 r)) (by rw [φ.2.2.1]; exact h9) (Or.inr ⟨φ.2.2.1, cl_83 F2 φ.2.2.2.1, by rw [J2, hw]; exact φ.2.2.2.2⟩) (by decide) (by decide))
  · obtain ⟨ψ0, ψr, ψc, ψ1, ψ2⟩ := ψ
    obtain ⟨ce, rfl⟩ := ψ2
    refine ⟨2, 11, 2, 12, rfl, rfl, rfl, rfl, ?_⟩
    refine ccst 13 (1) ⟨u376J, _, rfl⟩ rfl (by decide) (fun z9 h9 => ?_)
    exact cret ⟨u376J, _, rfl⟩ (Or.inl rfl) (hR _ _ _ _ ψ0 ψr (by rw [ce]; exact h9) (Or.inl ⟨ψ1, ψc⟩) (by decide) (by decide))
end
